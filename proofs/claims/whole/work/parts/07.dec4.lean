set_option maxRecDepth 20000 in
theorem ggX4_byRules_X4_setOf : GoodIn wsX4_byRules wsX4_setOf := goodIn_r _ [10, 11, 12, 22, 23, 24, 25, 26, 27, 28, 29, 30, 31, 32, 33, 34, 35, 36, 37, 38, 39, 40, 41, 42, 43, 44, 45, 46, 47, 48, 49, 50, 51, 52, 53, 54, 55] (by decide +kernel) (by decide +kernel)
set_option maxRecDepth 20000 in
theorem gX4_byRules_X4_setOf : GoodIn wsX4_byRules (wsV RX4 130 RX4 yX4_setOf wsX4_setOf) := goodIn_app (goodIn_of _ (by decide +kernel)) ggX4_byRules_X4_setOf
set_option maxRecDepth 20000 in
theorem ggX4_byRules_X4_doesHold : GoodIn wsX4_byRules wsX4_doesHold := goodIn_r _ [16, 17, 18, 19, 20, 21, 22, 23, 24, 25, 26, 27, 28, 29, 30, 31, 32, 33, 34, 35, 36, 37, 38, 39, 40, 41, 42, 43, 44, 45, 46, 47, 48, 49, 50, 51, 52, 53, 54, 55] (by decide +kernel) (by decide +kernel)
set_option maxRecDepth 20000 in
theorem gX4_byRules_X4_doesHold : GoodIn wsX4_byRules (wsV RX4 148 RX4 yX4_doesHold wsX4_doesHold) := goodIn_app (goodIn_of _ (by decide +kernel)) ggX4_byRules_X4_doesHold
theorem dX4_byRules_0 : decode cX4_byRules 0 = .ok (.aload_n 0, 1) := by decide +kernel
theorem dX4_byRules_1 : decode cX4_byRules 1 = .ok (.iload_n 1, 1) := by decide +kernel
theorem dX4_byRules_2 : decode cX4_byRules 2 = .ok (.invokevirtual 130, 3) := by decide +kernel
theorem dX4_byRules_5 : decode cX4_byRules 5 = .ok (.lstore_n 3, 1) := by decide +kernel
theorem dX4_byRules_6 : decode cX4_byRules 6 = .ok (.bipush (-2), 2) := by decide +kernel
theorem dX4_byRules_8 : decode cX4_byRules 8 = .ok (.istore 5, 2) := by decide +kernel
theorem dX4_byRules_10 : decode cX4_byRules 10 = .ok (.bipush 10, 2) := by decide +kernel
theorem dX4_byRules_12 : decode cX4_byRules 12 = .ok (.istore 6, 2) := by decide +kernel
theorem dX4_byRules_14 : decode cX4_byRules 14 = .ok (.iconst 0, 1) := by decide +kernel
theorem dX4_byRules_15 : decode cX4_byRules 15 = .ok (.istore 7, 2) := by decide +kernel
theorem dX4_byRules_17 : decode cX4_byRules 17 = .ok (.iload 7, 2) := by decide +kernel
theorem dX4_byRules_19 : decode cX4_byRules 19 = .ok (.aload_n 0, 1) := by decide +kernel
theorem dX4_byRules_20 : decode cX4_byRules 20 = .ok (.getfield 142, 3) := by decide +kernel
theorem dX4_byRules_23 : decode cX4_byRules 23 = .ok (.if_icmp .ge 103, 3) := by decide +kernel
theorem dX4_byRules_26 : decode cX4_byRules 26 = .ok (.iload 7, 2) := by decide +kernel
theorem dX4_byRules_28 : decode cX4_byRules 28 = .ok (.iload_n 2, 1) := by decide +kernel
theorem dX4_byRules_29 : decode cX4_byRules 29 = .ok (.if_icmp .eq 91, 3) := by decide +kernel
theorem dX4_byRules_32 : decode cX4_byRules 32 = .ok (.aload_n 0, 1) := by decide +kernel
theorem dX4_byRules_33 : decode cX4_byRules 33 = .ok (.getfield 61, 3) := by decide +kernel
theorem dX4_byRules_36 : decode cX4_byRules 36 = .ok (.iload 7, 2) := by decide +kernel
theorem dX4_byRules_38 : decode cX4_byRules 38 = .ok (.iaload, 1) := by decide +kernel
theorem dX4_byRules_39 : decode cX4_byRules 39 = .ok (.iload 6, 2) := by decide +kernel
theorem dX4_byRules_41 : decode cX4_byRules 41 = .ok (.if_icmp .gt 79, 3) := by decide +kernel
theorem dX4_byRules_44 : decode cX4_byRules 44 = .ok (.aload_n 0, 1) := by decide +kernel
theorem dX4_byRules_45 : decode cX4_byRules 45 = .ok (.iload 7, 2) := by decide +kernel
theorem dX4_byRules_47 : decode cX4_byRules 47 = .ok (.lload_n 3, 1) := by decide +kernel
theorem dX4_byRules_48 : decode cX4_byRules 48 = .ok (.aload_n 0, 1) := by decide +kernel
theorem dX4_byRules_49 : decode cX4_byRules 49 = .ok (.getfield 37, 3) := by decide +kernel
theorem dX4_byRules_52 : decode cX4_byRules 52 = .ok (.iload_n 1, 1) := by decide +kernel
theorem dX4_byRules_53 : decode cX4_byRules 53 = .ok (.iconst 2, 1) := by decide +kernel
theorem dX4_byRules_54 : decode cX4_byRules 54 = .ok (.idiv, 1) := by decide +kernel
theorem dX4_byRules_55 : decode cX4_byRules 55 = .ok (.iaload, 1) := by decide +kernel
theorem dX4_byRules_56 : decode cX4_byRules 56 = .ok (.invokevirtual 148, 3) := by decide +kernel
theorem dX4_byRules_59 : decode cX4_byRules 59 = .ok (.ifCond .ne 6, 3) := by decide +kernel
theorem dX4_byRules_62 : decode cX4_byRules 62 = .ok (.goto 58, 3) := by decide +kernel
theorem dX4_byRules_65 : decode cX4_byRules 65 = .ok (.aload_n 0, 1) := by decide +kernel
theorem dX4_byRules_66 : decode cX4_byRules 66 = .ok (.getfield 61, 3) := by decide +kernel
theorem dX4_byRules_69 : decode cX4_byRules 69 = .ok (.iload 7, 2) := by decide +kernel
theorem dX4_byRules_71 : decode cX4_byRules 71 = .ok (.iaload, 1) := by decide +kernel
theorem dX4_byRules_72 : decode cX4_byRules 72 = .ok (.iload 6, 2) := by decide +kernel
theorem dX4_byRules_74 : decode cX4_byRules 74 = .ok (.if_icmp .ge 30, 3) := by decide +kernel
theorem dX4_byRules_77 : decode cX4_byRules 77 = .ok (.aload_n 0, 1) := by decide +kernel
theorem dX4_byRules_78 : decode cX4_byRules 78 = .ok (.getfield 61, 3) := by decide +kernel
theorem dX4_byRules_81 : decode cX4_byRules 81 = .ok (.iload 7, 2) := by decide +kernel
theorem dX4_byRules_83 : decode cX4_byRules 83 = .ok (.iaload, 1) := by decide +kernel
theorem dX4_byRules_84 : decode cX4_byRules 84 = .ok (.istore 6, 2) := by decide +kernel
theorem dX4_byRules_86 : decode cX4_byRules 86 = .ok (.aload_n 0, 1) := by decide +kernel
theorem dX4_byRules_87 : decode cX4_byRules 87 = .ok (.getfield 64, 3) := by decide +kernel
theorem dX4_byRules_90 : decode cX4_byRules 90 = .ok (.iload 7, 2) := by decide +kernel
theorem dX4_byRules_92 : decode cX4_byRules 92 = .ok (.iaload, 1) := by decide +kernel
theorem dX4_byRules_93 : decode cX4_byRules 93 = .ok (.istore 5, 2) := by decide +kernel
theorem dX4_byRules_95 : decode cX4_byRules 95 = .ok (.aload_n 0, 1) := by decide +kernel
theorem dX4_byRules_96 : decode cX4_byRules 96 = .ok (.iload 7, 2) := by decide +kernel
theorem dX4_byRules_98 : decode cX4_byRules 98 = .ok (.putfield 152, 3) := by decide +kernel
theorem dX4_byRules_101 : decode cX4_byRules 101 = .ok (.goto 19, 3) := by decide +kernel
theorem dX4_byRules_104 : decode cX4_byRules 104 = .ok (.iload 5, 2) := by decide +kernel
theorem dX4_byRules_106 : decode cX4_byRules 106 = .ok (.aload_n 0, 1) := by decide +kernel
theorem dX4_byRules_107 : decode cX4_byRules 107 = .ok (.getfield 64, 3) := by decide +kernel
theorem dX4_byRules_110 : decode cX4_byRules 110 = .ok (.iload 7, 2) := by decide +kernel
theorem dX4_byRules_112 : decode cX4_byRules 112 = .ok (.iaload, 1) := by decide +kernel
theorem dX4_byRules_113 : decode cX4_byRules 113 = .ok (.if_icmp .eq 7, 3) := by decide +kernel
theorem dX4_byRules_116 : decode cX4_byRules 116 = .ok (.bipush (-5), 2) := by decide +kernel
theorem dX4_byRules_118 : decode cX4_byRules 118 = .ok (.istore 5, 2) := by decide +kernel
theorem dX4_byRules_120 : decode cX4_byRules 120 = .ok (.iinc 7 1, 3) := by decide +kernel
theorem dX4_byRules_123 : decode cX4_byRules 123 = .ok (.goto (-106), 3) := by decide +kernel
theorem dX4_byRules_126 : decode cX4_byRules 126 = .ok (.iload 5, 2) := by decide +kernel
theorem dX4_byRules_128 : decode cX4_byRules 128 = .ok (.ireturn, 1) := by decide +kernel
set_option maxRecDepth 20000 in
theorem ggX4_ruled_X4_isItem : GoodIn wsX4_ruled wsX4_isItem := goodIn_r _ [5, 6, 7, 8, 9, 4, 10, 35, 36, 37, 38, 39, 40, 41, 42, 43, 44, 45, 46, 47, 48, 49, 50, 51, 52, 53, 54, 55, 56, 57, 58, 59, 60, 61, 62, 63, 64, 65, 66, 67, 68] (by decide +kernel) (by decide +kernel)
set_option maxRecDepth 20000 in
theorem gX4_ruled_X4_isItem : GoodIn wsX4_ruled (wsV RX4 123 RX4 yX4_isItem wsX4_isItem) := goodIn_app (goodIn_of _ (by decide +kernel)) ggX4_ruled_X4_isItem
set_option maxRecDepth 20000 in
theorem ggX4_ruled_X4_byRules : GoodIn wsX4_ruled wsX4_byRules := goodIn_r _ [14, 15, 16, 17, 18, 19, 20, 21, 22, 4, 23, 24, 25, 26, 27, 28, 29, 30, 31, 32, 33, 34, 35, 36, 37, 38, 39, 40, 41, 42, 43, 44, 45, 46, 47, 48, 49, 50, 51, 52, 53, 54, 55, 56, 57, 58, 59, 60, 61, 62, 63, 64, 65, 66, 67, 68] (by decide +kernel) (by decide +kernel)
set_option maxRecDepth 20000 in
theorem gX4_ruled_X4_byRules : GoodIn wsX4_ruled (wsV RX4 155 RX4 yX4_byRules wsX4_byRules) := goodIn_app (goodIn_of _ (by decide +kernel)) ggX4_ruled_X4_byRules
theorem dX4_ruled_0 : decode cX4_ruled 0 = .ok (.aload_n 0, 1) := by decide +kernel
theorem dX4_ruled_1 : decode cX4_ruled 1 = .ok (.iload_n 1, 1) := by decide +kernel
theorem dX4_ruled_2 : decode cX4_ruled 2 = .ok (.invokevirtual 123, 3) := by decide +kernel
theorem dX4_ruled_5 : decode cX4_ruled 5 = .ok (.ifCond .eq 12, 3) := by decide +kernel
theorem dX4_ruled_8 : decode cX4_ruled 8 = .ok (.aload_n 0, 1) := by decide +kernel
theorem dX4_ruled_9 : decode cX4_ruled 9 = .ok (.iload_n 1, 1) := by decide +kernel
theorem dX4_ruled_10 : decode cX4_ruled 10 = .ok (.iconst (-1), 1) := by decide +kernel
theorem dX4_ruled_11 : decode cX4_ruled 11 = .ok (.invokevirtual 155, 3) := by decide +kernel
theorem dX4_ruled_14 : decode cX4_ruled 14 = .ok (.goto 4, 3) := by decide +kernel
theorem dX4_ruled_17 : decode cX4_ruled 17 = .ok (.iconst (-1), 1) := by decide +kernel
theorem dX4_ruled_18 : decode cX4_ruled 18 = .ok (.ireturn, 1) := by decide +kernel
theorem dX4_quarrels_0 : decode cX4_quarrels 0 = .ok (.aload_n 0, 1) := by decide +kernel
theorem dX4_quarrels_1 : decode cX4_quarrels 1 = .ok (.getfield 76, 3) := by decide +kernel
theorem dX4_quarrels_4 : decode cX4_quarrels 4 = .ok (.iload_n 1, 1) := by decide +kernel
theorem dX4_quarrels_5 : decode cX4_quarrels 5 = .ok (.baload, 1) := by decide +kernel
theorem dX4_quarrels_6 : decode cX4_quarrels 6 = .ok (.ifCond .ne 58, 3) := by decide +kernel
theorem dX4_quarrels_9 : decode cX4_quarrels 9 = .ok (.aload_n 0, 1) := by decide +kernel
theorem dX4_quarrels_10 : decode cX4_quarrels 10 = .ok (.getfield 76, 3) := by decide +kernel
theorem dX4_quarrels_13 : decode cX4_quarrels 13 = .ok (.iload_n 2, 1) := by decide +kernel
theorem dX4_quarrels_14 : decode cX4_quarrels 14 = .ok (.baload, 1) := by decide +kernel
theorem dX4_quarrels_15 : decode cX4_quarrels 15 = .ok (.ifCond .ne 49, 3) := by decide +kernel
theorem dX4_quarrels_18 : decode cX4_quarrels 18 = .ok (.aload_n 0, 1) := by decide +kernel
theorem dX4_quarrels_19 : decode cX4_quarrels 19 = .ok (.getfield 61, 3) := by decide +kernel
theorem dX4_quarrels_22 : decode cX4_quarrels 22 = .ok (.iload_n 1, 1) := by decide +kernel
theorem dX4_quarrels_23 : decode cX4_quarrels 23 = .ok (.iaload, 1) := by decide +kernel
theorem dX4_quarrels_24 : decode cX4_quarrels 24 = .ok (.aload_n 0, 1) := by decide +kernel
theorem dX4_quarrels_25 : decode cX4_quarrels 25 = .ok (.getfield 61, 3) := by decide +kernel
theorem dX4_quarrels_28 : decode cX4_quarrels 28 = .ok (.iload_n 2, 1) := by decide +kernel
theorem dX4_quarrels_29 : decode cX4_quarrels 29 = .ok (.iaload, 1) := by decide +kernel
theorem dX4_quarrels_30 : decode cX4_quarrels 30 = .ok (.if_icmp .ne 34, 3) := by decide +kernel
theorem dX4_quarrels_33 : decode cX4_quarrels 33 = .ok (.aload_n 0, 1) := by decide +kernel
theorem dX4_quarrels_34 : decode cX4_quarrels 34 = .ok (.getfield 64, 3) := by decide +kernel
theorem dX4_quarrels_37 : decode cX4_quarrels 37 = .ok (.iload_n 1, 1) := by decide +kernel
theorem dX4_quarrels_38 : decode cX4_quarrels 38 = .ok (.iaload, 1) := by decide +kernel
theorem dX4_quarrels_39 : decode cX4_quarrels 39 = .ok (.aload_n 0, 1) := by decide +kernel
theorem dX4_quarrels_40 : decode cX4_quarrels 40 = .ok (.getfield 64, 3) := by decide +kernel
theorem dX4_quarrels_43 : decode cX4_quarrels 43 = .ok (.iload_n 2, 1) := by decide +kernel
theorem dX4_quarrels_44 : decode cX4_quarrels 44 = .ok (.iaload, 1) := by decide +kernel
theorem dX4_quarrels_45 : decode cX4_quarrels 45 = .ok (.if_icmp .eq 19, 3) := by decide +kernel
theorem dX4_quarrels_48 : decode cX4_quarrels 48 = .ok (.aload_n 0, 1) := by decide +kernel
theorem dX4_quarrels_49 : decode cX4_quarrels 49 = .ok (.getfield 67, 3) := by decide +kernel
theorem dX4_quarrels_52 : decode cX4_quarrels 52 = .ok (.iload_n 1, 1) := by decide +kernel
theorem dX4_quarrels_53 : decode cX4_quarrels 53 = .ok (.iaload, 1) := by decide +kernel
theorem dX4_quarrels_54 : decode cX4_quarrels 54 = .ok (.aload_n 0, 1) := by decide +kernel
theorem dX4_quarrels_55 : decode cX4_quarrels 55 = .ok (.getfield 67, 3) := by decide +kernel
theorem dX4_quarrels_58 : decode cX4_quarrels 58 = .ok (.iload_n 2, 1) := by decide +kernel
theorem dX4_quarrels_59 : decode cX4_quarrels 59 = .ok (.iaload, 1) := by decide +kernel
theorem dX4_quarrels_60 : decode cX4_quarrels 60 = .ok (.iand, 1) := by decide +kernel
theorem dX4_quarrels_61 : decode cX4_quarrels 61 = .ok (.ifCond .ne 5, 3) := by decide +kernel
theorem dX4_quarrels_64 : decode cX4_quarrels 64 = .ok (.iconst 0, 1) := by decide +kernel
theorem dX4_quarrels_65 : decode cX4_quarrels 65 = .ok (.ireturn, 1) := by decide +kernel
theorem dX4_quarrels_66 : decode cX4_quarrels 66 = .ok (.aload_n 0, 1) := by decide +kernel
theorem dX4_quarrels_67 : decode cX4_quarrels 67 = .ok (.getfield 70, 3) := by decide +kernel
theorem dX4_quarrels_70 : decode cX4_quarrels 70 = .ok (.iload_n 1, 1) := by decide +kernel
theorem dX4_quarrels_71 : decode cX4_quarrels 71 = .ok (.laload, 1) := by decide +kernel
theorem dX4_quarrels_72 : decode cX4_quarrels 72 = .ok (.aload_n 0, 1) := by decide +kernel
theorem dX4_quarrels_73 : decode cX4_quarrels 73 = .ok (.getfield 73, 3) := by decide +kernel
theorem dX4_quarrels_76 : decode cX4_quarrels 76 = .ok (.iload_n 2, 1) := by decide +kernel
theorem dX4_quarrels_77 : decode cX4_quarrels 77 = .ok (.laload, 1) := by decide +kernel
theorem dX4_quarrels_78 : decode cX4_quarrels 78 = .ok (.land, 1) := by decide +kernel
theorem dX4_quarrels_79 : decode cX4_quarrels 79 = .ok (.lconst 0, 1) := by decide +kernel
theorem dX4_quarrels_80 : decode cX4_quarrels 80 = .ok (.lcmp, 1) := by decide +kernel
theorem dX4_quarrels_81 : decode cX4_quarrels 81 = .ok (.ifCond .ne 25, 3) := by decide +kernel
theorem dX4_quarrels_84 : decode cX4_quarrels 84 = .ok (.aload_n 0, 1) := by decide +kernel
theorem dX4_quarrels_85 : decode cX4_quarrels 85 = .ok (.getfield 70, 3) := by decide +kernel
theorem dX4_quarrels_88 : decode cX4_quarrels 88 = .ok (.iload_n 2, 1) := by decide +kernel
theorem dX4_quarrels_89 : decode cX4_quarrels 89 = .ok (.laload, 1) := by decide +kernel
theorem dX4_quarrels_90 : decode cX4_quarrels 90 = .ok (.aload_n 0, 1) := by decide +kernel
theorem dX4_quarrels_91 : decode cX4_quarrels 91 = .ok (.getfield 73, 3) := by decide +kernel
theorem dX4_quarrels_94 : decode cX4_quarrels 94 = .ok (.iload_n 1, 1) := by decide +kernel
theorem dX4_quarrels_95 : decode cX4_quarrels 95 = .ok (.laload, 1) := by decide +kernel
theorem dX4_quarrels_96 : decode cX4_quarrels 96 = .ok (.land, 1) := by decide +kernel
theorem dX4_quarrels_97 : decode cX4_quarrels 97 = .ok (.lconst 0, 1) := by decide +kernel
theorem dX4_quarrels_98 : decode cX4_quarrels 98 = .ok (.lcmp, 1) := by decide +kernel
theorem dX4_quarrels_99 : decode cX4_quarrels 99 = .ok (.ifCond .ne 7, 3) := by decide +kernel
theorem dX4_quarrels_102 : decode cX4_quarrels 102 = .ok (.iconst 1, 1) := by decide +kernel
theorem dX4_quarrels_103 : decode cX4_quarrels 103 = .ok (.goto 4, 3) := by decide +kernel
theorem dX4_quarrels_106 : decode cX4_quarrels 106 = .ok (.iconst 0, 1) := by decide +kernel
theorem dX4_quarrels_107 : decode cX4_quarrels 107 = .ok (.ireturn, 1) := by decide +kernel
set_option maxRecDepth 20000 in
theorem ggX4_quarrel_X4_quarrels : GoodIn wsX4_quarrel wsX4_quarrels := goodIn_r _ [6, 7, 8, 9, 10, 11, 12, 13, 14, 15, 16, 17, 18, 19, 20, 21, 22, 23, 24, 25, 26, 27, 28, 29, 30, 31, 32, 33, 34, 35, 36, 37, 38, 39, 40, 41, 42, 43, 44, 45, 46] (by decide +kernel) (by decide +kernel)
set_option maxRecDepth 20000 in
theorem gX4_quarrel_X4_quarrels : GoodIn wsX4_quarrel (wsV RX4 158 RX4 yX4_quarrels wsX4_quarrels) := goodIn_app (goodIn_of _ (by decide +kernel)) ggX4_quarrel_X4_quarrels
theorem dX4_quarrel_0 : decode cX4_quarrel 0 = .ok (.iload_n 1, 1) := by decide +kernel
theorem dX4_quarrel_1 : decode cX4_quarrel 1 = .ok (.istore_n 2, 1) := by decide +kernel
theorem dX4_quarrel_2 : decode cX4_quarrel 2 = .ok (.iconst 0, 1) := by decide +kernel
theorem dX4_quarrel_3 : decode cX4_quarrel 3 = .ok (.istore_n 3, 1) := by decide +kernel
theorem dX4_quarrel_4 : decode cX4_quarrel 4 = .ok (.iload_n 3, 1) := by decide +kernel
theorem dX4_quarrel_5 : decode cX4_quarrel 5 = .ok (.aload_n 0, 1) := by decide +kernel
theorem dX4_quarrel_6 : decode cX4_quarrel 6 = .ok (.getfield 142, 3) := by decide +kernel
theorem dX4_quarrel_9 : decode cX4_quarrel 9 = .ok (.if_icmp .ge 61, 3) := by decide +kernel
theorem dX4_quarrel_12 : decode cX4_quarrel 12 = .ok (.iload_n 1, 1) := by decide +kernel
theorem dX4_quarrel_13 : decode cX4_quarrel 13 = .ok (.ifCond .lt 57, 3) := by decide +kernel
theorem dX4_quarrel_16 : decode cX4_quarrel 16 = .ok (.iload_n 3, 1) := by decide +kernel
theorem dX4_quarrel_17 : decode cX4_quarrel 17 = .ok (.iconst 1, 1) := by decide +kernel
theorem dX4_quarrel_18 : decode cX4_quarrel 18 = .ok (.iadd, 1) := by decide +kernel
theorem dX4_quarrel_19 : decode cX4_quarrel 19 = .ok (.istore 4, 2) := by decide +kernel
theorem dX4_quarrel_21 : decode cX4_quarrel 21 = .ok (.iload 4, 2) := by decide +kernel
theorem dX4_quarrel_23 : decode cX4_quarrel 23 = .ok (.aload_n 0, 1) := by decide +kernel
theorem dX4_quarrel_24 : decode cX4_quarrel 24 = .ok (.getfield 142, 3) := by decide +kernel
theorem dX4_quarrel_27 : decode cX4_quarrel 27 = .ok (.if_icmp .ge 37, 3) := by decide +kernel
theorem dX4_quarrel_30 : decode cX4_quarrel 30 = .ok (.aload_n 0, 1) := by decide +kernel
theorem dX4_quarrel_31 : decode cX4_quarrel 31 = .ok (.iload_n 3, 1) := by decide +kernel
theorem dX4_quarrel_32 : decode cX4_quarrel 32 = .ok (.iload 4, 2) := by decide +kernel
theorem dX4_quarrel_34 : decode cX4_quarrel 34 = .ok (.invokevirtual 158, 3) := by decide +kernel
theorem dX4_quarrel_37 : decode cX4_quarrel 37 = .ok (.ifCond .ne 6, 3) := by decide +kernel
theorem dX4_quarrel_40 : decode cX4_quarrel 40 = .ok (.goto 18, 3) := by decide +kernel
theorem dX4_quarrel_43 : decode cX4_quarrel 43 = .ok (.iload_n 2, 1) := by decide +kernel
theorem dX4_quarrel_44 : decode cX4_quarrel 44 = .ok (.ifCond .ne 11, 3) := by decide +kernel
theorem dX4_quarrel_47 : decode cX4_quarrel 47 = .ok (.bipush 100, 2) := by decide +kernel
theorem dX4_quarrel_49 : decode cX4_quarrel 49 = .ok (.iload_n 3, 1) := by decide +kernel
theorem dX4_quarrel_50 : decode cX4_quarrel 50 = .ok (.imul, 1) := by decide +kernel
theorem dX4_quarrel_51 : decode cX4_quarrel 51 = .ok (.iload 4, 2) := by decide +kernel
theorem dX4_quarrel_53 : decode cX4_quarrel 53 = .ok (.iadd, 1) := by decide +kernel
theorem dX4_quarrel_54 : decode cX4_quarrel 54 = .ok (.ireturn, 1) := by decide +kernel
theorem dX4_quarrel_55 : decode cX4_quarrel 55 = .ok (.iinc 2 (-1), 3) := by decide +kernel
theorem dX4_quarrel_58 : decode cX4_quarrel 58 = .ok (.iinc 4 1, 3) := by decide +kernel
theorem dX4_quarrel_61 : decode cX4_quarrel 61 = .ok (.goto (-40), 3) := by decide +kernel
theorem dX4_quarrel_64 : decode cX4_quarrel 64 = .ok (.iinc 3 1, 3) := by decide +kernel
theorem dX4_quarrel_67 : decode cX4_quarrel 67 = .ok (.goto (-63), 3) := by decide +kernel
theorem dX4_quarrel_70 : decode cX4_quarrel 70 = .ok (.iconst (-1), 1) := by decide +kernel
theorem dX4_quarrel_71 : decode cX4_quarrel 71 = .ok (.ireturn, 1) := by decide +kernel
set_option maxRecDepth 20000 in
theorem ggX4_reach_X4_isRule : GoodIn wsX4_reach wsX4_isRule := goodIn_r _ [7, 8, 9, 10, 6, 11, 39, 40, 41, 42, 43, 44, 45, 46, 47, 48, 49, 50, 51, 52, 53, 54, 55, 56, 57, 58, 59, 60, 61, 62, 63, 64, 65, 66, 67, 68, 69, 70, 71, 72] (by decide +kernel) (by decide +kernel)
set_option maxRecDepth 20000 in
theorem gX4_reach_X4_isRule : GoodIn wsX4_reach (wsV RX4 145 RX4 yX4_isRule wsX4_isRule) := goodIn_app (goodIn_of _ (by decide +kernel)) ggX4_reach_X4_isRule
set_option maxRecDepth 20000 in
theorem ggX4_reach_X4_isItem : GoodIn wsX4_reach wsX4_isItem := goodIn_r _ [15, 2, 16, 9, 10, 6, 11, 39, 40, 41, 42, 43, 44, 45, 46, 47, 48, 49, 50, 51, 52, 53, 54, 55, 56, 57, 58, 59, 60, 61, 62, 63, 64, 65, 66, 67, 68, 69, 70, 71, 72] (by decide +kernel) (by decide +kernel)
set_option maxRecDepth 20000 in
theorem gX4_reach_X4_isItem : GoodIn wsX4_reach (wsV RX4 123 RX4 yX4_isItem wsX4_isItem) := goodIn_app (goodIn_of _ (by decide +kernel)) ggX4_reach_X4_isItem
set_option maxRecDepth 20000 in
theorem ggX4_reach_X4_byRules : GoodIn wsX4_reach wsX4_byRules := goodIn_r _ [20, 8, 21, 22, 23, 24, 25, 26, 27, 6, 28, 29, 30, 31, 32, 33, 34, 1, 35, 36, 37, 38, 39, 40, 41, 42, 43, 44, 45, 46, 47, 48, 49, 50, 51, 52, 53, 54, 55, 56, 57, 58, 59, 60, 61, 62, 63, 64, 65, 66, 67, 68, 69, 70, 71, 72] (by decide +kernel) (by decide +kernel)
set_option maxRecDepth 20000 in
theorem gX4_reach_X4_byRules : GoodIn wsX4_reach (wsV RX4 155 RX4 yX4_byRules wsX4_byRules) := goodIn_app (goodIn_of _ (by decide +kernel)) ggX4_reach_X4_byRules
theorem dX4_reach_0 : decode cX4_reach 0 = .ok (.aload_n 0, 1) := by decide +kernel
theorem dX4_reach_1 : decode cX4_reach 1 = .ok (.iload_n 1, 1) := by decide +kernel
theorem dX4_reach_2 : decode cX4_reach 2 = .ok (.invokevirtual 145, 3) := by decide +kernel
theorem dX4_reach_5 : decode cX4_reach 5 = .ok (.ifCond .eq 12, 3) := by decide +kernel
theorem dX4_reach_8 : decode cX4_reach 8 = .ok (.aload_n 0, 1) := by decide +kernel
theorem dX4_reach_9 : decode cX4_reach 9 = .ok (.getfield 76, 3) := by decide +kernel
theorem dX4_reach_12 : decode cX4_reach 12 = .ok (.iload_n 1, 1) := by decide +kernel
theorem dX4_reach_13 : decode cX4_reach 13 = .ok (.baload, 1) := by decide +kernel
theorem dX4_reach_14 : decode cX4_reach 14 = .ok (.ifCond .eq 5, 3) := by decide +kernel
theorem dX4_reach_17 : decode cX4_reach 17 = .ok (.iconst (-1), 1) := by decide +kernel
theorem dX4_reach_18 : decode cX4_reach 18 = .ok (.ireturn, 1) := by decide +kernel
theorem dX4_reach_19 : decode cX4_reach 19 = .ok (.iconst 0, 1) := by decide +kernel
theorem dX4_reach_20 : decode cX4_reach 20 = .ok (.istore_n 2, 1) := by decide +kernel
theorem dX4_reach_21 : decode cX4_reach 21 = .ok (.iconst 0, 1) := by decide +kernel
theorem dX4_reach_22 : decode cX4_reach 22 = .ok (.istore_n 3, 1) := by decide +kernel
theorem dX4_reach_23 : decode cX4_reach 23 = .ok (.iload_n 3, 1) := by decide +kernel
theorem dX4_reach_24 : decode cX4_reach 24 = .ok (.iconst 2, 1) := by decide +kernel
theorem dX4_reach_25 : decode cX4_reach 25 = .ok (.aload_n 0, 1) := by decide +kernel
theorem dX4_reach_26 : decode cX4_reach 26 = .ok (.getfield 116, 3) := by decide +kernel
theorem dX4_reach_29 : decode cX4_reach 29 = .ok (.imul, 1) := by decide +kernel
theorem dX4_reach_30 : decode cX4_reach 30 = .ok (.if_icmp .ge 40, 3) := by decide +kernel
theorem dX4_reach_33 : decode cX4_reach 33 = .ok (.iload_n 2, 1) := by decide +kernel
theorem dX4_reach_34 : decode cX4_reach 34 = .ok (.aload_n 0, 1) := by decide +kernel
theorem dX4_reach_35 : decode cX4_reach 35 = .ok (.iload_n 3, 1) := by decide +kernel
theorem dX4_reach_36 : decode cX4_reach 36 = .ok (.invokevirtual 123, 3) := by decide +kernel
theorem dX4_reach_39 : decode cX4_reach 39 = .ok (.ifCond .eq 22, 3) := by decide +kernel
theorem dX4_reach_42 : decode cX4_reach 42 = .ok (.aload_n 0, 1) := by decide +kernel
theorem dX4_reach_43 : decode cX4_reach 43 = .ok (.iload_n 3, 1) := by decide +kernel
theorem dX4_reach_44 : decode cX4_reach 44 = .ok (.iconst (-1), 1) := by decide +kernel
theorem dX4_reach_45 : decode cX4_reach 45 = .ok (.invokevirtual 155, 3) := by decide +kernel
theorem dX4_reach_48 : decode cX4_reach 48 = .ok (.aload_n 0, 1) := by decide +kernel
theorem dX4_reach_49 : decode cX4_reach 49 = .ok (.iload_n 3, 1) := by decide +kernel
theorem dX4_reach_50 : decode cX4_reach 50 = .ok (.iload_n 1, 1) := by decide +kernel
theorem dX4_reach_51 : decode cX4_reach 51 = .ok (.invokevirtual 155, 3) := by decide +kernel
theorem dX4_reach_54 : decode cX4_reach 54 = .ok (.if_icmp .eq 7, 3) := by decide +kernel
theorem dX4_reach_57 : decode cX4_reach 57 = .ok (.iconst 1, 1) := by decide +kernel
theorem dX4_reach_58 : decode cX4_reach 58 = .ok (.goto 4, 3) := by decide +kernel
theorem dX4_reach_61 : decode cX4_reach 61 = .ok (.iconst 0, 1) := by decide +kernel
theorem dX4_reach_62 : decode cX4_reach 62 = .ok (.iadd, 1) := by decide +kernel
theorem dX4_reach_63 : decode cX4_reach 63 = .ok (.istore_n 2, 1) := by decide +kernel
theorem dX4_reach_64 : decode cX4_reach 64 = .ok (.iinc 3 1, 3) := by decide +kernel
theorem dX4_reach_67 : decode cX4_reach 67 = .ok (.goto (-44), 3) := by decide +kernel
theorem dX4_reach_70 : decode cX4_reach 70 = .ok (.iload_n 2, 1) := by decide +kernel
theorem dX4_reach_71 : decode cX4_reach 71 = .ok (.ireturn, 1) := by decide +kernel
set_option maxRecDepth 20000 in
theorem ggX4_gap_X4_in : GoodIn wsX4_gap wsX4_in := goodIn_r _ [6] (by decide +kernel) (by decide +kernel)
set_option maxRecDepth 20000 in
theorem gX4_gap_X4_in : GoodIn wsX4_gap (va_wsS RX4 7 yX4_in wsX4_in) := goodIn_app (goodIn_of _ (by decide +kernel)) ggX4_gap_X4_in
theorem dX4_gap_0 : decode cX4_gap 0 = .ok (.iload_n 1, 1) := by decide +kernel
theorem dX4_gap_1 : decode cX4_gap 1 = .ok (.iconst 1, 1) := by decide +kernel
theorem dX4_gap_2 : decode cX4_gap 2 = .ok (.sipush 1000, 3) := by decide +kernel
theorem dX4_gap_5 : decode cX4_gap 5 = .ok (.invokestatic 7, 3) := by decide +kernel
theorem dX4_gap_8 : decode cX4_gap 8 = .ok (.ifCond .eq 14, 3) := by decide +kernel
theorem dX4_gap_11 : decode cX4_gap 11 = .ok (.iload_n 2, 1) := by decide +kernel
theorem dX4_gap_12 : decode cX4_gap 12 = .ok (.iconst 0, 1) := by decide +kernel
theorem dX4_gap_13 : decode cX4_gap 13 = .ok (.sipush 1000, 3) := by decide +kernel
theorem dX4_gap_16 : decode cX4_gap 16 = .ok (.invokestatic 7, 3) := by decide +kernel
theorem dX4_gap_19 : decode cX4_gap 19 = .ok (.ifCond .ne 5, 3) := by decide +kernel
theorem dX4_gap_22 : decode cX4_gap 22 = .ok (.iconst (-1), 1) := by decide +kernel
theorem dX4_gap_23 : decode cX4_gap 23 = .ok (.ireturn, 1) := by decide +kernel
theorem dX4_gap_24 : decode cX4_gap 24 = .ok (.aload_n 0, 1) := by decide +kernel
theorem dX4_gap_25 : decode cX4_gap 25 = .ok (.iload_n 1, 1) := by decide +kernel
theorem dX4_gap_26 : decode cX4_gap 26 = .ok (.putfield 80, 3) := by decide +kernel
theorem dX4_gap_29 : decode cX4_gap 29 = .ok (.aload_n 0, 1) := by decide +kernel
theorem dX4_gap_30 : decode cX4_gap 30 = .ok (.iload_n 2, 1) := by decide +kernel
theorem dX4_gap_31 : decode cX4_gap 31 = .ok (.putfield 83, 3) := by decide +kernel
theorem dX4_gap_34 : decode cX4_gap 34 = .ok (.iconst 1, 1) := by decide +kernel
theorem dX4_gap_35 : decode cX4_gap 35 = .ok (.ireturn, 1) := by decide +kernel
set_option maxRecDepth 20000 in
theorem ggX4_like_X4_setOf : GoodIn wsX4_like wsX4_setOf := goodIn_r _ [5, 6, 7, 11, 12, 13, 14, 15, 16, 17, 18, 19, 20, 21, 22, 23, 24, 25, 26, 27, 28, 29, 30, 31, 32, 33, 34, 35, 36, 37, 38, 39, 40, 41, 42, 43, 44] (by decide +kernel) (by decide +kernel)
set_option maxRecDepth 20000 in
theorem gX4_like_X4_setOf : GoodIn wsX4_like (wsV RX4 130 RX4 yX4_setOf wsX4_setOf) := goodIn_app (goodIn_of _ (by decide +kernel)) ggX4_like_X4_setOf
set_option maxRecDepth 20000 in
theorem ggX4_like_X4_bits : GoodIn wsX4_like wsX4_bits := goodIn_r _ [10] (by decide +kernel) (by decide +kernel)
set_option maxRecDepth 20000 in
theorem gX4_like_X4_bits : GoodIn wsX4_like (va_wsS RX4 126 yX4_bits wsX4_bits) := goodIn_app (goodIn_of _ (by decide +kernel)) ggX4_like_X4_bits
theorem dX4_like_0 : decode cX4_like 0 = .ok (.aload_n 0, 1) := by decide +kernel
theorem dX4_like_1 : decode cX4_like 1 = .ok (.iload_n 1, 1) := by decide +kernel
theorem dX4_like_2 : decode cX4_like 2 = .ok (.invokevirtual 130, 3) := by decide +kernel
theorem dX4_like_5 : decode cX4_like 5 = .ok (.lstore_n 3, 1) := by decide +kernel
theorem dX4_like_6 : decode cX4_like 6 = .ok (.aload_n 0, 1) := by decide +kernel
theorem dX4_like_7 : decode cX4_like 7 = .ok (.iload_n 2, 1) := by decide +kernel
theorem dX4_like_8 : decode cX4_like 8 = .ok (.invokevirtual 130, 3) := by decide +kernel
theorem dX4_like_11 : decode cX4_like 11 = .ok (.lstore 5, 2) := by decide +kernel
theorem dX4_like_13 : decode cX4_like 13 = .ok (.lload_n 3, 1) := by decide +kernel
theorem dX4_like_14 : decode cX4_like 14 = .ok (.lload 5, 2) := by decide +kernel
theorem dX4_like_16 : decode cX4_like 16 = .ok (.lor, 1) := by decide +kernel
theorem dX4_like_17 : decode cX4_like 17 = .ok (.invokestatic 126, 3) := by decide +kernel
theorem dX4_like_20 : decode cX4_like 20 = .ok (.istore 7, 2) := by decide +kernel
theorem dX4_like_22 : decode cX4_like 22 = .ok (.iload 7, 2) := by decide +kernel
theorem dX4_like_24 : decode cX4_like 24 = .ok (.ifCond .ne 7, 3) := by decide +kernel
theorem dX4_like_27 : decode cX4_like 27 = .ok (.iconst 0, 1) := by decide +kernel
theorem dX4_like_28 : decode cX4_like 28 = .ok (.goto 17, 3) := by decide +kernel
theorem dX4_like_31 : decode cX4_like 31 = .ok (.sipush 1000, 3) := by decide +kernel
theorem dX4_like_34 : decode cX4_like 34 = .ok (.lload_n 3, 1) := by decide +kernel
theorem dX4_like_35 : decode cX4_like 35 = .ok (.lload 5, 2) := by decide +kernel
theorem dX4_like_37 : decode cX4_like 37 = .ok (.land, 1) := by decide +kernel
theorem dX4_like_38 : decode cX4_like 38 = .ok (.invokestatic 126, 3) := by decide +kernel
theorem dX4_like_41 : decode cX4_like 41 = .ok (.imul, 1) := by decide +kernel
theorem dX4_like_42 : decode cX4_like 42 = .ok (.iload 7, 2) := by decide +kernel
theorem dX4_like_44 : decode cX4_like 44 = .ok (.idiv, 1) := by decide +kernel
theorem dX4_like_45 : decode cX4_like 45 = .ok (.ireturn, 1) := by decide +kernel
set_option maxRecDepth 20000 in
theorem ggX4_likeness_X4_isItem : GoodIn wsX4_likeness wsX4_isItem := goodIn_r _ [5, 6, 7, 8, 9, 4, 10, 24, 25, 26, 27, 28, 29, 30, 31, 32, 33, 34, 35, 36, 37, 38, 39, 40, 41, 42, 43, 44, 45, 46, 47, 48, 49, 50, 51, 52, 53, 54, 55, 56, 57] (by decide +kernel) (by decide +kernel)
set_option maxRecDepth 20000 in
theorem gX4_likeness_X4_isItem : GoodIn wsX4_likeness (wsV RX4 123 RX4 yX4_isItem wsX4_isItem) := goodIn_app (goodIn_of _ (by decide +kernel)) ggX4_likeness_X4_isItem
set_option maxRecDepth 20000 in
theorem ggX4_likeness_X4_like : GoodIn wsX4_likeness wsX4_like := goodIn_r _ [14, 15, 16, 17, 4, 18, 19, 20, 21, 22, 23, 24, 25, 26, 27, 28, 29, 30, 31, 32, 33, 34, 35, 36, 37, 38, 39, 40, 41, 42, 43, 44, 45, 46, 47, 48, 49, 50, 51, 52, 53, 54, 55, 56, 57] (by decide +kernel) (by decide +kernel)
set_option maxRecDepth 20000 in
theorem gX4_likeness_X4_like : GoodIn wsX4_likeness (wsV RX4 161 RX4 yX4_like wsX4_like) := goodIn_app (goodIn_of _ (by decide +kernel)) ggX4_likeness_X4_like
theorem dX4_likeness_0 : decode cX4_likeness 0 = .ok (.aload_n 0, 1) := by decide +kernel
theorem dX4_likeness_1 : decode cX4_likeness 1 = .ok (.iload_n 1, 1) := by decide +kernel
theorem dX4_likeness_2 : decode cX4_likeness 2 = .ok (.invokevirtual 123, 3) := by decide +kernel
theorem dX4_likeness_5 : decode cX4_likeness 5 = .ok (.ifCond .eq 20, 3) := by decide +kernel
theorem dX4_likeness_8 : decode cX4_likeness 8 = .ok (.aload_n 0, 1) := by decide +kernel
theorem dX4_likeness_9 : decode cX4_likeness 9 = .ok (.iload_n 2, 1) := by decide +kernel
theorem dX4_likeness_10 : decode cX4_likeness 10 = .ok (.invokevirtual 123, 3) := by decide +kernel
theorem dX4_likeness_13 : decode cX4_likeness 13 = .ok (.ifCond .eq 12, 3) := by decide +kernel
theorem dX4_likeness_16 : decode cX4_likeness 16 = .ok (.aload_n 0, 1) := by decide +kernel
theorem dX4_likeness_17 : decode cX4_likeness 17 = .ok (.iload_n 1, 1) := by decide +kernel
theorem dX4_likeness_18 : decode cX4_likeness 18 = .ok (.iload_n 2, 1) := by decide +kernel
theorem dX4_likeness_19 : decode cX4_likeness 19 = .ok (.invokevirtual 161, 3) := by decide +kernel
theorem dX4_likeness_22 : decode cX4_likeness 22 = .ok (.goto 4, 3) := by decide +kernel
theorem dX4_likeness_25 : decode cX4_likeness 25 = .ok (.iconst (-1), 1) := by decide +kernel
theorem dX4_likeness_26 : decode cX4_likeness 26 = .ok (.ireturn, 1) := by decide +kernel
set_option maxRecDepth 20000 in
theorem ggX4_isExcluded_X4_setOf : GoodIn wsX4_isExcluded wsX4_setOf := goodIn_r _ [7, 8, 9, 10, 11, 12, 13, 14, 15, 16, 17, 18, 19, 20, 21, 22, 23, 24, 25, 26, 27, 28, 29, 30, 31, 32, 33, 34, 35, 36, 37, 38, 39, 40, 41, 42, 43] (by decide +kernel) (by decide +kernel)
set_option maxRecDepth 20000 in
theorem gX4_isExcluded_X4_setOf : GoodIn wsX4_isExcluded (wsV RX4 130 RX4 yX4_setOf wsX4_setOf) := goodIn_app (goodIn_of _ (by decide +kernel)) ggX4_isExcluded_X4_setOf
theorem dX4_isExcluded_0 : decode cX4_isExcluded 0 = .ok (.aload_n 0, 1) := by decide +kernel
theorem dX4_isExcluded_1 : decode cX4_isExcluded 1 = .ok (.iload_n 2, 1) := by decide +kernel
theorem dX4_isExcluded_2 : decode cX4_isExcluded 2 = .ok (.invokevirtual 130, 3) := by decide +kernel
theorem dX4_isExcluded_5 : decode cX4_isExcluded 5 = .ok (.lstore_n 3, 1) := by decide +kernel
theorem dX4_isExcluded_6 : decode cX4_isExcluded 6 = .ok (.iload_n 1, 1) := by decide +kernel
theorem dX4_isExcluded_7 : decode cX4_isExcluded 7 = .ok (.istore 5, 2) := by decide +kernel
theorem dX4_isExcluded_9 : decode cX4_isExcluded 9 = .ok (.iload 5, 2) := by decide +kernel
theorem dX4_isExcluded_11 : decode cX4_isExcluded 11 = .ok (.ifCond .lt 31, 3) := by decide +kernel
theorem dX4_isExcluded_14 : decode cX4_isExcluded 14 = .ok (.aload_n 0, 1) := by decide +kernel
theorem dX4_isExcluded_15 : decode cX4_isExcluded 15 = .ok (.getfield 24, 3) := by decide +kernel
theorem dX4_isExcluded_18 : decode cX4_isExcluded 18 = .ok (.iload 5, 2) := by decide +kernel
theorem dX4_isExcluded_20 : decode cX4_isExcluded 20 = .ok (.laload, 1) := by decide +kernel
theorem dX4_isExcluded_21 : decode cX4_isExcluded 21 = .ok (.lload_n 3, 1) := by decide +kernel
theorem dX4_isExcluded_22 : decode cX4_isExcluded 22 = .ok (.land, 1) := by decide +kernel
theorem dX4_isExcluded_23 : decode cX4_isExcluded 23 = .ok (.lconst 0, 1) := by decide +kernel
theorem dX4_isExcluded_24 : decode cX4_isExcluded 24 = .ok (.lcmp, 1) := by decide +kernel
theorem dX4_isExcluded_25 : decode cX4_isExcluded 25 = .ok (.ifCond .eq 5, 3) := by decide +kernel
theorem dX4_isExcluded_28 : decode cX4_isExcluded 28 = .ok (.iconst 1, 1) := by decide +kernel
theorem dX4_isExcluded_29 : decode cX4_isExcluded 29 = .ok (.ireturn, 1) := by decide +kernel
theorem dX4_isExcluded_30 : decode cX4_isExcluded 30 = .ok (.aload_n 0, 1) := by decide +kernel
theorem dX4_isExcluded_31 : decode cX4_isExcluded 31 = .ok (.getfield 21, 3) := by decide +kernel
theorem dX4_isExcluded_34 : decode cX4_isExcluded 34 = .ok (.iload 5, 2) := by decide +kernel
theorem dX4_isExcluded_36 : decode cX4_isExcluded 36 = .ok (.iaload, 1) := by decide +kernel
theorem dX4_isExcluded_37 : decode cX4_isExcluded 37 = .ok (.istore 5, 2) := by decide +kernel
theorem dX4_isExcluded_39 : decode cX4_isExcluded 39 = .ok (.goto (-30), 3) := by decide +kernel
theorem dX4_isExcluded_42 : decode cX4_isExcluded 42 = .ok (.iconst 0, 1) := by decide +kernel
theorem dX4_isExcluded_43 : decode cX4_isExcluded 43 = .ok (.ireturn, 1) := by decide +kernel
set_option maxRecDepth 20000 in
theorem ggX4_nearOf_X4_isExcluded : GoodIn wsX4_nearOf wsX4_isExcluded := goodIn_r _ [9, 10, 11, 12, 13, 14, 8, 15, 16, 17, 33, 34, 35, 36, 37, 38, 39, 40, 41, 42, 43, 44, 45, 46, 47, 48, 49, 50, 51, 52, 53, 54, 55, 56, 57, 58, 59, 60, 61, 62, 63, 64, 65, 66] (by decide +kernel) (by decide +kernel)
set_option maxRecDepth 20000 in
theorem gX4_nearOf_X4_isExcluded : GoodIn wsX4_nearOf (wsV RX4 167 RX4 yX4_isExcluded wsX4_isExcluded) := goodIn_app (goodIn_of _ (by decide +kernel)) ggX4_nearOf_X4_isExcluded
set_option maxRecDepth 20000 in
theorem ggX4_nearOf_X4_isItem : GoodIn wsX4_nearOf wsX4_isItem := goodIn_r _ [21, 2, 22, 23, 24, 8, 25, 33, 34, 35, 36, 37, 38, 39, 40, 41, 42, 43, 44, 45, 46, 47, 48, 49, 50, 51, 52, 53, 54, 55, 56, 57, 58, 59, 60, 61, 62, 63, 64, 65, 66] (by decide +kernel) (by decide +kernel)
set_option maxRecDepth 20000 in
theorem gX4_nearOf_X4_isItem : GoodIn wsX4_nearOf (wsV RX4 123 RX4 yX4_isItem wsX4_isItem) := goodIn_app (goodIn_of _ (by decide +kernel)) ggX4_nearOf_X4_isItem
set_option maxRecDepth 20000 in
theorem ggX4_nearOf_X4_like : GoodIn wsX4_nearOf wsX4_like := goodIn_r _ [29, 12, 13, 14, 8, 15, 16, 17, 30, 31, 32, 33, 34, 35, 36, 37, 38, 39, 40, 41, 42, 43, 44, 45, 46, 47, 48, 49, 50, 51, 52, 53, 54, 55, 56, 57, 58, 59, 60, 61, 62, 63, 64, 65, 66] (by decide +kernel) (by decide +kernel)
set_option maxRecDepth 20000 in
theorem gX4_nearOf_X4_like : GoodIn wsX4_nearOf (wsV RX4 161 RX4 yX4_like wsX4_like) := goodIn_app (goodIn_of _ (by decide +kernel)) ggX4_nearOf_X4_like
theorem dX4_nearOf_0 : decode cX4_nearOf 0 = .ok (.aload_n 0, 1) := by decide +kernel
theorem dX4_nearOf_1 : decode cX4_nearOf 1 = .ok (.iconst (-1), 1) := by decide +kernel
theorem dX4_nearOf_2 : decode cX4_nearOf 2 = .ok (.putfield 164, 3) := by decide +kernel
theorem dX4_nearOf_5 : decode cX4_nearOf 5 = .ok (.aload_n 0, 1) := by decide +kernel
theorem dX4_nearOf_6 : decode cX4_nearOf 6 = .ok (.iload_n 1, 1) := by decide +kernel
theorem dX4_nearOf_7 : decode cX4_nearOf 7 = .ok (.iload_n 2, 1) := by decide +kernel
theorem dX4_nearOf_8 : decode cX4_nearOf 8 = .ok (.invokevirtual 167, 3) := by decide +kernel
theorem dX4_nearOf_11 : decode cX4_nearOf 11 = .ok (.ifCond .eq 5, 3) := by decide +kernel
theorem dX4_nearOf_14 : decode cX4_nearOf 14 = .ok (.iconst 0, 1) := by decide +kernel
theorem dX4_nearOf_15 : decode cX4_nearOf 15 = .ok (.ireturn, 1) := by decide +kernel
theorem dX4_nearOf_16 : decode cX4_nearOf 16 = .ok (.iconst 0, 1) := by decide +kernel
theorem dX4_nearOf_17 : decode cX4_nearOf 17 = .ok (.istore_n 3, 1) := by decide +kernel
theorem dX4_nearOf_18 : decode cX4_nearOf 18 = .ok (.iconst 0, 1) := by decide +kernel
theorem dX4_nearOf_19 : decode cX4_nearOf 19 = .ok (.istore 4, 2) := by decide +kernel
theorem dX4_nearOf_21 : decode cX4_nearOf 21 = .ok (.iload 4, 2) := by decide +kernel
theorem dX4_nearOf_23 : decode cX4_nearOf 23 = .ok (.iconst 2, 1) := by decide +kernel
theorem dX4_nearOf_24 : decode cX4_nearOf 24 = .ok (.aload_n 0, 1) := by decide +kernel
theorem dX4_nearOf_25 : decode cX4_nearOf 25 = .ok (.getfield 116, 3) := by decide +kernel
theorem dX4_nearOf_28 : decode cX4_nearOf 28 = .ok (.imul, 1) := by decide +kernel
theorem dX4_nearOf_29 : decode cX4_nearOf 29 = .ok (.if_icmp .ge 83, 3) := by decide +kernel
theorem dX4_nearOf_32 : decode cX4_nearOf 32 = .ok (.iload 4, 2) := by decide +kernel
theorem dX4_nearOf_34 : decode cX4_nearOf 34 = .ok (.iload_n 2, 1) := by decide +kernel
theorem dX4_nearOf_35 : decode cX4_nearOf 35 = .ok (.if_icmp .eq 71, 3) := by decide +kernel
theorem dX4_nearOf_38 : decode cX4_nearOf 38 = .ok (.aload_n 0, 1) := by decide +kernel
theorem dX4_nearOf_39 : decode cX4_nearOf 39 = .ok (.iload 4, 2) := by decide +kernel
theorem dX4_nearOf_41 : decode cX4_nearOf 41 = .ok (.invokevirtual 123, 3) := by decide +kernel
theorem dX4_nearOf_44 : decode cX4_nearOf 44 = .ok (.ifCond .eq 62, 3) := by decide +kernel
theorem dX4_nearOf_47 : decode cX4_nearOf 47 = .ok (.aload_n 0, 1) := by decide +kernel
theorem dX4_nearOf_48 : decode cX4_nearOf 48 = .ok (.getfield 46, 3) := by decide +kernel
theorem dX4_nearOf_51 : decode cX4_nearOf 51 = .ok (.iload 4, 2) := by decide +kernel
theorem dX4_nearOf_53 : decode cX4_nearOf 53 = .ok (.iaload, 1) := by decide +kernel
theorem dX4_nearOf_54 : decode cX4_nearOf 54 = .ok (.iconst 1, 1) := by decide +kernel
theorem dX4_nearOf_55 : decode cX4_nearOf 55 = .ok (.if_icmp .ne 51, 3) := by decide +kernel
theorem dX4_nearOf_58 : decode cX4_nearOf 58 = .ok (.aload_n 0, 1) := by decide +kernel
theorem dX4_nearOf_59 : decode cX4_nearOf 59 = .ok (.getfield 49, 3) := by decide +kernel
theorem dX4_nearOf_62 : decode cX4_nearOf 62 = .ok (.iload 4, 2) := by decide +kernel
theorem dX4_nearOf_64 : decode cX4_nearOf 64 = .ok (.iaload, 1) := by decide +kernel
theorem dX4_nearOf_65 : decode cX4_nearOf 65 = .ok (.iload_n 1, 1) := by decide +kernel
theorem dX4_nearOf_66 : decode cX4_nearOf 66 = .ok (.if_icmp .eq 6, 3) := by decide +kernel
theorem dX4_nearOf_69 : decode cX4_nearOf 69 = .ok (.goto 37, 3) := by decide +kernel
theorem dX4_nearOf_72 : decode cX4_nearOf 72 = .ok (.aload_n 0, 1) := by decide +kernel
theorem dX4_nearOf_73 : decode cX4_nearOf 73 = .ok (.iload 4, 2) := by decide +kernel
theorem dX4_nearOf_75 : decode cX4_nearOf 75 = .ok (.iload_n 2, 1) := by decide +kernel
theorem dX4_nearOf_76 : decode cX4_nearOf 76 = .ok (.invokevirtual 161, 3) := by decide +kernel
theorem dX4_nearOf_79 : decode cX4_nearOf 79 = .ok (.istore 5, 2) := by decide +kernel
theorem dX4_nearOf_81 : decode cX4_nearOf 81 = .ok (.iload 5, 2) := by decide +kernel
theorem dX4_nearOf_83 : decode cX4_nearOf 83 = .ok (.iload_n 3, 1) := by decide +kernel
theorem dX4_nearOf_84 : decode cX4_nearOf 84 = .ok (.if_icmp .le 9, 3) := by decide +kernel
theorem dX4_nearOf_87 : decode cX4_nearOf 87 = .ok (.aload_n 0, 1) := by decide +kernel
theorem dX4_nearOf_88 : decode cX4_nearOf 88 = .ok (.iload 4, 2) := by decide +kernel
theorem dX4_nearOf_90 : decode cX4_nearOf 90 = .ok (.putfield 164, 3) := by decide +kernel
theorem dX4_nearOf_93 : decode cX4_nearOf 93 = .ok (.iload 5, 2) := by decide +kernel
theorem dX4_nearOf_95 : decode cX4_nearOf 95 = .ok (.iload_n 3, 1) := by decide +kernel
theorem dX4_nearOf_96 : decode cX4_nearOf 96 = .ok (.if_icmp .le 8, 3) := by decide +kernel
theorem dX4_nearOf_99 : decode cX4_nearOf 99 = .ok (.iload 5, 2) := by decide +kernel
theorem dX4_nearOf_101 : decode cX4_nearOf 101 = .ok (.goto 4, 3) := by decide +kernel
theorem dX4_nearOf_104 : decode cX4_nearOf 104 = .ok (.iload_n 3, 1) := by decide +kernel
theorem dX4_nearOf_105 : decode cX4_nearOf 105 = .ok (.istore_n 3, 1) := by decide +kernel
theorem dX4_nearOf_106 : decode cX4_nearOf 106 = .ok (.iinc 4 1, 3) := by decide +kernel
theorem dX4_nearOf_109 : decode cX4_nearOf 109 = .ok (.goto (-88), 3) := by decide +kernel
theorem dX4_nearOf_112 : decode cX4_nearOf 112 = .ok (.iload_n 3, 1) := by decide +kernel
theorem dX4_nearOf_113 : decode cX4_nearOf 113 = .ok (.ireturn, 1) := by decide +kernel
set_option maxRecDepth 20000 in
theorem ggX4_near_X4_isCode : GoodIn wsX4_near wsX4_isCode := goodIn_r _ [5, 6, 7, 8, 4, 9, 42, 43, 44, 45, 46, 47, 48, 49, 50, 51, 52, 53, 54, 55, 56, 57, 58, 59, 60, 61, 62, 63, 64, 65, 66, 67, 68, 69, 70, 71, 72, 73, 74, 75] (by decide +kernel) (by decide +kernel)
set_option maxRecDepth 20000 in
theorem gX4_near_X4_isCode : GoodIn wsX4_near (wsV RX4 104 RX4 yX4_isCode wsX4_isCode) := goodIn_app (goodIn_of _ (by decide +kernel)) ggX4_near_X4_isCode
set_option maxRecDepth 20000 in
theorem ggX4_near_X4_isItem : GoodIn wsX4_near wsX4_isItem := goodIn_r _ [13, 14, 15, 7, 8, 4, 9, 42, 43, 44, 45, 46, 47, 48, 49, 50, 51, 52, 53, 54, 55, 56, 57, 58, 59, 60, 61, 62, 63, 64, 65, 66, 67, 68, 69, 70, 71, 72, 73, 74, 75] (by decide +kernel) (by decide +kernel)
set_option maxRecDepth 20000 in
theorem gX4_near_X4_isItem : GoodIn wsX4_near (wsV RX4 123 RX4 yX4_isItem wsX4_isItem) := goodIn_app (goodIn_of _ (by decide +kernel)) ggX4_near_X4_isItem
set_option maxRecDepth 20000 in
theorem ggX4_near_X4_nearOf : GoodIn wsX4_near wsX4_nearOf := goodIn_r _ [19, 20, 14, 21, 22, 23, 24, 25, 4, 26, 27, 28, 29, 30, 31, 32, 33, 34, 10, 11, 12, 13, 15, 7, 8, 9, 35, 36, 37, 38, 39, 40, 41, 42, 43, 44, 45, 46, 47, 48, 49, 50, 51, 52, 53, 54, 55, 56, 57, 58, 59, 60, 61, 62, 63, 64, 65, 66, 67, 68, 69, 70, 71, 72, 73, 74, 75] (by decide +kernel) (by decide +kernel)
set_option maxRecDepth 20000 in
theorem gX4_near_X4_nearOf : GoodIn wsX4_near (wsV RX4 170 RX4 yX4_nearOf wsX4_nearOf) := goodIn_app (goodIn_of _ (by decide +kernel)) ggX4_near_X4_nearOf
theorem dX4_near_0 : decode cX4_near 0 = .ok (.aload_n 0, 1) := by decide +kernel
theorem dX4_near_1 : decode cX4_near 1 = .ok (.iload_n 1, 1) := by decide +kernel
theorem dX4_near_2 : decode cX4_near 2 = .ok (.invokevirtual 104, 3) := by decide +kernel
theorem dX4_near_5 : decode cX4_near 5 = .ok (.ifCond .eq 20, 3) := by decide +kernel
theorem dX4_near_8 : decode cX4_near 8 = .ok (.aload_n 0, 1) := by decide +kernel
theorem dX4_near_9 : decode cX4_near 9 = .ok (.iload_n 2, 1) := by decide +kernel
theorem dX4_near_10 : decode cX4_near 10 = .ok (.invokevirtual 123, 3) := by decide +kernel
theorem dX4_near_13 : decode cX4_near 13 = .ok (.ifCond .eq 12, 3) := by decide +kernel
theorem dX4_near_16 : decode cX4_near 16 = .ok (.aload_n 0, 1) := by decide +kernel
theorem dX4_near_17 : decode cX4_near 17 = .ok (.iload_n 1, 1) := by decide +kernel
theorem dX4_near_18 : decode cX4_near 18 = .ok (.iload_n 2, 1) := by decide +kernel
theorem dX4_near_19 : decode cX4_near 19 = .ok (.invokevirtual 170, 3) := by decide +kernel
theorem dX4_near_22 : decode cX4_near 22 = .ok (.goto 4, 3) := by decide +kernel
theorem dX4_near_25 : decode cX4_near 25 = .ok (.iconst (-1), 1) := by decide +kernel
theorem dX4_near_26 : decode cX4_near 26 = .ok (.ireturn, 1) := by decide +kernel
set_option maxRecDepth 20000 in
theorem ggX4_byLikeness_X4_nearOf : GoodIn wsX4_byLikeness wsX4_nearOf := goodIn_r _ [10, 3, 11, 12, 13, 14, 15, 16, 9, 17, 18, 19, 20, 21, 22, 23, 24, 25, 26, 27, 28, 29, 30, 31, 32, 33, 34, 35, 36, 37, 38, 39, 40, 41, 42, 43, 44, 45, 46, 47, 48, 49, 50, 51, 52, 53, 54, 55, 56, 57, 58, 59, 60, 61, 62, 63, 64, 65, 66, 67, 68, 69, 70, 71, 72, 73, 74] (by decide +kernel) (by decide +kernel)
set_option maxRecDepth 20000 in
theorem gX4_byLikeness_X4_nearOf : GoodIn wsX4_byLikeness (wsV RX4 170 RX4 yX4_nearOf wsX4_nearOf) := goodIn_app (goodIn_of _ (by decide +kernel)) ggX4_byLikeness_X4_nearOf
theorem dX4_byLikeness_0 : decode cX4_byLikeness 0 = .ok (.bipush (-2), 2) := by decide +kernel
theorem dX4_byLikeness_2 : decode cX4_byLikeness 2 = .ok (.istore_n 2, 1) := by decide +kernel
theorem dX4_byLikeness_3 : decode cX4_byLikeness 3 = .ok (.iconst 0, 1) := by decide +kernel
theorem dX4_byLikeness_4 : decode cX4_byLikeness 4 = .ok (.istore_n 3, 1) := by decide +kernel
theorem dX4_byLikeness_5 : decode cX4_byLikeness 5 = .ok (.iconst 0, 1) := by decide +kernel
theorem dX4_byLikeness_6 : decode cX4_byLikeness 6 = .ok (.istore 4, 2) := by decide +kernel
theorem dX4_byLikeness_8 : decode cX4_byLikeness 8 = .ok (.aload_n 0, 1) := by decide +kernel
theorem dX4_byLikeness_9 : decode cX4_byLikeness 9 = .ok (.iconst (-1), 1) := by decide +kernel
theorem dX4_byLikeness_10 : decode cX4_byLikeness 10 = .ok (.putfield 173, 3) := by decide +kernel
theorem dX4_byLikeness_13 : decode cX4_byLikeness 13 = .ok (.iconst 0, 1) := by decide +kernel
theorem dX4_byLikeness_14 : decode cX4_byLikeness 14 = .ok (.istore 5, 2) := by decide +kernel
theorem dX4_byLikeness_16 : decode cX4_byLikeness 16 = .ok (.iload 5, 2) := by decide +kernel
theorem dX4_byLikeness_18 : decode cX4_byLikeness 18 = .ok (.aload_n 0, 1) := by decide +kernel
theorem dX4_byLikeness_19 : decode cX4_byLikeness 19 = .ok (.getfield 98, 3) := by decide +kernel
theorem dX4_byLikeness_22 : decode cX4_byLikeness 22 = .ok (.if_icmp .ge 55, 3) := by decide +kernel
theorem dX4_byLikeness_25 : decode cX4_byLikeness 25 = .ok (.aload_n 0, 1) := by decide +kernel
theorem dX4_byLikeness_26 : decode cX4_byLikeness 26 = .ok (.iload 5, 2) := by decide +kernel
theorem dX4_byLikeness_28 : decode cX4_byLikeness 28 = .ok (.iload_n 1, 1) := by decide +kernel
theorem dX4_byLikeness_29 : decode cX4_byLikeness 29 = .ok (.invokevirtual 170, 3) := by decide +kernel
theorem dX4_byLikeness_32 : decode cX4_byLikeness 32 = .ok (.istore 6, 2) := by decide +kernel
theorem dX4_byLikeness_34 : decode cX4_byLikeness 34 = .ok (.iload 6, 2) := by decide +kernel
theorem dX4_byLikeness_36 : decode cX4_byLikeness 36 = .ok (.iload_n 3, 1) := by decide +kernel
theorem dX4_byLikeness_37 : decode cX4_byLikeness 37 = .ok (.if_icmp .le 23, 3) := by decide +kernel
theorem dX4_byLikeness_40 : decode cX4_byLikeness 40 = .ok (.iload_n 3, 1) := by decide +kernel
theorem dX4_byLikeness_41 : decode cX4_byLikeness 41 = .ok (.istore 4, 2) := by decide +kernel
theorem dX4_byLikeness_43 : decode cX4_byLikeness 43 = .ok (.iload 6, 2) := by decide +kernel
theorem dX4_byLikeness_45 : decode cX4_byLikeness 45 = .ok (.istore_n 3, 1) := by decide +kernel
theorem dX4_byLikeness_46 : decode cX4_byLikeness 46 = .ok (.iload 5, 2) := by decide +kernel
theorem dX4_byLikeness_48 : decode cX4_byLikeness 48 = .ok (.istore_n 2, 1) := by decide +kernel
theorem dX4_byLikeness_49 : decode cX4_byLikeness 49 = .ok (.aload_n 0, 1) := by decide +kernel
theorem dX4_byLikeness_50 : decode cX4_byLikeness 50 = .ok (.aload_n 0, 1) := by decide +kernel
theorem dX4_byLikeness_51 : decode cX4_byLikeness 51 = .ok (.getfield 164, 3) := by decide +kernel
theorem dX4_byLikeness_54 : decode cX4_byLikeness 54 = .ok (.putfield 173, 3) := by decide +kernel
theorem dX4_byLikeness_57 : decode cX4_byLikeness 57 = .ok (.goto 14, 3) := by decide +kernel
theorem dX4_byLikeness_60 : decode cX4_byLikeness 60 = .ok (.iload 6, 2) := by decide +kernel
theorem dX4_byLikeness_62 : decode cX4_byLikeness 62 = .ok (.iload 4, 2) := by decide +kernel
theorem dX4_byLikeness_64 : decode cX4_byLikeness 64 = .ok (.if_icmp .le 7, 3) := by decide +kernel
theorem dX4_byLikeness_67 : decode cX4_byLikeness 67 = .ok (.iload 6, 2) := by decide +kernel
theorem dX4_byLikeness_69 : decode cX4_byLikeness 69 = .ok (.istore 4, 2) := by decide +kernel
theorem dX4_byLikeness_71 : decode cX4_byLikeness 71 = .ok (.iinc 5 1, 3) := by decide +kernel
theorem dX4_byLikeness_74 : decode cX4_byLikeness 74 = .ok (.goto (-58), 3) := by decide +kernel
theorem dX4_byLikeness_77 : decode cX4_byLikeness 77 = .ok (.iload_n 2, 1) := by decide +kernel
theorem dX4_byLikeness_78 : decode cX4_byLikeness 78 = .ok (.ifCond .lt 26, 3) := by decide +kernel
theorem dX4_byLikeness_81 : decode cX4_byLikeness 81 = .ok (.iload_n 3, 1) := by decide +kernel
theorem dX4_byLikeness_82 : decode cX4_byLikeness 82 = .ok (.aload_n 0, 1) := by decide +kernel
theorem dX4_byLikeness_83 : decode cX4_byLikeness 83 = .ok (.getfield 80, 3) := by decide +kernel
theorem dX4_byLikeness_86 : decode cX4_byLikeness 86 = .ok (.if_icmp .lt 18, 3) := by decide +kernel
theorem dX4_byLikeness_89 : decode cX4_byLikeness 89 = .ok (.iload_n 3, 1) := by decide +kernel
theorem dX4_byLikeness_90 : decode cX4_byLikeness 90 = .ok (.iload 4, 2) := by decide +kernel
theorem dX4_byLikeness_92 : decode cX4_byLikeness 92 = .ok (.isub, 1) := by decide +kernel
theorem dX4_byLikeness_93 : decode cX4_byLikeness 93 = .ok (.aload_n 0, 1) := by decide +kernel
theorem dX4_byLikeness_94 : decode cX4_byLikeness 94 = .ok (.getfield 83, 3) := by decide +kernel
theorem dX4_byLikeness_97 : decode cX4_byLikeness 97 = .ok (.if_icmp .lt 7, 3) := by decide +kernel
theorem dX4_byLikeness_100 : decode cX4_byLikeness 100 = .ok (.iload_n 2, 1) := by decide +kernel
theorem dX4_byLikeness_101 : decode cX4_byLikeness 101 = .ok (.goto 5, 3) := by decide +kernel
theorem dX4_byLikeness_104 : decode cX4_byLikeness 104 = .ok (.bipush (-2), 2) := by decide +kernel
theorem dX4_byLikeness_106 : decode cX4_byLikeness 106 = .ok (.ireturn, 1) := by decide +kernel
set_option maxRecDepth 20000 in
theorem ggX4_liked_X4_isItem : GoodIn wsX4_liked wsX4_isItem := goodIn_r _ [5, 6, 7, 8, 9, 4, 10, 45, 46, 47, 48, 49, 50, 51, 52, 53, 54, 55, 56, 57, 58, 59, 60, 61, 62, 63, 64, 65, 66, 67, 68, 69, 70, 71, 72, 73, 74, 75, 76, 77, 78] (by decide +kernel) (by decide +kernel)
set_option maxRecDepth 20000 in
theorem gX4_liked_X4_isItem : GoodIn wsX4_liked (wsV RX4 123 RX4 yX4_isItem wsX4_isItem) := goodIn_app (goodIn_of _ (by decide +kernel)) ggX4_liked_X4_isItem
set_option maxRecDepth 20000 in
theorem ggX4_liked_X4_byLikeness : GoodIn wsX4_liked wsX4_byLikeness := goodIn_r _ [14, 15, 16, 17, 18, 19, 20, 21, 22, 4, 23, 6, 24, 25, 26, 27, 28, 29, 30, 31, 32, 33, 34, 35, 36, 37, 1, 2, 3, 5, 7, 8, 9, 10, 38, 39, 40, 41, 42, 43, 44, 45, 46, 47, 48, 49, 50, 51, 52, 53, 54, 55, 56, 57, 58, 59, 60, 61, 62, 63, 64, 65, 66, 67, 68, 69, 70, 71, 72, 73, 74, 75, 76, 77, 78] (by decide +kernel) (by decide +kernel)
set_option maxRecDepth 20000 in
theorem gX4_liked_X4_byLikeness : GoodIn wsX4_liked (wsV RX4 176 RX4 yX4_byLikeness wsX4_byLikeness) := goodIn_app (goodIn_of _ (by decide +kernel)) ggX4_liked_X4_byLikeness
theorem dX4_liked_0 : decode cX4_liked 0 = .ok (.aload_n 0, 1) := by decide +kernel
theorem dX4_liked_1 : decode cX4_liked 1 = .ok (.iload_n 1, 1) := by decide +kernel
theorem dX4_liked_2 : decode cX4_liked 2 = .ok (.invokevirtual 123, 3) := by decide +kernel
theorem dX4_liked_5 : decode cX4_liked 5 = .ok (.ifCond .eq 11, 3) := by decide +kernel
theorem dX4_liked_8 : decode cX4_liked 8 = .ok (.aload_n 0, 1) := by decide +kernel
theorem dX4_liked_9 : decode cX4_liked 9 = .ok (.iload_n 1, 1) := by decide +kernel
theorem dX4_liked_10 : decode cX4_liked 10 = .ok (.invokevirtual 176, 3) := by decide +kernel
theorem dX4_liked_13 : decode cX4_liked 13 = .ok (.goto 4, 3) := by decide +kernel
theorem dX4_liked_16 : decode cX4_liked 16 = .ok (.iconst (-1), 1) := by decide +kernel
theorem dX4_liked_17 : decode cX4_liked 17 = .ok (.ireturn, 1) := by decide +kernel
set_option maxRecDepth 20000 in
theorem ggX4_day_X4_isItem : GoodIn wsX4_day wsX4_isItem := goodIn_r _ [12, 1, 13, 14, 15, 11, 16, 73, 74, 75, 76, 77, 78, 79, 80, 81, 82, 83, 84, 85, 86, 87, 88, 89, 90, 91, 92, 93, 94, 95, 96, 97, 98, 99, 100, 101, 102, 103, 104, 105, 106] (by decide +kernel) (by decide +kernel)
set_option maxRecDepth 20000 in
theorem gX4_day_X4_isItem : GoodIn wsX4_day (wsV RX4 123 RX4 yX4_isItem wsX4_isItem) := goodIn_app (goodIn_of _ (by decide +kernel)) ggX4_day_X4_isItem
set_option maxRecDepth 20000 in
theorem ggX4_day_X4_byRules : GoodIn wsX4_day wsX4_byRules := goodIn_r _ [20, 21, 22, 23, 24, 6, 25, 26, 27, 11, 28, 29, 30, 31, 32, 33, 34, 35, 36, 37, 38, 39, 73, 74, 75, 76, 77, 78, 79, 80, 81, 82, 83, 84, 85, 86, 87, 88, 89, 90, 91, 92, 93, 94, 95, 96, 97, 98, 99, 100, 101, 102, 103, 104, 105, 106] (by decide +kernel) (by decide +kernel)
set_option maxRecDepth 20000 in
theorem gX4_day_X4_byRules : GoodIn wsX4_day (wsV RX4 155 RX4 yX4_byRules wsX4_byRules) := goodIn_app (goodIn_of _ (by decide +kernel)) ggX4_day_X4_byRules
set_option maxRecDepth 20000 in
theorem ggX4_day_X4_byLikeness : GoodIn wsX4_day wsX4_byLikeness := goodIn_r _ [43, 7, 44, 45, 46, 47, 48, 49, 50, 11, 51, 1, 2, 52, 53, 54, 55, 56, 57, 58, 25, 26, 27, 28, 29, 30, 8, 9, 10, 12, 13, 14, 15, 16, 59, 60, 61, 62, 63, 64, 65, 73, 74, 75, 76, 77, 78, 79, 80, 81, 82, 83, 84, 85, 86, 87, 88, 89, 90, 91, 92, 93, 94, 95, 96, 97, 98, 99, 100, 101, 102, 103, 104, 105, 106] (by decide +kernel) (by decide +kernel)
set_option maxRecDepth 20000 in
theorem gX4_day_X4_byLikeness : GoodIn wsX4_day (wsV RX4 176 RX4 yX4_byLikeness wsX4_byLikeness) := goodIn_app (goodIn_of _ (by decide +kernel)) ggX4_day_X4_byLikeness
set_option maxRecDepth 20000 in
theorem ggX4_day_X4_become : GoodIn wsX4_day wsX4_become := goodIn_r _ [69, 2, 52, 70, 71, 72, 73, 74, 75, 76, 77, 78, 79, 80, 81, 82, 83, 84, 85, 86, 87, 88, 89, 90, 91, 92, 93, 94, 95, 96, 97, 98, 99, 100, 101, 102, 103, 104, 105, 106] (by decide +kernel) (by decide +kernel)
set_option maxRecDepth 20000 in
theorem gX4_day_X4_become : GoodIn wsX4_day (wsV RX4 180 RX4 yX4_become wsX4_become) := goodIn_app (goodIn_of _ (by decide +kernel)) ggX4_day_X4_become
theorem dX4_day_0 : decode cX4_day 0 = .ok (.iconst 0, 1) := by decide +kernel
theorem dX4_day_1 : decode cX4_day 1 = .ok (.istore_n 1, 1) := by decide +kernel
theorem dX4_day_2 : decode cX4_day 2 = .ok (.iload_n 1, 1) := by decide +kernel
theorem dX4_day_3 : decode cX4_day 3 = .ok (.iconst 2, 1) := by decide +kernel
theorem dX4_day_4 : decode cX4_day 4 = .ok (.aload_n 0, 1) := by decide +kernel
theorem dX4_day_5 : decode cX4_day 5 = .ok (.getfield 116, 3) := by decide +kernel
theorem dX4_day_8 : decode cX4_day 8 = .ok (.imul, 1) := by decide +kernel
theorem dX4_day_9 : decode cX4_day 9 = .ok (.if_icmp .ge 101, 3) := by decide +kernel
theorem dX4_day_12 : decode cX4_day 12 = .ok (.aload_n 0, 1) := by decide +kernel
theorem dX4_day_13 : decode cX4_day 13 = .ok (.iload_n 1, 1) := by decide +kernel
theorem dX4_day_14 : decode cX4_day 14 = .ok (.invokevirtual 123, 3) := by decide +kernel
theorem dX4_day_17 : decode cX4_day 17 = .ok (.ifCond .eq 87, 3) := by decide +kernel
theorem dX4_day_20 : decode cX4_day 20 = .ok (.aload_n 0, 1) := by decide +kernel
theorem dX4_day_21 : decode cX4_day 21 = .ok (.getfield 46, 3) := by decide +kernel
theorem dX4_day_24 : decode cX4_day 24 = .ok (.iload_n 1, 1) := by decide +kernel
theorem dX4_day_25 : decode cX4_day 25 = .ok (.iaload, 1) := by decide +kernel
theorem dX4_day_26 : decode cX4_day 26 = .ok (.iconst 1, 1) := by decide +kernel
theorem dX4_day_27 : decode cX4_day 27 = .ok (.if_icmp .ne 6, 3) := by decide +kernel
theorem dX4_day_30 : decode cX4_day 30 = .ok (.goto 74, 3) := by decide +kernel
theorem dX4_day_33 : decode cX4_day 33 = .ok (.aload_n 0, 1) := by decide +kernel
theorem dX4_day_34 : decode cX4_day 34 = .ok (.getfield 86, 3) := by decide +kernel
theorem dX4_day_37 : decode cX4_day 37 = .ok (.iload_n 1, 1) := by decide +kernel
theorem dX4_day_38 : decode cX4_day 38 = .ok (.aload_n 0, 1) := by decide +kernel
theorem dX4_day_39 : decode cX4_day 39 = .ok (.iload_n 1, 1) := by decide +kernel
theorem dX4_day_40 : decode cX4_day 40 = .ok (.iconst (-1), 1) := by decide +kernel
theorem dX4_day_41 : decode cX4_day 41 = .ok (.invokevirtual 155, 3) := by decide +kernel
theorem dX4_day_44 : decode cX4_day 44 = .ok (.iastore, 1) := by decide +kernel
theorem dX4_day_45 : decode cX4_day 45 = .ok (.aload_n 0, 1) := by decide +kernel
theorem dX4_day_46 : decode cX4_day 46 = .ok (.getfield 89, 3) := by decide +kernel
theorem dX4_day_49 : decode cX4_day 49 = .ok (.iload_n 1, 1) := by decide +kernel
theorem dX4_day_50 : decode cX4_day 50 = .ok (.iconst 0, 1) := by decide +kernel
theorem dX4_day_51 : decode cX4_day 51 = .ok (.iastore, 1) := by decide +kernel
theorem dX4_day_52 : decode cX4_day 52 = .ok (.aload_n 0, 1) := by decide +kernel
theorem dX4_day_53 : decode cX4_day 53 = .ok (.getfield 92, 3) := by decide +kernel
theorem dX4_day_56 : decode cX4_day 56 = .ok (.iload_n 1, 1) := by decide +kernel
theorem dX4_day_57 : decode cX4_day 57 = .ok (.aload_n 0, 1) := by decide +kernel
theorem dX4_day_58 : decode cX4_day 58 = .ok (.getfield 152, 3) := by decide +kernel
theorem dX4_day_61 : decode cX4_day 61 = .ok (.iastore, 1) := by decide +kernel
theorem dX4_day_62 : decode cX4_day 62 = .ok (.aload_n 0, 1) := by decide +kernel
theorem dX4_day_63 : decode cX4_day 63 = .ok (.getfield 86, 3) := by decide +kernel
theorem dX4_day_66 : decode cX4_day 66 = .ok (.iload_n 1, 1) := by decide +kernel
theorem dX4_day_67 : decode cX4_day 67 = .ok (.iaload, 1) := by decide +kernel
theorem dX4_day_68 : decode cX4_day 68 = .ok (.bipush (-2), 2) := by decide +kernel
theorem dX4_day_70 : decode cX4_day 70 = .ok (.if_icmp .eq 6, 3) := by decide +kernel
theorem dX4_day_73 : decode cX4_day 73 = .ok (.goto 31, 3) := by decide +kernel
theorem dX4_day_76 : decode cX4_day 76 = .ok (.aload_n 0, 1) := by decide +kernel
theorem dX4_day_77 : decode cX4_day 77 = .ok (.getfield 86, 3) := by decide +kernel
theorem dX4_day_80 : decode cX4_day 80 = .ok (.iload_n 1, 1) := by decide +kernel
theorem dX4_day_81 : decode cX4_day 81 = .ok (.aload_n 0, 1) := by decide +kernel
theorem dX4_day_82 : decode cX4_day 82 = .ok (.iload_n 1, 1) := by decide +kernel
theorem dX4_day_83 : decode cX4_day 83 = .ok (.invokevirtual 176, 3) := by decide +kernel
theorem dX4_day_86 : decode cX4_day 86 = .ok (.iastore, 1) := by decide +kernel
theorem dX4_day_87 : decode cX4_day 87 = .ok (.aload_n 0, 1) := by decide +kernel
theorem dX4_day_88 : decode cX4_day 88 = .ok (.getfield 89, 3) := by decide +kernel
theorem dX4_day_91 : decode cX4_day 91 = .ok (.iload_n 1, 1) := by decide +kernel
theorem dX4_day_92 : decode cX4_day 92 = .ok (.iconst 1, 1) := by decide +kernel
theorem dX4_day_93 : decode cX4_day 93 = .ok (.iastore, 1) := by decide +kernel
theorem dX4_day_94 : decode cX4_day 94 = .ok (.aload_n 0, 1) := by decide +kernel
theorem dX4_day_95 : decode cX4_day 95 = .ok (.getfield 92, 3) := by decide +kernel
theorem dX4_day_98 : decode cX4_day 98 = .ok (.iload_n 1, 1) := by decide +kernel
theorem dX4_day_99 : decode cX4_day 99 = .ok (.aload_n 0, 1) := by decide +kernel
theorem dX4_day_100 : decode cX4_day 100 = .ok (.getfield 173, 3) := by decide +kernel
theorem dX4_day_103 : decode cX4_day 103 = .ok (.iastore, 1) := by decide +kernel
theorem dX4_day_104 : decode cX4_day 104 = .ok (.iinc 1 1, 3) := by decide +kernel
theorem dX4_day_107 : decode cX4_day 107 = .ok (.goto (-105), 3) := by decide +kernel
theorem dX4_day_110 : decode cX4_day 110 = .ok (.iconst 0, 1) := by decide +kernel
theorem dX4_day_111 : decode cX4_day 111 = .ok (.istore_n 1, 1) := by decide +kernel
theorem dX4_day_112 : decode cX4_day 112 = .ok (.iconst 0, 1) := by decide +kernel
theorem dX4_day_113 : decode cX4_day 113 = .ok (.istore_n 2, 1) := by decide +kernel
theorem dX4_day_114 : decode cX4_day 114 = .ok (.iload_n 2, 1) := by decide +kernel
theorem dX4_day_115 : decode cX4_day 115 = .ok (.iconst 2, 1) := by decide +kernel
theorem dX4_day_116 : decode cX4_day 116 = .ok (.aload_n 0, 1) := by decide +kernel
theorem dX4_day_117 : decode cX4_day 117 = .ok (.getfield 116, 3) := by decide +kernel
theorem dX4_day_120 : decode cX4_day 120 = .ok (.imul, 1) := by decide +kernel
theorem dX4_day_121 : decode cX4_day 121 = .ok (.if_icmp .ge 75, 3) := by decide +kernel
theorem dX4_day_124 : decode cX4_day 124 = .ok (.aload_n 0, 1) := by decide +kernel
theorem dX4_day_125 : decode cX4_day 125 = .ok (.iload_n 2, 1) := by decide +kernel
theorem dX4_day_126 : decode cX4_day 126 = .ok (.invokevirtual 123, 3) := by decide +kernel
theorem dX4_day_129 : decode cX4_day 129 = .ok (.ifCond .eq 61, 3) := by decide +kernel
theorem dX4_day_132 : decode cX4_day 132 = .ok (.aload_n 0, 1) := by decide +kernel
theorem dX4_day_133 : decode cX4_day 133 = .ok (.getfield 46, 3) := by decide +kernel
theorem dX4_day_136 : decode cX4_day 136 = .ok (.iload_n 2, 1) := by decide +kernel
theorem dX4_day_137 : decode cX4_day 137 = .ok (.iaload, 1) := by decide +kernel
theorem dX4_day_138 : decode cX4_day 138 = .ok (.iconst 1, 1) := by decide +kernel
theorem dX4_day_139 : decode cX4_day 139 = .ok (.if_icmp .ne 6, 3) := by decide +kernel
theorem dX4_day_142 : decode cX4_day 142 = .ok (.goto 48, 3) := by decide +kernel
theorem dX4_day_145 : decode cX4_day 145 = .ok (.aload_n 0, 1) := by decide +kernel
theorem dX4_day_146 : decode cX4_day 146 = .ok (.getfield 46, 3) := by decide +kernel
theorem dX4_day_149 : decode cX4_day 149 = .ok (.iload_n 2, 1) := by decide +kernel
theorem dX4_day_150 : decode cX4_day 150 = .ok (.iconst 2, 1) := by decide +kernel
theorem dX4_day_151 : decode cX4_day 151 = .ok (.iastore, 1) := by decide +kernel
theorem dX4_day_152 : decode cX4_day 152 = .ok (.aload_n 0, 1) := by decide +kernel
theorem dX4_day_153 : decode cX4_day 153 = .ok (.getfield 86, 3) := by decide +kernel
theorem dX4_day_156 : decode cX4_day 156 = .ok (.iload_n 2, 1) := by decide +kernel
theorem dX4_day_157 : decode cX4_day 157 = .ok (.iaload, 1) := by decide +kernel
theorem dX4_day_158 : decode cX4_day 158 = .ok (.ifCond .ge 6, 3) := by decide +kernel
theorem dX4_day_161 : decode cX4_day 161 = .ok (.goto 29, 3) := by decide +kernel
theorem dX4_day_164 : decode cX4_day 164 = .ok (.aload_n 0, 1) := by decide +kernel
theorem dX4_day_165 : decode cX4_day 165 = .ok (.iload_n 2, 1) := by decide +kernel
theorem dX4_day_166 : decode cX4_day 166 = .ok (.aload_n 0, 1) := by decide +kernel
theorem dX4_day_167 : decode cX4_day 167 = .ok (.getfield 86, 3) := by decide +kernel
theorem dX4_day_170 : decode cX4_day 170 = .ok (.iload_n 2, 1) := by decide +kernel
theorem dX4_day_171 : decode cX4_day 171 = .ok (.iaload, 1) := by decide +kernel
theorem dX4_day_172 : decode cX4_day 172 = .ok (.aload_n 0, 1) := by decide +kernel
theorem dX4_day_173 : decode cX4_day 173 = .ok (.getfield 89, 3) := by decide +kernel
theorem dX4_day_176 : decode cX4_day 176 = .ok (.iload_n 2, 1) := by decide +kernel
theorem dX4_day_177 : decode cX4_day 177 = .ok (.iaload, 1) := by decide +kernel
theorem dX4_day_178 : decode cX4_day 178 = .ok (.aload_n 0, 1) := by decide +kernel
theorem dX4_day_179 : decode cX4_day 179 = .ok (.getfield 92, 3) := by decide +kernel
theorem dX4_day_182 : decode cX4_day 182 = .ok (.iload_n 2, 1) := by decide +kernel
theorem dX4_day_183 : decode cX4_day 183 = .ok (.iaload, 1) := by decide +kernel
theorem dX4_day_184 : decode cX4_day 184 = .ok (.invokevirtual 180, 3) := by decide +kernel
theorem dX4_day_187 : decode cX4_day 187 = .ok (.iinc 1 1, 3) := by decide +kernel
theorem dX4_day_190 : decode cX4_day 190 = .ok (.iinc 2 1, 3) := by decide +kernel
theorem dX4_day_193 : decode cX4_day 193 = .ok (.goto (-79), 3) := by decide +kernel
theorem dX4_day_196 : decode cX4_day 196 = .ok (.iload_n 1, 1) := by decide +kernel
theorem dX4_day_197 : decode cX4_day 197 = .ok (.ireturn, 1) := by decide +kernel
theorem dX4_become_0 : decode cX4_become 0 = .ok (.aload_n 0, 1) := by decide +kernel
theorem dX4_become_1 : decode cX4_become 1 = .ok (.getfield 46, 3) := by decide +kernel
theorem dX4_become_4 : decode cX4_become 4 = .ok (.iload_n 1, 1) := by decide +kernel
theorem dX4_become_5 : decode cX4_become 5 = .ok (.iconst 1, 1) := by decide +kernel
theorem dX4_become_6 : decode cX4_become 6 = .ok (.iastore, 1) := by decide +kernel
theorem dX4_become_7 : decode cX4_become 7 = .ok (.aload_n 0, 1) := by decide +kernel
theorem dX4_become_8 : decode cX4_become 8 = .ok (.getfield 49, 3) := by decide +kernel
theorem dX4_become_11 : decode cX4_become 11 = .ok (.iload_n 1, 1) := by decide +kernel
theorem dX4_become_12 : decode cX4_become 12 = .ok (.iload_n 2, 1) := by decide +kernel
theorem dX4_become_13 : decode cX4_become 13 = .ok (.iastore, 1) := by decide +kernel
theorem dX4_become_14 : decode cX4_become 14 = .ok (.aload_n 0, 1) := by decide +kernel
theorem dX4_become_15 : decode cX4_become 15 = .ok (.getfield 52, 3) := by decide +kernel
theorem dX4_become_18 : decode cX4_become 18 = .ok (.iload_n 1, 1) := by decide +kernel
theorem dX4_become_19 : decode cX4_become 19 = .ok (.iload_n 3, 1) := by decide +kernel
theorem dX4_become_20 : decode cX4_become 20 = .ok (.iastore, 1) := by decide +kernel
theorem dX4_become_21 : decode cX4_become 21 = .ok (.aload_n 0, 1) := by decide +kernel
theorem dX4_become_22 : decode cX4_become 22 = .ok (.getfield 55, 3) := by decide +kernel
theorem dX4_become_25 : decode cX4_become 25 = .ok (.iload_n 1, 1) := by decide +kernel
theorem dX4_become_26 : decode cX4_become 26 = .ok (.iload 4, 2) := by decide +kernel
theorem dX4_become_28 : decode cX4_become 28 = .ok (.iastore, 1) := by decide +kernel
theorem dX4_become_29 : decode cX4_become 29 = .ok (.aload_n 0, 1) := by decide +kernel
theorem dX4_become_30 : decode cX4_become 30 = .ok (.getfield 58, 3) := by decide +kernel
theorem dX4_become_33 : decode cX4_become 33 = .ok (.iload_n 1, 1) := by decide +kernel
theorem dX4_become_34 : decode cX4_become 34 = .ok (.iconst (-1), 1) := by decide +kernel
theorem dX4_become_35 : decode cX4_become 35 = .ok (.iastore, 1) := by decide +kernel
theorem dX4_become_36 : decode cX4_become 36 = .ok (.return_, 1) := by decide +kernel
set_option maxRecDepth 20000 in
theorem ggX4_first_X4_isItem : GoodIn wsX4_first wsX4_isItem := goodIn_r _ [7, 1, 8, 9, 10, 6, 11, 28, 29, 30, 31, 32, 33, 34, 35, 36, 37, 38, 39, 40, 41, 42, 43, 44, 45, 46, 47, 48, 49, 50, 51, 52, 53, 54, 55, 56, 57, 58, 59, 60, 61] (by decide +kernel) (by decide +kernel)
set_option maxRecDepth 20000 in
theorem gX4_first_X4_isItem : GoodIn wsX4_first (wsV RX4 123 RX4 yX4_isItem wsX4_isItem) := goodIn_app (goodIn_of _ (by decide +kernel)) ggX4_first_X4_isItem
set_option maxRecDepth 20000 in
theorem ggX4_first_X4_likesOf : GoodIn wsX4_first wsX4_likesOf := goodIn_r _ [15, 1, 2, 3, 4, 5, 6, 7, 8, 9, 10, 11, 16, 17, 18, 19, 20, 21, 22, 23, 24, 25, 26, 27, 28, 29, 30, 31, 32, 33, 34, 35, 36, 37, 38, 39, 40, 41, 42, 43, 44, 45, 46, 47, 48, 49, 50, 51, 52, 53, 54, 55, 56, 57, 58, 59, 60, 61] (by decide +kernel) (by decide +kernel)
set_option maxRecDepth 20000 in
theorem gX4_first_X4_likesOf : GoodIn wsX4_first (wsV RX4 138 RX4 yX4_likesOf wsX4_likesOf) := goodIn_app (goodIn_of _ (by decide +kernel)) ggX4_first_X4_likesOf
theorem dX4_first_0 : decode cX4_first 0 = .ok (.bipush (-2), 2) := by decide +kernel
theorem dX4_first_2 : decode cX4_first 2 = .ok (.istore_n 1, 1) := by decide +kernel
theorem dX4_first_3 : decode cX4_first 3 = .ok (.iconst 0, 1) := by decide +kernel
theorem dX4_first_4 : decode cX4_first 4 = .ok (.istore_n 2, 1) := by decide +kernel
theorem dX4_first_5 : decode cX4_first 5 = .ok (.iconst 0, 1) := by decide +kernel
theorem dX4_first_6 : decode cX4_first 6 = .ok (.istore_n 3, 1) := by decide +kernel
theorem dX4_first_7 : decode cX4_first 7 = .ok (.iload_n 3, 1) := by decide +kernel
theorem dX4_first_8 : decode cX4_first 8 = .ok (.iconst 2, 1) := by decide +kernel
theorem dX4_first_9 : decode cX4_first 9 = .ok (.aload_n 0, 1) := by decide +kernel
theorem dX4_first_10 : decode cX4_first 10 = .ok (.getfield 116, 3) := by decide +kernel
theorem dX4_first_13 : decode cX4_first 13 = .ok (.imul, 1) := by decide +kernel
theorem dX4_first_14 : decode cX4_first 14 = .ok (.if_icmp .ge 59, 3) := by decide +kernel
theorem dX4_first_17 : decode cX4_first 17 = .ok (.aload_n 0, 1) := by decide +kernel
theorem dX4_first_18 : decode cX4_first 18 = .ok (.iload_n 3, 1) := by decide +kernel
theorem dX4_first_19 : decode cX4_first 19 = .ok (.invokevirtual 123, 3) := by decide +kernel
theorem dX4_first_22 : decode cX4_first 22 = .ok (.ifCond .eq 45, 3) := by decide +kernel
theorem dX4_first_25 : decode cX4_first 25 = .ok (.aload_n 0, 1) := by decide +kernel
theorem dX4_first_26 : decode cX4_first 26 = .ok (.getfield 46, 3) := by decide +kernel
theorem dX4_first_29 : decode cX4_first 29 = .ok (.iload_n 3, 1) := by decide +kernel
theorem dX4_first_30 : decode cX4_first 30 = .ok (.iaload, 1) := by decide +kernel
theorem dX4_first_31 : decode cX4_first 31 = .ok (.iconst 2, 1) := by decide +kernel
theorem dX4_first_32 : decode cX4_first 32 = .ok (.if_icmp .eq 6, 3) := by decide +kernel
theorem dX4_first_35 : decode cX4_first 35 = .ok (.goto 32, 3) := by decide +kernel
theorem dX4_first_38 : decode cX4_first 38 = .ok (.aload_n 0, 1) := by decide +kernel
theorem dX4_first_39 : decode cX4_first 39 = .ok (.iload_n 3, 1) := by decide +kernel
theorem dX4_first_40 : decode cX4_first 40 = .ok (.iconst 2, 1) := by decide +kernel
theorem dX4_first_41 : decode cX4_first 41 = .ok (.invokevirtual 138, 3) := by decide +kernel
theorem dX4_first_44 : decode cX4_first 44 = .ok (.istore 4, 2) := by decide +kernel
theorem dX4_first_46 : decode cX4_first 46 = .ok (.iload 4, 2) := by decide +kernel
theorem dX4_first_48 : decode cX4_first 48 = .ok (.iload_n 2, 1) := by decide +kernel
theorem dX4_first_49 : decode cX4_first 49 = .ok (.if_icmp .le 5, 3) := by decide +kernel
theorem dX4_first_52 : decode cX4_first 52 = .ok (.iload_n 3, 1) := by decide +kernel
theorem dX4_first_53 : decode cX4_first 53 = .ok (.istore_n 1, 1) := by decide +kernel
theorem dX4_first_54 : decode cX4_first 54 = .ok (.iload 4, 2) := by decide +kernel
theorem dX4_first_56 : decode cX4_first 56 = .ok (.iload_n 2, 1) := by decide +kernel
theorem dX4_first_57 : decode cX4_first 57 = .ok (.if_icmp .le 8, 3) := by decide +kernel
theorem dX4_first_60 : decode cX4_first 60 = .ok (.iload 4, 2) := by decide +kernel
theorem dX4_first_62 : decode cX4_first 62 = .ok (.goto 4, 3) := by decide +kernel
theorem dX4_first_65 : decode cX4_first 65 = .ok (.iload_n 2, 1) := by decide +kernel
theorem dX4_first_66 : decode cX4_first 66 = .ok (.istore_n 2, 1) := by decide +kernel
theorem dX4_first_67 : decode cX4_first 67 = .ok (.iinc 3 1, 3) := by decide +kernel
theorem dX4_first_70 : decode cX4_first 70 = .ok (.goto (-63), 3) := by decide +kernel
theorem dX4_first_73 : decode cX4_first 73 = .ok (.iload_n 1, 1) := by decide +kernel
theorem dX4_first_74 : decode cX4_first 74 = .ok (.ireturn, 1) := by decide +kernel
set_option maxRecDepth 20000 in
theorem ggX4_settle_X4_isItem : GoodIn wsX4_settle wsX4_isItem := goodIn_r _ [8, 2, 9, 10, 11, 7, 12, 38, 39, 40, 41, 42, 43, 44, 45, 46, 47, 48, 49, 50, 51, 52, 53, 54, 55, 56, 57, 58, 59, 60, 61, 62, 63, 64, 65, 66, 67, 68, 69, 70, 71] (by decide +kernel) (by decide +kernel)
set_option maxRecDepth 20000 in
theorem gX4_settle_X4_isItem : GoodIn wsX4_settle (wsV RX4 123 RX4 yX4_isItem wsX4_isItem) := goodIn_app (goodIn_of _ (by decide +kernel)) ggX4_settle_X4_isItem
set_option maxRecDepth 20000 in
theorem ggX4_settle_X4_in : GoodIn wsX4_settle wsX4_in := goodIn_r _ [12] (by decide +kernel) (by decide +kernel)
set_option maxRecDepth 20000 in
theorem gX4_settle_X4_in : GoodIn wsX4_settle (va_wsS RX4 7 yX4_in wsX4_in) := goodIn_app (goodIn_of _ (by decide +kernel)) ggX4_settle_X4_in
set_option maxRecDepth 20000 in
theorem ggX4_settle_X4_isCode : GoodIn wsX4_settle wsX4_isCode := goodIn_r _ [16, 17, 10, 11, 7, 12, 38, 39, 40, 41, 42, 43, 44, 45, 46, 47, 48, 49, 50, 51, 52, 53, 54, 55, 56, 57, 58, 59, 60, 61, 62, 63, 64, 65, 66, 67, 68, 69, 70, 71] (by decide +kernel) (by decide +kernel)
set_option maxRecDepth 20000 in
theorem gX4_settle_X4_isCode : GoodIn wsX4_settle (wsV RX4 104 RX4 yX4_isCode wsX4_isCode) := goodIn_app (goodIn_of _ (by decide +kernel)) ggX4_settle_X4_isCode
set_option maxRecDepth 20000 in
theorem ggX4_settle_X4_areAlike : GoodIn wsX4_settle wsX4_areAlike := goodIn_r _ [21, 22, 23, 24, 25, 26, 7, 27, 28, 29, 38, 39, 40, 41, 42, 43, 44, 45, 46, 47, 48, 49, 50, 51, 52, 53, 54, 55, 56, 57, 58, 59, 60, 61, 62, 63, 64, 65, 66, 67, 68, 69, 70, 71] (by decide +kernel) (by decide +kernel)
set_option maxRecDepth 20000 in
theorem gX4_settle_X4_areAlike : GoodIn wsX4_settle (wsV RX4 134 RX4 yX4_areAlike wsX4_areAlike) := goodIn_app (goodIn_of _ (by decide +kernel)) ggX4_settle_X4_areAlike
set_option maxRecDepth 20000 in
theorem ggX4_settle_X4_become : GoodIn wsX4_settle wsX4_become := goodIn_r _ [33, 1, 34, 35, 36, 37, 38, 39, 40, 41, 42, 43, 44, 45, 46, 47, 48, 49, 50, 51, 52, 53, 54, 55, 56, 57, 58, 59, 60, 61, 62, 63, 64, 65, 66, 67, 68, 69, 70, 71] (by decide +kernel) (by decide +kernel)
set_option maxRecDepth 20000 in
theorem gX4_settle_X4_become : GoodIn wsX4_settle (wsV RX4 180 RX4 yX4_become wsX4_become) := goodIn_app (goodIn_of _ (by decide +kernel)) ggX4_settle_X4_become
theorem dX4_settle_0 : decode cX4_settle 0 = .ok (.aload_n 0, 1) := by decide +kernel
theorem dX4_settle_1 : decode cX4_settle 1 = .ok (.iload_n 1, 1) := by decide +kernel
theorem dX4_settle_2 : decode cX4_settle 2 = .ok (.invokevirtual 123, 3) := by decide +kernel
theorem dX4_settle_5 : decode cX4_settle 5 = .ok (.ifCond .eq 21, 3) := by decide +kernel
theorem dX4_settle_8 : decode cX4_settle 8 = .ok (.iload_n 2, 1) := by decide +kernel
theorem dX4_settle_9 : decode cX4_settle 9 = .ok (.iconst 0, 1) := by decide +kernel
theorem dX4_settle_10 : decode cX4_settle 10 = .ok (.bipush 9, 2) := by decide +kernel
theorem dX4_settle_12 : decode cX4_settle 12 = .ok (.invokestatic 7, 3) := by decide +kernel
theorem dX4_settle_15 : decode cX4_settle 15 = .ok (.ifCond .eq 11, 3) := by decide +kernel
theorem dX4_settle_18 : decode cX4_settle 18 = .ok (.aload_n 0, 1) := by decide +kernel
theorem dX4_settle_19 : decode cX4_settle 19 = .ok (.iload_n 3, 1) := by decide +kernel
theorem dX4_settle_20 : decode cX4_settle 20 = .ok (.invokevirtual 104, 3) := by decide +kernel
theorem dX4_settle_23 : decode cX4_settle 23 = .ok (.ifCond .ne 5, 3) := by decide +kernel
theorem dX4_settle_26 : decode cX4_settle 26 = .ok (.iconst (-1), 1) := by decide +kernel
theorem dX4_settle_27 : decode cX4_settle 27 = .ok (.ireturn, 1) := by decide +kernel
theorem dX4_settle_28 : decode cX4_settle 28 = .ok (.aload_n 0, 1) := by decide +kernel
theorem dX4_settle_29 : decode cX4_settle 29 = .ok (.getfield 46, 3) := by decide +kernel
theorem dX4_settle_32 : decode cX4_settle 32 = .ok (.iload_n 1, 1) := by decide +kernel
theorem dX4_settle_33 : decode cX4_settle 33 = .ok (.iaload, 1) := by decide +kernel
theorem dX4_settle_34 : decode cX4_settle 34 = .ok (.iconst 2, 1) := by decide +kernel
theorem dX4_settle_35 : decode cX4_settle 35 = .ok (.if_icmp .eq 6, 3) := by decide +kernel
theorem dX4_settle_38 : decode cX4_settle 38 = .ok (.bipush (-2), 2) := by decide +kernel
theorem dX4_settle_40 : decode cX4_settle 40 = .ok (.ireturn, 1) := by decide +kernel
theorem dX4_settle_41 : decode cX4_settle 41 = .ok (.iconst 0, 1) := by decide +kernel
theorem dX4_settle_42 : decode cX4_settle 42 = .ok (.istore 4, 2) := by decide +kernel
theorem dX4_settle_44 : decode cX4_settle 44 = .ok (.iconst 0, 1) := by decide +kernel
theorem dX4_settle_45 : decode cX4_settle 45 = .ok (.istore 5, 2) := by decide +kernel
theorem dX4_settle_47 : decode cX4_settle 47 = .ok (.iload 5, 2) := by decide +kernel
theorem dX4_settle_49 : decode cX4_settle 49 = .ok (.iconst 2, 1) := by decide +kernel
theorem dX4_settle_50 : decode cX4_settle 50 = .ok (.aload_n 0, 1) := by decide +kernel
theorem dX4_settle_51 : decode cX4_settle 51 = .ok (.getfield 116, 3) := by decide +kernel
theorem dX4_settle_54 : decode cX4_settle 54 = .ok (.imul, 1) := by decide +kernel
theorem dX4_settle_55 : decode cX4_settle 55 = .ok (.if_icmp .ge 71, 3) := by decide +kernel
theorem dX4_settle_58 : decode cX4_settle 58 = .ok (.aload_n 0, 1) := by decide +kernel
theorem dX4_settle_59 : decode cX4_settle 59 = .ok (.getfield 95, 3) := by decide +kernel
theorem dX4_settle_62 : decode cX4_settle 62 = .ok (.iload 5, 2) := by decide +kernel
theorem dX4_settle_64 : decode cX4_settle 64 = .ok (.aload_n 0, 1) := by decide +kernel
theorem dX4_settle_65 : decode cX4_settle 65 = .ok (.iload 5, 2) := by decide +kernel
theorem dX4_settle_67 : decode cX4_settle 67 = .ok (.invokevirtual 123, 3) := by decide +kernel
theorem dX4_settle_70 : decode cX4_settle 70 = .ok (.ifCond .eq 28, 3) := by decide +kernel
theorem dX4_settle_73 : decode cX4_settle 73 = .ok (.aload_n 0, 1) := by decide +kernel
theorem dX4_settle_74 : decode cX4_settle 74 = .ok (.getfield 46, 3) := by decide +kernel
theorem dX4_settle_77 : decode cX4_settle 77 = .ok (.iload 5, 2) := by decide +kernel
theorem dX4_settle_79 : decode cX4_settle 79 = .ok (.iaload, 1) := by decide +kernel
theorem dX4_settle_80 : decode cX4_settle 80 = .ok (.iconst 2, 1) := by decide +kernel
theorem dX4_settle_81 : decode cX4_settle 81 = .ok (.if_icmp .ne 17, 3) := by decide +kernel
theorem dX4_settle_84 : decode cX4_settle 84 = .ok (.aload_n 0, 1) := by decide +kernel
theorem dX4_settle_85 : decode cX4_settle 85 = .ok (.iload 5, 2) := by decide +kernel
theorem dX4_settle_87 : decode cX4_settle 87 = .ok (.iload_n 1, 1) := by decide +kernel
theorem dX4_settle_88 : decode cX4_settle 88 = .ok (.invokevirtual 134, 3) := by decide +kernel
theorem dX4_settle_91 : decode cX4_settle 91 = .ok (.ifCond .eq 7, 3) := by decide +kernel
theorem dX4_settle_94 : decode cX4_settle 94 = .ok (.iconst 1, 1) := by decide +kernel
theorem dX4_settle_95 : decode cX4_settle 95 = .ok (.goto 4, 3) := by decide +kernel
theorem dX4_settle_98 : decode cX4_settle 98 = .ok (.iconst 0, 1) := by decide +kernel
theorem dX4_settle_99 : decode cX4_settle 99 = .ok (.bastore, 1) := by decide +kernel
theorem dX4_settle_100 : decode cX4_settle 100 = .ok (.iload 4, 2) := by decide +kernel
theorem dX4_settle_102 : decode cX4_settle 102 = .ok (.aload_n 0, 1) := by decide +kernel
theorem dX4_settle_103 : decode cX4_settle 103 = .ok (.getfield 95, 3) := by decide +kernel
theorem dX4_settle_106 : decode cX4_settle 106 = .ok (.iload 5, 2) := by decide +kernel
theorem dX4_settle_108 : decode cX4_settle 108 = .ok (.baload, 1) := by decide +kernel
theorem dX4_settle_109 : decode cX4_settle 109 = .ok (.ifCond .eq 7, 3) := by decide +kernel
theorem dX4_settle_112 : decode cX4_settle 112 = .ok (.iconst 1, 1) := by decide +kernel
theorem dX4_settle_113 : decode cX4_settle 113 = .ok (.goto 4, 3) := by decide +kernel
theorem dX4_settle_116 : decode cX4_settle 116 = .ok (.iconst 0, 1) := by decide +kernel
theorem dX4_settle_117 : decode cX4_settle 117 = .ok (.iadd, 1) := by decide +kernel
theorem dX4_settle_118 : decode cX4_settle 118 = .ok (.istore 4, 2) := by decide +kernel
theorem dX4_settle_120 : decode cX4_settle 120 = .ok (.iinc 5 1, 3) := by decide +kernel
theorem dX4_settle_123 : decode cX4_settle 123 = .ok (.goto (-76), 3) := by decide +kernel
theorem dX4_settle_126 : decode cX4_settle 126 = .ok (.iconst 0, 1) := by decide +kernel
theorem dX4_settle_127 : decode cX4_settle 127 = .ok (.istore 5, 2) := by decide +kernel
theorem dX4_settle_129 : decode cX4_settle 129 = .ok (.iload 5, 2) := by decide +kernel
theorem dX4_settle_131 : decode cX4_settle 131 = .ok (.iconst 2, 1) := by decide +kernel
theorem dX4_settle_132 : decode cX4_settle 132 = .ok (.aload_n 0, 1) := by decide +kernel
theorem dX4_settle_133 : decode cX4_settle 133 = .ok (.getfield 116, 3) := by decide +kernel
theorem dX4_settle_136 : decode cX4_settle 136 = .ok (.imul, 1) := by decide +kernel
theorem dX4_settle_137 : decode cX4_settle 137 = .ok (.if_icmp .ge 28, 3) := by decide +kernel
theorem dX4_settle_140 : decode cX4_settle 140 = .ok (.aload_n 0, 1) := by decide +kernel
theorem dX4_settle_141 : decode cX4_settle 141 = .ok (.getfield 95, 3) := by decide +kernel
theorem dX4_settle_144 : decode cX4_settle 144 = .ok (.iload 5, 2) := by decide +kernel
theorem dX4_settle_146 : decode cX4_settle 146 = .ok (.baload, 1) := by decide +kernel
theorem dX4_settle_147 : decode cX4_settle 147 = .ok (.ifCond .eq 12, 3) := by decide +kernel
theorem dX4_settle_150 : decode cX4_settle 150 = .ok (.aload_n 0, 1) := by decide +kernel
theorem dX4_settle_151 : decode cX4_settle 151 = .ok (.iload 5, 2) := by decide +kernel
theorem dX4_settle_153 : decode cX4_settle 153 = .ok (.iload_n 3, 1) := by decide +kernel
theorem dX4_settle_154 : decode cX4_settle 154 = .ok (.iconst 2, 1) := by decide +kernel
theorem dX4_settle_155 : decode cX4_settle 155 = .ok (.iload_n 2, 1) := by decide +kernel
theorem dX4_settle_156 : decode cX4_settle 156 = .ok (.invokevirtual 180, 3) := by decide +kernel
theorem dX4_settle_159 : decode cX4_settle 159 = .ok (.iinc 5 1, 3) := by decide +kernel
theorem dX4_settle_162 : decode cX4_settle 162 = .ok (.goto (-33), 3) := by decide +kernel
theorem dX4_settle_165 : decode cX4_settle 165 = .ok (.iload 4, 2) := by decide +kernel
theorem dX4_settle_167 : decode cX4_settle 167 = .ok (.ireturn, 1) := by decide +kernel
set_option maxRecDepth 20000 in
theorem ggX4_isStale_X4_byRules : GoodIn wsX4_isStale wsX4_byRules := goodIn_r _ [8, 9, 10, 11, 12, 13, 14, 15, 16, 7, 17, 18, 19, 20, 21, 22, 23, 24, 25, 26, 27, 28, 29, 30, 31, 32, 33, 34, 35, 36, 37, 38, 39, 40, 41, 42, 43, 44, 45, 46, 47, 48, 49, 50, 51, 52, 53, 54, 55, 56, 57, 58, 59, 60, 61, 62] (by decide +kernel) (by decide +kernel)
set_option maxRecDepth 20000 in
theorem gX4_isStale_X4_byRules : GoodIn wsX4_isStale (wsV RX4 155 RX4 yX4_byRules wsX4_byRules) := goodIn_app (goodIn_of _ (by decide +kernel)) ggX4_isStale_X4_byRules
theorem dX4_isStale_0 : decode cX4_isStale 0 = .ok (.aload_n 0, 1) := by decide +kernel
theorem dX4_isStale_1 : decode cX4_isStale 1 = .ok (.getfield 46, 3) := by decide +kernel
theorem dX4_isStale_4 : decode cX4_isStale 4 = .ok (.iload_n 1, 1) := by decide +kernel
theorem dX4_isStale_5 : decode cX4_isStale 5 = .ok (.iaload, 1) := by decide +kernel
theorem dX4_isStale_6 : decode cX4_isStale 6 = .ok (.iconst 1, 1) := by decide +kernel
theorem dX4_isStale_7 : decode cX4_isStale 7 = .ok (.if_icmp .ne 31, 3) := by decide +kernel
theorem dX4_isStale_10 : decode cX4_isStale 10 = .ok (.aload_n 0, 1) := by decide +kernel
theorem dX4_isStale_11 : decode cX4_isStale 11 = .ok (.getfield 52, 3) := by decide +kernel
theorem dX4_isStale_14 : decode cX4_isStale 14 = .ok (.iload_n 1, 1) := by decide +kernel
theorem dX4_isStale_15 : decode cX4_isStale 15 = .ok (.iaload, 1) := by decide +kernel
theorem dX4_isStale_16 : decode cX4_isStale 16 = .ok (.ifCond .ne 22, 3) := by decide +kernel
theorem dX4_isStale_19 : decode cX4_isStale 19 = .ok (.aload_n 0, 1) := by decide +kernel
theorem dX4_isStale_20 : decode cX4_isStale 20 = .ok (.iload_n 1, 1) := by decide +kernel
theorem dX4_isStale_21 : decode cX4_isStale 21 = .ok (.iconst (-1), 1) := by decide +kernel
theorem dX4_isStale_22 : decode cX4_isStale 22 = .ok (.invokevirtual 155, 3) := by decide +kernel
theorem dX4_isStale_25 : decode cX4_isStale 25 = .ok (.aload_n 0, 1) := by decide +kernel
theorem dX4_isStale_26 : decode cX4_isStale 26 = .ok (.getfield 49, 3) := by decide +kernel
theorem dX4_isStale_29 : decode cX4_isStale 29 = .ok (.iload_n 1, 1) := by decide +kernel
theorem dX4_isStale_30 : decode cX4_isStale 30 = .ok (.iaload, 1) := by decide +kernel
theorem dX4_isStale_31 : decode cX4_isStale 31 = .ok (.if_icmp .eq 7, 3) := by decide +kernel
theorem dX4_isStale_34 : decode cX4_isStale 34 = .ok (.iconst 1, 1) := by decide +kernel
theorem dX4_isStale_35 : decode cX4_isStale 35 = .ok (.goto 4, 3) := by decide +kernel
theorem dX4_isStale_38 : decode cX4_isStale 38 = .ok (.iconst 0, 1) := by decide +kernel
theorem dX4_isStale_39 : decode cX4_isStale 39 = .ok (.ireturn, 1) := by decide +kernel
set_option maxRecDepth 20000 in
theorem ggX4_recode_X4_isItem : GoodIn wsX4_recode wsX4_isItem := goodIn_r _ [6, 1, 7, 8, 9, 5, 10, 48, 49, 50, 51, 52, 53, 54, 55, 56, 57, 58, 59, 60, 61, 62, 63, 64, 65, 66, 67, 68, 69, 70, 71, 72, 73, 74, 75, 76, 77, 78, 79, 80, 81] (by decide +kernel) (by decide +kernel)
set_option maxRecDepth 20000 in
theorem gX4_recode_X4_isItem : GoodIn wsX4_recode (wsV RX4 123 RX4 yX4_isItem wsX4_isItem) := goodIn_app (goodIn_of _ (by decide +kernel)) ggX4_recode_X4_isItem
set_option maxRecDepth 20000 in
theorem ggX4_recode_X4_isStale : GoodIn wsX4_recode wsX4_isStale := goodIn_r _ [14, 15, 16, 17, 18, 19, 20, 5, 21, 22, 23, 24, 25, 26, 27, 28, 29, 30, 31, 32, 33, 34, 35, 36, 37, 38, 39, 40, 41, 48, 49, 50, 51, 52, 53, 54, 55, 56, 57, 58, 59, 60, 61, 62, 63, 64, 65, 66, 67, 68, 69, 70, 71, 72, 73, 74, 75, 76, 77, 78, 79, 80, 81] (by decide +kernel) (by decide +kernel)
set_option maxRecDepth 20000 in
theorem gX4_recode_X4_isStale : GoodIn wsX4_recode (wsV RX4 184 RX4 yX4_isStale wsX4_isStale) := goodIn_app (goodIn_of _ (by decide +kernel)) ggX4_recode_X4_isStale
set_option maxRecDepth 20000 in
theorem ggX4_recode_X4_anew : GoodIn wsX4_recode wsX4_anew := goodIn_r _ [45, 15, 17, 16, 46, 47, 48, 49, 50, 51, 52, 53, 54, 55, 56, 57, 58, 59, 60, 61, 62, 63, 64, 65, 66, 67, 68, 69, 70, 71, 72, 73, 74, 75, 76, 77, 78, 79, 80, 81] (by decide +kernel) (by decide +kernel)
set_option maxRecDepth 20000 in
theorem gX4_recode_X4_anew : GoodIn wsX4_recode (wsV RX4 119 RX4 yX4_anew wsX4_anew) := goodIn_app (goodIn_of _ (by decide +kernel)) ggX4_recode_X4_anew
theorem dX4_recode_0 : decode cX4_recode 0 = .ok (.iconst 0, 1) := by decide +kernel
theorem dX4_recode_1 : decode cX4_recode 1 = .ok (.istore_n 1, 1) := by decide +kernel
theorem dX4_recode_2 : decode cX4_recode 2 = .ok (.iconst 0, 1) := by decide +kernel
theorem dX4_recode_3 : decode cX4_recode 3 = .ok (.istore_n 2, 1) := by decide +kernel
theorem dX4_recode_4 : decode cX4_recode 4 = .ok (.iload_n 2, 1) := by decide +kernel
theorem dX4_recode_5 : decode cX4_recode 5 = .ok (.iconst 2, 1) := by decide +kernel
theorem dX4_recode_6 : decode cX4_recode 6 = .ok (.aload_n 0, 1) := by decide +kernel
theorem dX4_recode_7 : decode cX4_recode 7 = .ok (.getfield 116, 3) := by decide +kernel
theorem dX4_recode_10 : decode cX4_recode 10 = .ok (.imul, 1) := by decide +kernel
theorem dX4_recode_11 : decode cX4_recode 11 = .ok (.if_icmp .ge 36, 3) := by decide +kernel
theorem dX4_recode_14 : decode cX4_recode 14 = .ok (.aload_n 0, 1) := by decide +kernel
theorem dX4_recode_15 : decode cX4_recode 15 = .ok (.iload_n 2, 1) := by decide +kernel
theorem dX4_recode_16 : decode cX4_recode 16 = .ok (.invokevirtual 123, 3) := by decide +kernel
theorem dX4_recode_19 : decode cX4_recode 19 = .ok (.ifCond .eq 22, 3) := by decide +kernel
theorem dX4_recode_22 : decode cX4_recode 22 = .ok (.aload_n 0, 1) := by decide +kernel
theorem dX4_recode_23 : decode cX4_recode 23 = .ok (.iload_n 2, 1) := by decide +kernel
theorem dX4_recode_24 : decode cX4_recode 24 = .ok (.invokevirtual 184, 3) := by decide +kernel
theorem dX4_recode_27 : decode cX4_recode 27 = .ok (.ifCond .ne 6, 3) := by decide +kernel
theorem dX4_recode_30 : decode cX4_recode 30 = .ok (.goto 11, 3) := by decide +kernel
theorem dX4_recode_33 : decode cX4_recode 33 = .ok (.aload_n 0, 1) := by decide +kernel
theorem dX4_recode_34 : decode cX4_recode 34 = .ok (.iload_n 2, 1) := by decide +kernel
theorem dX4_recode_35 : decode cX4_recode 35 = .ok (.invokevirtual 119, 3) := by decide +kernel
theorem dX4_recode_38 : decode cX4_recode 38 = .ok (.iinc 1 1, 3) := by decide +kernel
theorem dX4_recode_41 : decode cX4_recode 41 = .ok (.iinc 2 1, 3) := by decide +kernel
theorem dX4_recode_44 : decode cX4_recode 44 = .ok (.goto (-40), 3) := by decide +kernel
theorem dX4_recode_47 : decode cX4_recode 47 = .ok (.iload_n 1, 1) := by decide +kernel
theorem dX4_recode_48 : decode cX4_recode 48 = .ok (.ireturn, 1) := by decide +kernel
set_option maxRecDepth 20000 in
theorem ggX4_second_X4_isItem : GoodIn wsX4_second wsX4_isItem := goodIn_r _ [9, 10, 11, 12, 13, 8, 14, 20, 21, 22, 23, 24, 25, 26, 27, 28, 29, 30, 31, 32, 33, 34, 35, 36, 37, 38, 39, 40, 41, 42, 43, 44, 45, 46, 47, 48, 49, 50, 51, 52, 53] (by decide +kernel) (by decide +kernel)
set_option maxRecDepth 20000 in
theorem gX4_second_X4_isItem : GoodIn wsX4_second (wsV RX4 123 RX4 yX4_isItem wsX4_isItem) := goodIn_app (goodIn_of _ (by decide +kernel)) ggX4_second_X4_isItem
set_option maxRecDepth 20000 in
theorem ggX4_second_X4_in : GoodIn wsX4_second wsX4_in := goodIn_r _ [14] (by decide +kernel) (by decide +kernel)
set_option maxRecDepth 20000 in
theorem gX4_second_X4_in : GoodIn wsX4_second (va_wsS RX4 7 yX4_in wsX4_in) := goodIn_app (goodIn_of _ (by decide +kernel)) ggX4_second_X4_in
set_option maxRecDepth 20000 in
theorem ggX4_second_X4_isCode : GoodIn wsX4_second wsX4_isCode := goodIn_r _ [18, 19, 12, 13, 8, 14, 20, 21, 22, 23, 24, 25, 26, 27, 28, 29, 30, 31, 32, 33, 34, 35, 36, 37, 38, 39, 40, 41, 42, 43, 44, 45, 46, 47, 48, 49, 50, 51, 52, 53] (by decide +kernel) (by decide +kernel)
set_option maxRecDepth 20000 in
theorem gX4_second_X4_isCode : GoodIn wsX4_second (wsV RX4 104 RX4 yX4_isCode wsX4_isCode) := goodIn_app (goodIn_of _ (by decide +kernel)) ggX4_second_X4_isCode
theorem dX4_second_0 : decode cX4_second 0 = .ok (.aload_n 0, 1) := by decide +kernel
theorem dX4_second_1 : decode cX4_second 1 = .ok (.iload_n 1, 1) := by decide +kernel
theorem dX4_second_2 : decode cX4_second 2 = .ok (.invokevirtual 123, 3) := by decide +kernel
theorem dX4_second_5 : decode cX4_second 5 = .ok (.ifCond .eq 21, 3) := by decide +kernel
theorem dX4_second_8 : decode cX4_second 8 = .ok (.iload_n 2, 1) := by decide +kernel
theorem dX4_second_9 : decode cX4_second 9 = .ok (.iconst 0, 1) := by decide +kernel
theorem dX4_second_10 : decode cX4_second 10 = .ok (.bipush 9, 2) := by decide +kernel
theorem dX4_second_12 : decode cX4_second 12 = .ok (.invokestatic 7, 3) := by decide +kernel
theorem dX4_second_15 : decode cX4_second 15 = .ok (.ifCond .eq 11, 3) := by decide +kernel
theorem dX4_second_18 : decode cX4_second 18 = .ok (.aload_n 0, 1) := by decide +kernel
theorem dX4_second_19 : decode cX4_second 19 = .ok (.iload_n 3, 1) := by decide +kernel
theorem dX4_second_20 : decode cX4_second 20 = .ok (.invokevirtual 104, 3) := by decide +kernel
theorem dX4_second_23 : decode cX4_second 23 = .ok (.ifCond .ne 5, 3) := by decide +kernel
theorem dX4_second_26 : decode cX4_second 26 = .ok (.iconst (-1), 1) := by decide +kernel
theorem dX4_second_27 : decode cX4_second 27 = .ok (.ireturn, 1) := by decide +kernel
theorem dX4_second_28 : decode cX4_second 28 = .ok (.aload_n 0, 1) := by decide +kernel
theorem dX4_second_29 : decode cX4_second 29 = .ok (.getfield 46, 3) := by decide +kernel
theorem dX4_second_32 : decode cX4_second 32 = .ok (.iload_n 1, 1) := by decide +kernel
theorem dX4_second_33 : decode cX4_second 33 = .ok (.iaload, 1) := by decide +kernel
theorem dX4_second_34 : decode cX4_second 34 = .ok (.iconst 1, 1) := by decide +kernel
theorem dX4_second_35 : decode cX4_second 35 = .ok (.if_icmp .ne 23, 3) := by decide +kernel
theorem dX4_second_38 : decode cX4_second 38 = .ok (.aload_n 0, 1) := by decide +kernel
theorem dX4_second_39 : decode cX4_second 39 = .ok (.getfield 52, 3) := by decide +kernel
theorem dX4_second_42 : decode cX4_second 42 = .ok (.iload_n 1, 1) := by decide +kernel
theorem dX4_second_43 : decode cX4_second 43 = .ok (.iaload, 1) := by decide +kernel
theorem dX4_second_44 : decode cX4_second 44 = .ok (.iconst 2, 1) := by decide +kernel
theorem dX4_second_45 : decode cX4_second 45 = .ok (.if_icmp .ne 16, 3) := by decide +kernel
theorem dX4_second_48 : decode cX4_second 48 = .ok (.aload_n 0, 1) := by decide +kernel
theorem dX4_second_49 : decode cX4_second 49 = .ok (.getfield 55, 3) := by decide +kernel
theorem dX4_second_52 : decode cX4_second 52 = .ok (.iload_n 1, 1) := by decide +kernel
theorem dX4_second_53 : decode cX4_second 53 = .ok (.iaload, 1) := by decide +kernel
theorem dX4_second_54 : decode cX4_second 54 = .ok (.iload_n 2, 1) := by decide +kernel
theorem dX4_second_55 : decode cX4_second 55 = .ok (.if_icmp .ne 6, 3) := by decide +kernel
theorem dX4_second_58 : decode cX4_second 58 = .ok (.bipush (-2), 2) := by decide +kernel
theorem dX4_second_60 : decode cX4_second 60 = .ok (.ireturn, 1) := by decide +kernel
theorem dX4_second_61 : decode cX4_second 61 = .ok (.aload_n 0, 1) := by decide +kernel
theorem dX4_second_62 : decode cX4_second 62 = .ok (.getfield 58, 3) := by decide +kernel
theorem dX4_second_65 : decode cX4_second 65 = .ok (.iload_n 1, 1) := by decide +kernel
theorem dX4_second_66 : decode cX4_second 66 = .ok (.iload_n 3, 1) := by decide +kernel
theorem dX4_second_67 : decode cX4_second 67 = .ok (.iastore, 1) := by decide +kernel
theorem dX4_second_68 : decode cX4_second 68 = .ok (.iconst 1, 1) := by decide +kernel
theorem dX4_second_69 : decode cX4_second 69 = .ok (.ireturn, 1) := by decide +kernel
set_option maxRecDepth 20000 in
theorem ggX4_told_X4_isItem : GoodIn wsX4_told wsX4_isItem := goodIn_r _ [10, 11, 12, 13, 14, 9, 15, 44, 45, 46, 47, 48, 49, 50, 51, 52, 53, 54, 55, 56, 57, 58, 59, 60, 61, 62, 63, 64, 65, 66, 67, 68, 69, 70, 71, 72, 73, 74, 75, 76, 77] (by decide +kernel) (by decide +kernel)
set_option maxRecDepth 20000 in
theorem gX4_told_X4_isItem : GoodIn wsX4_told (wsV RX4 123 RX4 yX4_isItem wsX4_isItem) := goodIn_app (goodIn_of _ (by decide +kernel)) ggX4_told_X4_isItem
set_option maxRecDepth 20000 in
theorem ggX4_told_X4_isStale : GoodIn wsX4_told wsX4_isStale := goodIn_r _ [19, 1, 3, 2, 20, 21, 22, 9, 23, 24, 25, 26, 27, 28, 29, 30, 31, 32, 33, 34, 35, 36, 37, 38, 39, 40, 41, 42, 43, 44, 45, 46, 47, 48, 49, 50, 51, 52, 53, 54, 55, 56, 57, 58, 59, 60, 61, 62, 63, 64, 65, 66, 67, 68, 69, 70, 71, 72, 73, 74, 75, 76, 77] (by decide +kernel) (by decide +kernel)
set_option maxRecDepth 20000 in
theorem gX4_told_X4_isStale : GoodIn wsX4_told (wsV RX4 184 RX4 yX4_isStale wsX4_isStale) := goodIn_app (goodIn_of _ (by decide +kernel)) ggX4_told_X4_isStale
theorem dX4_told_0 : decode cX4_told 0 = .ok (.aload_n 0, 1) := by decide +kernel
theorem dX4_told_1 : decode cX4_told 1 = .ok (.iload_n 1, 1) := by decide +kernel
theorem dX4_told_2 : decode cX4_told 2 = .ok (.invokevirtual 123, 3) := by decide +kernel
theorem dX4_told_5 : decode cX4_told 5 = .ok (.ifCond .ne 5, 3) := by decide +kernel
theorem dX4_told_8 : decode cX4_told 8 = .ok (.iconst (-1), 1) := by decide +kernel
theorem dX4_told_9 : decode cX4_told 9 = .ok (.ireturn, 1) := by decide +kernel
theorem dX4_told_10 : decode cX4_told 10 = .ok (.iload_n 2, 1) := by decide +kernel
theorem dX4_told_11 : decode cX4_told 11 = .ok (.tableswitch 86 0 5 #[37, 44, 51, 58, 65, 72], 37) := by decide +kernel
theorem dX4_told_48 : decode cX4_told 48 = .ok (.aload_n 0, 1) := by decide +kernel
theorem dX4_told_49 : decode cX4_told 49 = .ok (.getfield 46, 3) := by decide +kernel
theorem dX4_told_52 : decode cX4_told 52 = .ok (.iload_n 1, 1) := by decide +kernel
theorem dX4_told_53 : decode cX4_told 53 = .ok (.iaload, 1) := by decide +kernel
theorem dX4_told_54 : decode cX4_told 54 = .ok (.ireturn, 1) := by decide +kernel
theorem dX4_told_55 : decode cX4_told 55 = .ok (.aload_n 0, 1) := by decide +kernel
theorem dX4_told_56 : decode cX4_told 56 = .ok (.getfield 49, 3) := by decide +kernel
theorem dX4_told_59 : decode cX4_told 59 = .ok (.iload_n 1, 1) := by decide +kernel
theorem dX4_told_60 : decode cX4_told 60 = .ok (.iaload, 1) := by decide +kernel
theorem dX4_told_61 : decode cX4_told 61 = .ok (.ireturn, 1) := by decide +kernel
theorem dX4_told_62 : decode cX4_told 62 = .ok (.aload_n 0, 1) := by decide +kernel
theorem dX4_told_63 : decode cX4_told 63 = .ok (.getfield 52, 3) := by decide +kernel
theorem dX4_told_66 : decode cX4_told 66 = .ok (.iload_n 1, 1) := by decide +kernel
theorem dX4_told_67 : decode cX4_told 67 = .ok (.iaload, 1) := by decide +kernel
theorem dX4_told_68 : decode cX4_told 68 = .ok (.ireturn, 1) := by decide +kernel
theorem dX4_told_69 : decode cX4_told 69 = .ok (.aload_n 0, 1) := by decide +kernel
theorem dX4_told_70 : decode cX4_told 70 = .ok (.getfield 55, 3) := by decide +kernel
theorem dX4_told_73 : decode cX4_told 73 = .ok (.iload_n 1, 1) := by decide +kernel
theorem dX4_told_74 : decode cX4_told 74 = .ok (.iaload, 1) := by decide +kernel
theorem dX4_told_75 : decode cX4_told 75 = .ok (.ireturn, 1) := by decide +kernel
theorem dX4_told_76 : decode cX4_told 76 = .ok (.aload_n 0, 1) := by decide +kernel
theorem dX4_told_77 : decode cX4_told 77 = .ok (.getfield 58, 3) := by decide +kernel
theorem dX4_told_80 : decode cX4_told 80 = .ok (.iload_n 1, 1) := by decide +kernel
theorem dX4_told_81 : decode cX4_told 81 = .ok (.iaload, 1) := by decide +kernel
theorem dX4_told_82 : decode cX4_told 82 = .ok (.ireturn, 1) := by decide +kernel
theorem dX4_told_83 : decode cX4_told 83 = .ok (.aload_n 0, 1) := by decide +kernel
theorem dX4_told_84 : decode cX4_told 84 = .ok (.iload_n 1, 1) := by decide +kernel
theorem dX4_told_85 : decode cX4_told 85 = .ok (.invokevirtual 184, 3) := by decide +kernel
theorem dX4_told_88 : decode cX4_told 88 = .ok (.ifCond .eq 7, 3) := by decide +kernel
theorem dX4_told_91 : decode cX4_told 91 = .ok (.iconst 1, 1) := by decide +kernel
theorem dX4_told_92 : decode cX4_told 92 = .ok (.goto 4, 3) := by decide +kernel
theorem dX4_told_95 : decode cX4_told 95 = .ok (.iconst 0, 1) := by decide +kernel
theorem dX4_told_96 : decode cX4_told 96 = .ok (.ireturn, 1) := by decide +kernel
theorem dX4_told_97 : decode cX4_told 97 = .ok (.iconst (-1), 1) := by decide +kernel
theorem dX4_told_98 : decode cX4_told 98 = .ok (.ireturn, 1) := by decide +kernel
set_option maxRecDepth 20000 in
theorem ggX4_coded_X4_isCode : GoodIn wsX4_coded wsX4_isCode := goodIn_r _ [8, 9, 10, 11, 7, 12, 23, 24, 25, 26, 27, 28, 29, 30, 31, 32, 33, 34, 35, 36, 37, 38, 39, 40, 41, 42, 43, 44, 45, 46, 47, 48, 49, 50, 51, 52, 53, 54, 55, 56] (by decide +kernel) (by decide +kernel)
set_option maxRecDepth 20000 in
theorem gX4_coded_X4_isCode : GoodIn wsX4_coded (wsV RX4 104 RX4 yX4_isCode wsX4_isCode) := goodIn_app (goodIn_of _ (by decide +kernel)) ggX4_coded_X4_isCode
set_option maxRecDepth 20000 in
theorem ggX4_coded_X4_isItem : GoodIn wsX4_coded wsX4_isItem := goodIn_r _ [16, 1, 17, 10, 11, 7, 12, 23, 24, 25, 26, 27, 28, 29, 30, 31, 32, 33, 34, 35, 36, 37, 38, 39, 40, 41, 42, 43, 44, 45, 46, 47, 48, 49, 50, 51, 52, 53, 54, 55, 56] (by decide +kernel) (by decide +kernel)
set_option maxRecDepth 20000 in
theorem gX4_coded_X4_isItem : GoodIn wsX4_coded (wsV RX4 123 RX4 yX4_isItem wsX4_isItem) := goodIn_app (goodIn_of _ (by decide +kernel)) ggX4_coded_X4_isItem
set_option maxRecDepth 20000 in
theorem ggX4_coded_X4_isBelow : GoodIn wsX4_coded wsX4_isBelow := goodIn_r _ [21, 22, 23, 24, 25, 26, 27, 28, 29, 30, 31, 32, 33, 34, 35, 36, 37, 38, 39, 40, 41, 42, 43, 44, 45, 46, 47, 48, 49, 50, 51, 52, 53, 54, 55, 56] (by decide +kernel) (by decide +kernel)
set_option maxRecDepth 20000 in
theorem gX4_coded_X4_isBelow : GoodIn wsX4_coded (wsV RX4 187 RX4 yX4_isBelow wsX4_isBelow) := goodIn_app (goodIn_of _ (by decide +kernel)) ggX4_coded_X4_isBelow
theorem dX4_coded_0 : decode cX4_coded 0 = .ok (.aload_n 0, 1) := by decide +kernel
theorem dX4_coded_1 : decode cX4_coded 1 = .ok (.iload_n 1, 1) := by decide +kernel
theorem dX4_coded_2 : decode cX4_coded 2 = .ok (.invokevirtual 104, 3) := by decide +kernel
theorem dX4_coded_5 : decode cX4_coded 5 = .ok (.ifCond .ne 5, 3) := by decide +kernel
theorem dX4_coded_8 : decode cX4_coded 8 = .ok (.iconst (-1), 1) := by decide +kernel
theorem dX4_coded_9 : decode cX4_coded 9 = .ok (.ireturn, 1) := by decide +kernel
theorem dX4_coded_10 : decode cX4_coded 10 = .ok (.iconst 0, 1) := by decide +kernel
theorem dX4_coded_11 : decode cX4_coded 11 = .ok (.istore_n 2, 1) := by decide +kernel
theorem dX4_coded_12 : decode cX4_coded 12 = .ok (.iconst 0, 1) := by decide +kernel
theorem dX4_coded_13 : decode cX4_coded 13 = .ok (.istore_n 3, 1) := by decide +kernel
theorem dX4_coded_14 : decode cX4_coded 14 = .ok (.iload_n 3, 1) := by decide +kernel
theorem dX4_coded_15 : decode cX4_coded 15 = .ok (.iconst 2, 1) := by decide +kernel
theorem dX4_coded_16 : decode cX4_coded 16 = .ok (.aload_n 0, 1) := by decide +kernel
theorem dX4_coded_17 : decode cX4_coded 17 = .ok (.getfield 116, 3) := by decide +kernel
theorem dX4_coded_20 : decode cX4_coded 20 = .ok (.imul, 1) := by decide +kernel
theorem dX4_coded_21 : decode cX4_coded 21 = .ok (.if_icmp .ge 49, 3) := by decide +kernel
theorem dX4_coded_24 : decode cX4_coded 24 = .ok (.iload_n 2, 1) := by decide +kernel
theorem dX4_coded_25 : decode cX4_coded 25 = .ok (.aload_n 0, 1) := by decide +kernel
theorem dX4_coded_26 : decode cX4_coded 26 = .ok (.iload_n 3, 1) := by decide +kernel
theorem dX4_coded_27 : decode cX4_coded 27 = .ok (.invokevirtual 123, 3) := by decide +kernel
theorem dX4_coded_30 : decode cX4_coded 30 = .ok (.ifCond .eq 31, 3) := by decide +kernel
theorem dX4_coded_33 : decode cX4_coded 33 = .ok (.aload_n 0, 1) := by decide +kernel
theorem dX4_coded_34 : decode cX4_coded 34 = .ok (.getfield 46, 3) := by decide +kernel
theorem dX4_coded_37 : decode cX4_coded 37 = .ok (.iload_n 3, 1) := by decide +kernel
theorem dX4_coded_38 : decode cX4_coded 38 = .ok (.iaload, 1) := by decide +kernel
theorem dX4_coded_39 : decode cX4_coded 39 = .ok (.iconst 1, 1) := by decide +kernel
theorem dX4_coded_40 : decode cX4_coded 40 = .ok (.if_icmp .ne 21, 3) := by decide +kernel
theorem dX4_coded_43 : decode cX4_coded 43 = .ok (.aload_n 0, 1) := by decide +kernel
theorem dX4_coded_44 : decode cX4_coded 44 = .ok (.aload_n 0, 1) := by decide +kernel
theorem dX4_coded_45 : decode cX4_coded 45 = .ok (.getfield 49, 3) := by decide +kernel
theorem dX4_coded_48 : decode cX4_coded 48 = .ok (.iload_n 3, 1) := by decide +kernel
theorem dX4_coded_49 : decode cX4_coded 49 = .ok (.iaload, 1) := by decide +kernel
theorem dX4_coded_50 : decode cX4_coded 50 = .ok (.iload_n 1, 1) := by decide +kernel
theorem dX4_coded_51 : decode cX4_coded 51 = .ok (.invokevirtual 187, 3) := by decide +kernel
theorem dX4_coded_54 : decode cX4_coded 54 = .ok (.ifCond .eq 7, 3) := by decide +kernel
theorem dX4_coded_57 : decode cX4_coded 57 = .ok (.iconst 1, 1) := by decide +kernel
theorem dX4_coded_58 : decode cX4_coded 58 = .ok (.goto 4, 3) := by decide +kernel
theorem dX4_coded_61 : decode cX4_coded 61 = .ok (.iconst 0, 1) := by decide +kernel
theorem dX4_coded_62 : decode cX4_coded 62 = .ok (.iadd, 1) := by decide +kernel
theorem dX4_coded_63 : decode cX4_coded 63 = .ok (.istore_n 2, 1) := by decide +kernel
theorem dX4_coded_64 : decode cX4_coded 64 = .ok (.iinc 3 1, 3) := by decide +kernel
theorem dX4_coded_67 : decode cX4_coded 67 = .ok (.goto (-53), 3) := by decide +kernel
theorem dX4_coded_70 : decode cX4_coded 70 = .ok (.iload_n 2, 1) := by decide +kernel
theorem dX4_coded_71 : decode cX4_coded 71 = .ok (.ireturn, 1) := by decide +kernel
set_option maxRecDepth 20000 in
theorem ggX4_total_X4_isOther : GoodIn wsX4_total wsX4_isOther := goodIn_r _ [10, 5, 11, 12, 9, 13, 24, 25, 26, 27, 28, 29, 30, 31, 32, 33, 34, 35, 36, 37, 38, 39, 40, 41, 42, 43, 44, 45, 46, 47, 48, 49, 50, 51, 52, 53, 54, 55, 56, 57] (by decide +kernel) (by decide +kernel)
set_option maxRecDepth 20000 in
theorem gX4_total_X4_isOther : GoodIn wsX4_total (wsV RX4 113 RX4 yX4_isOther wsX4_isOther) := goodIn_app (goodIn_of _ (by decide +kernel)) ggX4_total_X4_isOther
set_option maxRecDepth 20000 in
theorem ggX4_total_X4_in : GoodIn wsX4_total wsX4_in := goodIn_r _ [13] (by decide +kernel) (by decide +kernel)
set_option maxRecDepth 20000 in
theorem gX4_total_X4_in : GoodIn wsX4_total (va_wsS RX4 7 yX4_in wsX4_in) := goodIn_app (goodIn_of _ (by decide +kernel)) ggX4_total_X4_in
set_option maxRecDepth 20000 in
theorem ggX4_total_X4_isItem : GoodIn wsX4_total wsX4_isItem := goodIn_r _ [17, 1, 18, 11, 12, 9, 13, 24, 25, 26, 27, 28, 29, 30, 31, 32, 33, 34, 35, 36, 37, 38, 39, 40, 41, 42, 43, 44, 45, 46, 47, 48, 49, 50, 51, 52, 53, 54, 55, 56, 57] (by decide +kernel) (by decide +kernel)
set_option maxRecDepth 20000 in
theorem gX4_total_X4_isItem : GoodIn wsX4_total (wsV RX4 123 RX4 yX4_isItem wsX4_isItem) := goodIn_app (goodIn_of _ (by decide +kernel)) ggX4_total_X4_isItem
set_option maxRecDepth 20000 in
theorem ggX4_total_X4_isOtherBelow : GoodIn wsX4_total wsX4_isOtherBelow := goodIn_r _ [22, 23, 24, 25, 26, 27, 28, 29, 30, 31, 32, 33, 34, 35, 36, 37, 38, 39, 40, 41, 42, 43, 44, 45, 46, 47, 48, 49, 50, 51, 52, 53, 54, 55, 56, 57] (by decide +kernel) (by decide +kernel)
set_option maxRecDepth 20000 in
theorem gX4_total_X4_isOtherBelow : GoodIn wsX4_total (wsV RX4 190 RX4 yX4_isOtherBelow wsX4_isOtherBelow) := goodIn_app (goodIn_of _ (by decide +kernel)) ggX4_total_X4_isOtherBelow
theorem dX4_total_0 : decode cX4_total 0 = .ok (.aload_n 0, 1) := by decide +kernel
theorem dX4_total_1 : decode cX4_total 1 = .ok (.iload_n 1, 1) := by decide +kernel
theorem dX4_total_2 : decode cX4_total 2 = .ok (.invokevirtual 113, 3) := by decide +kernel
theorem dX4_total_5 : decode cX4_total 5 = .ok (.ifCond .eq 12, 3) := by decide +kernel
theorem dX4_total_8 : decode cX4_total 8 = .ok (.iload_n 2, 1) := by decide +kernel
theorem dX4_total_9 : decode cX4_total 9 = .ok (.iconst 0, 1) := by decide +kernel
theorem dX4_total_10 : decode cX4_total 10 = .ok (.iconst 1, 1) := by decide +kernel
theorem dX4_total_11 : decode cX4_total 11 = .ok (.invokestatic 7, 3) := by decide +kernel
theorem dX4_total_14 : decode cX4_total 14 = .ok (.ifCond .ne 5, 3) := by decide +kernel
theorem dX4_total_17 : decode cX4_total 17 = .ok (.iconst (-1), 1) := by decide +kernel
theorem dX4_total_18 : decode cX4_total 18 = .ok (.ireturn, 1) := by decide +kernel
theorem dX4_total_19 : decode cX4_total 19 = .ok (.iconst 0, 1) := by decide +kernel
theorem dX4_total_20 : decode cX4_total 20 = .ok (.istore_n 3, 1) := by decide +kernel
theorem dX4_total_21 : decode cX4_total 21 = .ok (.iconst 0, 1) := by decide +kernel
theorem dX4_total_22 : decode cX4_total 22 = .ok (.istore 4, 2) := by decide +kernel
theorem dX4_total_24 : decode cX4_total 24 = .ok (.iload 4, 2) := by decide +kernel
theorem dX4_total_26 : decode cX4_total 26 = .ok (.iconst 2, 1) := by decide +kernel
theorem dX4_total_27 : decode cX4_total 27 = .ok (.aload_n 0, 1) := by decide +kernel
theorem dX4_total_28 : decode cX4_total 28 = .ok (.getfield 116, 3) := by decide +kernel
theorem dX4_total_31 : decode cX4_total 31 = .ok (.imul, 1) := by decide +kernel
theorem dX4_total_32 : decode cX4_total 32 = .ok (.if_icmp .ge 162, 3) := by decide +kernel
theorem dX4_total_35 : decode cX4_total 35 = .ok (.aload_n 0, 1) := by decide +kernel
theorem dX4_total_36 : decode cX4_total 36 = .ok (.iload 4, 2) := by decide +kernel
theorem dX4_total_38 : decode cX4_total 38 = .ok (.invokevirtual 123, 3) := by decide +kernel
theorem dX4_total_41 : decode cX4_total 41 = .ok (.ifCond .eq 147, 3) := by decide +kernel
theorem dX4_total_44 : decode cX4_total 44 = .ok (.aload_n 0, 1) := by decide +kernel
theorem dX4_total_45 : decode cX4_total 45 = .ok (.getfield 46, 3) := by decide +kernel
theorem dX4_total_48 : decode cX4_total 48 = .ok (.iload 4, 2) := by decide +kernel
theorem dX4_total_50 : decode cX4_total 50 = .ok (.iaload, 1) := by decide +kernel
theorem dX4_total_51 : decode cX4_total 51 = .ok (.iconst 1, 1) := by decide +kernel
theorem dX4_total_52 : decode cX4_total 52 = .ok (.if_icmp .ne 136, 3) := by decide +kernel
theorem dX4_total_55 : decode cX4_total 55 = .ok (.aload_n 0, 1) := by decide +kernel
theorem dX4_total_56 : decode cX4_total 56 = .ok (.getfield 31, 3) := by decide +kernel
theorem dX4_total_59 : decode cX4_total 59 = .ok (.aload_n 0, 1) := by decide +kernel
theorem dX4_total_60 : decode cX4_total 60 = .ok (.getfield 49, 3) := by decide +kernel
theorem dX4_total_63 : decode cX4_total 63 = .ok (.iload 4, 2) := by decide +kernel
theorem dX4_total_65 : decode cX4_total 65 = .ok (.iaload, 1) := by decide +kernel
theorem dX4_total_66 : decode cX4_total 66 = .ok (.iaload, 1) := by decide +kernel
theorem dX4_total_67 : decode cX4_total 67 = .ok (.ifCond .ne 6, 3) := by decide +kernel
theorem dX4_total_70 : decode cX4_total 70 = .ok (.goto 118, 3) := by decide +kernel
theorem dX4_total_73 : decode cX4_total 73 = .ok (.iconst 1, 1) := by decide +kernel
theorem dX4_total_74 : decode cX4_total 74 = .ok (.istore 5, 2) := by decide +kernel
theorem dX4_total_76 : decode cX4_total 76 = .ok (.iconst 0, 1) := by decide +kernel
theorem dX4_total_77 : decode cX4_total 77 = .ok (.istore 6, 2) := by decide +kernel
theorem dX4_total_79 : decode cX4_total 79 = .ok (.iconst 0, 1) := by decide +kernel
theorem dX4_total_80 : decode cX4_total 80 = .ok (.istore 7, 2) := by decide +kernel
theorem dX4_total_82 : decode cX4_total 82 = .ok (.iload 7, 2) := by decide +kernel
theorem dX4_total_84 : decode cX4_total 84 = .ok (.aload_n 0, 1) := by decide +kernel
theorem dX4_total_85 : decode cX4_total 85 = .ok (.getfield 101, 3) := by decide +kernel
theorem dX4_total_88 : decode cX4_total 88 = .ok (.if_icmp .ge 75, 3) := by decide +kernel
theorem dX4_total_91 : decode cX4_total 91 = .ok (.aload_n 0, 1) := by decide +kernel
theorem dX4_total_92 : decode cX4_total 92 = .ok (.getfield 31, 3) := by decide +kernel
theorem dX4_total_95 : decode cX4_total 95 = .ok (.aload_n 0, 1) := by decide +kernel
theorem dX4_total_96 : decode cX4_total 96 = .ok (.getfield 49, 3) := by decide +kernel
theorem dX4_total_99 : decode cX4_total 99 = .ok (.iload 4, 2) := by decide +kernel
theorem dX4_total_101 : decode cX4_total 101 = .ok (.iaload, 1) := by decide +kernel
theorem dX4_total_102 : decode cX4_total 102 = .ok (.iaload, 1) := by decide +kernel
theorem dX4_total_103 : decode cX4_total 103 = .ok (.iload 7, 2) := by decide +kernel
theorem dX4_total_105 : decode cX4_total 105 = .ok (.ishr, 1) := by decide +kernel
theorem dX4_total_106 : decode cX4_total 106 = .ok (.iconst 1, 1) := by decide +kernel
theorem dX4_total_107 : decode cX4_total 107 = .ok (.iand, 1) := by decide +kernel
theorem dX4_total_108 : decode cX4_total 108 = .ok (.ifCond .ne 6, 3) := by decide +kernel
theorem dX4_total_111 : decode cX4_total 111 = .ok (.goto 46, 3) := by decide +kernel
theorem dX4_total_114 : decode cX4_total 114 = .ok (.aload_n 0, 1) := by decide +kernel
theorem dX4_total_115 : decode cX4_total 115 = .ok (.iload 7, 2) := by decide +kernel
theorem dX4_total_117 : decode cX4_total 117 = .ok (.iload_n 1, 1) := by decide +kernel
theorem dX4_total_118 : decode cX4_total 118 = .ok (.invokevirtual 190, 3) := by decide +kernel
theorem dX4_total_121 : decode cX4_total 121 = .ok (.istore 8, 2) := by decide +kernel
theorem dX4_total_123 : decode cX4_total 123 = .ok (.iload 5, 2) := by decide +kernel
theorem dX4_total_125 : decode cX4_total 125 = .ok (.ifCond .eq 12, 3) := by decide +kernel
theorem dX4_total_128 : decode cX4_total 128 = .ok (.iload 8, 2) := by decide +kernel
theorem dX4_total_130 : decode cX4_total 130 = .ok (.ifCond .eq 7, 3) := by decide +kernel
theorem dX4_total_133 : decode cX4_total 133 = .ok (.iconst 1, 1) := by decide +kernel
theorem dX4_total_134 : decode cX4_total 134 = .ok (.goto 4, 3) := by decide +kernel
theorem dX4_total_137 : decode cX4_total 137 = .ok (.iconst 0, 1) := by decide +kernel
theorem dX4_total_138 : decode cX4_total 138 = .ok (.istore 5, 2) := by decide +kernel
theorem dX4_total_140 : decode cX4_total 140 = .ok (.iload 6, 2) := by decide +kernel
theorem dX4_total_142 : decode cX4_total 142 = .ok (.ifCond .ne 8, 3) := by decide +kernel
theorem dX4_total_145 : decode cX4_total 145 = .ok (.iload 8, 2) := by decide +kernel
theorem dX4_total_147 : decode cX4_total 147 = .ok (.ifCond .eq 7, 3) := by decide +kernel
theorem dX4_total_150 : decode cX4_total 150 = .ok (.iconst 1, 1) := by decide +kernel
theorem dX4_total_151 : decode cX4_total 151 = .ok (.goto 4, 3) := by decide +kernel
theorem dX4_total_154 : decode cX4_total 154 = .ok (.iconst 0, 1) := by decide +kernel
theorem dX4_total_155 : decode cX4_total 155 = .ok (.istore 6, 2) := by decide +kernel
theorem dX4_total_157 : decode cX4_total 157 = .ok (.iinc 7 1, 3) := by decide +kernel
theorem dX4_total_160 : decode cX4_total 160 = .ok (.goto (-78), 3) := by decide +kernel
theorem dX4_total_163 : decode cX4_total 163 = .ok (.iload_n 3, 1) := by decide +kernel
theorem dX4_total_164 : decode cX4_total 164 = .ok (.iload_n 2, 1) := by decide +kernel
theorem dX4_total_165 : decode cX4_total 165 = .ok (.ifCond .ne 11, 3) := by decide +kernel
theorem dX4_total_168 : decode cX4_total 168 = .ok (.iload 5, 2) := by decide +kernel
theorem dX4_total_170 : decode cX4_total 170 = .ok (.ifCond .eq 15, 3) := by decide +kernel
theorem dX4_total_173 : decode cX4_total 173 = .ok (.goto 8, 3) := by decide +kernel
theorem dX4_total_176 : decode cX4_total 176 = .ok (.iload 6, 2) := by decide +kernel
theorem dX4_total_178 : decode cX4_total 178 = .ok (.ifCond .eq 7, 3) := by decide +kernel
theorem dX4_total_181 : decode cX4_total 181 = .ok (.iconst 1, 1) := by decide +kernel
theorem dX4_total_182 : decode cX4_total 182 = .ok (.goto 4, 3) := by decide +kernel
theorem dX4_total_185 : decode cX4_total 185 = .ok (.iconst 0, 1) := by decide +kernel
theorem dX4_total_186 : decode cX4_total 186 = .ok (.iadd, 1) := by decide +kernel
theorem dX4_total_187 : decode cX4_total 187 = .ok (.istore_n 3, 1) := by decide +kernel
theorem dX4_total_188 : decode cX4_total 188 = .ok (.iinc 4 1, 3) := by decide +kernel
theorem dX4_total_191 : decode cX4_total 191 = .ok (.goto (-167), 3) := by decide +kernel
theorem dX4_total_194 : decode cX4_total 194 = .ok (.iload_n 3, 1) := by decide +kernel
theorem dX4_total_195 : decode cX4_total 195 = .ok (.ireturn, 1) := by decide +kernel
set_option maxRecDepth 20000 in
theorem ggX4_agree_X4_isItem : GoodIn wsX4_agree wsX4_isItem := goodIn_r _ [11, 1, 12, 13, 14, 10, 15, 16, 17, 18, 19, 20, 21, 22, 23, 24, 25, 26, 27, 28, 29, 30, 31, 32, 33, 34, 35, 36, 37, 38, 39, 40, 41, 42, 43, 44, 45, 46, 47, 48, 49] (by decide +kernel) (by decide +kernel)
set_option maxRecDepth 20000 in
theorem gX4_agree_X4_isItem : GoodIn wsX4_agree (wsV RX4 123 RX4 yX4_isItem wsX4_isItem) := goodIn_app (goodIn_of _ (by decide +kernel)) ggX4_agree_X4_isItem
theorem dX4_agree_0 : decode cX4_agree 0 = .ok (.lconst 0, 1) := by decide +kernel
theorem dX4_agree_1 : decode cX4_agree 1 = .ok (.lstore_n 2, 1) := by decide +kernel
theorem dX4_agree_2 : decode cX4_agree 2 = .ok (.lconst 0, 1) := by decide +kernel
theorem dX4_agree_3 : decode cX4_agree 3 = .ok (.lstore 4, 2) := by decide +kernel
theorem dX4_agree_5 : decode cX4_agree 5 = .ok (.lconst 0, 1) := by decide +kernel
theorem dX4_agree_6 : decode cX4_agree 6 = .ok (.lstore 6, 2) := by decide +kernel
theorem dX4_agree_8 : decode cX4_agree 8 = .ok (.lconst 0, 1) := by decide +kernel
theorem dX4_agree_9 : decode cX4_agree 9 = .ok (.lstore 8, 2) := by decide +kernel
theorem dX4_agree_11 : decode cX4_agree 11 = .ok (.iconst 0, 1) := by decide +kernel
theorem dX4_agree_12 : decode cX4_agree 12 = .ok (.istore 10, 2) := by decide +kernel
theorem dX4_agree_14 : decode cX4_agree 14 = .ok (.iload 10, 2) := by decide +kernel
theorem dX4_agree_16 : decode cX4_agree 16 = .ok (.iconst 2, 1) := by decide +kernel
theorem dX4_agree_17 : decode cX4_agree 17 = .ok (.aload_n 0, 1) := by decide +kernel
theorem dX4_agree_18 : decode cX4_agree 18 = .ok (.getfield 116, 3) := by decide +kernel
theorem dX4_agree_21 : decode cX4_agree 21 = .ok (.imul, 1) := by decide +kernel
theorem dX4_agree_22 : decode cX4_agree 22 = .ok (.if_icmp .ge 138, 3) := by decide +kernel
theorem dX4_agree_25 : decode cX4_agree 25 = .ok (.aload_n 0, 1) := by decide +kernel
theorem dX4_agree_26 : decode cX4_agree 26 = .ok (.iload 10, 2) := by decide +kernel
theorem dX4_agree_28 : decode cX4_agree 28 = .ok (.invokevirtual 123, 3) := by decide +kernel
theorem dX4_agree_31 : decode cX4_agree 31 = .ok (.ifCond .eq 123, 3) := by decide +kernel
theorem dX4_agree_34 : decode cX4_agree 34 = .ok (.aload_n 0, 1) := by decide +kernel
theorem dX4_agree_35 : decode cX4_agree 35 = .ok (.getfield 46, 3) := by decide +kernel
theorem dX4_agree_38 : decode cX4_agree 38 = .ok (.iload 10, 2) := by decide +kernel
theorem dX4_agree_40 : decode cX4_agree 40 = .ok (.iaload, 1) := by decide +kernel
theorem dX4_agree_41 : decode cX4_agree 41 = .ok (.iconst 1, 1) := by decide +kernel
theorem dX4_agree_42 : decode cX4_agree 42 = .ok (.if_icmp .eq 6, 3) := by decide +kernel
theorem dX4_agree_45 : decode cX4_agree 45 = .ok (.goto 109, 3) := by decide +kernel
theorem dX4_agree_48 : decode cX4_agree 48 = .ok (.aload_n 0, 1) := by decide +kernel
theorem dX4_agree_49 : decode cX4_agree 49 = .ok (.getfield 58, 3) := by decide +kernel
theorem dX4_agree_52 : decode cX4_agree 52 = .ok (.iload 10, 2) := by decide +kernel
theorem dX4_agree_54 : decode cX4_agree 54 = .ok (.iaload, 1) := by decide +kernel
theorem dX4_agree_55 : decode cX4_agree 55 = .ok (.ifCond .ge 12, 3) := by decide +kernel
theorem dX4_agree_58 : decode cX4_agree 58 = .ok (.lload 8, 2) := by decide +kernel
theorem dX4_agree_60 : decode cX4_agree 60 = .ok (.lconst 1, 1) := by decide +kernel
theorem dX4_agree_61 : decode cX4_agree 61 = .ok (.ladd, 1) := by decide +kernel
theorem dX4_agree_62 : decode cX4_agree 62 = .ok (.lstore 8, 2) := by decide +kernel
theorem dX4_agree_64 : decode cX4_agree 64 = .ok (.goto 90, 3) := by decide +kernel
theorem dX4_agree_67 : decode cX4_agree 67 = .ok (.lload_n 2, 1) := by decide +kernel
theorem dX4_agree_68 : decode cX4_agree 68 = .ok (.lconst 1, 1) := by decide +kernel
theorem dX4_agree_69 : decode cX4_agree 69 = .ok (.ladd, 1) := by decide +kernel
theorem dX4_agree_70 : decode cX4_agree 70 = .ok (.lstore_n 2, 1) := by decide +kernel
theorem dX4_agree_71 : decode cX4_agree 71 = .ok (.lload 4, 2) := by decide +kernel
theorem dX4_agree_73 : decode cX4_agree 73 = .ok (.aload_n 0, 1) := by decide +kernel
theorem dX4_agree_74 : decode cX4_agree 74 = .ok (.getfield 58, 3) := by decide +kernel
theorem dX4_agree_77 : decode cX4_agree 77 = .ok (.iload 10, 2) := by decide +kernel
theorem dX4_agree_79 : decode cX4_agree 79 = .ok (.iaload, 1) := by decide +kernel
theorem dX4_agree_80 : decode cX4_agree 80 = .ok (.aload_n 0, 1) := by decide +kernel
theorem dX4_agree_81 : decode cX4_agree 81 = .ok (.getfield 49, 3) := by decide +kernel
theorem dX4_agree_84 : decode cX4_agree 84 = .ok (.iload 10, 2) := by decide +kernel
theorem dX4_agree_86 : decode cX4_agree 86 = .ok (.iaload, 1) := by decide +kernel
theorem dX4_agree_87 : decode cX4_agree 87 = .ok (.if_icmp .ne 7, 3) := by decide +kernel
theorem dX4_agree_90 : decode cX4_agree 90 = .ok (.lconst 1, 1) := by decide +kernel
theorem dX4_agree_91 : decode cX4_agree 91 = .ok (.goto 4, 3) := by decide +kernel
theorem dX4_agree_94 : decode cX4_agree 94 = .ok (.lconst 0, 1) := by decide +kernel
theorem dX4_agree_95 : decode cX4_agree 95 = .ok (.ladd, 1) := by decide +kernel
theorem dX4_agree_96 : decode cX4_agree 96 = .ok (.lstore 4, 2) := by decide +kernel
theorem dX4_agree_98 : decode cX4_agree 98 = .ok (.iconst 0, 1) := by decide +kernel
theorem dX4_agree_99 : decode cX4_agree 99 = .ok (.istore 11, 2) := by decide +kernel
theorem dX4_agree_101 : decode cX4_agree 101 = .ok (.iload 11, 2) := by decide +kernel
theorem dX4_agree_103 : decode cX4_agree 103 = .ok (.iconst 2, 1) := by decide +kernel
theorem dX4_agree_104 : decode cX4_agree 104 = .ok (.aload_n 0, 1) := by decide +kernel
theorem dX4_agree_105 : decode cX4_agree 105 = .ok (.getfield 116, 3) := by decide +kernel
theorem dX4_agree_108 : decode cX4_agree 108 = .ok (.imul, 1) := by decide +kernel
theorem dX4_agree_109 : decode cX4_agree 109 = .ok (.if_icmp .ge 45, 3) := by decide +kernel
theorem dX4_agree_112 : decode cX4_agree 112 = .ok (.lload 6, 2) := by decide +kernel
theorem dX4_agree_114 : decode cX4_agree 114 = .ok (.aload_n 0, 1) := by decide +kernel
theorem dX4_agree_115 : decode cX4_agree 115 = .ok (.iload 11, 2) := by decide +kernel
theorem dX4_agree_117 : decode cX4_agree 117 = .ok (.invokevirtual 123, 3) := by decide +kernel
theorem dX4_agree_120 : decode cX4_agree 120 = .ok (.ifCond .eq 24, 3) := by decide +kernel
theorem dX4_agree_123 : decode cX4_agree 123 = .ok (.aload_n 0, 1) := by decide +kernel
theorem dX4_agree_124 : decode cX4_agree 124 = .ok (.getfield 58, 3) := by decide +kernel
theorem dX4_agree_127 : decode cX4_agree 127 = .ok (.iload 11, 2) := by decide +kernel
theorem dX4_agree_129 : decode cX4_agree 129 = .ok (.iaload, 1) := by decide +kernel
theorem dX4_agree_130 : decode cX4_agree 130 = .ok (.aload_n 0, 1) := by decide +kernel
theorem dX4_agree_131 : decode cX4_agree 131 = .ok (.getfield 49, 3) := by decide +kernel
theorem dX4_agree_134 : decode cX4_agree 134 = .ok (.iload 10, 2) := by decide +kernel
theorem dX4_agree_136 : decode cX4_agree 136 = .ok (.iaload, 1) := by decide +kernel
theorem dX4_agree_137 : decode cX4_agree 137 = .ok (.if_icmp .ne 7, 3) := by decide +kernel
theorem dX4_agree_140 : decode cX4_agree 140 = .ok (.lconst 1, 1) := by decide +kernel
theorem dX4_agree_141 : decode cX4_agree 141 = .ok (.goto 4, 3) := by decide +kernel
theorem dX4_agree_144 : decode cX4_agree 144 = .ok (.lconst 0, 1) := by decide +kernel
theorem dX4_agree_145 : decode cX4_agree 145 = .ok (.ladd, 1) := by decide +kernel
theorem dX4_agree_146 : decode cX4_agree 146 = .ok (.lstore 6, 2) := by decide +kernel
theorem dX4_agree_148 : decode cX4_agree 148 = .ok (.iinc 11 1, 3) := by decide +kernel
theorem dX4_agree_151 : decode cX4_agree 151 = .ok (.goto (-50), 3) := by decide +kernel
theorem dX4_agree_154 : decode cX4_agree 154 = .ok (.iinc 10 1, 3) := by decide +kernel
theorem dX4_agree_157 : decode cX4_agree 157 = .ok (.goto (-143), 3) := by decide +kernel
theorem dX4_agree_160 : decode cX4_agree 160 = .ok (.iload_n 1, 1) := by decide +kernel
theorem dX4_agree_161 : decode cX4_agree 161 = .ok (.tableswitch 84 0 5 #[39, 41, 44, 52, 59, 78], 39) := by decide +kernel
theorem dX4_agree_200 : decode cX4_agree 200 = .ok (.lload_n 2, 1) := by decide +kernel
theorem dX4_agree_201 : decode cX4_agree 201 = .ok (.lreturn, 1) := by decide +kernel
theorem dX4_agree_202 : decode cX4_agree 202 = .ok (.lload 4, 2) := by decide +kernel
theorem dX4_agree_204 : decode cX4_agree 204 = .ok (.lreturn, 1) := by decide +kernel
theorem dX4_agree_205 : decode cX4_agree 205 = .ok (.lload_n 2, 1) := by decide +kernel
theorem dX4_agree_206 : decode cX4_agree 206 = .ok (.lload 4, 2) := by decide +kernel
theorem dX4_agree_208 : decode cX4_agree 208 = .ok (.lmul, 1) := by decide +kernel
theorem dX4_agree_209 : decode cX4_agree 209 = .ok (.lload 6, 2) := by decide +kernel
theorem dX4_agree_211 : decode cX4_agree 211 = .ok (.lsub, 1) := by decide +kernel
theorem dX4_agree_212 : decode cX4_agree 212 = .ok (.lreturn, 1) := by decide +kernel
theorem dX4_agree_213 : decode cX4_agree 213 = .ok (.lload_n 2, 1) := by decide +kernel
theorem dX4_agree_214 : decode cX4_agree 214 = .ok (.lload_n 2, 1) := by decide +kernel
theorem dX4_agree_215 : decode cX4_agree 215 = .ok (.lmul, 1) := by decide +kernel
theorem dX4_agree_216 : decode cX4_agree 216 = .ok (.lload 6, 2) := by decide +kernel
theorem dX4_agree_218 : decode cX4_agree 218 = .ok (.lsub, 1) := by decide +kernel
theorem dX4_agree_219 : decode cX4_agree 219 = .ok (.lreturn, 1) := by decide +kernel
theorem dX4_agree_220 : decode cX4_agree 220 = .ok (.aload_n 0, 1) := by decide +kernel
theorem dX4_agree_221 : decode cX4_agree 221 = .ok (.getfield 98, 3) := by decide +kernel
theorem dX4_agree_224 : decode cX4_agree 224 = .ok (.iconst 1, 1) := by decide +kernel
theorem dX4_agree_225 : decode cX4_agree 225 = .ok (.if_icmp .le 8, 3) := by decide +kernel
theorem dX4_agree_228 : decode cX4_agree 228 = .ok (.lload 4, 2) := by decide +kernel
theorem dX4_agree_230 : decode cX4_agree 230 = .ok (.goto 8, 3) := by decide +kernel
theorem dX4_agree_233 : decode cX4_agree 233 = .ok (.lload 4, 2) := by decide +kernel
theorem dX4_agree_235 : decode cX4_agree 235 = .ok (.lload 8, 2) := by decide +kernel
theorem dX4_agree_237 : decode cX4_agree 237 = .ok (.ladd, 1) := by decide +kernel
theorem dX4_agree_238 : decode cX4_agree 238 = .ok (.lreturn, 1) := by decide +kernel
theorem dX4_agree_239 : decode cX4_agree 239 = .ok (.lload 4, 2) := by decide +kernel
theorem dX4_agree_241 : decode cX4_agree 241 = .ok (.lload 8, 2) := by decide +kernel
theorem dX4_agree_243 : decode cX4_agree 243 = .ok (.ladd, 1) := by decide +kernel
theorem dX4_agree_244 : decode cX4_agree 244 = .ok (.lreturn, 1) := by decide +kernel
theorem dX4_agree_245 : decode cX4_agree 245 = .ok (.ldc2_w 193, 3) := by decide +kernel
theorem dX4_agree_248 : decode cX4_agree 248 = .ok (.lreturn, 1) := by decide +kernel
