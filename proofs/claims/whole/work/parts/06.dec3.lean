set_option maxRecDepth 20000 in
theorem ggX3_countCodedWith_X3_isCode : GoodIn wsX3_countCodedWith wsX3_isCode := goodIn_r _ [7, 8, 9, 10, 11, 12, 13, 14, 15, 19, 20, 21, 22, 23, 24, 25, 26, 27, 28, 29, 30, 43, 44, 45] (by decide +kernel) (by decide +kernel)
set_option maxRecDepth 20000 in
theorem gX3_countCodedWith_X3_isCode : GoodIn wsX3_countCodedWith (wsV RX3 64 RX3 yX3_isCode wsX3_isCode) := goodIn_app (goodIn_of _ (by decide +kernel)) ggX3_countCodedWith_X3_isCode
set_option maxRecDepth 20000 in
theorem ggX3_countCodedWith_X3_bit : GoodIn wsX3_countCodedWith wsX3_bit := goodIn_r _ [18] (by decide +kernel) (by decide +kernel)
set_option maxRecDepth 20000 in
theorem gX3_countCodedWith_X3_bit : GoodIn wsX3_countCodedWith (va_wsS RX3 75 yX3_bit wsX3_bit) := goodIn_app (goodIn_of _ (by decide +kernel)) ggX3_countCodedWith_X3_bit
theorem dX3_countCodedWith_0 : decode cX3_countCodedWith 0 = .ok (.iconst 0, 1) := by decide +kernel
theorem dX3_countCodedWith_1 : decode cX3_countCodedWith 1 = .ok (.istore_n 3, 1) := by decide +kernel
theorem dX3_countCodedWith_2 : decode cX3_countCodedWith 2 = .ok (.iconst 0, 1) := by decide +kernel
theorem dX3_countCodedWith_3 : decode cX3_countCodedWith 3 = .ok (.istore 4, 2) := by decide +kernel
theorem dX3_countCodedWith_5 : decode cX3_countCodedWith 5 = .ok (.iload 4, 2) := by decide +kernel
theorem dX3_countCodedWith_7 : decode cX3_countCodedWith 7 = .ok (.aload_n 0, 1) := by decide +kernel
theorem dX3_countCodedWith_8 : decode cX3_countCodedWith 8 = .ok (.getfield 34, 3) := by decide +kernel
theorem dX3_countCodedWith_11 : decode cX3_countCodedWith 11 = .ok (.arraylength, 1) := by decide +kernel
theorem dX3_countCodedWith_12 : decode cX3_countCodedWith 12 = .ok (.if_icmp .ge 51, 3) := by decide +kernel
theorem dX3_countCodedWith_15 : decode cX3_countCodedWith 15 = .ok (.aload_n 0, 1) := by decide +kernel
theorem dX3_countCodedWith_16 : decode cX3_countCodedWith 16 = .ok (.getfield 34, 3) := by decide +kernel
theorem dX3_countCodedWith_19 : decode cX3_countCodedWith 19 = .ok (.iload 4, 2) := by decide +kernel
theorem dX3_countCodedWith_21 : decode cX3_countCodedWith 21 = .ok (.aaload, 1) := by decide +kernel
theorem dX3_countCodedWith_22 : decode cX3_countCodedWith 22 = .ok (.astore 5, 2) := by decide +kernel
theorem dX3_countCodedWith_24 : decode cX3_countCodedWith 24 = .ok (.aload 5, 2) := by decide +kernel
theorem dX3_countCodedWith_26 : decode cX3_countCodedWith 26 = .ok (.ifnull 31, 3) := by decide +kernel
theorem dX3_countCodedWith_29 : decode cX3_countCodedWith 29 = .ok (.aload_n 0, 1) := by decide +kernel
theorem dX3_countCodedWith_30 : decode cX3_countCodedWith 30 = .ok (.aload 5, 2) := by decide +kernel
theorem dX3_countCodedWith_32 : decode cX3_countCodedWith 32 = .ok (.getfield 194, 3) := by decide +kernel
theorem dX3_countCodedWith_35 : decode cX3_countCodedWith 35 = .ok (.invokevirtual 64, 3) := by decide +kernel
theorem dX3_countCodedWith_38 : decode cX3_countCodedWith 38 = .ok (.ifCond .eq 19, 3) := by decide +kernel
theorem dX3_countCodedWith_41 : decode cX3_countCodedWith 41 = .ok (.lload_n 1, 1) := by decide +kernel
theorem dX3_countCodedWith_42 : decode cX3_countCodedWith 42 = .ok (.aload 5, 2) := by decide +kernel
theorem dX3_countCodedWith_44 : decode cX3_countCodedWith 44 = .ok (.getfield 194, 3) := by decide +kernel
theorem dX3_countCodedWith_47 : decode cX3_countCodedWith 47 = .ok (.invokestatic 75, 3) := by decide +kernel
theorem dX3_countCodedWith_50 : decode cX3_countCodedWith 50 = .ok (.iconst 1, 1) := by decide +kernel
theorem dX3_countCodedWith_51 : decode cX3_countCodedWith 51 = .ok (.if_icmp .ne 6, 3) := by decide +kernel
theorem dX3_countCodedWith_54 : decode cX3_countCodedWith 54 = .ok (.iinc 3 1, 3) := by decide +kernel
theorem dX3_countCodedWith_57 : decode cX3_countCodedWith 57 = .ok (.iinc 4 1, 3) := by decide +kernel
theorem dX3_countCodedWith_60 : decode cX3_countCodedWith 60 = .ok (.goto (-55), 3) := by decide +kernel
theorem dX3_countCodedWith_63 : decode cX3_countCodedWith 63 = .ok (.iload_n 3, 1) := by decide +kernel
theorem dX3_countCodedWith_64 : decode cX3_countCodedWith 64 = .ok (.ireturn, 1) := by decide +kernel
theorem dX3_countSeconds_0 : decode cX3_countSeconds 0 = .ok (.iconst 0, 1) := by decide +kernel
theorem dX3_countSeconds_1 : decode cX3_countSeconds 1 = .ok (.istore_n 1, 1) := by decide +kernel
theorem dX3_countSeconds_2 : decode cX3_countSeconds 2 = .ok (.iconst 0, 1) := by decide +kernel
theorem dX3_countSeconds_3 : decode cX3_countSeconds 3 = .ok (.istore_n 2, 1) := by decide +kernel
theorem dX3_countSeconds_4 : decode cX3_countSeconds 4 = .ok (.iload_n 2, 1) := by decide +kernel
theorem dX3_countSeconds_5 : decode cX3_countSeconds 5 = .ok (.aload_n 0, 1) := by decide +kernel
theorem dX3_countSeconds_6 : decode cX3_countSeconds 6 = .ok (.getfield 34, 3) := by decide +kernel
theorem dX3_countSeconds_9 : decode cX3_countSeconds 9 = .ok (.arraylength, 1) := by decide +kernel
theorem dX3_countSeconds_10 : decode cX3_countSeconds 10 = .ok (.if_icmp .ge 34, 3) := by decide +kernel
theorem dX3_countSeconds_13 : decode cX3_countSeconds 13 = .ok (.aload_n 0, 1) := by decide +kernel
theorem dX3_countSeconds_14 : decode cX3_countSeconds 14 = .ok (.getfield 34, 3) := by decide +kernel
theorem dX3_countSeconds_17 : decode cX3_countSeconds 17 = .ok (.iload_n 2, 1) := by decide +kernel
theorem dX3_countSeconds_18 : decode cX3_countSeconds 18 = .ok (.aaload, 1) := by decide +kernel
theorem dX3_countSeconds_19 : decode cX3_countSeconds 19 = .ok (.ifnull 19, 3) := by decide +kernel
theorem dX3_countSeconds_22 : decode cX3_countSeconds 22 = .ok (.aload_n 0, 1) := by decide +kernel
theorem dX3_countSeconds_23 : decode cX3_countSeconds 23 = .ok (.getfield 34, 3) := by decide +kernel
theorem dX3_countSeconds_26 : decode cX3_countSeconds 26 = .ok (.iload_n 2, 1) := by decide +kernel
theorem dX3_countSeconds_27 : decode cX3_countSeconds 27 = .ok (.aaload, 1) := by decide +kernel
theorem dX3_countSeconds_28 : decode cX3_countSeconds 28 = .ok (.getfield 191, 3) := by decide +kernel
theorem dX3_countSeconds_31 : decode cX3_countSeconds 31 = .ok (.iconst (-1), 1) := by decide +kernel
theorem dX3_countSeconds_32 : decode cX3_countSeconds 32 = .ok (.if_icmp .eq 6, 3) := by decide +kernel
theorem dX3_countSeconds_35 : decode cX3_countSeconds 35 = .ok (.iinc 1 1, 3) := by decide +kernel
theorem dX3_countSeconds_38 : decode cX3_countSeconds 38 = .ok (.iinc 2 1, 3) := by decide +kernel
theorem dX3_countSeconds_41 : decode cX3_countSeconds 41 = .ok (.goto (-37), 3) := by decide +kernel
theorem dX3_countSeconds_44 : decode cX3_countSeconds 44 = .ok (.iload_n 1, 1) := by decide +kernel
theorem dX3_countSeconds_45 : decode cX3_countSeconds 45 = .ok (.ireturn, 1) := by decide +kernel
theorem dX3_countAgreeing_0 : decode cX3_countAgreeing 0 = .ok (.iconst 0, 1) := by decide +kernel
theorem dX3_countAgreeing_1 : decode cX3_countAgreeing 1 = .ok (.istore_n 1, 1) := by decide +kernel
theorem dX3_countAgreeing_2 : decode cX3_countAgreeing 2 = .ok (.iconst 0, 1) := by decide +kernel
theorem dX3_countAgreeing_3 : decode cX3_countAgreeing 3 = .ok (.istore_n 2, 1) := by decide +kernel
theorem dX3_countAgreeing_4 : decode cX3_countAgreeing 4 = .ok (.iload_n 2, 1) := by decide +kernel
theorem dX3_countAgreeing_5 : decode cX3_countAgreeing 5 = .ok (.aload_n 0, 1) := by decide +kernel
theorem dX3_countAgreeing_6 : decode cX3_countAgreeing 6 = .ok (.getfield 34, 3) := by decide +kernel
theorem dX3_countAgreeing_9 : decode cX3_countAgreeing 9 = .ok (.arraylength, 1) := by decide +kernel
theorem dX3_countAgreeing_10 : decode cX3_countAgreeing 10 = .ok (.if_icmp .ge 42, 3) := by decide +kernel
theorem dX3_countAgreeing_13 : decode cX3_countAgreeing 13 = .ok (.aload_n 0, 1) := by decide +kernel
theorem dX3_countAgreeing_14 : decode cX3_countAgreeing 14 = .ok (.getfield 34, 3) := by decide +kernel
theorem dX3_countAgreeing_17 : decode cX3_countAgreeing 17 = .ok (.iload_n 2, 1) := by decide +kernel
theorem dX3_countAgreeing_18 : decode cX3_countAgreeing 18 = .ok (.aaload, 1) := by decide +kernel
theorem dX3_countAgreeing_19 : decode cX3_countAgreeing 19 = .ok (.astore_n 3, 1) := by decide +kernel
theorem dX3_countAgreeing_20 : decode cX3_countAgreeing 20 = .ok (.aload_n 3, 1) := by decide +kernel
theorem dX3_countAgreeing_21 : decode cX3_countAgreeing 21 = .ok (.ifnull 25, 3) := by decide +kernel
theorem dX3_countAgreeing_24 : decode cX3_countAgreeing 24 = .ok (.aload_n 3, 1) := by decide +kernel
theorem dX3_countAgreeing_25 : decode cX3_countAgreeing 25 = .ok (.getfield 191, 3) := by decide +kernel
theorem dX3_countAgreeing_28 : decode cX3_countAgreeing 28 = .ok (.iconst (-1), 1) := by decide +kernel
theorem dX3_countAgreeing_29 : decode cX3_countAgreeing 29 = .ok (.if_icmp .eq 17, 3) := by decide +kernel
theorem dX3_countAgreeing_32 : decode cX3_countAgreeing 32 = .ok (.aload_n 3, 1) := by decide +kernel
theorem dX3_countAgreeing_33 : decode cX3_countAgreeing 33 = .ok (.getfield 191, 3) := by decide +kernel
theorem dX3_countAgreeing_36 : decode cX3_countAgreeing 36 = .ok (.aload_n 3, 1) := by decide +kernel
theorem dX3_countAgreeing_37 : decode cX3_countAgreeing 37 = .ok (.getfield 194, 3) := by decide +kernel
theorem dX3_countAgreeing_40 : decode cX3_countAgreeing 40 = .ok (.if_icmp .ne 6, 3) := by decide +kernel
theorem dX3_countAgreeing_43 : decode cX3_countAgreeing 43 = .ok (.iinc 1 1, 3) := by decide +kernel
theorem dX3_countAgreeing_46 : decode cX3_countAgreeing 46 = .ok (.iinc 2 1, 3) := by decide +kernel
theorem dX3_countAgreeing_49 : decode cX3_countAgreeing 49 = .ok (.goto (-45), 3) := by decide +kernel
theorem dX3_countAgreeing_52 : decode cX3_countAgreeing 52 = .ok (.iload_n 1, 1) := by decide +kernel
theorem dX3_countAgreeing_53 : decode cX3_countAgreeing 53 = .ok (.ireturn, 1) := by decide +kernel
theorem dX3_chance_0 : decode cX3_chance 0 = .ok (.lconst 0, 1) := by decide +kernel
theorem dX3_chance_1 : decode cX3_chance 1 = .ok (.lstore_n 1, 1) := by decide +kernel
theorem dX3_chance_2 : decode cX3_chance 2 = .ok (.iconst 0, 1) := by decide +kernel
theorem dX3_chance_3 : decode cX3_chance 3 = .ok (.istore_n 3, 1) := by decide +kernel
theorem dX3_chance_4 : decode cX3_chance 4 = .ok (.iload_n 3, 1) := by decide +kernel
theorem dX3_chance_5 : decode cX3_chance 5 = .ok (.aload_n 0, 1) := by decide +kernel
theorem dX3_chance_6 : decode cX3_chance 6 = .ok (.getfield 14, 3) := by decide +kernel
theorem dX3_chance_9 : decode cX3_chance 9 = .ok (.getfield 216, 3) := by decide +kernel
theorem dX3_chance_12 : decode cX3_chance 12 = .ok (.if_icmp .ge 103, 3) := by decide +kernel
theorem dX3_chance_15 : decode cX3_chance 15 = .ok (.lconst 0, 1) := by decide +kernel
theorem dX3_chance_16 : decode cX3_chance 16 = .ok (.lstore 4, 2) := by decide +kernel
theorem dX3_chance_18 : decode cX3_chance 18 = .ok (.lconst 0, 1) := by decide +kernel
theorem dX3_chance_19 : decode cX3_chance 19 = .ok (.lstore 6, 2) := by decide +kernel
theorem dX3_chance_21 : decode cX3_chance 21 = .ok (.iconst 0, 1) := by decide +kernel
theorem dX3_chance_22 : decode cX3_chance 22 = .ok (.istore 8, 2) := by decide +kernel
theorem dX3_chance_24 : decode cX3_chance 24 = .ok (.iload 8, 2) := by decide +kernel
theorem dX3_chance_26 : decode cX3_chance 26 = .ok (.aload_n 0, 1) := by decide +kernel
theorem dX3_chance_27 : decode cX3_chance 27 = .ok (.getfield 34, 3) := by decide +kernel
theorem dX3_chance_30 : decode cX3_chance 30 = .ok (.arraylength, 1) := by decide +kernel
theorem dX3_chance_31 : decode cX3_chance 31 = .ok (.if_icmp .ge 70, 3) := by decide +kernel
theorem dX3_chance_34 : decode cX3_chance 34 = .ok (.aload_n 0, 1) := by decide +kernel
theorem dX3_chance_35 : decode cX3_chance 35 = .ok (.getfield 34, 3) := by decide +kernel
theorem dX3_chance_38 : decode cX3_chance 38 = .ok (.iload 8, 2) := by decide +kernel
theorem dX3_chance_40 : decode cX3_chance 40 = .ok (.aaload, 1) := by decide +kernel
theorem dX3_chance_41 : decode cX3_chance 41 = .ok (.astore 9, 2) := by decide +kernel
theorem dX3_chance_43 : decode cX3_chance 43 = .ok (.aload 9, 2) := by decide +kernel
theorem dX3_chance_45 : decode cX3_chance 45 = .ok (.ifnull 50, 3) := by decide +kernel
theorem dX3_chance_48 : decode cX3_chance 48 = .ok (.aload 9, 2) := by decide +kernel
theorem dX3_chance_50 : decode cX3_chance 50 = .ok (.getfield 191, 3) := by decide +kernel
theorem dX3_chance_53 : decode cX3_chance 53 = .ok (.iconst (-1), 1) := by decide +kernel
theorem dX3_chance_54 : decode cX3_chance 54 = .ok (.if_icmp .eq 41, 3) := by decide +kernel
theorem dX3_chance_57 : decode cX3_chance 57 = .ok (.lload 4, 2) := by decide +kernel
theorem dX3_chance_59 : decode cX3_chance 59 = .ok (.aload 9, 2) := by decide +kernel
theorem dX3_chance_61 : decode cX3_chance 61 = .ok (.getfield 194, 3) := by decide +kernel
theorem dX3_chance_64 : decode cX3_chance 64 = .ok (.iload_n 3, 1) := by decide +kernel
theorem dX3_chance_65 : decode cX3_chance 65 = .ok (.if_icmp .ne 7, 3) := by decide +kernel
theorem dX3_chance_68 : decode cX3_chance 68 = .ok (.lconst 1, 1) := by decide +kernel
theorem dX3_chance_69 : decode cX3_chance 69 = .ok (.goto 4, 3) := by decide +kernel
theorem dX3_chance_72 : decode cX3_chance 72 = .ok (.lconst 0, 1) := by decide +kernel
theorem dX3_chance_73 : decode cX3_chance 73 = .ok (.ladd, 1) := by decide +kernel
theorem dX3_chance_74 : decode cX3_chance 74 = .ok (.lstore 4, 2) := by decide +kernel
theorem dX3_chance_76 : decode cX3_chance 76 = .ok (.lload 6, 2) := by decide +kernel
theorem dX3_chance_78 : decode cX3_chance 78 = .ok (.aload 9, 2) := by decide +kernel
theorem dX3_chance_80 : decode cX3_chance 80 = .ok (.getfield 191, 3) := by decide +kernel
theorem dX3_chance_83 : decode cX3_chance 83 = .ok (.iload_n 3, 1) := by decide +kernel
theorem dX3_chance_84 : decode cX3_chance 84 = .ok (.if_icmp .ne 7, 3) := by decide +kernel
theorem dX3_chance_87 : decode cX3_chance 87 = .ok (.lconst 1, 1) := by decide +kernel
theorem dX3_chance_88 : decode cX3_chance 88 = .ok (.goto 4, 3) := by decide +kernel
theorem dX3_chance_91 : decode cX3_chance 91 = .ok (.lconst 0, 1) := by decide +kernel
theorem dX3_chance_92 : decode cX3_chance 92 = .ok (.ladd, 1) := by decide +kernel
theorem dX3_chance_93 : decode cX3_chance 93 = .ok (.lstore 6, 2) := by decide +kernel
theorem dX3_chance_95 : decode cX3_chance 95 = .ok (.iinc 8 1, 3) := by decide +kernel
theorem dX3_chance_98 : decode cX3_chance 98 = .ok (.goto (-74), 3) := by decide +kernel
theorem dX3_chance_101 : decode cX3_chance 101 = .ok (.lload_n 1, 1) := by decide +kernel
theorem dX3_chance_102 : decode cX3_chance 102 = .ok (.lload 4, 2) := by decide +kernel
theorem dX3_chance_104 : decode cX3_chance 104 = .ok (.lload 6, 2) := by decide +kernel
theorem dX3_chance_106 : decode cX3_chance 106 = .ok (.lmul, 1) := by decide +kernel
theorem dX3_chance_107 : decode cX3_chance 107 = .ok (.ladd, 1) := by decide +kernel
theorem dX3_chance_108 : decode cX3_chance 108 = .ok (.lstore_n 1, 1) := by decide +kernel
theorem dX3_chance_109 : decode cX3_chance 109 = .ok (.iinc 3 1, 3) := by decide +kernel
theorem dX3_chance_112 : decode cX3_chance 112 = .ok (.goto (-108), 3) := by decide +kernel
theorem dX3_chance_115 : decode cX3_chance 115 = .ok (.lload_n 1, 1) := by decide +kernel
theorem dX3_chance_116 : decode cX3_chance 116 = .ok (.lreturn, 1) := by decide +kernel
theorem dX4_in_0 : decode cX4_in 0 = .ok (.iload_n 0, 1) := by decide +kernel
theorem dX4_in_1 : decode cX4_in 1 = .ok (.iload_n 1, 1) := by decide +kernel
theorem dX4_in_2 : decode cX4_in 2 = .ok (.if_icmp .lt 12, 3) := by decide +kernel
theorem dX4_in_5 : decode cX4_in 5 = .ok (.iload_n 0, 1) := by decide +kernel
theorem dX4_in_6 : decode cX4_in 6 = .ok (.iload_n 2, 1) := by decide +kernel
theorem dX4_in_7 : decode cX4_in 7 = .ok (.if_icmp .gt 7, 3) := by decide +kernel
theorem dX4_in_10 : decode cX4_in 10 = .ok (.iconst 1, 1) := by decide +kernel
theorem dX4_in_11 : decode cX4_in 11 = .ok (.goto 4, 3) := by decide +kernel
theorem dX4_in_14 : decode cX4_in 14 = .ok (.iconst 0, 1) := by decide +kernel
theorem dX4_in_15 : decode cX4_in 15 = .ok (.ireturn, 1) := by decide +kernel
set_option maxRecDepth 20000 in
theorem ggX4_isWord_X4_in : GoodIn wsX4_isWord wsX4_in := goodIn_r _ [4] (by decide +kernel) (by decide +kernel)
set_option maxRecDepth 20000 in
theorem gX4_isWord_X4_in : GoodIn wsX4_isWord (va_wsS RX4 7 yX4_in wsX4_in) := goodIn_app (goodIn_of _ (by decide +kernel)) ggX4_isWord_X4_in
theorem dX4_isWord_0 : decode cX4_isWord 0 = .ok (.iload_n 0, 1) := by decide +kernel
theorem dX4_isWord_1 : decode cX4_isWord 1 = .ok (.iconst 0, 1) := by decide +kernel
theorem dX4_isWord_2 : decode cX4_isWord 2 = .ok (.bipush 59, 2) := by decide +kernel
theorem dX4_isWord_4 : decode cX4_isWord 4 = .ok (.invokestatic 7, 3) := by decide +kernel
theorem dX4_isWord_7 : decode cX4_isWord 7 = .ok (.ireturn, 1) := by decide +kernel
theorem dX4_bits_0 : decode cX4_bits 0 = .ok (.iconst 0, 1) := by decide +kernel
theorem dX4_bits_1 : decode cX4_bits 1 = .ok (.istore_n 2, 1) := by decide +kernel
theorem dX4_bits_2 : decode cX4_bits 2 = .ok (.lload_n 0, 1) := by decide +kernel
theorem dX4_bits_3 : decode cX4_bits 3 = .ok (.lstore_n 3, 1) := by decide +kernel
theorem dX4_bits_4 : decode cX4_bits 4 = .ok (.lload_n 3, 1) := by decide +kernel
theorem dX4_bits_5 : decode cX4_bits 5 = .ok (.lconst 0, 1) := by decide +kernel
theorem dX4_bits_6 : decode cX4_bits 6 = .ok (.lcmp, 1) := by decide +kernel
theorem dX4_bits_7 : decode cX4_bits 7 = .ok (.ifCond .eq 15, 3) := by decide +kernel
theorem dX4_bits_10 : decode cX4_bits 10 = .ok (.iinc 2 1, 3) := by decide +kernel
theorem dX4_bits_13 : decode cX4_bits 13 = .ok (.lload_n 3, 1) := by decide +kernel
theorem dX4_bits_14 : decode cX4_bits 14 = .ok (.lload_n 3, 1) := by decide +kernel
theorem dX4_bits_15 : decode cX4_bits 15 = .ok (.lconst 1, 1) := by decide +kernel
theorem dX4_bits_16 : decode cX4_bits 16 = .ok (.lsub, 1) := by decide +kernel
theorem dX4_bits_17 : decode cX4_bits 17 = .ok (.land, 1) := by decide +kernel
theorem dX4_bits_18 : decode cX4_bits 18 = .ok (.lstore_n 3, 1) := by decide +kernel
theorem dX4_bits_19 : decode cX4_bits 19 = .ok (.goto (-15), 3) := by decide +kernel
theorem dX4_bits_22 : decode cX4_bits 22 = .ok (.iload_n 2, 1) := by decide +kernel
theorem dX4_bits_23 : decode cX4_bits 23 = .ok (.ireturn, 1) := by decide +kernel
theorem dX4_init_0 : decode cX4_init 0 = .ok (.aload_n 0, 1) := by decide +kernel
theorem dX4_init_1 : decode cX4_init 1 = .ok (.invokespecial 11, 3) := by decide +kernel
theorem dX4_init_4 : decode cX4_init 4 = .ok (.aload_n 0, 1) := by decide +kernel
theorem dX4_init_5 : decode cX4_init 5 = .ok (.bipush 60, 2) := by decide +kernel
theorem dX4_init_7 : decode cX4_init 7 = .ok (.newarray .int, 2) := by decide +kernel
theorem dX4_init_9 : decode cX4_init 9 = .ok (.putfield 17, 3) := by decide +kernel
theorem dX4_init_12 : decode cX4_init 12 = .ok (.aload_n 0, 1) := by decide +kernel
theorem dX4_init_13 : decode cX4_init 13 = .ok (.bipush 40, 2) := by decide +kernel
theorem dX4_init_15 : decode cX4_init 15 = .ok (.newarray .int, 2) := by decide +kernel
theorem dX4_init_17 : decode cX4_init 17 = .ok (.putfield 21, 3) := by decide +kernel
theorem dX4_init_20 : decode cX4_init 20 = .ok (.aload_n 0, 1) := by decide +kernel
theorem dX4_init_21 : decode cX4_init 21 = .ok (.bipush 40, 2) := by decide +kernel
theorem dX4_init_23 : decode cX4_init 23 = .ok (.newarray .long, 2) := by decide +kernel
theorem dX4_init_25 : decode cX4_init 25 = .ok (.putfield 24, 3) := by decide +kernel
theorem dX4_init_28 : decode cX4_init 28 = .ok (.aload_n 0, 1) := by decide +kernel
theorem dX4_init_29 : decode cX4_init 29 = .ok (.bipush 30, 2) := by decide +kernel
theorem dX4_init_31 : decode cX4_init 31 = .ok (.newarray .int, 2) := by decide +kernel
theorem dX4_init_33 : decode cX4_init 33 = .ok (.putfield 28, 3) := by decide +kernel
theorem dX4_init_36 : decode cX4_init 36 = .ok (.aload_n 0, 1) := by decide +kernel
theorem dX4_init_37 : decode cX4_init 37 = .ok (.bipush 40, 2) := by decide +kernel
theorem dX4_init_39 : decode cX4_init 39 = .ok (.newarray .int, 2) := by decide +kernel
theorem dX4_init_41 : decode cX4_init 41 = .ok (.putfield 31, 3) := by decide +kernel
theorem dX4_init_44 : decode cX4_init 44 = .ok (.aload_n 0, 1) := by decide +kernel
theorem dX4_init_45 : decode cX4_init 45 = .ok (.bipush 80, 2) := by decide +kernel
theorem dX4_init_47 : decode cX4_init 47 = .ok (.newarray .int, 2) := by decide +kernel
theorem dX4_init_49 : decode cX4_init 49 = .ok (.putfield 34, 3) := by decide +kernel
theorem dX4_init_52 : decode cX4_init 52 = .ok (.aload_n 0, 1) := by decide +kernel
theorem dX4_init_53 : decode cX4_init 53 = .ok (.bipush 80, 2) := by decide +kernel
theorem dX4_init_55 : decode cX4_init 55 = .ok (.newarray .int, 2) := by decide +kernel
theorem dX4_init_57 : decode cX4_init 57 = .ok (.putfield 37, 3) := by decide +kernel
theorem dX4_init_60 : decode cX4_init 60 = .ok (.aload_n 0, 1) := by decide +kernel
theorem dX4_init_61 : decode cX4_init 61 = .ok (.bipush 80, 2) := by decide +kernel
theorem dX4_init_63 : decode cX4_init 63 = .ok (.newarray .int, 2) := by decide +kernel
theorem dX4_init_65 : decode cX4_init 65 = .ok (.putfield 40, 3) := by decide +kernel
theorem dX4_init_68 : decode cX4_init 68 = .ok (.aload_n 0, 1) := by decide +kernel
theorem dX4_init_69 : decode cX4_init 69 = .ok (.sipush 160, 3) := by decide +kernel
theorem dX4_init_72 : decode cX4_init 72 = .ok (.newarray .long, 2) := by decide +kernel
theorem dX4_init_74 : decode cX4_init 74 = .ok (.putfield 43, 3) := by decide +kernel
theorem dX4_init_77 : decode cX4_init 77 = .ok (.aload_n 0, 1) := by decide +kernel
theorem dX4_init_78 : decode cX4_init 78 = .ok (.sipush 160, 3) := by decide +kernel
theorem dX4_init_81 : decode cX4_init 81 = .ok (.newarray .int, 2) := by decide +kernel
theorem dX4_init_83 : decode cX4_init 83 = .ok (.putfield 46, 3) := by decide +kernel
theorem dX4_init_86 : decode cX4_init 86 = .ok (.aload_n 0, 1) := by decide +kernel
theorem dX4_init_87 : decode cX4_init 87 = .ok (.sipush 160, 3) := by decide +kernel
theorem dX4_init_90 : decode cX4_init 90 = .ok (.newarray .int, 2) := by decide +kernel
theorem dX4_init_92 : decode cX4_init 92 = .ok (.putfield 49, 3) := by decide +kernel
theorem dX4_init_95 : decode cX4_init 95 = .ok (.aload_n 0, 1) := by decide +kernel
theorem dX4_init_96 : decode cX4_init 96 = .ok (.sipush 160, 3) := by decide +kernel
theorem dX4_init_99 : decode cX4_init 99 = .ok (.newarray .int, 2) := by decide +kernel
theorem dX4_init_101 : decode cX4_init 101 = .ok (.putfield 52, 3) := by decide +kernel
theorem dX4_init_104 : decode cX4_init 104 = .ok (.aload_n 0, 1) := by decide +kernel
theorem dX4_init_105 : decode cX4_init 105 = .ok (.sipush 160, 3) := by decide +kernel
theorem dX4_init_108 : decode cX4_init 108 = .ok (.newarray .int, 2) := by decide +kernel
theorem dX4_init_110 : decode cX4_init 110 = .ok (.putfield 55, 3) := by decide +kernel
theorem dX4_init_113 : decode cX4_init 113 = .ok (.aload_n 0, 1) := by decide +kernel
theorem dX4_init_114 : decode cX4_init 114 = .ok (.sipush 160, 3) := by decide +kernel
theorem dX4_init_117 : decode cX4_init 117 = .ok (.newarray .int, 2) := by decide +kernel
theorem dX4_init_119 : decode cX4_init 119 = .ok (.putfield 58, 3) := by decide +kernel
theorem dX4_init_122 : decode cX4_init 122 = .ok (.aload_n 0, 1) := by decide +kernel
theorem dX4_init_123 : decode cX4_init 123 = .ok (.bipush 40, 2) := by decide +kernel
theorem dX4_init_125 : decode cX4_init 125 = .ok (.newarray .int, 2) := by decide +kernel
theorem dX4_init_127 : decode cX4_init 127 = .ok (.putfield 61, 3) := by decide +kernel
theorem dX4_init_130 : decode cX4_init 130 = .ok (.aload_n 0, 1) := by decide +kernel
theorem dX4_init_131 : decode cX4_init 131 = .ok (.bipush 40, 2) := by decide +kernel
theorem dX4_init_133 : decode cX4_init 133 = .ok (.newarray .int, 2) := by decide +kernel
theorem dX4_init_135 : decode cX4_init 135 = .ok (.putfield 64, 3) := by decide +kernel
theorem dX4_init_138 : decode cX4_init 138 = .ok (.aload_n 0, 1) := by decide +kernel
theorem dX4_init_139 : decode cX4_init 139 = .ok (.bipush 40, 2) := by decide +kernel
theorem dX4_init_141 : decode cX4_init 141 = .ok (.newarray .int, 2) := by decide +kernel
theorem dX4_init_143 : decode cX4_init 143 = .ok (.putfield 67, 3) := by decide +kernel
theorem dX4_init_146 : decode cX4_init 146 = .ok (.aload_n 0, 1) := by decide +kernel
theorem dX4_init_147 : decode cX4_init 147 = .ok (.bipush 40, 2) := by decide +kernel
theorem dX4_init_149 : decode cX4_init 149 = .ok (.newarray .long, 2) := by decide +kernel
theorem dX4_init_151 : decode cX4_init 151 = .ok (.putfield 70, 3) := by decide +kernel
theorem dX4_init_154 : decode cX4_init 154 = .ok (.aload_n 0, 1) := by decide +kernel
theorem dX4_init_155 : decode cX4_init 155 = .ok (.bipush 40, 2) := by decide +kernel
theorem dX4_init_157 : decode cX4_init 157 = .ok (.newarray .long, 2) := by decide +kernel
theorem dX4_init_159 : decode cX4_init 159 = .ok (.putfield 73, 3) := by decide +kernel
theorem dX4_init_162 : decode cX4_init 162 = .ok (.aload_n 0, 1) := by decide +kernel
theorem dX4_init_163 : decode cX4_init 163 = .ok (.bipush 40, 2) := by decide +kernel
theorem dX4_init_165 : decode cX4_init 165 = .ok (.newarray .boolean, 2) := by decide +kernel
theorem dX4_init_167 : decode cX4_init 167 = .ok (.putfield 76, 3) := by decide +kernel
theorem dX4_init_170 : decode cX4_init 170 = .ok (.aload_n 0, 1) := by decide +kernel
theorem dX4_init_171 : decode cX4_init 171 = .ok (.sipush 500, 3) := by decide +kernel
theorem dX4_init_174 : decode cX4_init 174 = .ok (.putfield 80, 3) := by decide +kernel
theorem dX4_init_177 : decode cX4_init 177 = .ok (.aload_n 0, 1) := by decide +kernel
theorem dX4_init_178 : decode cX4_init 178 = .ok (.sipush 200, 3) := by decide +kernel
theorem dX4_init_181 : decode cX4_init 181 = .ok (.putfield 83, 3) := by decide +kernel
theorem dX4_init_184 : decode cX4_init 184 = .ok (.aload_n 0, 1) := by decide +kernel
theorem dX4_init_185 : decode cX4_init 185 = .ok (.sipush 160, 3) := by decide +kernel
theorem dX4_init_188 : decode cX4_init 188 = .ok (.newarray .int, 2) := by decide +kernel
theorem dX4_init_190 : decode cX4_init 190 = .ok (.putfield 86, 3) := by decide +kernel
theorem dX4_init_193 : decode cX4_init 193 = .ok (.aload_n 0, 1) := by decide +kernel
theorem dX4_init_194 : decode cX4_init 194 = .ok (.sipush 160, 3) := by decide +kernel
theorem dX4_init_197 : decode cX4_init 197 = .ok (.newarray .int, 2) := by decide +kernel
theorem dX4_init_199 : decode cX4_init 199 = .ok (.putfield 89, 3) := by decide +kernel
theorem dX4_init_202 : decode cX4_init 202 = .ok (.aload_n 0, 1) := by decide +kernel
theorem dX4_init_203 : decode cX4_init 203 = .ok (.sipush 160, 3) := by decide +kernel
theorem dX4_init_206 : decode cX4_init 206 = .ok (.newarray .int, 2) := by decide +kernel
theorem dX4_init_208 : decode cX4_init 208 = .ok (.putfield 92, 3) := by decide +kernel
theorem dX4_init_211 : decode cX4_init 211 = .ok (.aload_n 0, 1) := by decide +kernel
theorem dX4_init_212 : decode cX4_init 212 = .ok (.sipush 160, 3) := by decide +kernel
theorem dX4_init_215 : decode cX4_init 215 = .ok (.newarray .boolean, 2) := by decide +kernel
theorem dX4_init_217 : decode cX4_init 217 = .ok (.putfield 95, 3) := by decide +kernel
theorem dX4_init_220 : decode cX4_init 220 = .ok (.iconst 0, 1) := by decide +kernel
theorem dX4_init_221 : decode cX4_init 221 = .ok (.istore_n 1, 1) := by decide +kernel
theorem dX4_init_222 : decode cX4_init 222 = .ok (.iload_n 1, 1) := by decide +kernel
theorem dX4_init_223 : decode cX4_init 223 = .ok (.bipush 60, 2) := by decide +kernel
theorem dX4_init_225 : decode cX4_init 225 = .ok (.if_icmp .ge 16, 3) := by decide +kernel
theorem dX4_init_228 : decode cX4_init 228 = .ok (.aload_n 0, 1) := by decide +kernel
theorem dX4_init_229 : decode cX4_init 229 = .ok (.getfield 17, 3) := by decide +kernel
theorem dX4_init_232 : decode cX4_init 232 = .ok (.iload_n 1, 1) := by decide +kernel
theorem dX4_init_233 : decode cX4_init 233 = .ok (.iload_n 1, 1) := by decide +kernel
theorem dX4_init_234 : decode cX4_init 234 = .ok (.iastore, 1) := by decide +kernel
theorem dX4_init_235 : decode cX4_init 235 = .ok (.iinc 1 1, 3) := by decide +kernel
theorem dX4_init_238 : decode cX4_init 238 = .ok (.goto (-16), 3) := by decide +kernel
theorem dX4_init_241 : decode cX4_init 241 = .ok (.return_, 1) := by decide +kernel
set_option maxRecDepth 20000 in
theorem ggX4_isCode_X4_in : GoodIn wsX4_isCode wsX4_in := goodIn_r _ [5] (by decide +kernel) (by decide +kernel)
set_option maxRecDepth 20000 in
theorem gX4_isCode_X4_in : GoodIn wsX4_isCode (va_wsS RX4 7 yX4_in wsX4_in) := goodIn_app (goodIn_of _ (by decide +kernel)) ggX4_isCode_X4_in
theorem dX4_isCode_0 : decode cX4_isCode 0 = .ok (.iload_n 1, 1) := by decide +kernel
theorem dX4_isCode_1 : decode cX4_isCode 1 = .ok (.iconst 0, 1) := by decide +kernel
theorem dX4_isCode_2 : decode cX4_isCode 2 = .ok (.aload_n 0, 1) := by decide +kernel
theorem dX4_isCode_3 : decode cX4_isCode 3 = .ok (.getfield 98, 3) := by decide +kernel
theorem dX4_isCode_6 : decode cX4_isCode 6 = .ok (.iconst 1, 1) := by decide +kernel
theorem dX4_isCode_7 : decode cX4_isCode 7 = .ok (.isub, 1) := by decide +kernel
theorem dX4_isCode_8 : decode cX4_isCode 8 = .ok (.invokestatic 7, 3) := by decide +kernel
theorem dX4_isCode_11 : decode cX4_isCode 11 = .ok (.ireturn, 1) := by decide +kernel
set_option maxRecDepth 20000 in
theorem ggX4_isOther_X4_in : GoodIn wsX4_isOther wsX4_in := goodIn_r _ [5] (by decide +kernel) (by decide +kernel)
set_option maxRecDepth 20000 in
theorem gX4_isOther_X4_in : GoodIn wsX4_isOther (va_wsS RX4 7 yX4_in wsX4_in) := goodIn_app (goodIn_of _ (by decide +kernel)) ggX4_isOther_X4_in
theorem dX4_isOther_0 : decode cX4_isOther 0 = .ok (.iload_n 1, 1) := by decide +kernel
theorem dX4_isOther_1 : decode cX4_isOther 1 = .ok (.iconst 0, 1) := by decide +kernel
theorem dX4_isOther_2 : decode cX4_isOther 2 = .ok (.aload_n 0, 1) := by decide +kernel
theorem dX4_isOther_3 : decode cX4_isOther 3 = .ok (.getfield 101, 3) := by decide +kernel
theorem dX4_isOther_6 : decode cX4_isOther 6 = .ok (.iconst 1, 1) := by decide +kernel
theorem dX4_isOther_7 : decode cX4_isOther 7 = .ok (.isub, 1) := by decide +kernel
theorem dX4_isOther_8 : decode cX4_isOther 8 = .ok (.invokestatic 7, 3) := by decide +kernel
theorem dX4_isOther_11 : decode cX4_isOther 11 = .ok (.ireturn, 1) := by decide +kernel
set_option maxRecDepth 20000 in
theorem ggX4_code_X4_in : GoodIn wsX4_code wsX4_in := goodIn_r _ [6] (by decide +kernel) (by decide +kernel)
set_option maxRecDepth 20000 in
theorem gX4_code_X4_in : GoodIn wsX4_code (va_wsS RX4 7 yX4_in wsX4_in) := goodIn_app (goodIn_of _ (by decide +kernel)) ggX4_code_X4_in
theorem dX4_code_0 : decode cX4_code 0 = .ok (.iload_n 1, 1) := by decide +kernel
theorem dX4_code_1 : decode cX4_code 1 = .ok (.iconst (-1), 1) := by decide +kernel
theorem dX4_code_2 : decode cX4_code 2 = .ok (.aload_n 0, 1) := by decide +kernel
theorem dX4_code_3 : decode cX4_code 3 = .ok (.getfield 98, 3) := by decide +kernel
theorem dX4_code_6 : decode cX4_code 6 = .ok (.iconst 1, 1) := by decide +kernel
theorem dX4_code_7 : decode cX4_code 7 = .ok (.isub, 1) := by decide +kernel
theorem dX4_code_8 : decode cX4_code 8 = .ok (.invokestatic 7, 3) := by decide +kernel
theorem dX4_code_11 : decode cX4_code 11 = .ok (.ifCond .ne 5, 3) := by decide +kernel
theorem dX4_code_14 : decode cX4_code 14 = .ok (.iconst (-1), 1) := by decide +kernel
theorem dX4_code_15 : decode cX4_code 15 = .ok (.ireturn, 1) := by decide +kernel
theorem dX4_code_16 : decode cX4_code 16 = .ok (.aload_n 0, 1) := by decide +kernel
theorem dX4_code_17 : decode cX4_code 17 = .ok (.getfield 98, 3) := by decide +kernel
theorem dX4_code_20 : decode cX4_code 20 = .ok (.bipush 40, 2) := by decide +kernel
theorem dX4_code_22 : decode cX4_code 22 = .ok (.if_icmp .ne 6, 3) := by decide +kernel
theorem dX4_code_25 : decode cX4_code 25 = .ok (.bipush (-3), 2) := by decide +kernel
theorem dX4_code_27 : decode cX4_code 27 = .ok (.ireturn, 1) := by decide +kernel
theorem dX4_code_28 : decode cX4_code 28 = .ok (.aload_n 0, 1) := by decide +kernel
theorem dX4_code_29 : decode cX4_code 29 = .ok (.getfield 21, 3) := by decide +kernel
theorem dX4_code_32 : decode cX4_code 32 = .ok (.aload_n 0, 1) := by decide +kernel
theorem dX4_code_33 : decode cX4_code 33 = .ok (.getfield 98, 3) := by decide +kernel
theorem dX4_code_36 : decode cX4_code 36 = .ok (.iload_n 1, 1) := by decide +kernel
theorem dX4_code_37 : decode cX4_code 37 = .ok (.iastore, 1) := by decide +kernel
theorem dX4_code_38 : decode cX4_code 38 = .ok (.aload_n 0, 1) := by decide +kernel
theorem dX4_code_39 : decode cX4_code 39 = .ok (.dup, 1) := by decide +kernel
theorem dX4_code_40 : decode cX4_code 40 = .ok (.getfield 98, 3) := by decide +kernel
theorem dX4_code_43 : decode cX4_code 43 = .ok (.iconst 1, 1) := by decide +kernel
theorem dX4_code_44 : decode cX4_code 44 = .ok (.iadd, 1) := by decide +kernel
theorem dX4_code_45 : decode cX4_code 45 = .ok (.putfield 98, 3) := by decide +kernel
theorem dX4_code_48 : decode cX4_code 48 = .ok (.aload_n 0, 1) := by decide +kernel
theorem dX4_code_49 : decode cX4_code 49 = .ok (.getfield 98, 3) := by decide +kernel
theorem dX4_code_52 : decode cX4_code 52 = .ok (.iconst 1, 1) := by decide +kernel
theorem dX4_code_53 : decode cX4_code 53 = .ok (.isub, 1) := by decide +kernel
theorem dX4_code_54 : decode cX4_code 54 = .ok (.ireturn, 1) := by decide +kernel
set_option maxRecDepth 20000 in
theorem ggX4_exclude_X4_isCode : GoodIn wsX4_exclude wsX4_isCode := goodIn_r _ [7, 8, 9, 10, 6, 11, 15, 16, 17, 18, 19, 20, 21, 22, 23, 24, 25, 26, 27, 28, 29, 30, 31, 32, 33, 34, 35, 36, 37, 38, 39, 40, 41, 42, 43, 44, 45, 46, 47, 48] (by decide +kernel) (by decide +kernel)
set_option maxRecDepth 20000 in
theorem gX4_exclude_X4_isCode : GoodIn wsX4_exclude (wsV RX4 104 RX4 yX4_isCode wsX4_isCode) := goodIn_app (goodIn_of _ (by decide +kernel)) ggX4_exclude_X4_isCode
set_option maxRecDepth 20000 in
theorem ggX4_exclude_X4_isWord : GoodIn wsX4_exclude wsX4_isWord := goodIn_r _ [14, 9, 10, 6, 11] (by decide +kernel) (by decide +kernel)
set_option maxRecDepth 20000 in
theorem gX4_exclude_X4_isWord : GoodIn wsX4_exclude (va_wsS RX4 108 yX4_isWord wsX4_isWord) := goodIn_app (goodIn_of _ (by decide +kernel)) ggX4_exclude_X4_isWord
set_option maxRecDepth 20000 in
theorem ggX4_exclude_X4_in : GoodIn wsX4_exclude wsX4_in := goodIn_r _ [11] (by decide +kernel) (by decide +kernel)
set_option maxRecDepth 20000 in
theorem gX4_exclude_X4_in : GoodIn wsX4_exclude (va_wsS RX4 7 yX4_in wsX4_in) := goodIn_app (goodIn_of _ (by decide +kernel)) ggX4_exclude_X4_in
theorem dX4_exclude_0 : decode cX4_exclude 0 = .ok (.aload_n 0, 1) := by decide +kernel
theorem dX4_exclude_1 : decode cX4_exclude 1 = .ok (.iload_n 1, 1) := by decide +kernel
theorem dX4_exclude_2 : decode cX4_exclude 2 = .ok (.invokevirtual 104, 3) := by decide +kernel
theorem dX4_exclude_5 : decode cX4_exclude 5 = .ok (.ifCond .eq 19, 3) := by decide +kernel
theorem dX4_exclude_8 : decode cX4_exclude 8 = .ok (.iload_n 2, 1) := by decide +kernel
theorem dX4_exclude_9 : decode cX4_exclude 9 = .ok (.invokestatic 108, 3) := by decide +kernel
theorem dX4_exclude_12 : decode cX4_exclude 12 = .ok (.ifCond .eq 12, 3) := by decide +kernel
theorem dX4_exclude_15 : decode cX4_exclude 15 = .ok (.iload_n 3, 1) := by decide +kernel
theorem dX4_exclude_16 : decode cX4_exclude 16 = .ok (.iconst 0, 1) := by decide +kernel
theorem dX4_exclude_17 : decode cX4_exclude 17 = .ok (.iconst 1, 1) := by decide +kernel
theorem dX4_exclude_18 : decode cX4_exclude 18 = .ok (.invokestatic 7, 3) := by decide +kernel
theorem dX4_exclude_21 : decode cX4_exclude 21 = .ok (.ifCond .ne 5, 3) := by decide +kernel
theorem dX4_exclude_24 : decode cX4_exclude 24 = .ok (.iconst (-1), 1) := by decide +kernel
theorem dX4_exclude_25 : decode cX4_exclude 25 = .ok (.ireturn, 1) := by decide +kernel
theorem dX4_exclude_26 : decode cX4_exclude 26 = .ok (.aload_n 0, 1) := by decide +kernel
theorem dX4_exclude_27 : decode cX4_exclude 27 = .ok (.getfield 24, 3) := by decide +kernel
theorem dX4_exclude_30 : decode cX4_exclude 30 = .ok (.iload_n 1, 1) := by decide +kernel
theorem dX4_exclude_31 : decode cX4_exclude 31 = .ok (.laload, 1) := by decide +kernel
theorem dX4_exclude_32 : decode cX4_exclude 32 = .ok (.iload_n 2, 1) := by decide +kernel
theorem dX4_exclude_33 : decode cX4_exclude 33 = .ok (.lshr, 1) := by decide +kernel
theorem dX4_exclude_34 : decode cX4_exclude 34 = .ok (.lconst 1, 1) := by decide +kernel
theorem dX4_exclude_35 : decode cX4_exclude 35 = .ok (.land, 1) := by decide +kernel
theorem dX4_exclude_36 : decode cX4_exclude 36 = .ok (.l2i, 1) := by decide +kernel
theorem dX4_exclude_37 : decode cX4_exclude 37 = .ok (.istore 4, 2) := by decide +kernel
theorem dX4_exclude_39 : decode cX4_exclude 39 = .ok (.aload_n 0, 1) := by decide +kernel
theorem dX4_exclude_40 : decode cX4_exclude 40 = .ok (.getfield 24, 3) := by decide +kernel
theorem dX4_exclude_43 : decode cX4_exclude 43 = .ok (.iload_n 1, 1) := by decide +kernel
theorem dX4_exclude_44 : decode cX4_exclude 44 = .ok (.iload_n 3, 1) := by decide +kernel
theorem dX4_exclude_45 : decode cX4_exclude 45 = .ok (.iconst 1, 1) := by decide +kernel
theorem dX4_exclude_46 : decode cX4_exclude 46 = .ok (.if_icmp .ne 16, 3) := by decide +kernel
theorem dX4_exclude_49 : decode cX4_exclude 49 = .ok (.aload_n 0, 1) := by decide +kernel
theorem dX4_exclude_50 : decode cX4_exclude 50 = .ok (.getfield 24, 3) := by decide +kernel
theorem dX4_exclude_53 : decode cX4_exclude 53 = .ok (.iload_n 1, 1) := by decide +kernel
theorem dX4_exclude_54 : decode cX4_exclude 54 = .ok (.laload, 1) := by decide +kernel
theorem dX4_exclude_55 : decode cX4_exclude 55 = .ok (.lconst 1, 1) := by decide +kernel
theorem dX4_exclude_56 : decode cX4_exclude 56 = .ok (.iload_n 2, 1) := by decide +kernel
theorem dX4_exclude_57 : decode cX4_exclude 57 = .ok (.lshl, 1) := by decide +kernel
theorem dX4_exclude_58 : decode cX4_exclude 58 = .ok (.lor, 1) := by decide +kernel
theorem dX4_exclude_59 : decode cX4_exclude 59 = .ok (.goto 17, 3) := by decide +kernel
theorem dX4_exclude_62 : decode cX4_exclude 62 = .ok (.aload_n 0, 1) := by decide +kernel
theorem dX4_exclude_63 : decode cX4_exclude 63 = .ok (.getfield 24, 3) := by decide +kernel
theorem dX4_exclude_66 : decode cX4_exclude 66 = .ok (.iload_n 1, 1) := by decide +kernel
theorem dX4_exclude_67 : decode cX4_exclude 67 = .ok (.laload, 1) := by decide +kernel
theorem dX4_exclude_68 : decode cX4_exclude 68 = .ok (.lconst 1, 1) := by decide +kernel
theorem dX4_exclude_69 : decode cX4_exclude 69 = .ok (.iload_n 2, 1) := by decide +kernel
theorem dX4_exclude_70 : decode cX4_exclude 70 = .ok (.lshl, 1) := by decide +kernel
theorem dX4_exclude_71 : decode cX4_exclude 71 = .ok (.ldc2_w 111, 3) := by decide +kernel
theorem dX4_exclude_74 : decode cX4_exclude 74 = .ok (.lxor, 1) := by decide +kernel
theorem dX4_exclude_75 : decode cX4_exclude 75 = .ok (.land, 1) := by decide +kernel
theorem dX4_exclude_76 : decode cX4_exclude 76 = .ok (.lastore, 1) := by decide +kernel
theorem dX4_exclude_77 : decode cX4_exclude 77 = .ok (.iload 4, 2) := by decide +kernel
theorem dX4_exclude_79 : decode cX4_exclude 79 = .ok (.ireturn, 1) := by decide +kernel
set_option maxRecDepth 20000 in
theorem ggX4_spell_X4_isWord : GoodIn wsX4_spell wsX4_isWord := goodIn_r _ [5, 6, 7, 4, 8] (by decide +kernel) (by decide +kernel)
set_option maxRecDepth 20000 in
theorem gX4_spell_X4_isWord : GoodIn wsX4_spell (va_wsS RX4 108 yX4_isWord wsX4_isWord) := goodIn_app (goodIn_of _ (by decide +kernel)) ggX4_spell_X4_isWord
theorem dX4_spell_0 : decode cX4_spell 0 = .ok (.iload_n 1, 1) := by decide +kernel
theorem dX4_spell_1 : decode cX4_spell 1 = .ok (.invokestatic 108, 3) := by decide +kernel
theorem dX4_spell_4 : decode cX4_spell 4 = .ok (.ifCond .eq 10, 3) := by decide +kernel
theorem dX4_spell_7 : decode cX4_spell 7 = .ok (.iload_n 2, 1) := by decide +kernel
theorem dX4_spell_8 : decode cX4_spell 8 = .ok (.invokestatic 108, 3) := by decide +kernel
theorem dX4_spell_11 : decode cX4_spell 11 = .ok (.ifCond .ne 5, 3) := by decide +kernel
theorem dX4_spell_14 : decode cX4_spell 14 = .ok (.iconst (-1), 1) := by decide +kernel
theorem dX4_spell_15 : decode cX4_spell 15 = .ok (.ireturn, 1) := by decide +kernel
theorem dX4_spell_16 : decode cX4_spell 16 = .ok (.aload_n 0, 1) := by decide +kernel
theorem dX4_spell_17 : decode cX4_spell 17 = .ok (.getfield 17, 3) := by decide +kernel
theorem dX4_spell_20 : decode cX4_spell 20 = .ok (.iload_n 1, 1) := by decide +kernel
theorem dX4_spell_21 : decode cX4_spell 21 = .ok (.iaload, 1) := by decide +kernel
theorem dX4_spell_22 : decode cX4_spell 22 = .ok (.istore_n 3, 1) := by decide +kernel
theorem dX4_spell_23 : decode cX4_spell 23 = .ok (.aload_n 0, 1) := by decide +kernel
theorem dX4_spell_24 : decode cX4_spell 24 = .ok (.getfield 17, 3) := by decide +kernel
theorem dX4_spell_27 : decode cX4_spell 27 = .ok (.iload_n 1, 1) := by decide +kernel
theorem dX4_spell_28 : decode cX4_spell 28 = .ok (.iload_n 2, 1) := by decide +kernel
theorem dX4_spell_29 : decode cX4_spell 29 = .ok (.iastore, 1) := by decide +kernel
theorem dX4_spell_30 : decode cX4_spell 30 = .ok (.iload_n 3, 1) := by decide +kernel
theorem dX4_spell_31 : decode cX4_spell 31 = .ok (.ireturn, 1) := by decide +kernel
set_option maxRecDepth 20000 in
theorem ggX4_other_X4_in : GoodIn wsX4_other wsX4_in := goodIn_r _ [6] (by decide +kernel) (by decide +kernel)
set_option maxRecDepth 20000 in
theorem gX4_other_X4_in : GoodIn wsX4_other (va_wsS RX4 7 yX4_in wsX4_in) := goodIn_app (goodIn_of _ (by decide +kernel)) ggX4_other_X4_in
theorem dX4_other_0 : decode cX4_other 0 = .ok (.iload_n 1, 1) := by decide +kernel
theorem dX4_other_1 : decode cX4_other 1 = .ok (.iconst (-1), 1) := by decide +kernel
theorem dX4_other_2 : decode cX4_other 2 = .ok (.aload_n 0, 1) := by decide +kernel
theorem dX4_other_3 : decode cX4_other 3 = .ok (.getfield 101, 3) := by decide +kernel
theorem dX4_other_6 : decode cX4_other 6 = .ok (.iconst 1, 1) := by decide +kernel
theorem dX4_other_7 : decode cX4_other 7 = .ok (.isub, 1) := by decide +kernel
theorem dX4_other_8 : decode cX4_other 8 = .ok (.invokestatic 7, 3) := by decide +kernel
theorem dX4_other_11 : decode cX4_other 11 = .ok (.ifCond .ne 5, 3) := by decide +kernel
theorem dX4_other_14 : decode cX4_other 14 = .ok (.iconst (-1), 1) := by decide +kernel
theorem dX4_other_15 : decode cX4_other 15 = .ok (.ireturn, 1) := by decide +kernel
theorem dX4_other_16 : decode cX4_other 16 = .ok (.aload_n 0, 1) := by decide +kernel
theorem dX4_other_17 : decode cX4_other 17 = .ok (.getfield 101, 3) := by decide +kernel
theorem dX4_other_20 : decode cX4_other 20 = .ok (.bipush 30, 2) := by decide +kernel
theorem dX4_other_22 : decode cX4_other 22 = .ok (.if_icmp .ne 6, 3) := by decide +kernel
theorem dX4_other_25 : decode cX4_other 25 = .ok (.bipush (-3), 2) := by decide +kernel
theorem dX4_other_27 : decode cX4_other 27 = .ok (.ireturn, 1) := by decide +kernel
theorem dX4_other_28 : decode cX4_other 28 = .ok (.aload_n 0, 1) := by decide +kernel
theorem dX4_other_29 : decode cX4_other 29 = .ok (.getfield 28, 3) := by decide +kernel
theorem dX4_other_32 : decode cX4_other 32 = .ok (.aload_n 0, 1) := by decide +kernel
theorem dX4_other_33 : decode cX4_other 33 = .ok (.getfield 101, 3) := by decide +kernel
theorem dX4_other_36 : decode cX4_other 36 = .ok (.iload_n 1, 1) := by decide +kernel
theorem dX4_other_37 : decode cX4_other 37 = .ok (.iastore, 1) := by decide +kernel
theorem dX4_other_38 : decode cX4_other 38 = .ok (.aload_n 0, 1) := by decide +kernel
theorem dX4_other_39 : decode cX4_other 39 = .ok (.dup, 1) := by decide +kernel
theorem dX4_other_40 : decode cX4_other 40 = .ok (.getfield 101, 3) := by decide +kernel
theorem dX4_other_43 : decode cX4_other 43 = .ok (.iconst 1, 1) := by decide +kernel
theorem dX4_other_44 : decode cX4_other 44 = .ok (.iadd, 1) := by decide +kernel
theorem dX4_other_45 : decode cX4_other 45 = .ok (.putfield 101, 3) := by decide +kernel
theorem dX4_other_48 : decode cX4_other 48 = .ok (.aload_n 0, 1) := by decide +kernel
theorem dX4_other_49 : decode cX4_other 49 = .ok (.getfield 101, 3) := by decide +kernel
theorem dX4_other_52 : decode cX4_other 52 = .ok (.iconst 1, 1) := by decide +kernel
theorem dX4_other_53 : decode cX4_other 53 = .ok (.isub, 1) := by decide +kernel
theorem dX4_other_54 : decode cX4_other 54 = .ok (.ireturn, 1) := by decide +kernel
set_option maxRecDepth 20000 in
theorem ggX4_carry_X4_isCode : GoodIn wsX4_carry wsX4_isCode := goodIn_r _ [6, 7, 8, 9, 5, 10, 16, 17, 18, 19, 20, 21, 22, 23, 24, 25, 26, 27, 28, 29, 30, 31, 32, 33, 34, 35, 36, 37, 38, 39, 40, 41, 42, 43, 44, 45, 46, 47, 48, 49] (by decide +kernel) (by decide +kernel)
set_option maxRecDepth 20000 in
theorem gX4_carry_X4_isCode : GoodIn wsX4_carry (wsV RX4 104 RX4 yX4_isCode wsX4_isCode) := goodIn_app (goodIn_of _ (by decide +kernel)) ggX4_carry_X4_isCode
set_option maxRecDepth 20000 in
theorem ggX4_carry_X4_isOther : GoodIn wsX4_carry wsX4_isOther := goodIn_r _ [14, 15, 8, 9, 5, 10, 16, 17, 18, 19, 20, 21, 22, 23, 24, 25, 26, 27, 28, 29, 30, 31, 32, 33, 34, 35, 36, 37, 38, 39, 40, 41, 42, 43, 44, 45, 46, 47, 48, 49] (by decide +kernel) (by decide +kernel)
set_option maxRecDepth 20000 in
theorem gX4_carry_X4_isOther : GoodIn wsX4_carry (wsV RX4 113 RX4 yX4_isOther wsX4_isOther) := goodIn_app (goodIn_of _ (by decide +kernel)) ggX4_carry_X4_isOther
set_option maxRecDepth 20000 in
theorem ggX4_carry_X4_in : GoodIn wsX4_carry wsX4_in := goodIn_r _ [10] (by decide +kernel) (by decide +kernel)
set_option maxRecDepth 20000 in
theorem gX4_carry_X4_in : GoodIn wsX4_carry (va_wsS RX4 7 yX4_in wsX4_in) := goodIn_app (goodIn_of _ (by decide +kernel)) ggX4_carry_X4_in
theorem dX4_carry_0 : decode cX4_carry 0 = .ok (.aload_n 0, 1) := by decide +kernel
theorem dX4_carry_1 : decode cX4_carry 1 = .ok (.iload_n 1, 1) := by decide +kernel
theorem dX4_carry_2 : decode cX4_carry 2 = .ok (.invokevirtual 104, 3) := by decide +kernel
theorem dX4_carry_5 : decode cX4_carry 5 = .ok (.ifCond .eq 20, 3) := by decide +kernel
theorem dX4_carry_8 : decode cX4_carry 8 = .ok (.aload_n 0, 1) := by decide +kernel
theorem dX4_carry_9 : decode cX4_carry 9 = .ok (.iload_n 2, 1) := by decide +kernel
theorem dX4_carry_10 : decode cX4_carry 10 = .ok (.invokevirtual 113, 3) := by decide +kernel
theorem dX4_carry_13 : decode cX4_carry 13 = .ok (.ifCond .eq 12, 3) := by decide +kernel
theorem dX4_carry_16 : decode cX4_carry 16 = .ok (.iload_n 3, 1) := by decide +kernel
theorem dX4_carry_17 : decode cX4_carry 17 = .ok (.iconst 0, 1) := by decide +kernel
theorem dX4_carry_18 : decode cX4_carry 18 = .ok (.iconst 1, 1) := by decide +kernel
theorem dX4_carry_19 : decode cX4_carry 19 = .ok (.invokestatic 7, 3) := by decide +kernel
theorem dX4_carry_22 : decode cX4_carry 22 = .ok (.ifCond .ne 5, 3) := by decide +kernel
theorem dX4_carry_25 : decode cX4_carry 25 = .ok (.iconst (-1), 1) := by decide +kernel
theorem dX4_carry_26 : decode cX4_carry 26 = .ok (.ireturn, 1) := by decide +kernel
theorem dX4_carry_27 : decode cX4_carry 27 = .ok (.aload_n 0, 1) := by decide +kernel
theorem dX4_carry_28 : decode cX4_carry 28 = .ok (.getfield 31, 3) := by decide +kernel
theorem dX4_carry_31 : decode cX4_carry 31 = .ok (.iload_n 1, 1) := by decide +kernel
theorem dX4_carry_32 : decode cX4_carry 32 = .ok (.iaload, 1) := by decide +kernel
theorem dX4_carry_33 : decode cX4_carry 33 = .ok (.iload_n 2, 1) := by decide +kernel
theorem dX4_carry_34 : decode cX4_carry 34 = .ok (.ishr, 1) := by decide +kernel
theorem dX4_carry_35 : decode cX4_carry 35 = .ok (.iconst 1, 1) := by decide +kernel
theorem dX4_carry_36 : decode cX4_carry 36 = .ok (.iand, 1) := by decide +kernel
theorem dX4_carry_37 : decode cX4_carry 37 = .ok (.istore 4, 2) := by decide +kernel
theorem dX4_carry_39 : decode cX4_carry 39 = .ok (.aload_n 0, 1) := by decide +kernel
theorem dX4_carry_40 : decode cX4_carry 40 = .ok (.getfield 31, 3) := by decide +kernel
theorem dX4_carry_43 : decode cX4_carry 43 = .ok (.iload_n 1, 1) := by decide +kernel
theorem dX4_carry_44 : decode cX4_carry 44 = .ok (.iload_n 3, 1) := by decide +kernel
theorem dX4_carry_45 : decode cX4_carry 45 = .ok (.iconst 1, 1) := by decide +kernel
theorem dX4_carry_46 : decode cX4_carry 46 = .ok (.if_icmp .ne 16, 3) := by decide +kernel
theorem dX4_carry_49 : decode cX4_carry 49 = .ok (.aload_n 0, 1) := by decide +kernel
theorem dX4_carry_50 : decode cX4_carry 50 = .ok (.getfield 31, 3) := by decide +kernel
theorem dX4_carry_53 : decode cX4_carry 53 = .ok (.iload_n 1, 1) := by decide +kernel
theorem dX4_carry_54 : decode cX4_carry 54 = .ok (.iaload, 1) := by decide +kernel
theorem dX4_carry_55 : decode cX4_carry 55 = .ok (.iconst 1, 1) := by decide +kernel
theorem dX4_carry_56 : decode cX4_carry 56 = .ok (.iload_n 2, 1) := by decide +kernel
theorem dX4_carry_57 : decode cX4_carry 57 = .ok (.ishl, 1) := by decide +kernel
theorem dX4_carry_58 : decode cX4_carry 58 = .ok (.ior, 1) := by decide +kernel
theorem dX4_carry_59 : decode cX4_carry 59 = .ok (.goto 15, 3) := by decide +kernel
theorem dX4_carry_62 : decode cX4_carry 62 = .ok (.aload_n 0, 1) := by decide +kernel
theorem dX4_carry_63 : decode cX4_carry 63 = .ok (.getfield 31, 3) := by decide +kernel
theorem dX4_carry_66 : decode cX4_carry 66 = .ok (.iload_n 1, 1) := by decide +kernel
theorem dX4_carry_67 : decode cX4_carry 67 = .ok (.iaload, 1) := by decide +kernel
theorem dX4_carry_68 : decode cX4_carry 68 = .ok (.iconst 1, 1) := by decide +kernel
theorem dX4_carry_69 : decode cX4_carry 69 = .ok (.iload_n 2, 1) := by decide +kernel
theorem dX4_carry_70 : decode cX4_carry 70 = .ok (.ishl, 1) := by decide +kernel
theorem dX4_carry_71 : decode cX4_carry 71 = .ok (.iconst (-1), 1) := by decide +kernel
theorem dX4_carry_72 : decode cX4_carry 72 = .ok (.ixor, 1) := by decide +kernel
theorem dX4_carry_73 : decode cX4_carry 73 = .ok (.iand, 1) := by decide +kernel
theorem dX4_carry_74 : decode cX4_carry 74 = .ok (.iastore, 1) := by decide +kernel
theorem dX4_carry_75 : decode cX4_carry 75 = .ok (.iload 4, 2) := by decide +kernel
theorem dX4_carry_77 : decode cX4_carry 77 = .ok (.ireturn, 1) := by decide +kernel
theorem dX4_isBelow_0 : decode cX4_isBelow 0 = .ok (.iload_n 1, 1) := by decide +kernel
theorem dX4_isBelow_1 : decode cX4_isBelow 1 = .ok (.istore_n 3, 1) := by decide +kernel
theorem dX4_isBelow_2 : decode cX4_isBelow 2 = .ok (.iload_n 3, 1) := by decide +kernel
theorem dX4_isBelow_3 : decode cX4_isBelow 3 = .ok (.ifCond .lt 18, 3) := by decide +kernel
theorem dX4_isBelow_6 : decode cX4_isBelow 6 = .ok (.iload_n 3, 1) := by decide +kernel
theorem dX4_isBelow_7 : decode cX4_isBelow 7 = .ok (.iload_n 2, 1) := by decide +kernel
theorem dX4_isBelow_8 : decode cX4_isBelow 8 = .ok (.if_icmp .eq 13, 3) := by decide +kernel
theorem dX4_isBelow_11 : decode cX4_isBelow 11 = .ok (.aload_n 0, 1) := by decide +kernel
theorem dX4_isBelow_12 : decode cX4_isBelow 12 = .ok (.getfield 21, 3) := by decide +kernel
theorem dX4_isBelow_15 : decode cX4_isBelow 15 = .ok (.iload_n 3, 1) := by decide +kernel
theorem dX4_isBelow_16 : decode cX4_isBelow 16 = .ok (.iaload, 1) := by decide +kernel
theorem dX4_isBelow_17 : decode cX4_isBelow 17 = .ok (.istore_n 3, 1) := by decide +kernel
theorem dX4_isBelow_18 : decode cX4_isBelow 18 = .ok (.goto (-16), 3) := by decide +kernel
theorem dX4_isBelow_21 : decode cX4_isBelow 21 = .ok (.iload_n 3, 1) := by decide +kernel
theorem dX4_isBelow_22 : decode cX4_isBelow 22 = .ok (.iload_n 2, 1) := by decide +kernel
theorem dX4_isBelow_23 : decode cX4_isBelow 23 = .ok (.if_icmp .ne 7, 3) := by decide +kernel
theorem dX4_isBelow_26 : decode cX4_isBelow 26 = .ok (.iconst 1, 1) := by decide +kernel
theorem dX4_isBelow_27 : decode cX4_isBelow 27 = .ok (.goto 4, 3) := by decide +kernel
theorem dX4_isBelow_30 : decode cX4_isBelow 30 = .ok (.iconst 0, 1) := by decide +kernel
theorem dX4_isBelow_31 : decode cX4_isBelow 31 = .ok (.ireturn, 1) := by decide +kernel
theorem dX4_isOtherBelow_0 : decode cX4_isOtherBelow 0 = .ok (.iload_n 1, 1) := by decide +kernel
theorem dX4_isOtherBelow_1 : decode cX4_isOtherBelow 1 = .ok (.istore_n 3, 1) := by decide +kernel
theorem dX4_isOtherBelow_2 : decode cX4_isOtherBelow 2 = .ok (.iload_n 3, 1) := by decide +kernel
theorem dX4_isOtherBelow_3 : decode cX4_isOtherBelow 3 = .ok (.ifCond .lt 18, 3) := by decide +kernel
theorem dX4_isOtherBelow_6 : decode cX4_isOtherBelow 6 = .ok (.iload_n 3, 1) := by decide +kernel
theorem dX4_isOtherBelow_7 : decode cX4_isOtherBelow 7 = .ok (.iload_n 2, 1) := by decide +kernel
theorem dX4_isOtherBelow_8 : decode cX4_isOtherBelow 8 = .ok (.if_icmp .eq 13, 3) := by decide +kernel
theorem dX4_isOtherBelow_11 : decode cX4_isOtherBelow 11 = .ok (.aload_n 0, 1) := by decide +kernel
theorem dX4_isOtherBelow_12 : decode cX4_isOtherBelow 12 = .ok (.getfield 28, 3) := by decide +kernel
theorem dX4_isOtherBelow_15 : decode cX4_isOtherBelow 15 = .ok (.iload_n 3, 1) := by decide +kernel
theorem dX4_isOtherBelow_16 : decode cX4_isOtherBelow 16 = .ok (.iaload, 1) := by decide +kernel
theorem dX4_isOtherBelow_17 : decode cX4_isOtherBelow 17 = .ok (.istore_n 3, 1) := by decide +kernel
theorem dX4_isOtherBelow_18 : decode cX4_isOtherBelow 18 = .ok (.goto (-16), 3) := by decide +kernel
theorem dX4_isOtherBelow_21 : decode cX4_isOtherBelow 21 = .ok (.iload_n 3, 1) := by decide +kernel
theorem dX4_isOtherBelow_22 : decode cX4_isOtherBelow 22 = .ok (.iload_n 2, 1) := by decide +kernel
theorem dX4_isOtherBelow_23 : decode cX4_isOtherBelow 23 = .ok (.if_icmp .ne 7, 3) := by decide +kernel
theorem dX4_isOtherBelow_26 : decode cX4_isOtherBelow 26 = .ok (.iconst 1, 1) := by decide +kernel
theorem dX4_isOtherBelow_27 : decode cX4_isOtherBelow 27 = .ok (.goto 4, 3) := by decide +kernel
theorem dX4_isOtherBelow_30 : decode cX4_isOtherBelow 30 = .ok (.iconst 0, 1) := by decide +kernel
theorem dX4_isOtherBelow_31 : decode cX4_isOtherBelow 31 = .ok (.ireturn, 1) := by decide +kernel
set_option maxRecDepth 20000 in
theorem ggX4_isItem_X4_in : GoodIn wsX4_isItem wsX4_in := goodIn_r _ [6] (by decide +kernel) (by decide +kernel)
set_option maxRecDepth 20000 in
theorem gX4_isItem_X4_in : GoodIn wsX4_isItem (va_wsS RX4 7 yX4_in wsX4_in) := goodIn_app (goodIn_of _ (by decide +kernel)) ggX4_isItem_X4_in
theorem dX4_isItem_0 : decode cX4_isItem 0 = .ok (.iload_n 1, 1) := by decide +kernel
theorem dX4_isItem_1 : decode cX4_isItem 1 = .ok (.iconst 0, 1) := by decide +kernel
theorem dX4_isItem_2 : decode cX4_isItem 2 = .ok (.iconst 2, 1) := by decide +kernel
theorem dX4_isItem_3 : decode cX4_isItem 3 = .ok (.aload_n 0, 1) := by decide +kernel
theorem dX4_isItem_4 : decode cX4_isItem 4 = .ok (.getfield 116, 3) := by decide +kernel
theorem dX4_isItem_7 : decode cX4_isItem 7 = .ok (.imul, 1) := by decide +kernel
theorem dX4_isItem_8 : decode cX4_isItem 8 = .ok (.iconst 1, 1) := by decide +kernel
theorem dX4_isItem_9 : decode cX4_isItem 9 = .ok (.isub, 1) := by decide +kernel
theorem dX4_isItem_10 : decode cX4_isItem 10 = .ok (.invokestatic 7, 3) := by decide +kernel
theorem dX4_isItem_13 : decode cX4_isItem 13 = .ok (.ifCond .eq 25, 3) := by decide +kernel
theorem dX4_isItem_16 : decode cX4_isItem 16 = .ok (.iload_n 1, 1) := by decide +kernel
theorem dX4_isItem_17 : decode cX4_isItem 17 = .ok (.iconst 2, 1) := by decide +kernel
theorem dX4_isItem_18 : decode cX4_isItem 18 = .ok (.irem, 1) := by decide +kernel
theorem dX4_isItem_19 : decode cX4_isItem 19 = .ok (.ifCond .eq 15, 3) := by decide +kernel
theorem dX4_isItem_22 : decode cX4_isItem 22 = .ok (.aload_n 0, 1) := by decide +kernel
theorem dX4_isItem_23 : decode cX4_isItem 23 = .ok (.getfield 34, 3) := by decide +kernel
theorem dX4_isItem_26 : decode cX4_isItem 26 = .ok (.iload_n 1, 1) := by decide +kernel
theorem dX4_isItem_27 : decode cX4_isItem 27 = .ok (.iconst 2, 1) := by decide +kernel
theorem dX4_isItem_28 : decode cX4_isItem 28 = .ok (.idiv, 1) := by decide +kernel
theorem dX4_isItem_29 : decode cX4_isItem 29 = .ok (.iaload, 1) := by decide +kernel
theorem dX4_isItem_30 : decode cX4_isItem 30 = .ok (.iconst 1, 1) := by decide +kernel
theorem dX4_isItem_31 : decode cX4_isItem 31 = .ok (.if_icmp .ne 7, 3) := by decide +kernel
theorem dX4_isItem_34 : decode cX4_isItem 34 = .ok (.iconst 1, 1) := by decide +kernel
theorem dX4_isItem_35 : decode cX4_isItem 35 = .ok (.goto 4, 3) := by decide +kernel
theorem dX4_isItem_38 : decode cX4_isItem 38 = .ok (.iconst 0, 1) := by decide +kernel
theorem dX4_isItem_39 : decode cX4_isItem 39 = .ok (.ireturn, 1) := by decide +kernel
theorem dX4_anew_0 : decode cX4_anew 0 = .ok (.aload_n 0, 1) := by decide +kernel
theorem dX4_anew_1 : decode cX4_anew 1 = .ok (.getfield 46, 3) := by decide +kernel
theorem dX4_anew_4 : decode cX4_anew 4 = .ok (.iload_n 1, 1) := by decide +kernel
theorem dX4_anew_5 : decode cX4_anew 5 = .ok (.iconst 0, 1) := by decide +kernel
theorem dX4_anew_6 : decode cX4_anew 6 = .ok (.iastore, 1) := by decide +kernel
theorem dX4_anew_7 : decode cX4_anew 7 = .ok (.aload_n 0, 1) := by decide +kernel
theorem dX4_anew_8 : decode cX4_anew 8 = .ok (.getfield 49, 3) := by decide +kernel
theorem dX4_anew_11 : decode cX4_anew 11 = .ok (.iload_n 1, 1) := by decide +kernel
theorem dX4_anew_12 : decode cX4_anew 12 = .ok (.iconst (-1), 1) := by decide +kernel
theorem dX4_anew_13 : decode cX4_anew 13 = .ok (.iastore, 1) := by decide +kernel
theorem dX4_anew_14 : decode cX4_anew 14 = .ok (.aload_n 0, 1) := by decide +kernel
theorem dX4_anew_15 : decode cX4_anew 15 = .ok (.getfield 52, 3) := by decide +kernel
theorem dX4_anew_18 : decode cX4_anew 18 = .ok (.iload_n 1, 1) := by decide +kernel
theorem dX4_anew_19 : decode cX4_anew 19 = .ok (.iconst (-1), 1) := by decide +kernel
theorem dX4_anew_20 : decode cX4_anew 20 = .ok (.iastore, 1) := by decide +kernel
theorem dX4_anew_21 : decode cX4_anew 21 = .ok (.aload_n 0, 1) := by decide +kernel
theorem dX4_anew_22 : decode cX4_anew 22 = .ok (.getfield 55, 3) := by decide +kernel
theorem dX4_anew_25 : decode cX4_anew 25 = .ok (.iload_n 1, 1) := by decide +kernel
theorem dX4_anew_26 : decode cX4_anew 26 = .ok (.iconst (-1), 1) := by decide +kernel
theorem dX4_anew_27 : decode cX4_anew 27 = .ok (.iastore, 1) := by decide +kernel
theorem dX4_anew_28 : decode cX4_anew 28 = .ok (.aload_n 0, 1) := by decide +kernel
theorem dX4_anew_29 : decode cX4_anew 29 = .ok (.getfield 58, 3) := by decide +kernel
theorem dX4_anew_32 : decode cX4_anew 32 = .ok (.iload_n 1, 1) := by decide +kernel
theorem dX4_anew_33 : decode cX4_anew 33 = .ok (.iconst (-1), 1) := by decide +kernel
theorem dX4_anew_34 : decode cX4_anew 34 = .ok (.iastore, 1) := by decide +kernel
theorem dX4_anew_35 : decode cX4_anew 35 = .ok (.return_, 1) := by decide +kernel
set_option maxRecDepth 20000 in
theorem ggX4_answer_X4_in : GoodIn wsX4_answer wsX4_in := goodIn_r _ [9] (by decide +kernel) (by decide +kernel)
set_option maxRecDepth 20000 in
theorem gX4_answer_X4_in : GoodIn wsX4_answer (va_wsS RX4 7 yX4_in wsX4_in) := goodIn_app (goodIn_of _ (by decide +kernel)) ggX4_answer_X4_in
set_option maxRecDepth 20000 in
theorem ggX4_answer_X4_anew : GoodIn wsX4_answer wsX4_anew := goodIn_r _ [13, 14, 15, 16, 17, 18, 19, 20, 21, 22, 23, 24, 25, 26, 27, 28, 29, 30, 31, 32, 33, 34, 35, 36, 37, 38, 39, 40, 41, 42, 43, 44, 45, 46, 47, 48, 49, 50, 51, 52] (by decide +kernel) (by decide +kernel)
set_option maxRecDepth 20000 in
theorem gX4_answer_X4_anew : GoodIn wsX4_answer (wsV RX4 119 RX4 yX4_anew wsX4_anew) := goodIn_app (goodIn_of _ (by decide +kernel)) ggX4_answer_X4_anew
theorem dX4_answer_0 : decode cX4_answer 0 = .ok (.iload_n 1, 1) := by decide +kernel
theorem dX4_answer_1 : decode cX4_answer 1 = .ok (.iconst 0, 1) := by decide +kernel
theorem dX4_answer_2 : decode cX4_answer 2 = .ok (.iconst 1, 1) := by decide +kernel
theorem dX4_answer_3 : decode cX4_answer 3 = .ok (.invokestatic 7, 3) := by decide +kernel
theorem dX4_answer_6 : decode cX4_answer 6 = .ok (.ifCond .eq 23, 3) := by decide +kernel
theorem dX4_answer_9 : decode cX4_answer 9 = .ok (.iload_n 2, 1) := by decide +kernel
theorem dX4_answer_10 : decode cX4_answer 10 = .ok (.iconst 0, 1) := by decide +kernel
theorem dX4_answer_11 : decode cX4_answer 11 = .ok (.bipush 9, 2) := by decide +kernel
theorem dX4_answer_13 : decode cX4_answer 13 = .ok (.invokestatic 7, 3) := by decide +kernel
theorem dX4_answer_16 : decode cX4_answer 16 = .ok (.ifCond .eq 13, 3) := by decide +kernel
theorem dX4_answer_19 : decode cX4_answer 19 = .ok (.iload_n 3, 1) := by decide +kernel
theorem dX4_answer_20 : decode cX4_answer 20 = .ok (.iconst 0, 1) := by decide +kernel
theorem dX4_answer_21 : decode cX4_answer 21 = .ok (.bipush 9, 2) := by decide +kernel
theorem dX4_answer_23 : decode cX4_answer 23 = .ok (.invokestatic 7, 3) := by decide +kernel
theorem dX4_answer_26 : decode cX4_answer 26 = .ok (.ifCond .ne 5, 3) := by decide +kernel
theorem dX4_answer_29 : decode cX4_answer 29 = .ok (.iconst (-1), 1) := by decide +kernel
theorem dX4_answer_30 : decode cX4_answer 30 = .ok (.ireturn, 1) := by decide +kernel
theorem dX4_answer_31 : decode cX4_answer 31 = .ok (.aload_n 0, 1) := by decide +kernel
theorem dX4_answer_32 : decode cX4_answer 32 = .ok (.getfield 116, 3) := by decide +kernel
theorem dX4_answer_35 : decode cX4_answer 35 = .ok (.bipush 80, 2) := by decide +kernel
theorem dX4_answer_37 : decode cX4_answer 37 = .ok (.if_icmp .ne 6, 3) := by decide +kernel
theorem dX4_answer_40 : decode cX4_answer 40 = .ok (.bipush (-3), 2) := by decide +kernel
theorem dX4_answer_42 : decode cX4_answer 42 = .ok (.ireturn, 1) := by decide +kernel
theorem dX4_answer_43 : decode cX4_answer 43 = .ok (.aload_n 0, 1) := by decide +kernel
theorem dX4_answer_44 : decode cX4_answer 44 = .ok (.getfield 116, 3) := by decide +kernel
theorem dX4_answer_47 : decode cX4_answer 47 = .ok (.istore 4, 2) := by decide +kernel
theorem dX4_answer_49 : decode cX4_answer 49 = .ok (.aload_n 0, 1) := by decide +kernel
theorem dX4_answer_50 : decode cX4_answer 50 = .ok (.getfield 34, 3) := by decide +kernel
theorem dX4_answer_53 : decode cX4_answer 53 = .ok (.iload 4, 2) := by decide +kernel
theorem dX4_answer_55 : decode cX4_answer 55 = .ok (.iload_n 1, 1) := by decide +kernel
theorem dX4_answer_56 : decode cX4_answer 56 = .ok (.iastore, 1) := by decide +kernel
theorem dX4_answer_57 : decode cX4_answer 57 = .ok (.aload_n 0, 1) := by decide +kernel
theorem dX4_answer_58 : decode cX4_answer 58 = .ok (.getfield 37, 3) := by decide +kernel
theorem dX4_answer_61 : decode cX4_answer 61 = .ok (.iload 4, 2) := by decide +kernel
theorem dX4_answer_63 : decode cX4_answer 63 = .ok (.iload_n 2, 1) := by decide +kernel
theorem dX4_answer_64 : decode cX4_answer 64 = .ok (.iastore, 1) := by decide +kernel
theorem dX4_answer_65 : decode cX4_answer 65 = .ok (.aload_n 0, 1) := by decide +kernel
theorem dX4_answer_66 : decode cX4_answer 66 = .ok (.getfield 40, 3) := by decide +kernel
theorem dX4_answer_69 : decode cX4_answer 69 = .ok (.iload 4, 2) := by decide +kernel
theorem dX4_answer_71 : decode cX4_answer 71 = .ok (.iload_n 3, 1) := by decide +kernel
theorem dX4_answer_72 : decode cX4_answer 72 = .ok (.iastore, 1) := by decide +kernel
theorem dX4_answer_73 : decode cX4_answer 73 = .ok (.iconst 2, 1) := by decide +kernel
theorem dX4_answer_74 : decode cX4_answer 74 = .ok (.iload 4, 2) := by decide +kernel
theorem dX4_answer_76 : decode cX4_answer 76 = .ok (.imul, 1) := by decide +kernel
theorem dX4_answer_77 : decode cX4_answer 77 = .ok (.istore 5, 2) := by decide +kernel
theorem dX4_answer_79 : decode cX4_answer 79 = .ok (.iload 5, 2) := by decide +kernel
theorem dX4_answer_81 : decode cX4_answer 81 = .ok (.iconst 2, 1) := by decide +kernel
theorem dX4_answer_82 : decode cX4_answer 82 = .ok (.iload 4, 2) := by decide +kernel
theorem dX4_answer_84 : decode cX4_answer 84 = .ok (.imul, 1) := by decide +kernel
theorem dX4_answer_85 : decode cX4_answer 85 = .ok (.iconst 2, 1) := by decide +kernel
theorem dX4_answer_86 : decode cX4_answer 86 = .ok (.iadd, 1) := by decide +kernel
theorem dX4_answer_87 : decode cX4_answer 87 = .ok (.if_icmp .ge 23, 3) := by decide +kernel
theorem dX4_answer_90 : decode cX4_answer 90 = .ok (.aload_n 0, 1) := by decide +kernel
theorem dX4_answer_91 : decode cX4_answer 91 = .ok (.getfield 43, 3) := by decide +kernel
theorem dX4_answer_94 : decode cX4_answer 94 = .ok (.iload 5, 2) := by decide +kernel
theorem dX4_answer_96 : decode cX4_answer 96 = .ok (.lconst 0, 1) := by decide +kernel
theorem dX4_answer_97 : decode cX4_answer 97 = .ok (.lastore, 1) := by decide +kernel
theorem dX4_answer_98 : decode cX4_answer 98 = .ok (.aload_n 0, 1) := by decide +kernel
theorem dX4_answer_99 : decode cX4_answer 99 = .ok (.iload 5, 2) := by decide +kernel
theorem dX4_answer_101 : decode cX4_answer 101 = .ok (.invokevirtual 119, 3) := by decide +kernel
theorem dX4_answer_104 : decode cX4_answer 104 = .ok (.iinc 5 1, 3) := by decide +kernel
theorem dX4_answer_107 : decode cX4_answer 107 = .ok (.goto (-28), 3) := by decide +kernel
theorem dX4_answer_110 : decode cX4_answer 110 = .ok (.aload_n 0, 1) := by decide +kernel
theorem dX4_answer_111 : decode cX4_answer 111 = .ok (.dup, 1) := by decide +kernel
theorem dX4_answer_112 : decode cX4_answer 112 = .ok (.getfield 116, 3) := by decide +kernel
theorem dX4_answer_115 : decode cX4_answer 115 = .ok (.iconst 1, 1) := by decide +kernel
theorem dX4_answer_116 : decode cX4_answer 116 = .ok (.iadd, 1) := by decide +kernel
theorem dX4_answer_117 : decode cX4_answer 117 = .ok (.putfield 116, 3) := by decide +kernel
theorem dX4_answer_120 : decode cX4_answer 120 = .ok (.iload 4, 2) := by decide +kernel
theorem dX4_answer_122 : decode cX4_answer 122 = .ok (.ireturn, 1) := by decide +kernel
set_option maxRecDepth 20000 in
theorem ggX4_put_X4_isItem : GoodIn wsX4_put wsX4_isItem := goodIn_r _ [7, 8, 9, 10, 11, 6, 12, 19, 20, 21, 22, 23, 24, 25, 26, 27, 28, 29, 30, 31, 32, 33, 34, 35, 36, 37, 38, 39, 40, 41, 42, 43, 44, 45, 46, 47, 48, 49, 50, 51, 52] (by decide +kernel) (by decide +kernel)
set_option maxRecDepth 20000 in
theorem gX4_put_X4_isItem : GoodIn wsX4_put (wsV RX4 123 RX4 yX4_isItem wsX4_isItem) := goodIn_app (goodIn_of _ (by decide +kernel)) ggX4_put_X4_isItem
set_option maxRecDepth 20000 in
theorem ggX4_put_X4_isWord : GoodIn wsX4_put wsX4_isWord := goodIn_r _ [15, 10, 11, 6, 12] (by decide +kernel) (by decide +kernel)
set_option maxRecDepth 20000 in
theorem gX4_put_X4_isWord : GoodIn wsX4_put (va_wsS RX4 108 yX4_isWord wsX4_isWord) := goodIn_app (goodIn_of _ (by decide +kernel)) ggX4_put_X4_isWord
set_option maxRecDepth 20000 in
theorem ggX4_put_X4_bits : GoodIn wsX4_put wsX4_bits := goodIn_r _ [18] (by decide +kernel) (by decide +kernel)
set_option maxRecDepth 20000 in
theorem gX4_put_X4_bits : GoodIn wsX4_put (va_wsS RX4 126 yX4_bits wsX4_bits) := goodIn_app (goodIn_of _ (by decide +kernel)) ggX4_put_X4_bits
theorem dX4_put_0 : decode cX4_put 0 = .ok (.aload_n 0, 1) := by decide +kernel
theorem dX4_put_1 : decode cX4_put 1 = .ok (.iload_n 1, 1) := by decide +kernel
theorem dX4_put_2 : decode cX4_put 2 = .ok (.invokevirtual 123, 3) := by decide +kernel
theorem dX4_put_5 : decode cX4_put 5 = .ok (.ifCond .eq 10, 3) := by decide +kernel
theorem dX4_put_8 : decode cX4_put 8 = .ok (.iload_n 2, 1) := by decide +kernel
theorem dX4_put_9 : decode cX4_put 9 = .ok (.invokestatic 108, 3) := by decide +kernel
theorem dX4_put_12 : decode cX4_put 12 = .ok (.ifCond .ne 5, 3) := by decide +kernel
theorem dX4_put_15 : decode cX4_put 15 = .ok (.iconst (-1), 1) := by decide +kernel
theorem dX4_put_16 : decode cX4_put 16 = .ok (.ireturn, 1) := by decide +kernel
theorem dX4_put_17 : decode cX4_put 17 = .ok (.aload_n 0, 1) := by decide +kernel
theorem dX4_put_18 : decode cX4_put 18 = .ok (.getfield 46, 3) := by decide +kernel
theorem dX4_put_21 : decode cX4_put 21 = .ok (.iload_n 1, 1) := by decide +kernel
theorem dX4_put_22 : decode cX4_put 22 = .ok (.iaload, 1) := by decide +kernel
theorem dX4_put_23 : decode cX4_put 23 = .ok (.ifCond .ne 18, 3) := by decide +kernel
theorem dX4_put_26 : decode cX4_put 26 = .ok (.aload_n 0, 1) := by decide +kernel
theorem dX4_put_27 : decode cX4_put 27 = .ok (.getfield 43, 3) := by decide +kernel
theorem dX4_put_30 : decode cX4_put 30 = .ok (.iload_n 1, 1) := by decide +kernel
theorem dX4_put_31 : decode cX4_put 31 = .ok (.laload, 1) := by decide +kernel
theorem dX4_put_32 : decode cX4_put 32 = .ok (.iload_n 2, 1) := by decide +kernel
theorem dX4_put_33 : decode cX4_put 33 = .ok (.lshr, 1) := by decide +kernel
theorem dX4_put_34 : decode cX4_put 34 = .ok (.lconst 1, 1) := by decide +kernel
theorem dX4_put_35 : decode cX4_put 35 = .ok (.land, 1) := by decide +kernel
theorem dX4_put_36 : decode cX4_put 36 = .ok (.lconst 1, 1) := by decide +kernel
theorem dX4_put_37 : decode cX4_put 37 = .ok (.lcmp, 1) := by decide +kernel
theorem dX4_put_38 : decode cX4_put 38 = .ok (.ifCond .ne 6, 3) := by decide +kernel
theorem dX4_put_41 : decode cX4_put 41 = .ok (.bipush (-2), 2) := by decide +kernel
theorem dX4_put_43 : decode cX4_put 43 = .ok (.ireturn, 1) := by decide +kernel
theorem dX4_put_44 : decode cX4_put 44 = .ok (.aload_n 0, 1) := by decide +kernel
theorem dX4_put_45 : decode cX4_put 45 = .ok (.getfield 43, 3) := by decide +kernel
theorem dX4_put_48 : decode cX4_put 48 = .ok (.iload_n 1, 1) := by decide +kernel
theorem dX4_put_49 : decode cX4_put 49 = .ok (.dup2, 1) := by decide +kernel
theorem dX4_put_50 : decode cX4_put 50 = .ok (.laload, 1) := by decide +kernel
theorem dX4_put_51 : decode cX4_put 51 = .ok (.lconst 1, 1) := by decide +kernel
theorem dX4_put_52 : decode cX4_put 52 = .ok (.iload_n 2, 1) := by decide +kernel
theorem dX4_put_53 : decode cX4_put 53 = .ok (.lshl, 1) := by decide +kernel
theorem dX4_put_54 : decode cX4_put 54 = .ok (.lor, 1) := by decide +kernel
theorem dX4_put_55 : decode cX4_put 55 = .ok (.lastore, 1) := by decide +kernel
theorem dX4_put_56 : decode cX4_put 56 = .ok (.aload_n 0, 1) := by decide +kernel
theorem dX4_put_57 : decode cX4_put 57 = .ok (.getfield 43, 3) := by decide +kernel
theorem dX4_put_60 : decode cX4_put 60 = .ok (.iload_n 1, 1) := by decide +kernel
theorem dX4_put_61 : decode cX4_put 61 = .ok (.laload, 1) := by decide +kernel
theorem dX4_put_62 : decode cX4_put 62 = .ok (.invokestatic 126, 3) := by decide +kernel
theorem dX4_put_65 : decode cX4_put 65 = .ok (.ireturn, 1) := by decide +kernel
theorem dX4_setOf_0 : decode cX4_setOf 0 = .ok (.lconst 0, 1) := by decide +kernel
theorem dX4_setOf_1 : decode cX4_setOf 1 = .ok (.lstore_n 2, 1) := by decide +kernel
theorem dX4_setOf_2 : decode cX4_setOf 2 = .ok (.iconst 0, 1) := by decide +kernel
theorem dX4_setOf_3 : decode cX4_setOf 3 = .ok (.istore 4, 2) := by decide +kernel
theorem dX4_setOf_5 : decode cX4_setOf 5 = .ok (.iload 4, 2) := by decide +kernel
theorem dX4_setOf_7 : decode cX4_setOf 7 = .ok (.bipush 60, 2) := by decide +kernel
theorem dX4_setOf_9 : decode cX4_setOf 9 = .ok (.if_icmp .ge 37, 3) := by decide +kernel
theorem dX4_setOf_12 : decode cX4_setOf 12 = .ok (.aload_n 0, 1) := by decide +kernel
theorem dX4_setOf_13 : decode cX4_setOf 13 = .ok (.getfield 43, 3) := by decide +kernel
theorem dX4_setOf_16 : decode cX4_setOf 16 = .ok (.iload_n 1, 1) := by decide +kernel
theorem dX4_setOf_17 : decode cX4_setOf 17 = .ok (.laload, 1) := by decide +kernel
theorem dX4_setOf_18 : decode cX4_setOf 18 = .ok (.iload 4, 2) := by decide +kernel
theorem dX4_setOf_20 : decode cX4_setOf 20 = .ok (.lshr, 1) := by decide +kernel
theorem dX4_setOf_21 : decode cX4_setOf 21 = .ok (.lconst 1, 1) := by decide +kernel
theorem dX4_setOf_22 : decode cX4_setOf 22 = .ok (.land, 1) := by decide +kernel
theorem dX4_setOf_23 : decode cX4_setOf 23 = .ok (.lconst 1, 1) := by decide +kernel
theorem dX4_setOf_24 : decode cX4_setOf 24 = .ok (.lcmp, 1) := by decide +kernel
theorem dX4_setOf_25 : decode cX4_setOf 25 = .ok (.ifCond .ne 15, 3) := by decide +kernel
theorem dX4_setOf_28 : decode cX4_setOf 28 = .ok (.lload_n 2, 1) := by decide +kernel
theorem dX4_setOf_29 : decode cX4_setOf 29 = .ok (.lconst 1, 1) := by decide +kernel
theorem dX4_setOf_30 : decode cX4_setOf 30 = .ok (.aload_n 0, 1) := by decide +kernel
theorem dX4_setOf_31 : decode cX4_setOf 31 = .ok (.getfield 17, 3) := by decide +kernel
theorem dX4_setOf_34 : decode cX4_setOf 34 = .ok (.iload 4, 2) := by decide +kernel
theorem dX4_setOf_36 : decode cX4_setOf 36 = .ok (.iaload, 1) := by decide +kernel
theorem dX4_setOf_37 : decode cX4_setOf 37 = .ok (.lshl, 1) := by decide +kernel
theorem dX4_setOf_38 : decode cX4_setOf 38 = .ok (.lor, 1) := by decide +kernel
theorem dX4_setOf_39 : decode cX4_setOf 39 = .ok (.lstore_n 2, 1) := by decide +kernel
theorem dX4_setOf_40 : decode cX4_setOf 40 = .ok (.iinc 4 1, 3) := by decide +kernel
theorem dX4_setOf_43 : decode cX4_setOf 43 = .ok (.goto (-38), 3) := by decide +kernel
theorem dX4_setOf_46 : decode cX4_setOf 46 = .ok (.lload_n 2, 1) := by decide +kernel
theorem dX4_setOf_47 : decode cX4_setOf 47 = .ok (.lreturn, 1) := by decide +kernel
set_option maxRecDepth 20000 in
theorem ggX4_areAlike_X4_setOf : GoodIn wsX4_areAlike wsX4_setOf := goodIn_r _ [7, 8, 9, 10, 11, 12, 13, 14, 15, 16, 17, 18, 19, 20, 21, 22, 23, 24, 25, 26, 27, 28, 29, 30, 31, 32, 33, 34, 35, 36, 37, 38, 39, 40, 41, 42, 43] (by decide +kernel) (by decide +kernel)
set_option maxRecDepth 20000 in
theorem gX4_areAlike_X4_setOf : GoodIn wsX4_areAlike (wsV RX4 130 RX4 yX4_setOf wsX4_setOf) := goodIn_app (goodIn_of _ (by decide +kernel)) ggX4_areAlike_X4_setOf
theorem dX4_areAlike_0 : decode cX4_areAlike 0 = .ok (.aload_n 0, 1) := by decide +kernel
theorem dX4_areAlike_1 : decode cX4_areAlike 1 = .ok (.getfield 37, 3) := by decide +kernel
theorem dX4_areAlike_4 : decode cX4_areAlike 4 = .ok (.iload_n 1, 1) := by decide +kernel
theorem dX4_areAlike_5 : decode cX4_areAlike 5 = .ok (.iconst 2, 1) := by decide +kernel
theorem dX4_areAlike_6 : decode cX4_areAlike 6 = .ok (.idiv, 1) := by decide +kernel
theorem dX4_areAlike_7 : decode cX4_areAlike 7 = .ok (.iaload, 1) := by decide +kernel
theorem dX4_areAlike_8 : decode cX4_areAlike 8 = .ok (.aload_n 0, 1) := by decide +kernel
theorem dX4_areAlike_9 : decode cX4_areAlike 9 = .ok (.getfield 37, 3) := by decide +kernel
theorem dX4_areAlike_12 : decode cX4_areAlike 12 = .ok (.iload_n 2, 1) := by decide +kernel
theorem dX4_areAlike_13 : decode cX4_areAlike 13 = .ok (.iconst 2, 1) := by decide +kernel
theorem dX4_areAlike_14 : decode cX4_areAlike 14 = .ok (.idiv, 1) := by decide +kernel
theorem dX4_areAlike_15 : decode cX4_areAlike 15 = .ok (.iaload, 1) := by decide +kernel
theorem dX4_areAlike_16 : decode cX4_areAlike 16 = .ok (.if_icmp .ne 40, 3) := by decide +kernel
theorem dX4_areAlike_19 : decode cX4_areAlike 19 = .ok (.aload_n 0, 1) := by decide +kernel
theorem dX4_areAlike_20 : decode cX4_areAlike 20 = .ok (.getfield 40, 3) := by decide +kernel
theorem dX4_areAlike_23 : decode cX4_areAlike 23 = .ok (.iload_n 1, 1) := by decide +kernel
theorem dX4_areAlike_24 : decode cX4_areAlike 24 = .ok (.iconst 2, 1) := by decide +kernel
theorem dX4_areAlike_25 : decode cX4_areAlike 25 = .ok (.idiv, 1) := by decide +kernel
theorem dX4_areAlike_26 : decode cX4_areAlike 26 = .ok (.iaload, 1) := by decide +kernel
theorem dX4_areAlike_27 : decode cX4_areAlike 27 = .ok (.aload_n 0, 1) := by decide +kernel
theorem dX4_areAlike_28 : decode cX4_areAlike 28 = .ok (.getfield 40, 3) := by decide +kernel
theorem dX4_areAlike_31 : decode cX4_areAlike 31 = .ok (.iload_n 2, 1) := by decide +kernel
theorem dX4_areAlike_32 : decode cX4_areAlike 32 = .ok (.iconst 2, 1) := by decide +kernel
theorem dX4_areAlike_33 : decode cX4_areAlike 33 = .ok (.idiv, 1) := by decide +kernel
theorem dX4_areAlike_34 : decode cX4_areAlike 34 = .ok (.iaload, 1) := by decide +kernel
theorem dX4_areAlike_35 : decode cX4_areAlike 35 = .ok (.if_icmp .ne 21, 3) := by decide +kernel
theorem dX4_areAlike_38 : decode cX4_areAlike 38 = .ok (.aload_n 0, 1) := by decide +kernel
theorem dX4_areAlike_39 : decode cX4_areAlike 39 = .ok (.iload_n 1, 1) := by decide +kernel
theorem dX4_areAlike_40 : decode cX4_areAlike 40 = .ok (.invokevirtual 130, 3) := by decide +kernel
theorem dX4_areAlike_43 : decode cX4_areAlike 43 = .ok (.aload_n 0, 1) := by decide +kernel
theorem dX4_areAlike_44 : decode cX4_areAlike 44 = .ok (.iload_n 2, 1) := by decide +kernel
theorem dX4_areAlike_45 : decode cX4_areAlike 45 = .ok (.invokevirtual 130, 3) := by decide +kernel
theorem dX4_areAlike_48 : decode cX4_areAlike 48 = .ok (.lcmp, 1) := by decide +kernel
theorem dX4_areAlike_49 : decode cX4_areAlike 49 = .ok (.ifCond .ne 7, 3) := by decide +kernel
theorem dX4_areAlike_52 : decode cX4_areAlike 52 = .ok (.iconst 1, 1) := by decide +kernel
theorem dX4_areAlike_53 : decode cX4_areAlike 53 = .ok (.goto 4, 3) := by decide +kernel
theorem dX4_areAlike_56 : decode cX4_areAlike 56 = .ok (.iconst 0, 1) := by decide +kernel
theorem dX4_areAlike_57 : decode cX4_areAlike 57 = .ok (.ireturn, 1) := by decide +kernel
set_option maxRecDepth 20000 in
theorem ggX4_likesOf_X4_isItem : GoodIn wsX4_likesOf wsX4_isItem := goodIn_r _ [7, 1, 8, 9, 10, 6, 11, 24, 25, 26, 27, 28, 29, 30, 31, 32, 33, 34, 35, 36, 37, 38, 39, 40, 41, 42, 43, 44, 45, 46, 47, 48, 49, 50, 51, 52, 53, 54, 55, 56, 57] (by decide +kernel) (by decide +kernel)
set_option maxRecDepth 20000 in
theorem gX4_likesOf_X4_isItem : GoodIn wsX4_likesOf (wsV RX4 123 RX4 yX4_isItem wsX4_isItem) := goodIn_app (goodIn_of _ (by decide +kernel)) ggX4_likesOf_X4_isItem
set_option maxRecDepth 20000 in
theorem ggX4_likesOf_X4_areAlike : GoodIn wsX4_likesOf wsX4_areAlike := goodIn_r _ [15, 16, 17, 18, 19, 20, 6, 21, 22, 23, 24, 25, 26, 27, 28, 29, 30, 31, 32, 33, 34, 35, 36, 37, 38, 39, 40, 41, 42, 43, 44, 45, 46, 47, 48, 49, 50, 51, 52, 53, 54, 55, 56, 57] (by decide +kernel) (by decide +kernel)
set_option maxRecDepth 20000 in
theorem gX4_likesOf_X4_areAlike : GoodIn wsX4_likesOf (wsV RX4 134 RX4 yX4_areAlike wsX4_areAlike) := goodIn_app (goodIn_of _ (by decide +kernel)) ggX4_likesOf_X4_areAlike
theorem dX4_likesOf_0 : decode cX4_likesOf 0 = .ok (.iconst 0, 1) := by decide +kernel
theorem dX4_likesOf_1 : decode cX4_likesOf 1 = .ok (.istore_n 3, 1) := by decide +kernel
theorem dX4_likesOf_2 : decode cX4_likesOf 2 = .ok (.iconst 0, 1) := by decide +kernel
theorem dX4_likesOf_3 : decode cX4_likesOf 3 = .ok (.istore 4, 2) := by decide +kernel
theorem dX4_likesOf_5 : decode cX4_likesOf 5 = .ok (.iload 4, 2) := by decide +kernel
theorem dX4_likesOf_7 : decode cX4_likesOf 7 = .ok (.iconst 2, 1) := by decide +kernel
theorem dX4_likesOf_8 : decode cX4_likesOf 8 = .ok (.aload_n 0, 1) := by decide +kernel
theorem dX4_likesOf_9 : decode cX4_likesOf 9 = .ok (.getfield 116, 3) := by decide +kernel
theorem dX4_likesOf_12 : decode cX4_likesOf 12 = .ok (.imul, 1) := by decide +kernel
theorem dX4_likesOf_13 : decode cX4_likesOf 13 = .ok (.if_icmp .ge 51, 3) := by decide +kernel
theorem dX4_likesOf_16 : decode cX4_likesOf 16 = .ok (.iload_n 3, 1) := by decide +kernel
theorem dX4_likesOf_17 : decode cX4_likesOf 17 = .ok (.aload_n 0, 1) := by decide +kernel
theorem dX4_likesOf_18 : decode cX4_likesOf 18 = .ok (.iload 4, 2) := by decide +kernel
theorem dX4_likesOf_20 : decode cX4_likesOf 20 = .ok (.invokevirtual 123, 3) := by decide +kernel
theorem dX4_likesOf_23 : decode cX4_likesOf 23 = .ok (.ifCond .eq 32, 3) := by decide +kernel
theorem dX4_likesOf_26 : decode cX4_likesOf 26 = .ok (.iload_n 2, 1) := by decide +kernel
theorem dX4_likesOf_27 : decode cX4_likesOf 27 = .ok (.ifCond .lt 14, 3) := by decide +kernel
theorem dX4_likesOf_30 : decode cX4_likesOf 30 = .ok (.aload_n 0, 1) := by decide +kernel
theorem dX4_likesOf_31 : decode cX4_likesOf 31 = .ok (.getfield 46, 3) := by decide +kernel
theorem dX4_likesOf_34 : decode cX4_likesOf 34 = .ok (.iload 4, 2) := by decide +kernel
theorem dX4_likesOf_36 : decode cX4_likesOf 36 = .ok (.iaload, 1) := by decide +kernel
theorem dX4_likesOf_37 : decode cX4_likesOf 37 = .ok (.iload_n 2, 1) := by decide +kernel
theorem dX4_likesOf_38 : decode cX4_likesOf 38 = .ok (.if_icmp .ne 17, 3) := by decide +kernel
theorem dX4_likesOf_41 : decode cX4_likesOf 41 = .ok (.aload_n 0, 1) := by decide +kernel
theorem dX4_likesOf_42 : decode cX4_likesOf 42 = .ok (.iload 4, 2) := by decide +kernel
theorem dX4_likesOf_44 : decode cX4_likesOf 44 = .ok (.iload_n 1, 1) := by decide +kernel
theorem dX4_likesOf_45 : decode cX4_likesOf 45 = .ok (.invokevirtual 134, 3) := by decide +kernel
theorem dX4_likesOf_48 : decode cX4_likesOf 48 = .ok (.ifCond .eq 7, 3) := by decide +kernel
theorem dX4_likesOf_51 : decode cX4_likesOf 51 = .ok (.iconst 1, 1) := by decide +kernel
theorem dX4_likesOf_52 : decode cX4_likesOf 52 = .ok (.goto 4, 3) := by decide +kernel
theorem dX4_likesOf_55 : decode cX4_likesOf 55 = .ok (.iconst 0, 1) := by decide +kernel
theorem dX4_likesOf_56 : decode cX4_likesOf 56 = .ok (.iadd, 1) := by decide +kernel
theorem dX4_likesOf_57 : decode cX4_likesOf 57 = .ok (.istore_n 3, 1) := by decide +kernel
theorem dX4_likesOf_58 : decode cX4_likesOf 58 = .ok (.iinc 4 1, 3) := by decide +kernel
theorem dX4_likesOf_61 : decode cX4_likesOf 61 = .ok (.goto (-56), 3) := by decide +kernel
theorem dX4_likesOf_64 : decode cX4_likesOf 64 = .ok (.iload_n 3, 1) := by decide +kernel
theorem dX4_likesOf_65 : decode cX4_likesOf 65 = .ok (.ireturn, 1) := by decide +kernel
set_option maxRecDepth 20000 in
theorem ggX4_set_X4_isItem : GoodIn wsX4_set wsX4_isItem := goodIn_r _ [5, 6, 7, 8, 9, 4, 10, 31, 32, 33, 34, 35, 36, 37, 38, 39, 40, 41, 42, 43, 44, 45, 46, 47, 48, 49, 50, 51, 52, 53, 54, 55, 56, 57, 58, 59, 60, 61, 62, 63, 64] (by decide +kernel) (by decide +kernel)
set_option maxRecDepth 20000 in
theorem gX4_set_X4_isItem : GoodIn wsX4_set (wsV RX4 123 RX4 yX4_isItem wsX4_isItem) := goodIn_app (goodIn_of _ (by decide +kernel)) ggX4_set_X4_isItem
set_option maxRecDepth 20000 in
theorem ggX4_set_X4_in : GoodIn wsX4_set wsX4_in := goodIn_r _ [10] (by decide +kernel) (by decide +kernel)
set_option maxRecDepth 20000 in
theorem gX4_set_X4_in : GoodIn wsX4_set (va_wsS RX4 7 yX4_in wsX4_in) := goodIn_app (goodIn_of _ (by decide +kernel)) ggX4_set_X4_in
set_option maxRecDepth 20000 in
theorem ggX4_set_X4_setOf : GoodIn wsX4_set wsX4_setOf := goodIn_r _ [14, 15, 16, 31, 32, 33, 34, 35, 36, 37, 38, 39, 40, 41, 42, 43, 44, 45, 46, 47, 48, 49, 50, 51, 52, 53, 54, 55, 56, 57, 58, 59, 60, 61, 62, 63, 64] (by decide +kernel) (by decide +kernel)
set_option maxRecDepth 20000 in
theorem gX4_set_X4_setOf : GoodIn wsX4_set (wsV RX4 130 RX4 yX4_setOf wsX4_setOf) := goodIn_app (goodIn_of _ (by decide +kernel)) ggX4_set_X4_setOf
set_option maxRecDepth 20000 in
theorem ggX4_set_X4_bits : GoodIn wsX4_set wsX4_bits := goodIn_r _ [19] (by decide +kernel) (by decide +kernel)
set_option maxRecDepth 20000 in
theorem gX4_set_X4_bits : GoodIn wsX4_set (va_wsS RX4 126 yX4_bits wsX4_bits) := goodIn_app (goodIn_of _ (by decide +kernel)) ggX4_set_X4_bits
set_option maxRecDepth 20000 in
theorem ggX4_set_X4_likesOf : GoodIn wsX4_set wsX4_likesOf := goodIn_r _ [23, 6, 24, 1, 2, 3, 4, 5, 7, 8, 9, 10, 25, 26, 27, 28, 29, 30, 11, 12, 13, 14, 15, 16, 31, 32, 33, 34, 35, 36, 37, 38, 39, 40, 41, 42, 43, 44, 45, 46, 47, 48, 49, 50, 51, 52, 53, 54, 55, 56, 57, 58, 59, 60, 61, 62, 63, 64] (by decide +kernel) (by decide +kernel)
set_option maxRecDepth 20000 in
theorem gX4_set_X4_likesOf : GoodIn wsX4_set (wsV RX4 138 RX4 yX4_likesOf wsX4_likesOf) := goodIn_app (goodIn_of _ (by decide +kernel)) ggX4_set_X4_likesOf
theorem dX4_set_0 : decode cX4_set 0 = .ok (.aload_n 0, 1) := by decide +kernel
theorem dX4_set_1 : decode cX4_set 1 = .ok (.iload_n 1, 1) := by decide +kernel
theorem dX4_set_2 : decode cX4_set 2 = .ok (.invokevirtual 123, 3) := by decide +kernel
theorem dX4_set_5 : decode cX4_set 5 = .ok (.ifCond .eq 12, 3) := by decide +kernel
theorem dX4_set_8 : decode cX4_set 8 = .ok (.iload_n 2, 1) := by decide +kernel
theorem dX4_set_9 : decode cX4_set 9 = .ok (.iconst 0, 1) := by decide +kernel
theorem dX4_set_10 : decode cX4_set 10 = .ok (.iconst 1, 1) := by decide +kernel
theorem dX4_set_11 : decode cX4_set 11 = .ok (.invokestatic 7, 3) := by decide +kernel
theorem dX4_set_14 : decode cX4_set 14 = .ok (.ifCond .ne 7, 3) := by decide +kernel
theorem dX4_set_17 : decode cX4_set 17 = .ok (.iconst (-1), 1) := by decide +kernel
theorem dX4_set_18 : decode cX4_set 18 = .ok (.goto 24, 3) := by decide +kernel
theorem dX4_set_21 : decode cX4_set 21 = .ok (.iload_n 2, 1) := by decide +kernel
theorem dX4_set_22 : decode cX4_set 22 = .ok (.ifCond .ne 14, 3) := by decide +kernel
theorem dX4_set_25 : decode cX4_set 25 = .ok (.aload_n 0, 1) := by decide +kernel
theorem dX4_set_26 : decode cX4_set 26 = .ok (.iload_n 1, 1) := by decide +kernel
theorem dX4_set_27 : decode cX4_set 27 = .ok (.invokevirtual 130, 3) := by decide +kernel
theorem dX4_set_30 : decode cX4_set 30 = .ok (.invokestatic 126, 3) := by decide +kernel
theorem dX4_set_33 : decode cX4_set 33 = .ok (.goto 9, 3) := by decide +kernel
theorem dX4_set_36 : decode cX4_set 36 = .ok (.aload_n 0, 1) := by decide +kernel
theorem dX4_set_37 : decode cX4_set 37 = .ok (.iload_n 1, 1) := by decide +kernel
theorem dX4_set_38 : decode cX4_set 38 = .ok (.iconst (-1), 1) := by decide +kernel
theorem dX4_set_39 : decode cX4_set 39 = .ok (.invokevirtual 138, 3) := by decide +kernel
theorem dX4_set_42 : decode cX4_set 42 = .ok (.ireturn, 1) := by decide +kernel
set_option maxRecDepth 20000 in
theorem ggX4_isRule_X4_in : GoodIn wsX4_isRule wsX4_in := goodIn_r _ [5] (by decide +kernel) (by decide +kernel)
set_option maxRecDepth 20000 in
theorem gX4_isRule_X4_in : GoodIn wsX4_isRule (va_wsS RX4 7 yX4_in wsX4_in) := goodIn_app (goodIn_of _ (by decide +kernel)) ggX4_isRule_X4_in
theorem dX4_isRule_0 : decode cX4_isRule 0 = .ok (.iload_n 1, 1) := by decide +kernel
theorem dX4_isRule_1 : decode cX4_isRule 1 = .ok (.iconst 0, 1) := by decide +kernel
theorem dX4_isRule_2 : decode cX4_isRule 2 = .ok (.aload_n 0, 1) := by decide +kernel
theorem dX4_isRule_3 : decode cX4_isRule 3 = .ok (.getfield 142, 3) := by decide +kernel
theorem dX4_isRule_6 : decode cX4_isRule 6 = .ok (.iconst 1, 1) := by decide +kernel
theorem dX4_isRule_7 : decode cX4_isRule 7 = .ok (.isub, 1) := by decide +kernel
theorem dX4_isRule_8 : decode cX4_isRule 8 = .ok (.invokestatic 7, 3) := by decide +kernel
theorem dX4_isRule_11 : decode cX4_isRule 11 = .ok (.ireturn, 1) := by decide +kernel
set_option maxRecDepth 20000 in
theorem ggX4_rule_X4_in : GoodIn wsX4_rule wsX4_in := goodIn_r _ [8] (by decide +kernel) (by decide +kernel)
set_option maxRecDepth 20000 in
theorem gX4_rule_X4_in : GoodIn wsX4_rule (va_wsS RX4 7 yX4_in wsX4_in) := goodIn_app (goodIn_of _ (by decide +kernel)) ggX4_rule_X4_in
set_option maxRecDepth 20000 in
theorem ggX4_rule_X4_isCode : GoodIn wsX4_rule wsX4_isCode := goodIn_r _ [12, 13, 5, 6, 7, 8, 14, 15, 16, 17, 18, 19, 20, 21, 22, 23, 24, 25, 26, 27, 28, 29, 30, 31, 32, 33, 34, 35, 36, 37, 38, 39, 40, 41, 42, 43, 44, 45, 46, 47] (by decide +kernel) (by decide +kernel)
set_option maxRecDepth 20000 in
theorem gX4_rule_X4_isCode : GoodIn wsX4_rule (wsV RX4 104 RX4 yX4_isCode wsX4_isCode) := goodIn_app (goodIn_of _ (by decide +kernel)) ggX4_rule_X4_isCode
theorem dX4_rule_0 : decode cX4_rule 0 = .ok (.iload_n 1, 1) := by decide +kernel
theorem dX4_rule_1 : decode cX4_rule 1 = .ok (.iconst 0, 1) := by decide +kernel
theorem dX4_rule_2 : decode cX4_rule 2 = .ok (.bipush 9, 2) := by decide +kernel
theorem dX4_rule_4 : decode cX4_rule 4 = .ok (.invokestatic 7, 3) := by decide +kernel
theorem dX4_rule_7 : decode cX4_rule 7 = .ok (.ifCond .eq 22, 3) := by decide +kernel
theorem dX4_rule_10 : decode cX4_rule 10 = .ok (.aload_n 0, 1) := by decide +kernel
theorem dX4_rule_11 : decode cX4_rule 11 = .ok (.iload_n 2, 1) := by decide +kernel
theorem dX4_rule_12 : decode cX4_rule 12 = .ok (.invokevirtual 104, 3) := by decide +kernel
theorem dX4_rule_15 : decode cX4_rule 15 = .ok (.ifCond .eq 14, 3) := by decide +kernel
theorem dX4_rule_18 : decode cX4_rule 18 = .ok (.iload_n 3, 1) := by decide +kernel
theorem dX4_rule_19 : decode cX4_rule 19 = .ok (.iconst 0, 1) := by decide +kernel
theorem dX4_rule_20 : decode cX4_rule 20 = .ok (.sipush 1023, 3) := by decide +kernel
theorem dX4_rule_23 : decode cX4_rule 23 = .ok (.invokestatic 7, 3) := by decide +kernel
theorem dX4_rule_26 : decode cX4_rule 26 = .ok (.ifCond .ne 5, 3) := by decide +kernel
theorem dX4_rule_29 : decode cX4_rule 29 = .ok (.iconst (-1), 1) := by decide +kernel
theorem dX4_rule_30 : decode cX4_rule 30 = .ok (.ireturn, 1) := by decide +kernel
theorem dX4_rule_31 : decode cX4_rule 31 = .ok (.aload_n 0, 1) := by decide +kernel
theorem dX4_rule_32 : decode cX4_rule 32 = .ok (.getfield 142, 3) := by decide +kernel
theorem dX4_rule_35 : decode cX4_rule 35 = .ok (.bipush 40, 2) := by decide +kernel
theorem dX4_rule_37 : decode cX4_rule 37 = .ok (.if_icmp .ne 6, 3) := by decide +kernel
theorem dX4_rule_40 : decode cX4_rule 40 = .ok (.bipush (-3), 2) := by decide +kernel
theorem dX4_rule_42 : decode cX4_rule 42 = .ok (.ireturn, 1) := by decide +kernel
theorem dX4_rule_43 : decode cX4_rule 43 = .ok (.aload_n 0, 1) := by decide +kernel
theorem dX4_rule_44 : decode cX4_rule 44 = .ok (.getfield 61, 3) := by decide +kernel
theorem dX4_rule_47 : decode cX4_rule 47 = .ok (.aload_n 0, 1) := by decide +kernel
theorem dX4_rule_48 : decode cX4_rule 48 = .ok (.getfield 142, 3) := by decide +kernel
theorem dX4_rule_51 : decode cX4_rule 51 = .ok (.iload_n 1, 1) := by decide +kernel
theorem dX4_rule_52 : decode cX4_rule 52 = .ok (.iastore, 1) := by decide +kernel
theorem dX4_rule_53 : decode cX4_rule 53 = .ok (.aload_n 0, 1) := by decide +kernel
theorem dX4_rule_54 : decode cX4_rule 54 = .ok (.getfield 64, 3) := by decide +kernel
theorem dX4_rule_57 : decode cX4_rule 57 = .ok (.aload_n 0, 1) := by decide +kernel
theorem dX4_rule_58 : decode cX4_rule 58 = .ok (.getfield 142, 3) := by decide +kernel
theorem dX4_rule_61 : decode cX4_rule 61 = .ok (.iload_n 2, 1) := by decide +kernel
theorem dX4_rule_62 : decode cX4_rule 62 = .ok (.iastore, 1) := by decide +kernel
theorem dX4_rule_63 : decode cX4_rule 63 = .ok (.aload_n 0, 1) := by decide +kernel
theorem dX4_rule_64 : decode cX4_rule 64 = .ok (.getfield 67, 3) := by decide +kernel
theorem dX4_rule_67 : decode cX4_rule 67 = .ok (.aload_n 0, 1) := by decide +kernel
theorem dX4_rule_68 : decode cX4_rule 68 = .ok (.getfield 142, 3) := by decide +kernel
theorem dX4_rule_71 : decode cX4_rule 71 = .ok (.iload_n 3, 1) := by decide +kernel
theorem dX4_rule_72 : decode cX4_rule 72 = .ok (.iastore, 1) := by decide +kernel
theorem dX4_rule_73 : decode cX4_rule 73 = .ok (.aload_n 0, 1) := by decide +kernel
theorem dX4_rule_74 : decode cX4_rule 74 = .ok (.dup, 1) := by decide +kernel
theorem dX4_rule_75 : decode cX4_rule 75 = .ok (.getfield 142, 3) := by decide +kernel
theorem dX4_rule_78 : decode cX4_rule 78 = .ok (.iconst 1, 1) := by decide +kernel
theorem dX4_rule_79 : decode cX4_rule 79 = .ok (.iadd, 1) := by decide +kernel
theorem dX4_rule_80 : decode cX4_rule 80 = .ok (.putfield 142, 3) := by decide +kernel
theorem dX4_rule_83 : decode cX4_rule 83 = .ok (.aload_n 0, 1) := by decide +kernel
theorem dX4_rule_84 : decode cX4_rule 84 = .ok (.getfield 142, 3) := by decide +kernel
theorem dX4_rule_87 : decode cX4_rule 87 = .ok (.iconst 1, 1) := by decide +kernel
theorem dX4_rule_88 : decode cX4_rule 88 = .ok (.isub, 1) := by decide +kernel
theorem dX4_rule_89 : decode cX4_rule 89 = .ok (.ireturn, 1) := by decide +kernel
set_option maxRecDepth 20000 in
theorem ggX4_with_X4_isRule : GoodIn wsX4_with wsX4_isRule := goodIn_r _ [9, 10, 11, 12, 8, 13, 17, 18, 19, 20, 21, 22, 23, 24, 25, 26, 27, 28, 29, 30, 31, 32, 33, 34, 35, 36, 37, 38, 39, 40, 41, 42, 43, 44, 45, 46, 47, 48, 49, 50] (by decide +kernel) (by decide +kernel)
set_option maxRecDepth 20000 in
theorem gX4_with_X4_isRule : GoodIn wsX4_with (wsV RX4 145 RX4 yX4_isRule wsX4_isRule) := goodIn_app (goodIn_of _ (by decide +kernel)) ggX4_with_X4_isRule
set_option maxRecDepth 20000 in
theorem ggX4_with_X4_isWord : GoodIn wsX4_with wsX4_isWord := goodIn_r _ [16, 11, 12, 8, 13] (by decide +kernel) (by decide +kernel)
set_option maxRecDepth 20000 in
theorem gX4_with_X4_isWord : GoodIn wsX4_with (va_wsS RX4 108 yX4_isWord wsX4_isWord) := goodIn_app (goodIn_of _ (by decide +kernel)) ggX4_with_X4_isWord
set_option maxRecDepth 20000 in
theorem ggX4_with_X4_in : GoodIn wsX4_with wsX4_in := goodIn_r _ [13] (by decide +kernel) (by decide +kernel)
set_option maxRecDepth 20000 in
theorem gX4_with_X4_in : GoodIn wsX4_with (va_wsS RX4 7 yX4_in wsX4_in) := goodIn_app (goodIn_of _ (by decide +kernel)) ggX4_with_X4_in
theorem dX4_with_0 : decode cX4_with 0 = .ok (.aload_n 0, 1) := by decide +kernel
theorem dX4_with_1 : decode cX4_with 1 = .ok (.iload_n 1, 1) := by decide +kernel
theorem dX4_with_2 : decode cX4_with 2 = .ok (.invokevirtual 145, 3) := by decide +kernel
theorem dX4_with_5 : decode cX4_with 5 = .ok (.ifCond .eq 28, 3) := by decide +kernel
theorem dX4_with_8 : decode cX4_with 8 = .ok (.iload_n 2, 1) := by decide +kernel
theorem dX4_with_9 : decode cX4_with 9 = .ok (.invokestatic 108, 3) := by decide +kernel
theorem dX4_with_12 : decode cX4_with 12 = .ok (.ifCond .eq 21, 3) := by decide +kernel
theorem dX4_with_15 : decode cX4_with 15 = .ok (.iload_n 3, 1) := by decide +kernel
theorem dX4_with_16 : decode cX4_with 16 = .ok (.iconst 0, 1) := by decide +kernel
theorem dX4_with_17 : decode cX4_with 17 = .ok (.iconst 2, 1) := by decide +kernel
theorem dX4_with_18 : decode cX4_with 18 = .ok (.invokestatic 7, 3) := by decide +kernel
theorem dX4_with_21 : decode cX4_with 21 = .ok (.ifCond .eq 12, 3) := by decide +kernel
theorem dX4_with_24 : decode cX4_with 24 = .ok (.aload_n 0, 1) := by decide +kernel
theorem dX4_with_25 : decode cX4_with 25 = .ok (.getfield 76, 3) := by decide +kernel
theorem dX4_with_28 : decode cX4_with 28 = .ok (.iload_n 1, 1) := by decide +kernel
theorem dX4_with_29 : decode cX4_with 29 = .ok (.baload, 1) := by decide +kernel
theorem dX4_with_30 : decode cX4_with 30 = .ok (.ifCond .eq 5, 3) := by decide +kernel
theorem dX4_with_33 : decode cX4_with 33 = .ok (.iconst (-1), 1) := by decide +kernel
theorem dX4_with_34 : decode cX4_with 34 = .ok (.ireturn, 1) := by decide +kernel
theorem dX4_with_35 : decode cX4_with 35 = .ok (.aload_n 0, 1) := by decide +kernel
theorem dX4_with_36 : decode cX4_with 36 = .ok (.getfield 70, 3) := by decide +kernel
theorem dX4_with_39 : decode cX4_with 39 = .ok (.iload_n 1, 1) := by decide +kernel
theorem dX4_with_40 : decode cX4_with 40 = .ok (.laload, 1) := by decide +kernel
theorem dX4_with_41 : decode cX4_with 41 = .ok (.iload_n 2, 1) := by decide +kernel
theorem dX4_with_42 : decode cX4_with 42 = .ok (.lshr, 1) := by decide +kernel
theorem dX4_with_43 : decode cX4_with 43 = .ok (.lconst 1, 1) := by decide +kernel
theorem dX4_with_44 : decode cX4_with 44 = .ok (.land, 1) := by decide +kernel
theorem dX4_with_45 : decode cX4_with 45 = .ok (.lconst 1, 1) := by decide +kernel
theorem dX4_with_46 : decode cX4_with 46 = .ok (.lcmp, 1) := by decide +kernel
theorem dX4_with_47 : decode cX4_with 47 = .ok (.ifCond .ne 7, 3) := by decide +kernel
theorem dX4_with_50 : decode cX4_with 50 = .ok (.iconst 1, 1) := by decide +kernel
theorem dX4_with_51 : decode cX4_with 51 = .ok (.goto 23, 3) := by decide +kernel
theorem dX4_with_54 : decode cX4_with 54 = .ok (.aload_n 0, 1) := by decide +kernel
theorem dX4_with_55 : decode cX4_with 55 = .ok (.getfield 73, 3) := by decide +kernel
theorem dX4_with_58 : decode cX4_with 58 = .ok (.iload_n 1, 1) := by decide +kernel
theorem dX4_with_59 : decode cX4_with 59 = .ok (.laload, 1) := by decide +kernel
theorem dX4_with_60 : decode cX4_with 60 = .ok (.iload_n 2, 1) := by decide +kernel
theorem dX4_with_61 : decode cX4_with 61 = .ok (.lshr, 1) := by decide +kernel
theorem dX4_with_62 : decode cX4_with 62 = .ok (.lconst 1, 1) := by decide +kernel
theorem dX4_with_63 : decode cX4_with 63 = .ok (.land, 1) := by decide +kernel
theorem dX4_with_64 : decode cX4_with 64 = .ok (.lconst 1, 1) := by decide +kernel
theorem dX4_with_65 : decode cX4_with 65 = .ok (.lcmp, 1) := by decide +kernel
theorem dX4_with_66 : decode cX4_with 66 = .ok (.ifCond .ne 7, 3) := by decide +kernel
theorem dX4_with_69 : decode cX4_with 69 = .ok (.iconst 2, 1) := by decide +kernel
theorem dX4_with_70 : decode cX4_with 70 = .ok (.goto 4, 3) := by decide +kernel
theorem dX4_with_73 : decode cX4_with 73 = .ok (.iconst 0, 1) := by decide +kernel
theorem dX4_with_74 : decode cX4_with 74 = .ok (.istore 4, 2) := by decide +kernel
theorem dX4_with_76 : decode cX4_with 76 = .ok (.aload_n 0, 1) := by decide +kernel
theorem dX4_with_77 : decode cX4_with 77 = .ok (.getfield 70, 3) := by decide +kernel
theorem dX4_with_80 : decode cX4_with 80 = .ok (.iload_n 1, 1) := by decide +kernel
theorem dX4_with_81 : decode cX4_with 81 = .ok (.iload_n 3, 1) := by decide +kernel
theorem dX4_with_82 : decode cX4_with 82 = .ok (.iconst 1, 1) := by decide +kernel
theorem dX4_with_83 : decode cX4_with 83 = .ok (.if_icmp .ne 16, 3) := by decide +kernel
theorem dX4_with_86 : decode cX4_with 86 = .ok (.aload_n 0, 1) := by decide +kernel
theorem dX4_with_87 : decode cX4_with 87 = .ok (.getfield 70, 3) := by decide +kernel
theorem dX4_with_90 : decode cX4_with 90 = .ok (.iload_n 1, 1) := by decide +kernel
theorem dX4_with_91 : decode cX4_with 91 = .ok (.laload, 1) := by decide +kernel
theorem dX4_with_92 : decode cX4_with 92 = .ok (.lconst 1, 1) := by decide +kernel
theorem dX4_with_93 : decode cX4_with 93 = .ok (.iload_n 2, 1) := by decide +kernel
theorem dX4_with_94 : decode cX4_with 94 = .ok (.lshl, 1) := by decide +kernel
theorem dX4_with_95 : decode cX4_with 95 = .ok (.lor, 1) := by decide +kernel
theorem dX4_with_96 : decode cX4_with 96 = .ok (.goto 17, 3) := by decide +kernel
theorem dX4_with_99 : decode cX4_with 99 = .ok (.aload_n 0, 1) := by decide +kernel
theorem dX4_with_100 : decode cX4_with 100 = .ok (.getfield 70, 3) := by decide +kernel
theorem dX4_with_103 : decode cX4_with 103 = .ok (.iload_n 1, 1) := by decide +kernel
theorem dX4_with_104 : decode cX4_with 104 = .ok (.laload, 1) := by decide +kernel
theorem dX4_with_105 : decode cX4_with 105 = .ok (.lconst 1, 1) := by decide +kernel
theorem dX4_with_106 : decode cX4_with 106 = .ok (.iload_n 2, 1) := by decide +kernel
theorem dX4_with_107 : decode cX4_with 107 = .ok (.lshl, 1) := by decide +kernel
theorem dX4_with_108 : decode cX4_with 108 = .ok (.ldc2_w 111, 3) := by decide +kernel
theorem dX4_with_111 : decode cX4_with 111 = .ok (.lxor, 1) := by decide +kernel
theorem dX4_with_112 : decode cX4_with 112 = .ok (.land, 1) := by decide +kernel
theorem dX4_with_113 : decode cX4_with 113 = .ok (.lastore, 1) := by decide +kernel
theorem dX4_with_114 : decode cX4_with 114 = .ok (.aload_n 0, 1) := by decide +kernel
theorem dX4_with_115 : decode cX4_with 115 = .ok (.getfield 73, 3) := by decide +kernel
theorem dX4_with_118 : decode cX4_with 118 = .ok (.iload_n 1, 1) := by decide +kernel
theorem dX4_with_119 : decode cX4_with 119 = .ok (.iload_n 3, 1) := by decide +kernel
theorem dX4_with_120 : decode cX4_with 120 = .ok (.iconst 2, 1) := by decide +kernel
theorem dX4_with_121 : decode cX4_with 121 = .ok (.if_icmp .ne 16, 3) := by decide +kernel
theorem dX4_with_124 : decode cX4_with 124 = .ok (.aload_n 0, 1) := by decide +kernel
theorem dX4_with_125 : decode cX4_with 125 = .ok (.getfield 73, 3) := by decide +kernel
theorem dX4_with_128 : decode cX4_with 128 = .ok (.iload_n 1, 1) := by decide +kernel
theorem dX4_with_129 : decode cX4_with 129 = .ok (.laload, 1) := by decide +kernel
theorem dX4_with_130 : decode cX4_with 130 = .ok (.lconst 1, 1) := by decide +kernel
theorem dX4_with_131 : decode cX4_with 131 = .ok (.iload_n 2, 1) := by decide +kernel
theorem dX4_with_132 : decode cX4_with 132 = .ok (.lshl, 1) := by decide +kernel
theorem dX4_with_133 : decode cX4_with 133 = .ok (.lor, 1) := by decide +kernel
theorem dX4_with_134 : decode cX4_with 134 = .ok (.goto 17, 3) := by decide +kernel
theorem dX4_with_137 : decode cX4_with 137 = .ok (.aload_n 0, 1) := by decide +kernel
theorem dX4_with_138 : decode cX4_with 138 = .ok (.getfield 73, 3) := by decide +kernel
theorem dX4_with_141 : decode cX4_with 141 = .ok (.iload_n 1, 1) := by decide +kernel
theorem dX4_with_142 : decode cX4_with 142 = .ok (.laload, 1) := by decide +kernel
theorem dX4_with_143 : decode cX4_with 143 = .ok (.lconst 1, 1) := by decide +kernel
theorem dX4_with_144 : decode cX4_with 144 = .ok (.iload_n 2, 1) := by decide +kernel
theorem dX4_with_145 : decode cX4_with 145 = .ok (.lshl, 1) := by decide +kernel
theorem dX4_with_146 : decode cX4_with 146 = .ok (.ldc2_w 111, 3) := by decide +kernel
theorem dX4_with_149 : decode cX4_with 149 = .ok (.lxor, 1) := by decide +kernel
theorem dX4_with_150 : decode cX4_with 150 = .ok (.land, 1) := by decide +kernel
theorem dX4_with_151 : decode cX4_with 151 = .ok (.lastore, 1) := by decide +kernel
theorem dX4_with_152 : decode cX4_with 152 = .ok (.iload 4, 2) := by decide +kernel
theorem dX4_with_154 : decode cX4_with 154 = .ok (.ireturn, 1) := by decide +kernel
set_option maxRecDepth 20000 in
theorem ggX4_drop_X4_isRule : GoodIn wsX4_drop wsX4_isRule := goodIn_r _ [6, 7, 8, 9, 5, 10, 11, 12, 13, 14, 15, 16, 17, 18, 19, 20, 21, 22, 23, 24, 25, 26, 27, 28, 29, 30, 31, 32, 33, 34, 35, 36, 37, 38, 39, 40, 41, 42, 43, 44] (by decide +kernel) (by decide +kernel)
set_option maxRecDepth 20000 in
theorem gX4_drop_X4_isRule : GoodIn wsX4_drop (wsV RX4 145 RX4 yX4_isRule wsX4_isRule) := goodIn_app (goodIn_of _ (by decide +kernel)) ggX4_drop_X4_isRule
theorem dX4_drop_0 : decode cX4_drop 0 = .ok (.aload_n 0, 1) := by decide +kernel
theorem dX4_drop_1 : decode cX4_drop 1 = .ok (.iload_n 1, 1) := by decide +kernel
theorem dX4_drop_2 : decode cX4_drop 2 = .ok (.invokevirtual 145, 3) := by decide +kernel
theorem dX4_drop_5 : decode cX4_drop 5 = .ok (.ifCond .ne 5, 3) := by decide +kernel
theorem dX4_drop_8 : decode cX4_drop 8 = .ok (.iconst (-1), 1) := by decide +kernel
theorem dX4_drop_9 : decode cX4_drop 9 = .ok (.ireturn, 1) := by decide +kernel
theorem dX4_drop_10 : decode cX4_drop 10 = .ok (.aload_n 0, 1) := by decide +kernel
theorem dX4_drop_11 : decode cX4_drop 11 = .ok (.getfield 76, 3) := by decide +kernel
theorem dX4_drop_14 : decode cX4_drop 14 = .ok (.iload_n 1, 1) := by decide +kernel
theorem dX4_drop_15 : decode cX4_drop 15 = .ok (.baload, 1) := by decide +kernel
theorem dX4_drop_16 : decode cX4_drop 16 = .ok (.ifCond .eq 6, 3) := by decide +kernel
theorem dX4_drop_19 : decode cX4_drop 19 = .ok (.bipush (-2), 2) := by decide +kernel
theorem dX4_drop_21 : decode cX4_drop 21 = .ok (.ireturn, 1) := by decide +kernel
theorem dX4_drop_22 : decode cX4_drop 22 = .ok (.aload_n 0, 1) := by decide +kernel
theorem dX4_drop_23 : decode cX4_drop 23 = .ok (.getfield 76, 3) := by decide +kernel
theorem dX4_drop_26 : decode cX4_drop 26 = .ok (.iload_n 1, 1) := by decide +kernel
theorem dX4_drop_27 : decode cX4_drop 27 = .ok (.iconst 1, 1) := by decide +kernel
theorem dX4_drop_28 : decode cX4_drop 28 = .ok (.bastore, 1) := by decide +kernel
theorem dX4_drop_29 : decode cX4_drop 29 = .ok (.iconst 1, 1) := by decide +kernel
theorem dX4_drop_30 : decode cX4_drop 30 = .ok (.ireturn, 1) := by decide +kernel
theorem dX4_doesHold_0 : decode cX4_doesHold 0 = .ok (.aload_n 0, 1) := by decide +kernel
theorem dX4_doesHold_1 : decode cX4_doesHold 1 = .ok (.getfield 76, 3) := by decide +kernel
theorem dX4_doesHold_4 : decode cX4_doesHold 4 = .ok (.iload_n 1, 1) := by decide +kernel
theorem dX4_doesHold_5 : decode cX4_doesHold 5 = .ok (.baload, 1) := by decide +kernel
theorem dX4_doesHold_6 : decode cX4_doesHold 6 = .ok (.ifCond .ne 52, 3) := by decide +kernel
theorem dX4_doesHold_9 : decode cX4_doesHold 9 = .ok (.aload_n 0, 1) := by decide +kernel
theorem dX4_doesHold_10 : decode cX4_doesHold 10 = .ok (.getfield 67, 3) := by decide +kernel
theorem dX4_doesHold_13 : decode cX4_doesHold 13 = .ok (.iload_n 1, 1) := by decide +kernel
theorem dX4_doesHold_14 : decode cX4_doesHold 14 = .ok (.iaload, 1) := by decide +kernel
theorem dX4_doesHold_15 : decode cX4_doesHold 15 = .ok (.iload 4, 2) := by decide +kernel
theorem dX4_doesHold_17 : decode cX4_doesHold 17 = .ok (.ishr, 1) := by decide +kernel
theorem dX4_doesHold_18 : decode cX4_doesHold 18 = .ok (.iconst 1, 1) := by decide +kernel
theorem dX4_doesHold_19 : decode cX4_doesHold 19 = .ok (.iand, 1) := by decide +kernel
theorem dX4_doesHold_20 : decode cX4_doesHold 20 = .ok (.iconst 1, 1) := by decide +kernel
theorem dX4_doesHold_21 : decode cX4_doesHold 21 = .ok (.if_icmp .ne 37, 3) := by decide +kernel
theorem dX4_doesHold_24 : decode cX4_doesHold 24 = .ok (.aload_n 0, 1) := by decide +kernel
theorem dX4_doesHold_25 : decode cX4_doesHold 25 = .ok (.getfield 70, 3) := by decide +kernel
theorem dX4_doesHold_28 : decode cX4_doesHold 28 = .ok (.iload_n 1, 1) := by decide +kernel
theorem dX4_doesHold_29 : decode cX4_doesHold 29 = .ok (.laload, 1) := by decide +kernel
theorem dX4_doesHold_30 : decode cX4_doesHold 30 = .ok (.lload_n 2, 1) := by decide +kernel
theorem dX4_doesHold_31 : decode cX4_doesHold 31 = .ok (.ldc2_w 111, 3) := by decide +kernel
theorem dX4_doesHold_34 : decode cX4_doesHold 34 = .ok (.lxor, 1) := by decide +kernel
theorem dX4_doesHold_35 : decode cX4_doesHold 35 = .ok (.land, 1) := by decide +kernel
theorem dX4_doesHold_36 : decode cX4_doesHold 36 = .ok (.lconst 0, 1) := by decide +kernel
theorem dX4_doesHold_37 : decode cX4_doesHold 37 = .ok (.lcmp, 1) := by decide +kernel
theorem dX4_doesHold_38 : decode cX4_doesHold 38 = .ok (.ifCond .ne 20, 3) := by decide +kernel
theorem dX4_doesHold_41 : decode cX4_doesHold 41 = .ok (.aload_n 0, 1) := by decide +kernel
theorem dX4_doesHold_42 : decode cX4_doesHold 42 = .ok (.getfield 73, 3) := by decide +kernel
theorem dX4_doesHold_45 : decode cX4_doesHold 45 = .ok (.iload_n 1, 1) := by decide +kernel
theorem dX4_doesHold_46 : decode cX4_doesHold 46 = .ok (.laload, 1) := by decide +kernel
theorem dX4_doesHold_47 : decode cX4_doesHold 47 = .ok (.lload_n 2, 1) := by decide +kernel
theorem dX4_doesHold_48 : decode cX4_doesHold 48 = .ok (.land, 1) := by decide +kernel
theorem dX4_doesHold_49 : decode cX4_doesHold 49 = .ok (.lconst 0, 1) := by decide +kernel
theorem dX4_doesHold_50 : decode cX4_doesHold 50 = .ok (.lcmp, 1) := by decide +kernel
theorem dX4_doesHold_51 : decode cX4_doesHold 51 = .ok (.ifCond .ne 7, 3) := by decide +kernel
theorem dX4_doesHold_54 : decode cX4_doesHold 54 = .ok (.iconst 1, 1) := by decide +kernel
theorem dX4_doesHold_55 : decode cX4_doesHold 55 = .ok (.goto 4, 3) := by decide +kernel
theorem dX4_doesHold_58 : decode cX4_doesHold 58 = .ok (.iconst 0, 1) := by decide +kernel
theorem dX4_doesHold_59 : decode cX4_doesHold 59 = .ok (.ireturn, 1) := by decide +kernel
set_option maxRecDepth 20000 in
theorem ggX4_holds_X4_isRule : GoodIn wsX4_holds wsX4_isRule := goodIn_r _ [6, 7, 8, 9, 5, 10, 32, 33, 34, 35, 36, 37, 38, 39, 40, 41, 42, 43, 44, 45, 46, 47, 48, 49, 50, 51, 52, 53, 54, 55, 56, 57, 58, 59, 60, 61, 62, 63, 64, 65] (by decide +kernel) (by decide +kernel)
set_option maxRecDepth 20000 in
theorem gX4_holds_X4_isRule : GoodIn wsX4_holds (wsV RX4 145 RX4 yX4_isRule wsX4_isRule) := goodIn_app (goodIn_of _ (by decide +kernel)) ggX4_holds_X4_isRule
set_option maxRecDepth 20000 in
theorem ggX4_holds_X4_isItem : GoodIn wsX4_holds wsX4_isItem := goodIn_r _ [14, 15, 16, 8, 9, 5, 10, 32, 33, 34, 35, 36, 37, 38, 39, 40, 41, 42, 43, 44, 45, 46, 47, 48, 49, 50, 51, 52, 53, 54, 55, 56, 57, 58, 59, 60, 61, 62, 63, 64, 65] (by decide +kernel) (by decide +kernel)
set_option maxRecDepth 20000 in
theorem gX4_holds_X4_isItem : GoodIn wsX4_holds (wsV RX4 123 RX4 yX4_isItem wsX4_isItem) := goodIn_app (goodIn_of _ (by decide +kernel)) ggX4_holds_X4_isItem
set_option maxRecDepth 20000 in
theorem ggX4_holds_X4_setOf : GoodIn wsX4_holds wsX4_setOf := goodIn_r _ [20, 21, 22, 32, 33, 34, 35, 36, 37, 38, 39, 40, 41, 42, 43, 44, 45, 46, 47, 48, 49, 50, 51, 52, 53, 54, 55, 56, 57, 58, 59, 60, 61, 62, 63, 64, 65] (by decide +kernel) (by decide +kernel)
set_option maxRecDepth 20000 in
theorem gX4_holds_X4_setOf : GoodIn wsX4_holds (wsV RX4 130 RX4 yX4_setOf wsX4_setOf) := goodIn_app (goodIn_of _ (by decide +kernel)) ggX4_holds_X4_setOf
set_option maxRecDepth 20000 in
theorem ggX4_holds_X4_doesHold : GoodIn wsX4_holds wsX4_doesHold := goodIn_r _ [26, 27, 28, 29, 30, 31, 32, 33, 34, 35, 36, 37, 38, 39, 40, 41, 42, 43, 44, 45, 46, 47, 48, 49, 50, 51, 52, 53, 54, 55, 56, 57, 58, 59, 60, 61, 62, 63, 64, 65] (by decide +kernel) (by decide +kernel)
set_option maxRecDepth 20000 in
theorem gX4_holds_X4_doesHold : GoodIn wsX4_holds (wsV RX4 148 RX4 yX4_doesHold wsX4_doesHold) := goodIn_app (goodIn_of _ (by decide +kernel)) ggX4_holds_X4_doesHold
theorem dX4_holds_0 : decode cX4_holds 0 = .ok (.aload_n 0, 1) := by decide +kernel
theorem dX4_holds_1 : decode cX4_holds 1 = .ok (.iload_n 1, 1) := by decide +kernel
theorem dX4_holds_2 : decode cX4_holds 2 = .ok (.invokevirtual 145, 3) := by decide +kernel
theorem dX4_holds_5 : decode cX4_holds 5 = .ok (.ifCond .eq 11, 3) := by decide +kernel
theorem dX4_holds_8 : decode cX4_holds 8 = .ok (.aload_n 0, 1) := by decide +kernel
theorem dX4_holds_9 : decode cX4_holds 9 = .ok (.iload_n 2, 1) := by decide +kernel
theorem dX4_holds_10 : decode cX4_holds 10 = .ok (.invokevirtual 123, 3) := by decide +kernel
theorem dX4_holds_13 : decode cX4_holds 13 = .ok (.ifCond .ne 7, 3) := by decide +kernel
theorem dX4_holds_16 : decode cX4_holds 16 = .ok (.iconst (-1), 1) := by decide +kernel
theorem dX4_holds_17 : decode cX4_holds 17 = .ok (.goto 29, 3) := by decide +kernel
theorem dX4_holds_20 : decode cX4_holds 20 = .ok (.aload_n 0, 1) := by decide +kernel
theorem dX4_holds_21 : decode cX4_holds 21 = .ok (.iload_n 1, 1) := by decide +kernel
theorem dX4_holds_22 : decode cX4_holds 22 = .ok (.aload_n 0, 1) := by decide +kernel
theorem dX4_holds_23 : decode cX4_holds 23 = .ok (.iload_n 2, 1) := by decide +kernel
theorem dX4_holds_24 : decode cX4_holds 24 = .ok (.invokevirtual 130, 3) := by decide +kernel
theorem dX4_holds_27 : decode cX4_holds 27 = .ok (.aload_n 0, 1) := by decide +kernel
theorem dX4_holds_28 : decode cX4_holds 28 = .ok (.getfield 37, 3) := by decide +kernel
theorem dX4_holds_31 : decode cX4_holds 31 = .ok (.iload_n 2, 1) := by decide +kernel
theorem dX4_holds_32 : decode cX4_holds 32 = .ok (.iconst 2, 1) := by decide +kernel
theorem dX4_holds_33 : decode cX4_holds 33 = .ok (.idiv, 1) := by decide +kernel
theorem dX4_holds_34 : decode cX4_holds 34 = .ok (.iaload, 1) := by decide +kernel
theorem dX4_holds_35 : decode cX4_holds 35 = .ok (.invokevirtual 148, 3) := by decide +kernel
theorem dX4_holds_38 : decode cX4_holds 38 = .ok (.ifCond .eq 7, 3) := by decide +kernel
theorem dX4_holds_41 : decode cX4_holds 41 = .ok (.iconst 1, 1) := by decide +kernel
theorem dX4_holds_42 : decode cX4_holds 42 = .ok (.goto 4, 3) := by decide +kernel
theorem dX4_holds_45 : decode cX4_holds 45 = .ok (.iconst 0, 1) := by decide +kernel
theorem dX4_holds_46 : decode cX4_holds 46 = .ok (.ireturn, 1) := by decide +kernel
