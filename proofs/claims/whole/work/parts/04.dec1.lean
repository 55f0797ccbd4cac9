theorem dX0_init_0 : decode cX0_init 0 = .ok (.aload_n 0, 1) := by decide +kernel
theorem dX0_init_1 : decode cX0_init 1 = .ok (.invokespecial 3, 3) := by decide +kernel
theorem dX0_init_4 : decode cX0_init 4 = .ok (.aload_n 0, 1) := by decide +kernel
theorem dX0_init_5 : decode cX0_init 5 = .ok (.lconst 0, 1) := by decide +kernel
theorem dX0_init_6 : decode cX0_init 6 = .ok (.putfield 9, 3) := by decide +kernel
theorem dX0_init_9 : decode cX0_init 9 = .ok (.aload_n 0, 1) := by decide +kernel
theorem dX0_init_10 : decode cX0_init 10 = .ok (.lconst 0, 1) := by decide +kernel
theorem dX0_init_11 : decode cX0_init 11 = .ok (.putfield 15, 3) := by decide +kernel
theorem dX0_init_14 : decode cX0_init 14 = .ok (.aload_n 0, 1) := by decide +kernel
theorem dX0_init_15 : decode cX0_init 15 = .ok (.iconst 0, 1) := by decide +kernel
theorem dX0_init_16 : decode cX0_init 16 = .ok (.putfield 18, 3) := by decide +kernel
theorem dX0_init_19 : decode cX0_init 19 = .ok (.aload_n 0, 1) := by decide +kernel
theorem dX0_init_20 : decode cX0_init 20 = .ok (.iconst (-1), 1) := by decide +kernel
theorem dX0_init_21 : decode cX0_init 21 = .ok (.putfield 22, 3) := by decide +kernel
theorem dX0_init_24 : decode cX0_init 24 = .ok (.aload_n 0, 1) := by decide +kernel
theorem dX0_init_25 : decode cX0_init 25 = .ok (.iconst (-1), 1) := by decide +kernel
theorem dX0_init_26 : decode cX0_init 26 = .ok (.putfield 25, 3) := by decide +kernel
theorem dX0_init_29 : decode cX0_init 29 = .ok (.aload_n 0, 1) := by decide +kernel
theorem dX0_init_30 : decode cX0_init 30 = .ok (.iconst (-1), 1) := by decide +kernel
theorem dX0_init_31 : decode cX0_init 31 = .ok (.putfield 28, 3) := by decide +kernel
theorem dX0_init_34 : decode cX0_init 34 = .ok (.aload_n 0, 1) := by decide +kernel
theorem dX0_init_35 : decode cX0_init 35 = .ok (.iconst (-1), 1) := by decide +kernel
theorem dX0_init_36 : decode cX0_init 36 = .ok (.putfield 31, 3) := by decide +kernel
theorem dX0_init_39 : decode cX0_init 39 = .ok (.aload_n 0, 1) := by decide +kernel
theorem dX0_init_40 : decode cX0_init 40 = .ok (.iconst (-1), 1) := by decide +kernel
theorem dX0_init_41 : decode cX0_init 41 = .ok (.putfield 34, 3) := by decide +kernel
theorem dX0_init_44 : decode cX0_init 44 = .ok (.aload_n 0, 1) := by decide +kernel
theorem dX0_init_45 : decode cX0_init 45 = .ok (.iconst (-1), 1) := by decide +kernel
theorem dX0_init_46 : decode cX0_init 46 = .ok (.putfield 37, 3) := by decide +kernel
theorem dX0_init_49 : decode cX0_init 49 = .ok (.aload_n 0, 1) := by decide +kernel
theorem dX0_init_50 : decode cX0_init 50 = .ok (.iconst (-1), 1) := by decide +kernel
theorem dX0_init_51 : decode cX0_init 51 = .ok (.putfield 40, 3) := by decide +kernel
theorem dX0_init_54 : decode cX0_init 54 = .ok (.aload_n 0, 1) := by decide +kernel
theorem dX0_init_55 : decode cX0_init 55 = .ok (.iload_n 1, 1) := by decide +kernel
theorem dX0_init_56 : decode cX0_init 56 = .ok (.putfield 43, 3) := by decide +kernel
theorem dX0_init_59 : decode cX0_init 59 = .ok (.aload_n 0, 1) := by decide +kernel
theorem dX0_init_60 : decode cX0_init 60 = .ok (.iload_n 2, 1) := by decide +kernel
theorem dX0_init_61 : decode cX0_init 61 = .ok (.putfield 46, 3) := by decide +kernel
theorem dX0_init_64 : decode cX0_init 64 = .ok (.return_, 1) := by decide +kernel
theorem dX0_isAlike_0 : decode cX0_isAlike 0 = .ok (.aload_n 0, 1) := by decide +kernel
theorem dX0_isAlike_1 : decode cX0_isAlike 1 = .ok (.getfield 15, 3) := by decide +kernel
theorem dX0_isAlike_4 : decode cX0_isAlike 4 = .ok (.aload_n 1, 1) := by decide +kernel
theorem dX0_isAlike_5 : decode cX0_isAlike 5 = .ok (.getfield 15, 3) := by decide +kernel
theorem dX0_isAlike_8 : decode cX0_isAlike 8 = .ok (.lcmp, 1) := by decide +kernel
theorem dX0_isAlike_9 : decode cX0_isAlike 9 = .ok (.ifCond .ne 29, 3) := by decide +kernel
theorem dX0_isAlike_12 : decode cX0_isAlike 12 = .ok (.aload_n 0, 1) := by decide +kernel
theorem dX0_isAlike_13 : decode cX0_isAlike 13 = .ok (.getfield 43, 3) := by decide +kernel
theorem dX0_isAlike_16 : decode cX0_isAlike 16 = .ok (.aload_n 1, 1) := by decide +kernel
theorem dX0_isAlike_17 : decode cX0_isAlike 17 = .ok (.getfield 43, 3) := by decide +kernel
theorem dX0_isAlike_20 : decode cX0_isAlike 20 = .ok (.if_icmp .ne 18, 3) := by decide +kernel
theorem dX0_isAlike_23 : decode cX0_isAlike 23 = .ok (.aload_n 0, 1) := by decide +kernel
theorem dX0_isAlike_24 : decode cX0_isAlike 24 = .ok (.getfield 46, 3) := by decide +kernel
theorem dX0_isAlike_27 : decode cX0_isAlike 27 = .ok (.aload_n 1, 1) := by decide +kernel
theorem dX0_isAlike_28 : decode cX0_isAlike 28 = .ok (.getfield 46, 3) := by decide +kernel
theorem dX0_isAlike_31 : decode cX0_isAlike 31 = .ok (.if_icmp .ne 7, 3) := by decide +kernel
theorem dX0_isAlike_34 : decode cX0_isAlike 34 = .ok (.iconst 1, 1) := by decide +kernel
theorem dX0_isAlike_35 : decode cX0_isAlike 35 = .ok (.goto 4, 3) := by decide +kernel
theorem dX0_isAlike_38 : decode cX0_isAlike 38 = .ok (.iconst 0, 1) := by decide +kernel
theorem dX0_isAlike_39 : decode cX0_isAlike 39 = .ok (.ireturn, 1) := by decide +kernel
set_option maxRecDepth 20000 in
theorem ggX0_likenessTo_J13_bitCount_95d88 : GoodIn wsX0_likenessTo wsJ13_bitCount_95d88 := goodIn_r _ [5, 6, 7, 8] (by decide +kernel) (by decide +kernel)
set_option maxRecDepth 20000 in
theorem gX0_likenessTo_J13_bitCount_95d88 : GoodIn wsX0_likenessTo (va_wsS RX0 49 yJ13_bitCount_95d88 wsJ13_bitCount_95d88) := goodIn_app (goodIn_of _ (by decide +kernel)) ggX0_likenessTo_J13_bitCount_95d88
theorem dX0_likenessTo_0 : decode cX0_likenessTo 0 = .ok (.aload_n 0, 1) := by decide +kernel
theorem dX0_likenessTo_1 : decode cX0_likenessTo 1 = .ok (.getfield 15, 3) := by decide +kernel
theorem dX0_likenessTo_4 : decode cX0_likenessTo 4 = .ok (.aload_n 1, 1) := by decide +kernel
theorem dX0_likenessTo_5 : decode cX0_likenessTo 5 = .ok (.getfield 15, 3) := by decide +kernel
theorem dX0_likenessTo_8 : decode cX0_likenessTo 8 = .ok (.lor, 1) := by decide +kernel
theorem dX0_likenessTo_9 : decode cX0_likenessTo 9 = .ok (.invokestatic 49, 3) := by decide +kernel
theorem dX0_likenessTo_12 : decode cX0_likenessTo 12 = .ok (.istore_n 2, 1) := by decide +kernel
theorem dX0_likenessTo_13 : decode cX0_likenessTo 13 = .ok (.iload_n 2, 1) := by decide +kernel
theorem dX0_likenessTo_14 : decode cX0_likenessTo 14 = .ok (.ifCond .ne 7, 3) := by decide +kernel
theorem dX0_likenessTo_17 : decode cX0_likenessTo 17 = .ok (.iconst 0, 1) := by decide +kernel
theorem dX0_likenessTo_18 : decode cX0_likenessTo 18 = .ok (.goto 21, 3) := by decide +kernel
theorem dX0_likenessTo_21 : decode cX0_likenessTo 21 = .ok (.sipush 1000, 3) := by decide +kernel
theorem dX0_likenessTo_24 : decode cX0_likenessTo 24 = .ok (.aload_n 0, 1) := by decide +kernel
theorem dX0_likenessTo_25 : decode cX0_likenessTo 25 = .ok (.getfield 15, 3) := by decide +kernel
theorem dX0_likenessTo_28 : decode cX0_likenessTo 28 = .ok (.aload_n 1, 1) := by decide +kernel
theorem dX0_likenessTo_29 : decode cX0_likenessTo 29 = .ok (.getfield 15, 3) := by decide +kernel
theorem dX0_likenessTo_32 : decode cX0_likenessTo 32 = .ok (.land, 1) := by decide +kernel
theorem dX0_likenessTo_33 : decode cX0_likenessTo 33 = .ok (.invokestatic 49, 3) := by decide +kernel
theorem dX0_likenessTo_36 : decode cX0_likenessTo 36 = .ok (.imul, 1) := by decide +kernel
theorem dX0_likenessTo_37 : decode cX0_likenessTo 37 = .ok (.iload_n 2, 1) := by decide +kernel
theorem dX0_likenessTo_38 : decode cX0_likenessTo 38 = .ok (.idiv, 1) := by decide +kernel
theorem dX0_likenessTo_39 : decode cX0_likenessTo 39 = .ok (.ireturn, 1) := by decide +kernel
theorem dX0_take_0 : decode cX0_take 0 = .ok (.aload_n 0, 1) := by decide +kernel
theorem dX0_take_1 : decode cX0_take 1 = .ok (.iconst 1, 1) := by decide +kernel
theorem dX0_take_2 : decode cX0_take 2 = .ok (.putfield 18, 3) := by decide +kernel
theorem dX0_take_5 : decode cX0_take 5 = .ok (.aload_n 0, 1) := by decide +kernel
theorem dX0_take_6 : decode cX0_take 6 = .ok (.iload_n 1, 1) := by decide +kernel
theorem dX0_take_7 : decode cX0_take 7 = .ok (.putfield 22, 3) := by decide +kernel
theorem dX0_take_10 : decode cX0_take 10 = .ok (.aload_n 0, 1) := by decide +kernel
theorem dX0_take_11 : decode cX0_take 11 = .ok (.iload_n 2, 1) := by decide +kernel
theorem dX0_take_12 : decode cX0_take 12 = .ok (.putfield 25, 3) := by decide +kernel
theorem dX0_take_15 : decode cX0_take 15 = .ok (.aload_n 0, 1) := by decide +kernel
theorem dX0_take_16 : decode cX0_take 16 = .ok (.iload_n 3, 1) := by decide +kernel
theorem dX0_take_17 : decode cX0_take 17 = .ok (.putfield 28, 3) := by decide +kernel
theorem dX0_take_20 : decode cX0_take 20 = .ok (.return_, 1) := by decide +kernel
theorem dX0_renew_0 : decode cX0_renew 0 = .ok (.aload_n 0, 1) := by decide +kernel
theorem dX0_renew_1 : decode cX0_renew 1 = .ok (.iconst 0, 1) := by decide +kernel
theorem dX0_renew_2 : decode cX0_renew 2 = .ok (.putfield 18, 3) := by decide +kernel
theorem dX0_renew_5 : decode cX0_renew 5 = .ok (.aload_n 0, 1) := by decide +kernel
theorem dX0_renew_6 : decode cX0_renew 6 = .ok (.iconst (-1), 1) := by decide +kernel
theorem dX0_renew_7 : decode cX0_renew 7 = .ok (.putfield 22, 3) := by decide +kernel
theorem dX0_renew_10 : decode cX0_renew 10 = .ok (.aload_n 0, 1) := by decide +kernel
theorem dX0_renew_11 : decode cX0_renew 11 = .ok (.iconst (-1), 1) := by decide +kernel
theorem dX0_renew_12 : decode cX0_renew 12 = .ok (.putfield 25, 3) := by decide +kernel
theorem dX0_renew_15 : decode cX0_renew 15 = .ok (.aload_n 0, 1) := by decide +kernel
theorem dX0_renew_16 : decode cX0_renew 16 = .ok (.iconst (-1), 1) := by decide +kernel
theorem dX0_renew_17 : decode cX0_renew 17 = .ok (.putfield 28, 3) := by decide +kernel
theorem dX0_renew_20 : decode cX0_renew 20 = .ok (.aload_n 0, 1) := by decide +kernel
theorem dX0_renew_21 : decode cX0_renew 21 = .ok (.iconst (-1), 1) := by decide +kernel
theorem dX0_renew_22 : decode cX0_renew 22 = .ok (.putfield 31, 3) := by decide +kernel
theorem dX0_renew_25 : decode cX0_renew 25 = .ok (.return_, 1) := by decide +kernel
theorem dX0_plan_0 : decode cX0_plan 0 = .ok (.aload_n 0, 1) := by decide +kernel
theorem dX0_plan_1 : decode cX0_plan 1 = .ok (.iload_n 1, 1) := by decide +kernel
theorem dX0_plan_2 : decode cX0_plan 2 = .ok (.putfield 34, 3) := by decide +kernel
theorem dX0_plan_5 : decode cX0_plan 5 = .ok (.aload_n 0, 1) := by decide +kernel
theorem dX0_plan_6 : decode cX0_plan 6 = .ok (.iload_n 2, 1) := by decide +kernel
theorem dX0_plan_7 : decode cX0_plan 7 = .ok (.putfield 37, 3) := by decide +kernel
theorem dX0_plan_10 : decode cX0_plan 10 = .ok (.aload_n 0, 1) := by decide +kernel
theorem dX0_plan_11 : decode cX0_plan 11 = .ok (.iload_n 3, 1) := by decide +kernel
theorem dX0_plan_12 : decode cX0_plan 12 = .ok (.putfield 40, 3) := by decide +kernel
theorem dX0_plan_15 : decode cX0_plan 15 = .ok (.return_, 1) := by decide +kernel
set_option maxRecDepth 20000 in
theorem ggX0_followPlan_X0_take : GoodIn wsX0_followPlan wsX0_take := goodIn_r _ [9, 2, 10, 11, 12, 13, 14, 15, 16, 17, 18, 19, 20, 21, 22, 23, 24] (by decide +kernel) (by decide +kernel)
set_option maxRecDepth 20000 in
theorem gX0_followPlan_X0_take : GoodIn wsX0_followPlan (wsV RX0 55 RX0 yX0_take wsX0_take) := goodIn_app (goodIn_of _ (by decide +kernel)) ggX0_followPlan_X0_take
theorem dX0_followPlan_0 : decode cX0_followPlan 0 = .ok (.aload_n 0, 1) := by decide +kernel
theorem dX0_followPlan_1 : decode cX0_followPlan 1 = .ok (.getfield 34, 3) := by decide +kernel
theorem dX0_followPlan_4 : decode cX0_followPlan 4 = .ok (.iconst (-1), 1) := by decide +kernel
theorem dX0_followPlan_5 : decode cX0_followPlan 5 = .ok (.if_icmp .ne 10, 3) := by decide +kernel
theorem dX0_followPlan_8 : decode cX0_followPlan 8 = .ok (.aload_n 0, 1) := by decide +kernel
theorem dX0_followPlan_9 : decode cX0_followPlan 9 = .ok (.iconst 2, 1) := by decide +kernel
theorem dX0_followPlan_10 : decode cX0_followPlan 10 = .ok (.putfield 18, 3) := by decide +kernel
theorem dX0_followPlan_13 : decode cX0_followPlan 13 = .ok (.iconst 0, 1) := by decide +kernel
theorem dX0_followPlan_14 : decode cX0_followPlan 14 = .ok (.ireturn, 1) := by decide +kernel
theorem dX0_followPlan_15 : decode cX0_followPlan 15 = .ok (.aload_n 0, 1) := by decide +kernel
theorem dX0_followPlan_16 : decode cX0_followPlan 16 = .ok (.aload_n 0, 1) := by decide +kernel
theorem dX0_followPlan_17 : decode cX0_followPlan 17 = .ok (.getfield 34, 3) := by decide +kernel
theorem dX0_followPlan_20 : decode cX0_followPlan 20 = .ok (.aload_n 0, 1) := by decide +kernel
theorem dX0_followPlan_21 : decode cX0_followPlan 21 = .ok (.getfield 37, 3) := by decide +kernel
theorem dX0_followPlan_24 : decode cX0_followPlan 24 = .ok (.aload_n 0, 1) := by decide +kernel
theorem dX0_followPlan_25 : decode cX0_followPlan 25 = .ok (.getfield 40, 3) := by decide +kernel
theorem dX0_followPlan_28 : decode cX0_followPlan 28 = .ok (.invokevirtual 55, 3) := by decide +kernel
theorem dX0_followPlan_31 : decode cX0_followPlan 31 = .ok (.iconst 1, 1) := by decide +kernel
theorem dX0_followPlan_32 : decode cX0_followPlan 32 = .ok (.ireturn, 1) := by decide +kernel
theorem dX1_init_0 : decode cX1_init 0 = .ok (.aload_n 0, 1) := by decide +kernel
theorem dX1_init_1 : decode cX1_init 1 = .ok (.invokespecial 3, 3) := by decide +kernel
theorem dX1_init_4 : decode cX1_init 4 = .ok (.aload_n 0, 1) := by decide +kernel
theorem dX1_init_5 : decode cX1_init 5 = .ok (.lconst 0, 1) := by decide +kernel
theorem dX1_init_6 : decode cX1_init 6 = .ok (.putfield 9, 3) := by decide +kernel
theorem dX1_init_9 : decode cX1_init 9 = .ok (.aload_n 0, 1) := by decide +kernel
theorem dX1_init_10 : decode cX1_init 10 = .ok (.lconst 0, 1) := by decide +kernel
theorem dX1_init_11 : decode cX1_init 11 = .ok (.putfield 15, 3) := by decide +kernel
theorem dX1_init_14 : decode cX1_init 14 = .ok (.aload_n 0, 1) := by decide +kernel
theorem dX1_init_15 : decode cX1_init 15 = .ok (.iconst 0, 1) := by decide +kernel
theorem dX1_init_16 : decode cX1_init 16 = .ok (.putfield 18, 3) := by decide +kernel
theorem dX1_init_19 : decode cX1_init 19 = .ok (.aload_n 0, 1) := by decide +kernel
theorem dX1_init_20 : decode cX1_init 20 = .ok (.iload_n 1, 1) := by decide +kernel
theorem dX1_init_21 : decode cX1_init 21 = .ok (.putfield 22, 3) := by decide +kernel
theorem dX1_init_24 : decode cX1_init 24 = .ok (.aload_n 0, 1) := by decide +kernel
theorem dX1_init_25 : decode cX1_init 25 = .ok (.iload_n 2, 1) := by decide +kernel
theorem dX1_init_26 : decode cX1_init 26 = .ok (.putfield 26, 3) := by decide +kernel
theorem dX1_init_29 : decode cX1_init 29 = .ok (.aload_n 0, 1) := by decide +kernel
theorem dX1_init_30 : decode cX1_init 30 = .ok (.iload_n 3, 1) := by decide +kernel
theorem dX1_init_31 : decode cX1_init 31 = .ok (.putfield 29, 3) := by decide +kernel
theorem dX1_init_34 : decode cX1_init 34 = .ok (.return_, 1) := by decide +kernel
set_option maxRecDepth 20000 in
theorem ggX1_treat_X3_bit : GoodIn wsX1_treat wsX3_bit := goodIn_r _ [5] (by decide +kernel) (by decide +kernel)
set_option maxRecDepth 20000 in
theorem gX1_treat_X3_bit_n32 : GoodIn wsX1_treat (wsX3_bit) := ggX1_treat_X3_bit
set_option maxRecDepth 20000 in
theorem ggX1_treat_X3_withBit : GoodIn wsX1_treat wsX3_withBit := goodIn_r _ [7, 8] (by decide +kernel) (by decide +kernel)
set_option maxRecDepth 20000 in
theorem gX1_treat_X3_withBit_n36 : GoodIn wsX1_treat (wsX3_withBit) := ggX1_treat_X3_withBit
theorem dX1_treat_0 : decode cX1_treat 0 = .ok (.aload_n 0, 1) := by decide +kernel
theorem dX1_treat_1 : decode cX1_treat 1 = .ok (.getfield 9, 3) := by decide +kernel
theorem dX1_treat_4 : decode cX1_treat 4 = .ok (.iload_n 1, 1) := by decide +kernel
theorem dX1_treat_5 : decode cX1_treat 5 = .ok (.invokestatic 32, 3) := by decide +kernel
theorem dX1_treat_8 : decode cX1_treat 8 = .ok (.iconst 1, 1) := by decide +kernel
theorem dX1_treat_9 : decode cX1_treat 9 = .ok (.if_icmp .ne 7, 3) := by decide +kernel
theorem dX1_treat_12 : decode cX1_treat 12 = .ok (.iconst 1, 1) := by decide +kernel
theorem dX1_treat_13 : decode cX1_treat 13 = .ok (.goto 20, 3) := by decide +kernel
theorem dX1_treat_16 : decode cX1_treat 16 = .ok (.aload_n 0, 1) := by decide +kernel
theorem dX1_treat_17 : decode cX1_treat 17 = .ok (.getfield 15, 3) := by decide +kernel
theorem dX1_treat_20 : decode cX1_treat 20 = .ok (.iload_n 1, 1) := by decide +kernel
theorem dX1_treat_21 : decode cX1_treat 21 = .ok (.invokestatic 32, 3) := by decide +kernel
theorem dX1_treat_24 : decode cX1_treat 24 = .ok (.iconst 1, 1) := by decide +kernel
theorem dX1_treat_25 : decode cX1_treat 25 = .ok (.if_icmp .ne 7, 3) := by decide +kernel
theorem dX1_treat_28 : decode cX1_treat 28 = .ok (.iconst 2, 1) := by decide +kernel
theorem dX1_treat_29 : decode cX1_treat 29 = .ok (.goto 4, 3) := by decide +kernel
theorem dX1_treat_32 : decode cX1_treat 32 = .ok (.iconst 0, 1) := by decide +kernel
theorem dX1_treat_33 : decode cX1_treat 33 = .ok (.istore_n 3, 1) := by decide +kernel
theorem dX1_treat_34 : decode cX1_treat 34 = .ok (.aload_n 0, 1) := by decide +kernel
theorem dX1_treat_35 : decode cX1_treat 35 = .ok (.aload_n 0, 1) := by decide +kernel
theorem dX1_treat_36 : decode cX1_treat 36 = .ok (.getfield 9, 3) := by decide +kernel
theorem dX1_treat_39 : decode cX1_treat 39 = .ok (.iload_n 1, 1) := by decide +kernel
theorem dX1_treat_40 : decode cX1_treat 40 = .ok (.iload_n 2, 1) := by decide +kernel
theorem dX1_treat_41 : decode cX1_treat 41 = .ok (.iconst 1, 1) := by decide +kernel
theorem dX1_treat_42 : decode cX1_treat 42 = .ok (.if_icmp .ne 7, 3) := by decide +kernel
theorem dX1_treat_45 : decode cX1_treat 45 = .ok (.iconst 1, 1) := by decide +kernel
theorem dX1_treat_46 : decode cX1_treat 46 = .ok (.goto 4, 3) := by decide +kernel
theorem dX1_treat_49 : decode cX1_treat 49 = .ok (.iconst 0, 1) := by decide +kernel
theorem dX1_treat_50 : decode cX1_treat 50 = .ok (.invokestatic 36, 3) := by decide +kernel
theorem dX1_treat_53 : decode cX1_treat 53 = .ok (.putfield 9, 3) := by decide +kernel
theorem dX1_treat_56 : decode cX1_treat 56 = .ok (.aload_n 0, 1) := by decide +kernel
theorem dX1_treat_57 : decode cX1_treat 57 = .ok (.aload_n 0, 1) := by decide +kernel
theorem dX1_treat_58 : decode cX1_treat 58 = .ok (.getfield 15, 3) := by decide +kernel
theorem dX1_treat_61 : decode cX1_treat 61 = .ok (.iload_n 1, 1) := by decide +kernel
theorem dX1_treat_62 : decode cX1_treat 62 = .ok (.iload_n 2, 1) := by decide +kernel
theorem dX1_treat_63 : decode cX1_treat 63 = .ok (.iconst 2, 1) := by decide +kernel
theorem dX1_treat_64 : decode cX1_treat 64 = .ok (.if_icmp .ne 7, 3) := by decide +kernel
theorem dX1_treat_67 : decode cX1_treat 67 = .ok (.iconst 1, 1) := by decide +kernel
theorem dX1_treat_68 : decode cX1_treat 68 = .ok (.goto 4, 3) := by decide +kernel
theorem dX1_treat_71 : decode cX1_treat 71 = .ok (.iconst 0, 1) := by decide +kernel
theorem dX1_treat_72 : decode cX1_treat 72 = .ok (.invokestatic 36, 3) := by decide +kernel
theorem dX1_treat_75 : decode cX1_treat 75 = .ok (.putfield 15, 3) := by decide +kernel
theorem dX1_treat_78 : decode cX1_treat 78 = .ok (.iload_n 3, 1) := by decide +kernel
theorem dX1_treat_79 : decode cX1_treat 79 = .ok (.ireturn, 1) := by decide +kernel
set_option maxRecDepth 20000 in
theorem ggX1_fits_X3_bit : GoodIn wsX1_fits wsX3_bit := goodIn_r _ [10] (by decide +kernel) (by decide +kernel)
set_option maxRecDepth 20000 in
theorem gX1_fits_X3_bit_n32 : GoodIn wsX1_fits (wsX3_bit) := ggX1_fits_X3_bit
theorem dX1_fits_0 : decode cX1_fits 0 = .ok (.aload_n 0, 1) := by decide +kernel
theorem dX1_fits_1 : decode cX1_fits 1 = .ok (.getfield 18, 3) := by decide +kernel
theorem dX1_fits_4 : decode cX1_fits 4 = .ok (.ifCond .ne 55, 3) := by decide +kernel
theorem dX1_fits_7 : decode cX1_fits 7 = .ok (.aload_n 0, 1) := by decide +kernel
theorem dX1_fits_8 : decode cX1_fits 8 = .ok (.getfield 29, 3) := by decide +kernel
theorem dX1_fits_11 : decode cX1_fits 11 = .ok (.i2l, 1) := by decide +kernel
theorem dX1_fits_12 : decode cX1_fits 12 = .ok (.aload_n 1, 1) := by decide +kernel
theorem dX1_fits_13 : decode cX1_fits 13 = .ok (.getfield 40, 3) := by decide +kernel
theorem dX1_fits_16 : decode cX1_fits 16 = .ok (.invokestatic 32, 3) := by decide +kernel
theorem dX1_fits_19 : decode cX1_fits 19 = .ok (.iconst 1, 1) := by decide +kernel
theorem dX1_fits_20 : decode cX1_fits 20 = .ok (.if_icmp .ne 39, 3) := by decide +kernel
theorem dX1_fits_23 : decode cX1_fits 23 = .ok (.aload_n 0, 1) := by decide +kernel
theorem dX1_fits_24 : decode cX1_fits 24 = .ok (.getfield 9, 3) := by decide +kernel
theorem dX1_fits_27 : decode cX1_fits 27 = .ok (.aload_n 1, 1) := by decide +kernel
theorem dX1_fits_28 : decode cX1_fits 28 = .ok (.getfield 45, 3) := by decide +kernel
theorem dX1_fits_31 : decode cX1_fits 31 = .ok (.ldc2_w 48, 3) := by decide +kernel
theorem dX1_fits_34 : decode cX1_fits 34 = .ok (.lxor, 1) := by decide +kernel
theorem dX1_fits_35 : decode cX1_fits 35 = .ok (.land, 1) := by decide +kernel
theorem dX1_fits_36 : decode cX1_fits 36 = .ok (.lconst 0, 1) := by decide +kernel
theorem dX1_fits_37 : decode cX1_fits 37 = .ok (.lcmp, 1) := by decide +kernel
theorem dX1_fits_38 : decode cX1_fits 38 = .ok (.ifCond .ne 21, 3) := by decide +kernel
theorem dX1_fits_41 : decode cX1_fits 41 = .ok (.aload_n 0, 1) := by decide +kernel
theorem dX1_fits_42 : decode cX1_fits 42 = .ok (.getfield 15, 3) := by decide +kernel
theorem dX1_fits_45 : decode cX1_fits 45 = .ok (.aload_n 1, 1) := by decide +kernel
theorem dX1_fits_46 : decode cX1_fits 46 = .ok (.getfield 45, 3) := by decide +kernel
theorem dX1_fits_49 : decode cX1_fits 49 = .ok (.land, 1) := by decide +kernel
theorem dX1_fits_50 : decode cX1_fits 50 = .ok (.lconst 0, 1) := by decide +kernel
theorem dX1_fits_51 : decode cX1_fits 51 = .ok (.lcmp, 1) := by decide +kernel
theorem dX1_fits_52 : decode cX1_fits 52 = .ok (.ifCond .ne 7, 3) := by decide +kernel
theorem dX1_fits_55 : decode cX1_fits 55 = .ok (.iconst 1, 1) := by decide +kernel
theorem dX1_fits_56 : decode cX1_fits 56 = .ok (.goto 4, 3) := by decide +kernel
theorem dX1_fits_59 : decode cX1_fits 59 = .ok (.iconst 0, 1) := by decide +kernel
theorem dX1_fits_60 : decode cX1_fits 60 = .ok (.ireturn, 1) := by decide +kernel
theorem dX1_quarrelsWith_0 : decode cX1_quarrelsWith 0 = .ok (.aload_n 0, 1) := by decide +kernel
theorem dX1_quarrelsWith_1 : decode cX1_quarrelsWith 1 = .ok (.getfield 18, 3) := by decide +kernel
theorem dX1_quarrelsWith_4 : decode cX1_quarrelsWith 4 = .ok (.ifCond .ne 76, 3) := by decide +kernel
theorem dX1_quarrelsWith_7 : decode cX1_quarrelsWith 7 = .ok (.aload_n 1, 1) := by decide +kernel
theorem dX1_quarrelsWith_8 : decode cX1_quarrelsWith 8 = .ok (.getfield 18, 3) := by decide +kernel
theorem dX1_quarrelsWith_11 : decode cX1_quarrelsWith 11 = .ok (.ifCond .ne 69, 3) := by decide +kernel
theorem dX1_quarrelsWith_14 : decode cX1_quarrelsWith 14 = .ok (.aload_n 0, 1) := by decide +kernel
theorem dX1_quarrelsWith_15 : decode cX1_quarrelsWith 15 = .ok (.getfield 22, 3) := by decide +kernel
theorem dX1_quarrelsWith_18 : decode cX1_quarrelsWith 18 = .ok (.aload_n 1, 1) := by decide +kernel
theorem dX1_quarrelsWith_19 : decode cX1_quarrelsWith 19 = .ok (.getfield 22, 3) := by decide +kernel
theorem dX1_quarrelsWith_22 : decode cX1_quarrelsWith 22 = .ok (.if_icmp .ne 58, 3) := by decide +kernel
theorem dX1_quarrelsWith_25 : decode cX1_quarrelsWith 25 = .ok (.aload_n 0, 1) := by decide +kernel
theorem dX1_quarrelsWith_26 : decode cX1_quarrelsWith 26 = .ok (.getfield 26, 3) := by decide +kernel
theorem dX1_quarrelsWith_29 : decode cX1_quarrelsWith 29 = .ok (.aload_n 1, 1) := by decide +kernel
theorem dX1_quarrelsWith_30 : decode cX1_quarrelsWith 30 = .ok (.getfield 26, 3) := by decide +kernel
theorem dX1_quarrelsWith_33 : decode cX1_quarrelsWith 33 = .ok (.if_icmp .eq 47, 3) := by decide +kernel
theorem dX1_quarrelsWith_36 : decode cX1_quarrelsWith 36 = .ok (.aload_n 0, 1) := by decide +kernel
theorem dX1_quarrelsWith_37 : decode cX1_quarrelsWith 37 = .ok (.getfield 29, 3) := by decide +kernel
theorem dX1_quarrelsWith_40 : decode cX1_quarrelsWith 40 = .ok (.aload_n 1, 1) := by decide +kernel
theorem dX1_quarrelsWith_41 : decode cX1_quarrelsWith 41 = .ok (.getfield 29, 3) := by decide +kernel
theorem dX1_quarrelsWith_44 : decode cX1_quarrelsWith 44 = .ok (.iand, 1) := by decide +kernel
theorem dX1_quarrelsWith_45 : decode cX1_quarrelsWith 45 = .ok (.ifCond .eq 35, 3) := by decide +kernel
theorem dX1_quarrelsWith_48 : decode cX1_quarrelsWith 48 = .ok (.aload_n 0, 1) := by decide +kernel
theorem dX1_quarrelsWith_49 : decode cX1_quarrelsWith 49 = .ok (.getfield 9, 3) := by decide +kernel
theorem dX1_quarrelsWith_52 : decode cX1_quarrelsWith 52 = .ok (.aload_n 1, 1) := by decide +kernel
theorem dX1_quarrelsWith_53 : decode cX1_quarrelsWith 53 = .ok (.getfield 15, 3) := by decide +kernel
theorem dX1_quarrelsWith_56 : decode cX1_quarrelsWith 56 = .ok (.land, 1) := by decide +kernel
theorem dX1_quarrelsWith_57 : decode cX1_quarrelsWith 57 = .ok (.lconst 0, 1) := by decide +kernel
theorem dX1_quarrelsWith_58 : decode cX1_quarrelsWith 58 = .ok (.lcmp, 1) := by decide +kernel
theorem dX1_quarrelsWith_59 : decode cX1_quarrelsWith 59 = .ok (.ifCond .ne 21, 3) := by decide +kernel
theorem dX1_quarrelsWith_62 : decode cX1_quarrelsWith 62 = .ok (.aload_n 0, 1) := by decide +kernel
theorem dX1_quarrelsWith_63 : decode cX1_quarrelsWith 63 = .ok (.getfield 15, 3) := by decide +kernel
theorem dX1_quarrelsWith_66 : decode cX1_quarrelsWith 66 = .ok (.aload_n 1, 1) := by decide +kernel
theorem dX1_quarrelsWith_67 : decode cX1_quarrelsWith 67 = .ok (.getfield 9, 3) := by decide +kernel
theorem dX1_quarrelsWith_70 : decode cX1_quarrelsWith 70 = .ok (.land, 1) := by decide +kernel
theorem dX1_quarrelsWith_71 : decode cX1_quarrelsWith 71 = .ok (.lconst 0, 1) := by decide +kernel
theorem dX1_quarrelsWith_72 : decode cX1_quarrelsWith 72 = .ok (.lcmp, 1) := by decide +kernel
theorem dX1_quarrelsWith_73 : decode cX1_quarrelsWith 73 = .ok (.ifCond .ne 7, 3) := by decide +kernel
theorem dX1_quarrelsWith_76 : decode cX1_quarrelsWith 76 = .ok (.iconst 1, 1) := by decide +kernel
theorem dX1_quarrelsWith_77 : decode cX1_quarrelsWith 77 = .ok (.goto 4, 3) := by decide +kernel
theorem dX1_quarrelsWith_80 : decode cX1_quarrelsWith 80 = .ok (.iconst 0, 1) := by decide +kernel
theorem dX1_quarrelsWith_81 : decode cX1_quarrelsWith 81 = .ok (.ireturn, 1) := by decide +kernel
theorem dX2_init_0 : decode cX2_init 0 = .ok (.aload_n 0, 1) := by decide +kernel
theorem dX2_init_1 : decode cX2_init 1 = .ok (.invokespecial 3, 3) := by decide +kernel
theorem dX2_init_4 : decode cX2_init 4 = .ok (.aload_n 0, 1) := by decide +kernel
theorem dX2_init_5 : decode cX2_init 5 = .ok (.bipush 40, 2) := by decide +kernel
theorem dX2_init_7 : decode cX2_init 7 = .ok (.newarray .int, 2) := by decide +kernel
theorem dX2_init_9 : decode cX2_init 9 = .ok (.putfield 9, 3) := by decide +kernel
theorem dX2_init_12 : decode cX2_init 12 = .ok (.aload_n 0, 1) := by decide +kernel
theorem dX2_init_13 : decode cX2_init 13 = .ok (.iconst 0, 1) := by decide +kernel
theorem dX2_init_14 : decode cX2_init 14 = .ok (.putfield 15, 3) := by decide +kernel
theorem dX2_init_17 : decode cX2_init 17 = .ok (.aload_n 0, 1) := by decide +kernel
theorem dX2_init_18 : decode cX2_init 18 = .ok (.iload_n 1, 1) := by decide +kernel
theorem dX2_init_19 : decode cX2_init 19 = .ok (.bipush 40, 2) := by decide +kernel
theorem dX2_init_21 : decode cX2_init 21 = .ok (.invokestatic 19, 3) := by decide +kernel
theorem dX2_init_24 : decode cX2_init 24 = .ok (.putfield 25, 3) := by decide +kernel
theorem dX2_init_27 : decode cX2_init 27 = .ok (.return_, 1) := by decide +kernel
theorem dX2_has_0 : decode cX2_has 0 = .ok (.iload_n 1, 1) := by decide +kernel
theorem dX2_has_1 : decode cX2_has 1 = .ok (.ifCond .lt 24, 3) := by decide +kernel
theorem dX2_has_4 : decode cX2_has 4 = .ok (.iload_n 1, 1) := by decide +kernel
theorem dX2_has_5 : decode cX2_has 5 = .ok (.aload_n 0, 1) := by decide +kernel
theorem dX2_has_6 : decode cX2_has 6 = .ok (.getfield 15, 3) := by decide +kernel
theorem dX2_has_9 : decode cX2_has 9 = .ok (.if_icmp .ge 16, 3) := by decide +kernel
theorem dX2_has_12 : decode cX2_has 12 = .ok (.iload_n 1, 1) := by decide +kernel
theorem dX2_has_13 : decode cX2_has 13 = .ok (.aload_n 0, 1) := by decide +kernel
theorem dX2_has_14 : decode cX2_has 14 = .ok (.getfield 9, 3) := by decide +kernel
theorem dX2_has_17 : decode cX2_has 17 = .ok (.arraylength, 1) := by decide +kernel
theorem dX2_has_18 : decode cX2_has 18 = .ok (.if_icmp .ge 7, 3) := by decide +kernel
theorem dX2_has_21 : decode cX2_has 21 = .ok (.iconst 1, 1) := by decide +kernel
theorem dX2_has_22 : decode cX2_has 22 = .ok (.goto 4, 3) := by decide +kernel
theorem dX2_has_25 : decode cX2_has 25 = .ok (.iconst 0, 1) := by decide +kernel
theorem dX2_has_26 : decode cX2_has 26 = .ok (.ireturn, 1) := by decide +kernel
set_option maxRecDepth 20000 in
theorem ggX2_grow_X2_has : GoodIn wsX2_grow wsX2_has := goodIn_r _ [8, 1, 3, 9, 10, 11] (by decide +kernel) (by decide +kernel)
set_option maxRecDepth 20000 in
theorem gX2_grow_X2_has : GoodIn wsX2_grow (wsV RX2 28 RX2 yX2_has wsX2_has) := goodIn_app (goodIn_of _ (by decide +kernel)) ggX2_grow_X2_has
theorem dX2_grow_0 : decode cX2_grow 0 = .ok (.iload_n 1, 1) := by decide +kernel
theorem dX2_grow_1 : decode cX2_grow 1 = .ok (.iconst (-1), 1) := by decide +kernel
theorem dX2_grow_2 : decode cX2_grow 2 = .ok (.if_icmp .eq 13, 3) := by decide +kernel
theorem dX2_grow_5 : decode cX2_grow 5 = .ok (.aload_n 0, 1) := by decide +kernel
theorem dX2_grow_6 : decode cX2_grow 6 = .ok (.iload_n 1, 1) := by decide +kernel
theorem dX2_grow_7 : decode cX2_grow 7 = .ok (.invokevirtual 28, 3) := by decide +kernel
theorem dX2_grow_10 : decode cX2_grow 10 = .ok (.ifCond .ne 5, 3) := by decide +kernel
theorem dX2_grow_13 : decode cX2_grow 13 = .ok (.iconst (-1), 1) := by decide +kernel
theorem dX2_grow_14 : decode cX2_grow 14 = .ok (.ireturn, 1) := by decide +kernel
theorem dX2_grow_15 : decode cX2_grow 15 = .ok (.aload_n 0, 1) := by decide +kernel
theorem dX2_grow_16 : decode cX2_grow 16 = .ok (.getfield 15, 3) := by decide +kernel
theorem dX2_grow_19 : decode cX2_grow 19 = .ok (.aload_n 0, 1) := by decide +kernel
theorem dX2_grow_20 : decode cX2_grow 20 = .ok (.getfield 25, 3) := by decide +kernel
theorem dX2_grow_23 : decode cX2_grow 23 = .ok (.if_icmp .ge 15, 3) := by decide +kernel
theorem dX2_grow_26 : decode cX2_grow 26 = .ok (.aload_n 0, 1) := by decide +kernel
theorem dX2_grow_27 : decode cX2_grow 27 = .ok (.getfield 15, 3) := by decide +kernel
theorem dX2_grow_30 : decode cX2_grow 30 = .ok (.aload_n 0, 1) := by decide +kernel
theorem dX2_grow_31 : decode cX2_grow 31 = .ok (.getfield 9, 3) := by decide +kernel
theorem dX2_grow_34 : decode cX2_grow 34 = .ok (.arraylength, 1) := by decide +kernel
theorem dX2_grow_35 : decode cX2_grow 35 = .ok (.if_icmp .lt 6, 3) := by decide +kernel
theorem dX2_grow_38 : decode cX2_grow 38 = .ok (.bipush (-3), 2) := by decide +kernel
theorem dX2_grow_40 : decode cX2_grow 40 = .ok (.ireturn, 1) := by decide +kernel
theorem dX2_grow_41 : decode cX2_grow 41 = .ok (.aload_n 0, 1) := by decide +kernel
theorem dX2_grow_42 : decode cX2_grow 42 = .ok (.getfield 9, 3) := by decide +kernel
theorem dX2_grow_45 : decode cX2_grow 45 = .ok (.aload_n 0, 1) := by decide +kernel
theorem dX2_grow_46 : decode cX2_grow 46 = .ok (.getfield 15, 3) := by decide +kernel
theorem dX2_grow_49 : decode cX2_grow 49 = .ok (.iload_n 1, 1) := by decide +kernel
theorem dX2_grow_50 : decode cX2_grow 50 = .ok (.iastore, 1) := by decide +kernel
theorem dX2_grow_51 : decode cX2_grow 51 = .ok (.aload_n 0, 1) := by decide +kernel
theorem dX2_grow_52 : decode cX2_grow 52 = .ok (.dup, 1) := by decide +kernel
theorem dX2_grow_53 : decode cX2_grow 53 = .ok (.getfield 15, 3) := by decide +kernel
theorem dX2_grow_56 : decode cX2_grow 56 = .ok (.iconst 1, 1) := by decide +kernel
theorem dX2_grow_57 : decode cX2_grow 57 = .ok (.iadd, 1) := by decide +kernel
theorem dX2_grow_58 : decode cX2_grow 58 = .ok (.putfield 15, 3) := by decide +kernel
theorem dX2_grow_61 : decode cX2_grow 61 = .ok (.aload_n 0, 1) := by decide +kernel
theorem dX2_grow_62 : decode cX2_grow 62 = .ok (.getfield 15, 3) := by decide +kernel
theorem dX2_grow_65 : decode cX2_grow 65 = .ok (.iconst 1, 1) := by decide +kernel
theorem dX2_grow_66 : decode cX2_grow 66 = .ok (.isub, 1) := by decide +kernel
theorem dX2_grow_67 : decode cX2_grow 67 = .ok (.ireturn, 1) := by decide +kernel
set_option maxRecDepth 20000 in
theorem ggX2_below_X3_bit : GoodIn wsX2_below wsX3_bit := goodIn_r _ [5] (by decide +kernel) (by decide +kernel)
set_option maxRecDepth 20000 in
theorem gX2_below_X3_bit_n32 : GoodIn wsX2_below (wsX3_bit) := ggX2_below_X3_bit
theorem dX2_below_0 : decode cX2_below 0 = .ok (.lload_n 1, 1) := by decide +kernel
theorem dX2_below_1 : decode cX2_below 1 = .ok (.lstore_n 3, 1) := by decide +kernel
theorem dX2_below_2 : decode cX2_below 2 = .ok (.iconst 0, 1) := by decide +kernel
theorem dX2_below_3 : decode cX2_below 3 = .ok (.istore 5, 2) := by decide +kernel
theorem dX2_below_5 : decode cX2_below 5 = .ok (.iload 5, 2) := by decide +kernel
theorem dX2_below_7 : decode cX2_below 7 = .ok (.aload_n 0, 1) := by decide +kernel
theorem dX2_below_8 : decode cX2_below 8 = .ok (.getfield 15, 3) := by decide +kernel
theorem dX2_below_11 : decode cX2_below 11 = .ok (.if_icmp .ge 52, 3) := by decide +kernel
theorem dX2_below_14 : decode cX2_below 14 = .ok (.iload 5, 2) := by decide +kernel
theorem dX2_below_16 : decode cX2_below 16 = .ok (.aload_n 0, 1) := by decide +kernel
theorem dX2_below_17 : decode cX2_below 17 = .ok (.getfield 9, 3) := by decide +kernel
theorem dX2_below_20 : decode cX2_below 20 = .ok (.arraylength, 1) := by decide +kernel
theorem dX2_below_21 : decode cX2_below 21 = .ok (.if_icmp .ge 42, 3) := by decide +kernel
theorem dX2_below_24 : decode cX2_below 24 = .ok (.aload_n 0, 1) := by decide +kernel
theorem dX2_below_25 : decode cX2_below 25 = .ok (.getfield 9, 3) := by decide +kernel
theorem dX2_below_28 : decode cX2_below 28 = .ok (.iload 5, 2) := by decide +kernel
theorem dX2_below_30 : decode cX2_below 30 = .ok (.iaload, 1) := by decide +kernel
theorem dX2_below_31 : decode cX2_below 31 = .ok (.iconst (-1), 1) := by decide +kernel
theorem dX2_below_32 : decode cX2_below 32 = .ok (.if_icmp .eq 25, 3) := by decide +kernel
theorem dX2_below_35 : decode cX2_below 35 = .ok (.lload_n 3, 1) := by decide +kernel
theorem dX2_below_36 : decode cX2_below 36 = .ok (.aload_n 0, 1) := by decide +kernel
theorem dX2_below_37 : decode cX2_below 37 = .ok (.getfield 9, 3) := by decide +kernel
theorem dX2_below_40 : decode cX2_below 40 = .ok (.iload 5, 2) := by decide +kernel
theorem dX2_below_42 : decode cX2_below 42 = .ok (.iaload, 1) := by decide +kernel
theorem dX2_below_43 : decode cX2_below 43 = .ok (.invokestatic 32, 3) := by decide +kernel
theorem dX2_below_46 : decode cX2_below 46 = .ok (.iconst 1, 1) := by decide +kernel
theorem dX2_below_47 : decode cX2_below 47 = .ok (.if_icmp .ne 10, 3) := by decide +kernel
theorem dX2_below_50 : decode cX2_below 50 = .ok (.lload_n 3, 1) := by decide +kernel
theorem dX2_below_51 : decode cX2_below 51 = .ok (.lconst 1, 1) := by decide +kernel
theorem dX2_below_52 : decode cX2_below 52 = .ok (.iload 5, 2) := by decide +kernel
theorem dX2_below_54 : decode cX2_below 54 = .ok (.lshl, 1) := by decide +kernel
theorem dX2_below_55 : decode cX2_below 55 = .ok (.lor, 1) := by decide +kernel
theorem dX2_below_56 : decode cX2_below 56 = .ok (.lstore_n 3, 1) := by decide +kernel
theorem dX2_below_57 : decode cX2_below 57 = .ok (.iinc 5 1, 3) := by decide +kernel
theorem dX2_below_60 : decode cX2_below 60 = .ok (.goto (-55), 3) := by decide +kernel
theorem dX2_below_63 : decode cX2_below 63 = .ok (.lload_n 3, 1) := by decide +kernel
theorem dX2_below_64 : decode cX2_below 64 = .ok (.lreturn, 1) := by decide +kernel
set_option maxRecDepth 20000 in
theorem ggX3_init_X2_init : GoodIn wsX3_init wsX2_init := goodIn_r _ [25, 26, 2, 3, 12, 27, 28, 29, 30, 31, 32, 33, 34, 35, 36] (by decide +kernel) (by decide +kernel)
set_option maxRecDepth 20000 in
theorem gX3_init_X2_init : GoodIn wsX3_init (wsX2_init) := ggX3_init_X2_init
theorem dX3_init_0 : decode cX3_init 0 = .ok (.aload_n 0, 1) := by decide +kernel
theorem dX3_init_1 : decode cX3_init 1 = .ok (.invokespecial 3, 3) := by decide +kernel
theorem dX3_init_4 : decode cX3_init 4 = .ok (.aload_n 0, 1) := by decide +kernel
theorem dX3_init_5 : decode cX3_init 5 = .ok (.new 9, 3) := by decide +kernel
theorem dX3_init_8 : decode cX3_init 8 = .ok (.dup, 1) := by decide +kernel
theorem dX3_init_9 : decode cX3_init 9 = .ok (.bipush 40, 2) := by decide +kernel
theorem dX3_init_11 : decode cX3_init 11 = .ok (.invokespecial 11, 3) := by decide +kernel
theorem dX3_init_14 : decode cX3_init 14 = .ok (.putfield 14, 3) := by decide +kernel
theorem dX3_init_17 : decode cX3_init 17 = .ok (.aload_n 0, 1) := by decide +kernel
theorem dX3_init_18 : decode cX3_init 18 = .ok (.new 9, 3) := by decide +kernel
theorem dX3_init_21 : decode cX3_init 21 = .ok (.dup, 1) := by decide +kernel
theorem dX3_init_22 : decode cX3_init 22 = .ok (.bipush 30, 2) := by decide +kernel
theorem dX3_init_24 : decode cX3_init 24 = .ok (.invokespecial 11, 3) := by decide +kernel
theorem dX3_init_27 : decode cX3_init 27 = .ok (.putfield 18, 3) := by decide +kernel
theorem dX3_init_30 : decode cX3_init 30 = .ok (.aload_n 0, 1) := by decide +kernel
theorem dX3_init_31 : decode cX3_init 31 = .ok (.bipush 40, 2) := by decide +kernel
theorem dX3_init_33 : decode cX3_init 33 = .ok (.newarray .long, 2) := by decide +kernel
theorem dX3_init_35 : decode cX3_init 35 = .ok (.putfield 21, 3) := by decide +kernel
theorem dX3_init_38 : decode cX3_init 38 = .ok (.aload_n 0, 1) := by decide +kernel
theorem dX3_init_39 : decode cX3_init 39 = .ok (.bipush 40, 2) := by decide +kernel
theorem dX3_init_41 : decode cX3_init 41 = .ok (.newarray .long, 2) := by decide +kernel
theorem dX3_init_43 : decode cX3_init 43 = .ok (.putfield 25, 3) := by decide +kernel
theorem dX3_init_46 : decode cX3_init 46 = .ok (.aload_n 0, 1) := by decide +kernel
theorem dX3_init_47 : decode cX3_init 47 = .ok (.bipush 60, 2) := by decide +kernel
theorem dX3_init_49 : decode cX3_init 49 = .ok (.newarray .int, 2) := by decide +kernel
theorem dX3_init_51 : decode cX3_init 51 = .ok (.putfield 28, 3) := by decide +kernel
theorem dX3_init_54 : decode cX3_init 54 = .ok (.aload_n 0, 1) := by decide +kernel
theorem dX3_init_55 : decode cX3_init 55 = .ok (.sipush 160, 3) := by decide +kernel
theorem dX3_init_58 : decode cX3_init 58 = .ok (.anewarray 32, 3) := by decide +kernel
theorem dX3_init_61 : decode cX3_init 61 = .ok (.putfield 34, 3) := by decide +kernel
theorem dX3_init_64 : decode cX3_init 64 = .ok (.aload_n 0, 1) := by decide +kernel
theorem dX3_init_65 : decode cX3_init 65 = .ok (.iconst 0, 1) := by decide +kernel
theorem dX3_init_66 : decode cX3_init 66 = .ok (.putfield 38, 3) := by decide +kernel
theorem dX3_init_69 : decode cX3_init 69 = .ok (.aload_n 0, 1) := by decide +kernel
theorem dX3_init_70 : decode cX3_init 70 = .ok (.bipush 40, 2) := by decide +kernel
theorem dX3_init_72 : decode cX3_init 72 = .ok (.anewarray 42, 3) := by decide +kernel
theorem dX3_init_75 : decode cX3_init 75 = .ok (.putfield 44, 3) := by decide +kernel
theorem dX3_init_78 : decode cX3_init 78 = .ok (.aload_n 0, 1) := by decide +kernel
theorem dX3_init_79 : decode cX3_init 79 = .ok (.iconst 0, 1) := by decide +kernel
theorem dX3_init_80 : decode cX3_init 80 = .ok (.putfield 48, 3) := by decide +kernel
theorem dX3_init_83 : decode cX3_init 83 = .ok (.aload_n 0, 1) := by decide +kernel
theorem dX3_init_84 : decode cX3_init 84 = .ok (.sipush 500, 3) := by decide +kernel
theorem dX3_init_87 : decode cX3_init 87 = .ok (.putfield 51, 3) := by decide +kernel
theorem dX3_init_90 : decode cX3_init 90 = .ok (.aload_n 0, 1) := by decide +kernel
theorem dX3_init_91 : decode cX3_init 91 = .ok (.sipush 200, 3) := by decide +kernel
theorem dX3_init_94 : decode cX3_init 94 = .ok (.putfield 54, 3) := by decide +kernel
theorem dX3_init_97 : decode cX3_init 97 = .ok (.aload_n 0, 1) := by decide +kernel
theorem dX3_init_98 : decode cX3_init 98 = .ok (.bipush 40, 2) := by decide +kernel
theorem dX3_init_100 : decode cX3_init 100 = .ok (.newarray .int, 2) := by decide +kernel
theorem dX3_init_102 : decode cX3_init 102 = .ok (.putfield 57, 3) := by decide +kernel
theorem dX3_init_105 : decode cX3_init 105 = .ok (.iconst 0, 1) := by decide +kernel
theorem dX3_init_106 : decode cX3_init 106 = .ok (.istore_n 1, 1) := by decide +kernel
theorem dX3_init_107 : decode cX3_init 107 = .ok (.iload_n 1, 1) := by decide +kernel
theorem dX3_init_108 : decode cX3_init 108 = .ok (.aload_n 0, 1) := by decide +kernel
theorem dX3_init_109 : decode cX3_init 109 = .ok (.getfield 28, 3) := by decide +kernel
theorem dX3_init_112 : decode cX3_init 112 = .ok (.arraylength, 1) := by decide +kernel
theorem dX3_init_113 : decode cX3_init 113 = .ok (.if_icmp .ge 16, 3) := by decide +kernel
theorem dX3_init_116 : decode cX3_init 116 = .ok (.aload_n 0, 1) := by decide +kernel
theorem dX3_init_117 : decode cX3_init 117 = .ok (.getfield 28, 3) := by decide +kernel
theorem dX3_init_120 : decode cX3_init 120 = .ok (.iload_n 1, 1) := by decide +kernel
theorem dX3_init_121 : decode cX3_init 121 = .ok (.iload_n 1, 1) := by decide +kernel
theorem dX3_init_122 : decode cX3_init 122 = .ok (.iastore, 1) := by decide +kernel
theorem dX3_init_123 : decode cX3_init 123 = .ok (.iinc 1 1, 3) := by decide +kernel
theorem dX3_init_126 : decode cX3_init 126 = .ok (.goto (-19), 3) := by decide +kernel
theorem dX3_init_129 : decode cX3_init 129 = .ok (.return_, 1) := by decide +kernel
set_option maxRecDepth 20000 in
theorem ggX3_code_X2_grow : GoodIn wsX3_code wsX2_grow := goodIn_r _ [6, 7, 8, 9, 10, 11, 12, 5, 13, 26, 27, 28] (by decide +kernel) (by decide +kernel)
set_option maxRecDepth 20000 in
theorem gX3_code_X2_grow : GoodIn wsX3_code (wsV RX3 60 RX2 yX2_grow wsX2_grow) := goodIn_app (goodIn_of _ (by decide +kernel)) ggX3_code_X2_grow
theorem dX3_code_0 : decode cX3_code 0 = .ok (.aload_n 0, 1) := by decide +kernel
theorem dX3_code_1 : decode cX3_code 1 = .ok (.getfield 14, 3) := by decide +kernel
theorem dX3_code_4 : decode cX3_code 4 = .ok (.iload_n 1, 1) := by decide +kernel
theorem dX3_code_5 : decode cX3_code 5 = .ok (.invokevirtual 60, 3) := by decide +kernel
theorem dX3_code_8 : decode cX3_code 8 = .ok (.ireturn, 1) := by decide +kernel
set_option maxRecDepth 20000 in
theorem ggX3_exclude_X3_isCode : GoodIn wsX3_exclude wsX3_isCode := goodIn_r _ [6, 7, 8, 9, 10, 11, 12, 13, 14, 30, 31, 32, 33, 34, 35, 36, 37, 38, 39, 40, 41, 42, 43, 44] (by decide +kernel) (by decide +kernel)
set_option maxRecDepth 20000 in
theorem gX3_exclude_X3_isCode : GoodIn wsX3_exclude (wsV RX3 64 RX3 yX3_isCode wsX3_isCode) := goodIn_app (goodIn_of _ (by decide +kernel)) ggX3_exclude_X3_isCode
set_option maxRecDepth 20000 in
theorem ggX3_exclude_X3_isWord : GoodIn wsX3_exclude wsX3_isWord := goodIn_r _ [18, 19, 30, 31, 32, 33, 34, 35, 36, 37, 38, 39, 40, 41] (by decide +kernel) (by decide +kernel)
set_option maxRecDepth 20000 in
theorem gX3_exclude_X3_isWord : GoodIn wsX3_exclude (wsV RX3 68 RX3 yX3_isWord wsX3_isWord) := goodIn_app (goodIn_of _ (by decide +kernel)) ggX3_exclude_X3_isWord
set_option maxRecDepth 20000 in
theorem ggX3_exclude_X3_isIn : GoodIn wsX3_exclude wsX3_isIn := goodIn_r _ [22] (by decide +kernel) (by decide +kernel)
set_option maxRecDepth 20000 in
theorem gX3_exclude_X3_isIn : GoodIn wsX3_exclude (va_wsS RX3 71 yX3_isIn wsX3_isIn) := goodIn_app (goodIn_of _ (by decide +kernel)) ggX3_exclude_X3_isIn
set_option maxRecDepth 20000 in
theorem ggX3_exclude_X3_bit : GoodIn wsX3_exclude wsX3_bit := goodIn_r _ [25] (by decide +kernel) (by decide +kernel)
set_option maxRecDepth 20000 in
theorem gX3_exclude_X3_bit : GoodIn wsX3_exclude (va_wsS RX3 75 yX3_bit wsX3_bit) := goodIn_app (goodIn_of _ (by decide +kernel)) ggX3_exclude_X3_bit
set_option maxRecDepth 20000 in
theorem ggX3_exclude_X3_withBit : GoodIn wsX3_exclude wsX3_withBit := goodIn_r _ [28, 29] (by decide +kernel) (by decide +kernel)
set_option maxRecDepth 20000 in
theorem gX3_exclude_X3_withBit : GoodIn wsX3_exclude (va_wsS RX3 79 yX3_withBit wsX3_withBit) := goodIn_app (goodIn_of _ (by decide +kernel)) ggX3_exclude_X3_withBit
theorem dX3_exclude_0 : decode cX3_exclude 0 = .ok (.aload_n 0, 1) := by decide +kernel
theorem dX3_exclude_1 : decode cX3_exclude 1 = .ok (.iload_n 1, 1) := by decide +kernel
theorem dX3_exclude_2 : decode cX3_exclude 2 = .ok (.invokevirtual 64, 3) := by decide +kernel
theorem dX3_exclude_5 : decode cX3_exclude 5 = .ok (.ifCond .eq 20, 3) := by decide +kernel
theorem dX3_exclude_8 : decode cX3_exclude 8 = .ok (.aload_n 0, 1) := by decide +kernel
theorem dX3_exclude_9 : decode cX3_exclude 9 = .ok (.iload_n 2, 1) := by decide +kernel
theorem dX3_exclude_10 : decode cX3_exclude 10 = .ok (.invokevirtual 68, 3) := by decide +kernel
theorem dX3_exclude_13 : decode cX3_exclude 13 = .ok (.ifCond .eq 12, 3) := by decide +kernel
theorem dX3_exclude_16 : decode cX3_exclude 16 = .ok (.iload_n 3, 1) := by decide +kernel
theorem dX3_exclude_17 : decode cX3_exclude 17 = .ok (.iconst 0, 1) := by decide +kernel
theorem dX3_exclude_18 : decode cX3_exclude 18 = .ok (.iconst 1, 1) := by decide +kernel
theorem dX3_exclude_19 : decode cX3_exclude 19 = .ok (.invokestatic 71, 3) := by decide +kernel
theorem dX3_exclude_22 : decode cX3_exclude 22 = .ok (.ifCond .ne 5, 3) := by decide +kernel
theorem dX3_exclude_25 : decode cX3_exclude 25 = .ok (.iconst (-1), 1) := by decide +kernel
theorem dX3_exclude_26 : decode cX3_exclude 26 = .ok (.ireturn, 1) := by decide +kernel
theorem dX3_exclude_27 : decode cX3_exclude 27 = .ok (.aload_n 0, 1) := by decide +kernel
theorem dX3_exclude_28 : decode cX3_exclude 28 = .ok (.getfield 21, 3) := by decide +kernel
theorem dX3_exclude_31 : decode cX3_exclude 31 = .ok (.iload_n 1, 1) := by decide +kernel
theorem dX3_exclude_32 : decode cX3_exclude 32 = .ok (.laload, 1) := by decide +kernel
theorem dX3_exclude_33 : decode cX3_exclude 33 = .ok (.iload_n 2, 1) := by decide +kernel
theorem dX3_exclude_34 : decode cX3_exclude 34 = .ok (.invokestatic 75, 3) := by decide +kernel
theorem dX3_exclude_37 : decode cX3_exclude 37 = .ok (.istore 4, 2) := by decide +kernel
theorem dX3_exclude_39 : decode cX3_exclude 39 = .ok (.aload_n 0, 1) := by decide +kernel
theorem dX3_exclude_40 : decode cX3_exclude 40 = .ok (.getfield 21, 3) := by decide +kernel
theorem dX3_exclude_43 : decode cX3_exclude 43 = .ok (.iload_n 1, 1) := by decide +kernel
theorem dX3_exclude_44 : decode cX3_exclude 44 = .ok (.aload_n 0, 1) := by decide +kernel
theorem dX3_exclude_45 : decode cX3_exclude 45 = .ok (.getfield 21, 3) := by decide +kernel
theorem dX3_exclude_48 : decode cX3_exclude 48 = .ok (.iload_n 1, 1) := by decide +kernel
theorem dX3_exclude_49 : decode cX3_exclude 49 = .ok (.laload, 1) := by decide +kernel
theorem dX3_exclude_50 : decode cX3_exclude 50 = .ok (.iload_n 2, 1) := by decide +kernel
theorem dX3_exclude_51 : decode cX3_exclude 51 = .ok (.iload_n 3, 1) := by decide +kernel
theorem dX3_exclude_52 : decode cX3_exclude 52 = .ok (.invokestatic 79, 3) := by decide +kernel
theorem dX3_exclude_55 : decode cX3_exclude 55 = .ok (.lastore, 1) := by decide +kernel
theorem dX3_exclude_56 : decode cX3_exclude 56 = .ok (.iload 4, 2) := by decide +kernel
theorem dX3_exclude_58 : decode cX3_exclude 58 = .ok (.ireturn, 1) := by decide +kernel
set_option maxRecDepth 20000 in
theorem ggX3_spell_X3_isWord : GoodIn wsX3_spell wsX3_isWord := goodIn_r _ [9, 1, 17, 18, 19, 20, 21, 22, 23, 24, 25, 26, 27, 28] (by decide +kernel) (by decide +kernel)
set_option maxRecDepth 20000 in
theorem gX3_spell_X3_isWord : GoodIn wsX3_spell (wsV RX3 68 RX3 yX3_isWord wsX3_isWord) := goodIn_app (goodIn_of _ (by decide +kernel)) ggX3_spell_X3_isWord
set_option maxRecDepth 20000 in
theorem ggX3_spell_X3_setOf : GoodIn wsX3_spell wsX3_setOf := goodIn_r _ [13, 1, 14, 15, 8, 16, 17, 18, 19, 20, 21, 22, 23, 24, 25, 26, 27, 28] (by decide +kernel) (by decide +kernel)
set_option maxRecDepth 20000 in
theorem gX3_spell_X3_setOf : GoodIn wsX3_spell (wsV RX3 87 RX3 yX3_setOf wsX3_setOf) := goodIn_app (goodIn_of _ (by decide +kernel)) ggX3_spell_X3_setOf
theorem dX3_spell_0 : decode cX3_spell 0 = .ok (.aload_n 0, 1) := by decide +kernel
theorem dX3_spell_1 : decode cX3_spell 1 = .ok (.iload_n 1, 1) := by decide +kernel
theorem dX3_spell_2 : decode cX3_spell 2 = .ok (.invokevirtual 68, 3) := by decide +kernel
theorem dX3_spell_5 : decode cX3_spell 5 = .ok (.ifCond .eq 11, 3) := by decide +kernel
theorem dX3_spell_8 : decode cX3_spell 8 = .ok (.aload_n 0, 1) := by decide +kernel
theorem dX3_spell_9 : decode cX3_spell 9 = .ok (.iload_n 2, 1) := by decide +kernel
theorem dX3_spell_10 : decode cX3_spell 10 = .ok (.invokevirtual 68, 3) := by decide +kernel
theorem dX3_spell_13 : decode cX3_spell 13 = .ok (.ifCond .ne 5, 3) := by decide +kernel
theorem dX3_spell_16 : decode cX3_spell 16 = .ok (.iconst (-1), 1) := by decide +kernel
theorem dX3_spell_17 : decode cX3_spell 17 = .ok (.ireturn, 1) := by decide +kernel
theorem dX3_spell_18 : decode cX3_spell 18 = .ok (.aload_n 0, 1) := by decide +kernel
theorem dX3_spell_19 : decode cX3_spell 19 = .ok (.getfield 28, 3) := by decide +kernel
theorem dX3_spell_22 : decode cX3_spell 22 = .ok (.iload_n 1, 1) := by decide +kernel
theorem dX3_spell_23 : decode cX3_spell 23 = .ok (.iaload, 1) := by decide +kernel
theorem dX3_spell_24 : decode cX3_spell 24 = .ok (.istore_n 3, 1) := by decide +kernel
theorem dX3_spell_25 : decode cX3_spell 25 = .ok (.aload_n 0, 1) := by decide +kernel
theorem dX3_spell_26 : decode cX3_spell 26 = .ok (.getfield 28, 3) := by decide +kernel
theorem dX3_spell_29 : decode cX3_spell 29 = .ok (.iload_n 1, 1) := by decide +kernel
theorem dX3_spell_30 : decode cX3_spell 30 = .ok (.iload_n 2, 1) := by decide +kernel
theorem dX3_spell_31 : decode cX3_spell 31 = .ok (.iastore, 1) := by decide +kernel
theorem dX3_spell_32 : decode cX3_spell 32 = .ok (.iconst 0, 1) := by decide +kernel
theorem dX3_spell_33 : decode cX3_spell 33 = .ok (.istore 4, 2) := by decide +kernel
theorem dX3_spell_35 : decode cX3_spell 35 = .ok (.iload 4, 2) := by decide +kernel
theorem dX3_spell_37 : decode cX3_spell 37 = .ok (.aload_n 0, 1) := by decide +kernel
theorem dX3_spell_38 : decode cX3_spell 38 = .ok (.getfield 34, 3) := by decide +kernel
theorem dX3_spell_41 : decode cX3_spell 41 = .ok (.arraylength, 1) := by decide +kernel
theorem dX3_spell_42 : decode cX3_spell 42 = .ok (.if_icmp .ge 37, 3) := by decide +kernel
theorem dX3_spell_45 : decode cX3_spell 45 = .ok (.aload_n 0, 1) := by decide +kernel
theorem dX3_spell_46 : decode cX3_spell 46 = .ok (.getfield 34, 3) := by decide +kernel
theorem dX3_spell_49 : decode cX3_spell 49 = .ok (.iload 4, 2) := by decide +kernel
theorem dX3_spell_51 : decode cX3_spell 51 = .ok (.aaload, 1) := by decide +kernel
theorem dX3_spell_52 : decode cX3_spell 52 = .ok (.astore 5, 2) := by decide +kernel
theorem dX3_spell_54 : decode cX3_spell 54 = .ok (.aload 5, 2) := by decide +kernel
theorem dX3_spell_56 : decode cX3_spell 56 = .ok (.ifnull 17, 3) := by decide +kernel
theorem dX3_spell_59 : decode cX3_spell 59 = .ok (.aload 5, 2) := by decide +kernel
theorem dX3_spell_61 : decode cX3_spell 61 = .ok (.aload_n 0, 1) := by decide +kernel
theorem dX3_spell_62 : decode cX3_spell 62 = .ok (.aload 5, 2) := by decide +kernel
theorem dX3_spell_64 : decode cX3_spell 64 = .ok (.getfield 83, 3) := by decide +kernel
theorem dX3_spell_67 : decode cX3_spell 67 = .ok (.invokevirtual 87, 3) := by decide +kernel
theorem dX3_spell_70 : decode cX3_spell 70 = .ok (.putfield 91, 3) := by decide +kernel
theorem dX3_spell_73 : decode cX3_spell 73 = .ok (.iinc 4 1, 3) := by decide +kernel
theorem dX3_spell_76 : decode cX3_spell 76 = .ok (.goto (-41), 3) := by decide +kernel
theorem dX3_spell_79 : decode cX3_spell 79 = .ok (.iload_n 3, 1) := by decide +kernel
theorem dX3_spell_80 : decode cX3_spell 80 = .ok (.ireturn, 1) := by decide +kernel
set_option maxRecDepth 20000 in
theorem ggX3_other_X2_grow : GoodIn wsX3_other wsX2_grow := goodIn_r _ [6, 7, 8, 9, 10, 11, 12, 5, 13, 26, 27, 28] (by decide +kernel) (by decide +kernel)
set_option maxRecDepth 20000 in
theorem gX3_other_X2_grow : GoodIn wsX3_other (wsV RX3 60 RX2 yX2_grow wsX2_grow) := goodIn_app (goodIn_of _ (by decide +kernel)) ggX3_other_X2_grow
theorem dX3_other_0 : decode cX3_other 0 = .ok (.aload_n 0, 1) := by decide +kernel
theorem dX3_other_1 : decode cX3_other 1 = .ok (.getfield 18, 3) := by decide +kernel
theorem dX3_other_4 : decode cX3_other 4 = .ok (.iload_n 1, 1) := by decide +kernel
theorem dX3_other_5 : decode cX3_other 5 = .ok (.invokevirtual 60, 3) := by decide +kernel
theorem dX3_other_8 : decode cX3_other 8 = .ok (.ireturn, 1) := by decide +kernel
set_option maxRecDepth 20000 in
theorem ggX3_carry_X3_isCode : GoodIn wsX3_carry wsX3_isCode := goodIn_r _ [7, 8, 9, 10, 11, 12, 13, 14, 15, 26, 27, 28, 29, 30, 31, 32, 33, 34, 35, 36, 37, 38, 39, 40] (by decide +kernel) (by decide +kernel)
set_option maxRecDepth 20000 in
theorem gX3_carry_X3_isCode : GoodIn wsX3_carry (wsV RX3 64 RX3 yX3_isCode wsX3_isCode) := goodIn_app (goodIn_of _ (by decide +kernel)) ggX3_carry_X3_isCode
set_option maxRecDepth 20000 in
theorem ggX3_carry_X2_has : GoodIn wsX3_carry wsX2_has := goodIn_r _ [13, 14, 15, 38, 39, 40] (by decide +kernel) (by decide +kernel)
set_option maxRecDepth 20000 in
theorem gX3_carry_X2_has : GoodIn wsX3_carry (wsV RX3 94 RX2 yX2_has wsX2_has) := goodIn_app (goodIn_of _ (by decide +kernel)) ggX3_carry_X2_has
set_option maxRecDepth 20000 in
theorem ggX3_carry_X3_isIn : GoodIn wsX3_carry wsX3_isIn := goodIn_r _ [18] (by decide +kernel) (by decide +kernel)
set_option maxRecDepth 20000 in
theorem gX3_carry_X3_isIn : GoodIn wsX3_carry (va_wsS RX3 71 yX3_isIn wsX3_isIn) := goodIn_app (goodIn_of _ (by decide +kernel)) ggX3_carry_X3_isIn
set_option maxRecDepth 20000 in
theorem ggX3_carry_X3_bit : GoodIn wsX3_carry wsX3_bit := goodIn_r _ [21] (by decide +kernel) (by decide +kernel)
set_option maxRecDepth 20000 in
theorem gX3_carry_X3_bit : GoodIn wsX3_carry (va_wsS RX3 75 yX3_bit wsX3_bit) := goodIn_app (goodIn_of _ (by decide +kernel)) ggX3_carry_X3_bit
set_option maxRecDepth 20000 in
theorem ggX3_carry_X3_withBit : GoodIn wsX3_carry wsX3_withBit := goodIn_r _ [24, 25] (by decide +kernel) (by decide +kernel)
set_option maxRecDepth 20000 in
theorem gX3_carry_X3_withBit : GoodIn wsX3_carry (va_wsS RX3 79 yX3_withBit wsX3_withBit) := goodIn_app (goodIn_of _ (by decide +kernel)) ggX3_carry_X3_withBit
theorem dX3_carry_0 : decode cX3_carry 0 = .ok (.aload_n 0, 1) := by decide +kernel
theorem dX3_carry_1 : decode cX3_carry 1 = .ok (.iload_n 1, 1) := by decide +kernel
theorem dX3_carry_2 : decode cX3_carry 2 = .ok (.invokevirtual 64, 3) := by decide +kernel
theorem dX3_carry_5 : decode cX3_carry 5 = .ok (.ifCond .eq 23, 3) := by decide +kernel
theorem dX3_carry_8 : decode cX3_carry 8 = .ok (.aload_n 0, 1) := by decide +kernel
theorem dX3_carry_9 : decode cX3_carry 9 = .ok (.getfield 18, 3) := by decide +kernel
theorem dX3_carry_12 : decode cX3_carry 12 = .ok (.iload_n 2, 1) := by decide +kernel
theorem dX3_carry_13 : decode cX3_carry 13 = .ok (.invokevirtual 94, 3) := by decide +kernel
theorem dX3_carry_16 : decode cX3_carry 16 = .ok (.ifCond .eq 12, 3) := by decide +kernel
theorem dX3_carry_19 : decode cX3_carry 19 = .ok (.iload_n 3, 1) := by decide +kernel
theorem dX3_carry_20 : decode cX3_carry 20 = .ok (.iconst 0, 1) := by decide +kernel
theorem dX3_carry_21 : decode cX3_carry 21 = .ok (.iconst 1, 1) := by decide +kernel
theorem dX3_carry_22 : decode cX3_carry 22 = .ok (.invokestatic 71, 3) := by decide +kernel
theorem dX3_carry_25 : decode cX3_carry 25 = .ok (.ifCond .ne 5, 3) := by decide +kernel
theorem dX3_carry_28 : decode cX3_carry 28 = .ok (.iconst (-1), 1) := by decide +kernel
theorem dX3_carry_29 : decode cX3_carry 29 = .ok (.ireturn, 1) := by decide +kernel
theorem dX3_carry_30 : decode cX3_carry 30 = .ok (.aload_n 0, 1) := by decide +kernel
theorem dX3_carry_31 : decode cX3_carry 31 = .ok (.getfield 25, 3) := by decide +kernel
theorem dX3_carry_34 : decode cX3_carry 34 = .ok (.iload_n 1, 1) := by decide +kernel
theorem dX3_carry_35 : decode cX3_carry 35 = .ok (.laload, 1) := by decide +kernel
theorem dX3_carry_36 : decode cX3_carry 36 = .ok (.iload_n 2, 1) := by decide +kernel
theorem dX3_carry_37 : decode cX3_carry 37 = .ok (.invokestatic 75, 3) := by decide +kernel
theorem dX3_carry_40 : decode cX3_carry 40 = .ok (.istore 4, 2) := by decide +kernel
theorem dX3_carry_42 : decode cX3_carry 42 = .ok (.aload_n 0, 1) := by decide +kernel
theorem dX3_carry_43 : decode cX3_carry 43 = .ok (.getfield 25, 3) := by decide +kernel
theorem dX3_carry_46 : decode cX3_carry 46 = .ok (.iload_n 1, 1) := by decide +kernel
theorem dX3_carry_47 : decode cX3_carry 47 = .ok (.aload_n 0, 1) := by decide +kernel
theorem dX3_carry_48 : decode cX3_carry 48 = .ok (.getfield 25, 3) := by decide +kernel
theorem dX3_carry_51 : decode cX3_carry 51 = .ok (.iload_n 1, 1) := by decide +kernel
theorem dX3_carry_52 : decode cX3_carry 52 = .ok (.laload, 1) := by decide +kernel
theorem dX3_carry_53 : decode cX3_carry 53 = .ok (.iload_n 2, 1) := by decide +kernel
theorem dX3_carry_54 : decode cX3_carry 54 = .ok (.iload_n 3, 1) := by decide +kernel
theorem dX3_carry_55 : decode cX3_carry 55 = .ok (.invokestatic 79, 3) := by decide +kernel
theorem dX3_carry_58 : decode cX3_carry 58 = .ok (.lastore, 1) := by decide +kernel
theorem dX3_carry_59 : decode cX3_carry 59 = .ok (.iload 4, 2) := by decide +kernel
theorem dX3_carry_61 : decode cX3_carry 61 = .ok (.ireturn, 1) := by decide +kernel
set_option maxRecDepth 20000 in
theorem ggX3_answer_X3_isIn : GoodIn wsX3_answer wsX3_isIn := goodIn_r _ [9] (by decide +kernel) (by decide +kernel)
set_option maxRecDepth 20000 in
theorem gX3_answer_X3_isIn : GoodIn wsX3_answer (va_wsS RX3 71 yX3_isIn wsX3_isIn) := goodIn_app (goodIn_of _ (by decide +kernel)) ggX3_answer_X3_isIn
set_option maxRecDepth 20000 in
theorem ggX3_answer_X3_isDigit : GoodIn wsX3_answer wsX3_isDigit := goodIn_r _ [12, 6, 7, 8, 9] (by decide +kernel) (by decide +kernel)
set_option maxRecDepth 20000 in
theorem gX3_answer_X3_isDigit : GoodIn wsX3_answer (va_wsS RX3 97 yX3_isDigit wsX3_isDigit) := goodIn_app (goodIn_of _ (by decide +kernel)) ggX3_answer_X3_isDigit
set_option maxRecDepth 20000 in
theorem ggX3_answer_X0_init : GoodIn wsX3_answer wsX0_init := goodIn_r _ [15, 16, 17, 18, 19, 20, 21, 22, 23, 24, 25, 26, 27, 28, 29, 30, 43, 44, 45, 46, 47, 48, 49, 50, 51, 52, 53, 54] (by decide +kernel) (by decide +kernel)
set_option maxRecDepth 20000 in
theorem gX3_answer_X0_init : GoodIn wsX3_answer (wsX0_init) := ggX3_answer_X0_init
theorem dX3_answer_0 : decode cX3_answer 0 = .ok (.iload_n 1, 1) := by decide +kernel
theorem dX3_answer_1 : decode cX3_answer 1 = .ok (.iconst 0, 1) := by decide +kernel
theorem dX3_answer_2 : decode cX3_answer 2 = .ok (.iconst 1, 1) := by decide +kernel
theorem dX3_answer_3 : decode cX3_answer 3 = .ok (.invokestatic 71, 3) := by decide +kernel
theorem dX3_answer_6 : decode cX3_answer 6 = .ok (.ifCond .eq 17, 3) := by decide +kernel
theorem dX3_answer_9 : decode cX3_answer 9 = .ok (.iload_n 2, 1) := by decide +kernel
theorem dX3_answer_10 : decode cX3_answer 10 = .ok (.invokestatic 97, 3) := by decide +kernel
theorem dX3_answer_13 : decode cX3_answer 13 = .ok (.ifCond .eq 10, 3) := by decide +kernel
theorem dX3_answer_16 : decode cX3_answer 16 = .ok (.iload_n 3, 1) := by decide +kernel
theorem dX3_answer_17 : decode cX3_answer 17 = .ok (.invokestatic 97, 3) := by decide +kernel
theorem dX3_answer_20 : decode cX3_answer 20 = .ok (.ifCond .ne 5, 3) := by decide +kernel
theorem dX3_answer_23 : decode cX3_answer 23 = .ok (.iconst (-1), 1) := by decide +kernel
theorem dX3_answer_24 : decode cX3_answer 24 = .ok (.ireturn, 1) := by decide +kernel
theorem dX3_answer_25 : decode cX3_answer 25 = .ok (.iconst 2, 1) := by decide +kernel
theorem dX3_answer_26 : decode cX3_answer 26 = .ok (.aload_n 0, 1) := by decide +kernel
theorem dX3_answer_27 : decode cX3_answer 27 = .ok (.getfield 38, 3) := by decide +kernel
theorem dX3_answer_30 : decode cX3_answer 30 = .ok (.imul, 1) := by decide +kernel
theorem dX3_answer_31 : decode cX3_answer 31 = .ok (.istore 4, 2) := by decide +kernel
theorem dX3_answer_33 : decode cX3_answer 33 = .ok (.aload_n 0, 1) := by decide +kernel
theorem dX3_answer_34 : decode cX3_answer 34 = .ok (.getfield 38, 3) := by decide +kernel
theorem dX3_answer_37 : decode cX3_answer 37 = .ok (.bipush 80, 2) := by decide +kernel
theorem dX3_answer_39 : decode cX3_answer 39 = .ok (.if_icmp .ge 15, 3) := by decide +kernel
theorem dX3_answer_42 : decode cX3_answer 42 = .ok (.iload 4, 2) := by decide +kernel
theorem dX3_answer_44 : decode cX3_answer 44 = .ok (.iconst 1, 1) := by decide +kernel
theorem dX3_answer_45 : decode cX3_answer 45 = .ok (.iadd, 1) := by decide +kernel
theorem dX3_answer_46 : decode cX3_answer 46 = .ok (.aload_n 0, 1) := by decide +kernel
theorem dX3_answer_47 : decode cX3_answer 47 = .ok (.getfield 34, 3) := by decide +kernel
theorem dX3_answer_50 : decode cX3_answer 50 = .ok (.arraylength, 1) := by decide +kernel
theorem dX3_answer_51 : decode cX3_answer 51 = .ok (.if_icmp .lt 6, 3) := by decide +kernel
theorem dX3_answer_54 : decode cX3_answer 54 = .ok (.bipush (-3), 2) := by decide +kernel
theorem dX3_answer_56 : decode cX3_answer 56 = .ok (.ireturn, 1) := by decide +kernel
theorem dX3_answer_57 : decode cX3_answer 57 = .ok (.aload_n 0, 1) := by decide +kernel
theorem dX3_answer_58 : decode cX3_answer 58 = .ok (.getfield 34, 3) := by decide +kernel
theorem dX3_answer_61 : decode cX3_answer 61 = .ok (.iload 4, 2) := by decide +kernel
theorem dX3_answer_63 : decode cX3_answer 63 = .ok (.new 32, 3) := by decide +kernel
theorem dX3_answer_66 : decode cX3_answer 66 = .ok (.dup, 1) := by decide +kernel
theorem dX3_answer_67 : decode cX3_answer 67 = .ok (.iload_n 2, 1) := by decide +kernel
theorem dX3_answer_68 : decode cX3_answer 68 = .ok (.iload_n 3, 1) := by decide +kernel
theorem dX3_answer_69 : decode cX3_answer 69 = .ok (.invokespecial 100, 3) := by decide +kernel
theorem dX3_answer_72 : decode cX3_answer 72 = .ok (.aastore, 1) := by decide +kernel
theorem dX3_answer_73 : decode cX3_answer 73 = .ok (.iload_n 1, 1) := by decide +kernel
theorem dX3_answer_74 : decode cX3_answer 74 = .ok (.iconst 1, 1) := by decide +kernel
theorem dX3_answer_75 : decode cX3_answer 75 = .ok (.if_icmp .ne 21, 3) := by decide +kernel
theorem dX3_answer_78 : decode cX3_answer 78 = .ok (.aload_n 0, 1) := by decide +kernel
theorem dX3_answer_79 : decode cX3_answer 79 = .ok (.getfield 34, 3) := by decide +kernel
theorem dX3_answer_82 : decode cX3_answer 82 = .ok (.iload 4, 2) := by decide +kernel
theorem dX3_answer_84 : decode cX3_answer 84 = .ok (.iconst 1, 1) := by decide +kernel
theorem dX3_answer_85 : decode cX3_answer 85 = .ok (.iadd, 1) := by decide +kernel
theorem dX3_answer_86 : decode cX3_answer 86 = .ok (.new 32, 3) := by decide +kernel
theorem dX3_answer_89 : decode cX3_answer 89 = .ok (.dup, 1) := by decide +kernel
theorem dX3_answer_90 : decode cX3_answer 90 = .ok (.iload_n 2, 1) := by decide +kernel
theorem dX3_answer_91 : decode cX3_answer 91 = .ok (.iload_n 3, 1) := by decide +kernel
theorem dX3_answer_92 : decode cX3_answer 92 = .ok (.invokespecial 100, 3) := by decide +kernel
theorem dX3_answer_95 : decode cX3_answer 95 = .ok (.aastore, 1) := by decide +kernel
theorem dX3_answer_96 : decode cX3_answer 96 = .ok (.aload_n 0, 1) := by decide +kernel
theorem dX3_answer_97 : decode cX3_answer 97 = .ok (.dup, 1) := by decide +kernel
theorem dX3_answer_98 : decode cX3_answer 98 = .ok (.getfield 38, 3) := by decide +kernel
theorem dX3_answer_101 : decode cX3_answer 101 = .ok (.iconst 1, 1) := by decide +kernel
theorem dX3_answer_102 : decode cX3_answer 102 = .ok (.iadd, 1) := by decide +kernel
theorem dX3_answer_103 : decode cX3_answer 103 = .ok (.putfield 38, 3) := by decide +kernel
theorem dX3_answer_106 : decode cX3_answer 106 = .ok (.aload_n 0, 1) := by decide +kernel
theorem dX3_answer_107 : decode cX3_answer 107 = .ok (.getfield 38, 3) := by decide +kernel
theorem dX3_answer_110 : decode cX3_answer 110 = .ok (.iconst 1, 1) := by decide +kernel
theorem dX3_answer_111 : decode cX3_answer 111 = .ok (.isub, 1) := by decide +kernel
theorem dX3_answer_112 : decode cX3_answer 112 = .ok (.ireturn, 1) := by decide +kernel
set_option maxRecDepth 20000 in
theorem ggX3_put_X3_itemAt : GoodIn wsX3_put wsX3_itemAt := goodIn_r _ [8, 9, 45, 46, 47, 48, 49, 50, 51, 52, 53, 54, 55, 56] (by decide +kernel) (by decide +kernel)
set_option maxRecDepth 20000 in
theorem gX3_put_X3_itemAt : GoodIn wsX3_put (wsV RX3 103 RX3 yX3_itemAt wsX3_itemAt) := goodIn_app (goodIn_of _ (by decide +kernel)) ggX3_put_X3_itemAt
set_option maxRecDepth 20000 in
theorem ggX3_put_X3_isWord : GoodIn wsX3_put wsX3_isWord := goodIn_r _ [13, 14, 45, 46, 47, 48, 49, 50, 51, 52, 53, 54, 55, 56] (by decide +kernel) (by decide +kernel)
set_option maxRecDepth 20000 in
theorem gX3_put_X3_isWord : GoodIn wsX3_put (wsV RX3 68 RX3 yX3_isWord wsX3_isWord) := goodIn_app (goodIn_of _ (by decide +kernel)) ggX3_put_X3_isWord
set_option maxRecDepth 20000 in
theorem ggX3_put_X3_bit : GoodIn wsX3_put wsX3_bit := goodIn_r _ [17] (by decide +kernel) (by decide +kernel)
set_option maxRecDepth 20000 in
theorem gX3_put_X3_bit : GoodIn wsX3_put (va_wsS RX3 75 yX3_bit wsX3_bit) := goodIn_app (goodIn_of _ (by decide +kernel)) ggX3_put_X3_bit
set_option maxRecDepth 20000 in
theorem ggX3_put_X3_withBit : GoodIn wsX3_put wsX3_withBit := goodIn_r _ [20, 21] (by decide +kernel) (by decide +kernel)
set_option maxRecDepth 20000 in
theorem gX3_put_X3_withBit : GoodIn wsX3_put (va_wsS RX3 79 yX3_withBit wsX3_withBit) := goodIn_app (goodIn_of _ (by decide +kernel)) ggX3_put_X3_withBit
set_option maxRecDepth 20000 in
theorem ggX3_put_X3_setOf : GoodIn wsX3_put wsX3_setOf := goodIn_r _ [25, 14, 15, 16, 7, 17, 45, 46, 47, 48, 49, 50, 51, 52, 53, 54, 55, 56] (by decide +kernel) (by decide +kernel)
set_option maxRecDepth 20000 in
theorem gX3_put_X3_setOf : GoodIn wsX3_put (wsV RX3 87 RX3 yX3_setOf wsX3_setOf) := goodIn_app (goodIn_of _ (by decide +kernel)) ggX3_put_X3_setOf
set_option maxRecDepth 20000 in
theorem ggX3_put_J13_bitCount_95d88 : GoodIn wsX3_put wsJ13_bitCount_95d88 := goodIn_r _ [29, 30, 31, 32] (by decide +kernel) (by decide +kernel)
set_option maxRecDepth 20000 in
theorem gX3_put_J13_bitCount_95d88 : GoodIn wsX3_put (va_wsS RX3 110 yJ13_bitCount_95d88 wsJ13_bitCount_95d88) := goodIn_app (goodIn_of _ (by decide +kernel)) ggX3_put_J13_bitCount_95d88
theorem dX3_put_0 : decode cX3_put 0 = .ok (.aload_n 0, 1) := by decide +kernel
theorem dX3_put_1 : decode cX3_put 1 = .ok (.iload_n 1, 1) := by decide +kernel
theorem dX3_put_2 : decode cX3_put 2 = .ok (.invokevirtual 103, 3) := by decide +kernel
theorem dX3_put_5 : decode cX3_put 5 = .ok (.astore_n 3, 1) := by decide +kernel
theorem dX3_put_6 : decode cX3_put 6 = .ok (.aload_n 3, 1) := by decide +kernel
theorem dX3_put_7 : decode cX3_put 7 = .ok (.ifnull 11, 3) := by decide +kernel
theorem dX3_put_10 : decode cX3_put 10 = .ok (.aload_n 0, 1) := by decide +kernel
theorem dX3_put_11 : decode cX3_put 11 = .ok (.iload_n 2, 1) := by decide +kernel
theorem dX3_put_12 : decode cX3_put 12 = .ok (.invokevirtual 68, 3) := by decide +kernel
theorem dX3_put_15 : decode cX3_put 15 = .ok (.ifCond .ne 5, 3) := by decide +kernel
theorem dX3_put_18 : decode cX3_put 18 = .ok (.iconst (-1), 1) := by decide +kernel
theorem dX3_put_19 : decode cX3_put 19 = .ok (.ireturn, 1) := by decide +kernel
theorem dX3_put_20 : decode cX3_put 20 = .ok (.aload_n 3, 1) := by decide +kernel
theorem dX3_put_21 : decode cX3_put 21 = .ok (.getfield 107, 3) := by decide +kernel
theorem dX3_put_24 : decode cX3_put 24 = .ok (.ifCond .ne 15, 3) := by decide +kernel
theorem dX3_put_27 : decode cX3_put 27 = .ok (.aload_n 3, 1) := by decide +kernel
theorem dX3_put_28 : decode cX3_put 28 = .ok (.getfield 83, 3) := by decide +kernel
theorem dX3_put_31 : decode cX3_put 31 = .ok (.iload_n 2, 1) := by decide +kernel
theorem dX3_put_32 : decode cX3_put 32 = .ok (.invokestatic 75, 3) := by decide +kernel
theorem dX3_put_35 : decode cX3_put 35 = .ok (.iconst 1, 1) := by decide +kernel
theorem dX3_put_36 : decode cX3_put 36 = .ok (.if_icmp .ne 6, 3) := by decide +kernel
theorem dX3_put_39 : decode cX3_put 39 = .ok (.bipush (-2), 2) := by decide +kernel
theorem dX3_put_41 : decode cX3_put 41 = .ok (.ireturn, 1) := by decide +kernel
theorem dX3_put_42 : decode cX3_put 42 = .ok (.aload_n 3, 1) := by decide +kernel
theorem dX3_put_43 : decode cX3_put 43 = .ok (.aload_n 3, 1) := by decide +kernel
theorem dX3_put_44 : decode cX3_put 44 = .ok (.getfield 83, 3) := by decide +kernel
theorem dX3_put_47 : decode cX3_put 47 = .ok (.iload_n 2, 1) := by decide +kernel
theorem dX3_put_48 : decode cX3_put 48 = .ok (.iconst 1, 1) := by decide +kernel
theorem dX3_put_49 : decode cX3_put 49 = .ok (.invokestatic 79, 3) := by decide +kernel
theorem dX3_put_52 : decode cX3_put 52 = .ok (.putfield 83, 3) := by decide +kernel
theorem dX3_put_55 : decode cX3_put 55 = .ok (.aload_n 3, 1) := by decide +kernel
theorem dX3_put_56 : decode cX3_put 56 = .ok (.aload_n 0, 1) := by decide +kernel
theorem dX3_put_57 : decode cX3_put 57 = .ok (.aload_n 3, 1) := by decide +kernel
theorem dX3_put_58 : decode cX3_put 58 = .ok (.getfield 83, 3) := by decide +kernel
theorem dX3_put_61 : decode cX3_put 61 = .ok (.invokevirtual 87, 3) := by decide +kernel
theorem dX3_put_64 : decode cX3_put 64 = .ok (.putfield 91, 3) := by decide +kernel
theorem dX3_put_67 : decode cX3_put 67 = .ok (.aload_n 3, 1) := by decide +kernel
theorem dX3_put_68 : decode cX3_put 68 = .ok (.getfield 83, 3) := by decide +kernel
theorem dX3_put_71 : decode cX3_put 71 = .ok (.invokestatic 110, 3) := by decide +kernel
theorem dX3_put_74 : decode cX3_put 74 = .ok (.ireturn, 1) := by decide +kernel
set_option maxRecDepth 20000 in
theorem ggX3_set_X3_itemAt : GoodIn wsX3_set wsX3_itemAt := goodIn_r _ [6, 7, 42, 43, 44, 45, 46, 47, 48, 49, 50, 51, 52, 53] (by decide +kernel) (by decide +kernel)
set_option maxRecDepth 20000 in
theorem gX3_set_X3_itemAt : GoodIn wsX3_set (wsV RX3 103 RX3 yX3_itemAt wsX3_itemAt) := goodIn_app (goodIn_of _ (by decide +kernel)) ggX3_set_X3_itemAt
set_option maxRecDepth 20000 in
theorem ggX3_set_X3_isIn : GoodIn wsX3_set wsX3_isIn := goodIn_r _ [10] (by decide +kernel) (by decide +kernel)
set_option maxRecDepth 20000 in
theorem gX3_set_X3_isIn : GoodIn wsX3_set (va_wsS RX3 71 yX3_isIn wsX3_isIn) := goodIn_app (goodIn_of _ (by decide +kernel)) ggX3_set_X3_isIn
set_option maxRecDepth 20000 in
theorem ggX3_set_J13_bitCount_95d88 : GoodIn wsX3_set wsJ13_bitCount_95d88 := goodIn_r _ [14, 15, 16, 17] (by decide +kernel) (by decide +kernel)
set_option maxRecDepth 20000 in
theorem gX3_set_J13_bitCount_95d88 : GoodIn wsX3_set (va_wsS RX3 110 yJ13_bitCount_95d88 wsJ13_bitCount_95d88) := goodIn_app (goodIn_of _ (by decide +kernel)) ggX3_set_J13_bitCount_95d88
set_option maxRecDepth 20000 in
theorem ggX3_set_X3_countAlike : GoodIn wsX3_set wsX3_countAlike := goodIn_r _ [21, 7, 22, 23, 24, 25, 26, 27, 28, 29, 42, 43, 44, 45, 46, 47, 48, 49, 50, 51, 52, 53, 30, 31, 32, 33, 34, 35, 36, 37, 38, 39, 40, 41] (by decide +kernel) (by decide +kernel)
set_option maxRecDepth 20000 in
theorem gX3_set_X3_countAlike : GoodIn wsX3_set (wsV RX3 116 RX3 yX3_countAlike wsX3_countAlike) := goodIn_app (goodIn_of _ (by decide +kernel)) ggX3_set_X3_countAlike
theorem dX3_set_0 : decode cX3_set 0 = .ok (.aload_n 0, 1) := by decide +kernel
theorem dX3_set_1 : decode cX3_set 1 = .ok (.iload_n 1, 1) := by decide +kernel
theorem dX3_set_2 : decode cX3_set 2 = .ok (.invokevirtual 103, 3) := by decide +kernel
theorem dX3_set_5 : decode cX3_set 5 = .ok (.astore_n 3, 1) := by decide +kernel
theorem dX3_set_6 : decode cX3_set 6 = .ok (.aload_n 3, 1) := by decide +kernel
theorem dX3_set_7 : decode cX3_set 7 = .ok (.ifnull 12, 3) := by decide +kernel
theorem dX3_set_10 : decode cX3_set 10 = .ok (.iload_n 2, 1) := by decide +kernel
theorem dX3_set_11 : decode cX3_set 11 = .ok (.iconst 0, 1) := by decide +kernel
theorem dX3_set_12 : decode cX3_set 12 = .ok (.iconst 1, 1) := by decide +kernel
theorem dX3_set_13 : decode cX3_set 13 = .ok (.invokestatic 71, 3) := by decide +kernel
theorem dX3_set_16 : decode cX3_set 16 = .ok (.ifCond .ne 5, 3) := by decide +kernel
theorem dX3_set_19 : decode cX3_set 19 = .ok (.iconst (-1), 1) := by decide +kernel
theorem dX3_set_20 : decode cX3_set 20 = .ok (.ireturn, 1) := by decide +kernel
theorem dX3_set_21 : decode cX3_set 21 = .ok (.iload_n 2, 1) := by decide +kernel
theorem dX3_set_22 : decode cX3_set 22 = .ok (.ifCond .ne 13, 3) := by decide +kernel
theorem dX3_set_25 : decode cX3_set 25 = .ok (.aload_n 3, 1) := by decide +kernel
theorem dX3_set_26 : decode cX3_set 26 = .ok (.getfield 91, 3) := by decide +kernel
theorem dX3_set_29 : decode cX3_set 29 = .ok (.invokestatic 110, 3) := by decide +kernel
theorem dX3_set_32 : decode cX3_set 32 = .ok (.goto 8, 3) := by decide +kernel
theorem dX3_set_35 : decode cX3_set 35 = .ok (.aload_n 0, 1) := by decide +kernel
theorem dX3_set_36 : decode cX3_set 36 = .ok (.aload_n 3, 1) := by decide +kernel
theorem dX3_set_37 : decode cX3_set 37 = .ok (.invokevirtual 116, 3) := by decide +kernel
theorem dX3_set_40 : decode cX3_set 40 = .ok (.ireturn, 1) := by decide +kernel
set_option maxRecDepth 20000 in
theorem ggX3_rule_X3_isDigit : GoodIn wsX3_rule wsX3_isDigit := goodIn_r _ [9, 10, 11, 8, 12] (by decide +kernel) (by decide +kernel)
set_option maxRecDepth 20000 in
theorem gX3_rule_X3_isDigit : GoodIn wsX3_rule (va_wsS RX3 97 yX3_isDigit wsX3_isDigit) := goodIn_app (goodIn_of _ (by decide +kernel)) ggX3_rule_X3_isDigit
set_option maxRecDepth 20000 in
theorem ggX3_rule_X3_isCode : GoodIn wsX3_rule wsX3_isCode := goodIn_r _ [16, 17, 18, 19, 20, 21, 22, 23, 24, 37, 38, 39, 40, 41, 42, 43, 44, 45, 46, 47, 48, 55, 56, 57] (by decide +kernel) (by decide +kernel)
set_option maxRecDepth 20000 in
theorem gX3_rule_X3_isCode : GoodIn wsX3_rule (wsV RX3 64 RX3 yX3_isCode wsX3_isCode) := goodIn_app (goodIn_of _ (by decide +kernel)) ggX3_rule_X3_isCode
set_option maxRecDepth 20000 in
theorem ggX3_rule_X3_isIn : GoodIn wsX3_rule wsX3_isIn := goodIn_r _ [12] (by decide +kernel) (by decide +kernel)
set_option maxRecDepth 20000 in
theorem gX3_rule_X3_isIn : GoodIn wsX3_rule (va_wsS RX3 71 yX3_isIn wsX3_isIn) := goodIn_app (goodIn_of _ (by decide +kernel)) ggX3_rule_X3_isIn
set_option maxRecDepth 20000 in
theorem ggX3_rule_X1_init : GoodIn wsX3_rule wsX1_init := goodIn_r _ [27, 28, 29, 30, 31, 32, 33, 34, 35, 36, 49, 50, 51, 52, 53, 54] (by decide +kernel) (by decide +kernel)
set_option maxRecDepth 20000 in
theorem gX3_rule_X1_init : GoodIn wsX3_rule (wsX1_init) := ggX3_rule_X1_init
theorem dX3_rule_0 : decode cX3_rule 0 = .ok (.iload_n 1, 1) := by decide +kernel
theorem dX3_rule_1 : decode cX3_rule 1 = .ok (.invokestatic 97, 3) := by decide +kernel
theorem dX3_rule_4 : decode cX3_rule 4 = .ok (.ifCond .eq 22, 3) := by decide +kernel
theorem dX3_rule_7 : decode cX3_rule 7 = .ok (.aload_n 0, 1) := by decide +kernel
theorem dX3_rule_8 : decode cX3_rule 8 = .ok (.iload_n 2, 1) := by decide +kernel
theorem dX3_rule_9 : decode cX3_rule 9 = .ok (.invokevirtual 64, 3) := by decide +kernel
theorem dX3_rule_12 : decode cX3_rule 12 = .ok (.ifCond .eq 14, 3) := by decide +kernel
theorem dX3_rule_15 : decode cX3_rule 15 = .ok (.iload_n 3, 1) := by decide +kernel
theorem dX3_rule_16 : decode cX3_rule 16 = .ok (.iconst 0, 1) := by decide +kernel
theorem dX3_rule_17 : decode cX3_rule 17 = .ok (.sipush 1023, 3) := by decide +kernel
theorem dX3_rule_20 : decode cX3_rule 20 = .ok (.invokestatic 71, 3) := by decide +kernel
theorem dX3_rule_23 : decode cX3_rule 23 = .ok (.ifCond .ne 5, 3) := by decide +kernel
theorem dX3_rule_26 : decode cX3_rule 26 = .ok (.iconst (-1), 1) := by decide +kernel
theorem dX3_rule_27 : decode cX3_rule 27 = .ok (.ireturn, 1) := by decide +kernel
theorem dX3_rule_28 : decode cX3_rule 28 = .ok (.aload_n 0, 1) := by decide +kernel
theorem dX3_rule_29 : decode cX3_rule 29 = .ok (.getfield 48, 3) := by decide +kernel
theorem dX3_rule_32 : decode cX3_rule 32 = .ok (.aload_n 0, 1) := by decide +kernel
theorem dX3_rule_33 : decode cX3_rule 33 = .ok (.getfield 44, 3) := by decide +kernel
theorem dX3_rule_36 : decode cX3_rule 36 = .ok (.arraylength, 1) := by decide +kernel
theorem dX3_rule_37 : decode cX3_rule 37 = .ok (.if_icmp .lt 6, 3) := by decide +kernel
theorem dX3_rule_40 : decode cX3_rule 40 = .ok (.bipush (-3), 2) := by decide +kernel
theorem dX3_rule_42 : decode cX3_rule 42 = .ok (.ireturn, 1) := by decide +kernel
theorem dX3_rule_43 : decode cX3_rule 43 = .ok (.aload_n 0, 1) := by decide +kernel
theorem dX3_rule_44 : decode cX3_rule 44 = .ok (.getfield 44, 3) := by decide +kernel
theorem dX3_rule_47 : decode cX3_rule 47 = .ok (.aload_n 0, 1) := by decide +kernel
theorem dX3_rule_48 : decode cX3_rule 48 = .ok (.getfield 48, 3) := by decide +kernel
theorem dX3_rule_51 : decode cX3_rule 51 = .ok (.new 42, 3) := by decide +kernel
theorem dX3_rule_54 : decode cX3_rule 54 = .ok (.dup, 1) := by decide +kernel
theorem dX3_rule_55 : decode cX3_rule 55 = .ok (.iload_n 1, 1) := by decide +kernel
theorem dX3_rule_56 : decode cX3_rule 56 = .ok (.iload_n 2, 1) := by decide +kernel
theorem dX3_rule_57 : decode cX3_rule 57 = .ok (.iload_n 3, 1) := by decide +kernel
theorem dX3_rule_58 : decode cX3_rule 58 = .ok (.invokespecial 120, 3) := by decide +kernel
theorem dX3_rule_61 : decode cX3_rule 61 = .ok (.aastore, 1) := by decide +kernel
theorem dX3_rule_62 : decode cX3_rule 62 = .ok (.aload_n 0, 1) := by decide +kernel
theorem dX3_rule_63 : decode cX3_rule 63 = .ok (.dup, 1) := by decide +kernel
theorem dX3_rule_64 : decode cX3_rule 64 = .ok (.getfield 48, 3) := by decide +kernel
theorem dX3_rule_67 : decode cX3_rule 67 = .ok (.iconst 1, 1) := by decide +kernel
theorem dX3_rule_68 : decode cX3_rule 68 = .ok (.iadd, 1) := by decide +kernel
theorem dX3_rule_69 : decode cX3_rule 69 = .ok (.putfield 48, 3) := by decide +kernel
theorem dX3_rule_72 : decode cX3_rule 72 = .ok (.aload_n 0, 1) := by decide +kernel
theorem dX3_rule_73 : decode cX3_rule 73 = .ok (.getfield 48, 3) := by decide +kernel
theorem dX3_rule_76 : decode cX3_rule 76 = .ok (.iconst 1, 1) := by decide +kernel
theorem dX3_rule_77 : decode cX3_rule 77 = .ok (.isub, 1) := by decide +kernel
theorem dX3_rule_78 : decode cX3_rule 78 = .ok (.ireturn, 1) := by decide +kernel
set_option maxRecDepth 20000 in
theorem ggX3_with_X3_ruleAt : GoodIn wsX3_with wsX3_ruleAt := goodIn_r _ [6, 7, 34, 35, 36, 37, 38, 39, 40, 41, 42, 43, 44, 45] (by decide +kernel) (by decide +kernel)
set_option maxRecDepth 20000 in
theorem gX3_with_X3_ruleAt : GoodIn wsX3_with (wsV RX3 123 RX3 yX3_ruleAt wsX3_ruleAt) := goodIn_app (goodIn_of _ (by decide +kernel)) ggX3_with_X3_ruleAt
set_option maxRecDepth 20000 in
theorem ggX3_with_X3_isWord : GoodIn wsX3_with wsX3_isWord := goodIn_r _ [11, 12, 34, 35, 36, 37, 38, 39, 40, 41, 42, 43, 44, 45] (by decide +kernel) (by decide +kernel)
set_option maxRecDepth 20000 in
theorem gX3_with_X3_isWord : GoodIn wsX3_with (wsV RX3 68 RX3 yX3_isWord wsX3_isWord) := goodIn_app (goodIn_of _ (by decide +kernel)) ggX3_with_X3_isWord
set_option maxRecDepth 20000 in
theorem ggX3_with_X3_isIn : GoodIn wsX3_with wsX3_isIn := goodIn_r _ [15] (by decide +kernel) (by decide +kernel)
set_option maxRecDepth 20000 in
theorem gX3_with_X3_isIn : GoodIn wsX3_with (va_wsS RX3 71 yX3_isIn wsX3_isIn) := goodIn_app (goodIn_of _ (by decide +kernel)) ggX3_with_X3_isIn
set_option maxRecDepth 20000 in
theorem ggX3_with_X1_treat : GoodIn wsX3_with wsX1_treat := goodIn_r _ [20, 21, 22, 23, 5, 24, 25, 26, 27, 28, 29, 30, 31, 32, 33] (by decide +kernel) (by decide +kernel)
set_option maxRecDepth 20000 in
theorem gX3_with_X1_treat : GoodIn wsX3_with (wsV RX3 131 RX1 yX1_treat wsX1_treat) := goodIn_app (goodIn_of _ (by decide +kernel)) ggX3_with_X1_treat
theorem dX3_with_0 : decode cX3_with 0 = .ok (.aload_n 0, 1) := by decide +kernel
theorem dX3_with_1 : decode cX3_with 1 = .ok (.iload_n 1, 1) := by decide +kernel
theorem dX3_with_2 : decode cX3_with 2 = .ok (.invokevirtual 123, 3) := by decide +kernel
theorem dX3_with_5 : decode cX3_with 5 = .ok (.astore 4, 2) := by decide +kernel
theorem dX3_with_7 : decode cX3_with 7 = .ok (.aload 4, 2) := by decide +kernel
theorem dX3_with_9 : decode cX3_with 9 = .ok (.ifnull 28, 3) := by decide +kernel
theorem dX3_with_12 : decode cX3_with 12 = .ok (.aload 4, 2) := by decide +kernel
theorem dX3_with_14 : decode cX3_with 14 = .ok (.getfield 127, 3) := by decide +kernel
theorem dX3_with_17 : decode cX3_with 17 = .ok (.ifCond .ne 20, 3) := by decide +kernel
theorem dX3_with_20 : decode cX3_with 20 = .ok (.aload_n 0, 1) := by decide +kernel
theorem dX3_with_21 : decode cX3_with 21 = .ok (.iload_n 2, 1) := by decide +kernel
theorem dX3_with_22 : decode cX3_with 22 = .ok (.invokevirtual 68, 3) := by decide +kernel
theorem dX3_with_25 : decode cX3_with 25 = .ok (.ifCond .eq 12, 3) := by decide +kernel
theorem dX3_with_28 : decode cX3_with 28 = .ok (.iload_n 3, 1) := by decide +kernel
theorem dX3_with_29 : decode cX3_with 29 = .ok (.iconst 0, 1) := by decide +kernel
theorem dX3_with_30 : decode cX3_with 30 = .ok (.iconst 2, 1) := by decide +kernel
theorem dX3_with_31 : decode cX3_with 31 = .ok (.invokestatic 71, 3) := by decide +kernel
theorem dX3_with_34 : decode cX3_with 34 = .ok (.ifCond .ne 5, 3) := by decide +kernel
theorem dX3_with_37 : decode cX3_with 37 = .ok (.iconst (-1), 1) := by decide +kernel
theorem dX3_with_38 : decode cX3_with 38 = .ok (.ireturn, 1) := by decide +kernel
theorem dX3_with_39 : decode cX3_with 39 = .ok (.aload 4, 2) := by decide +kernel
theorem dX3_with_41 : decode cX3_with 41 = .ok (.iload_n 2, 1) := by decide +kernel
theorem dX3_with_42 : decode cX3_with 42 = .ok (.iload_n 3, 1) := by decide +kernel
theorem dX3_with_43 : decode cX3_with 43 = .ok (.invokevirtual 131, 3) := by decide +kernel
theorem dX3_with_46 : decode cX3_with 46 = .ok (.ireturn, 1) := by decide +kernel
set_option maxRecDepth 20000 in
theorem ggX3_drop_X3_ruleAt : GoodIn wsX3_drop wsX3_ruleAt := goodIn_r _ [6, 7, 14, 15, 16, 17, 18, 19, 20, 21, 22, 23, 24, 25] (by decide +kernel) (by decide +kernel)
set_option maxRecDepth 20000 in
theorem gX3_drop_X3_ruleAt : GoodIn wsX3_drop (wsV RX3 123 RX3 yX3_ruleAt wsX3_ruleAt) := goodIn_app (goodIn_of _ (by decide +kernel)) ggX3_drop_X3_ruleAt
theorem dX3_drop_0 : decode cX3_drop 0 = .ok (.aload_n 0, 1) := by decide +kernel
theorem dX3_drop_1 : decode cX3_drop 1 = .ok (.iload_n 1, 1) := by decide +kernel
theorem dX3_drop_2 : decode cX3_drop 2 = .ok (.invokevirtual 123, 3) := by decide +kernel
theorem dX3_drop_5 : decode cX3_drop 5 = .ok (.astore_n 2, 1) := by decide +kernel
theorem dX3_drop_6 : decode cX3_drop 6 = .ok (.aload_n 2, 1) := by decide +kernel
theorem dX3_drop_7 : decode cX3_drop 7 = .ok (.ifnonnull 5, 3) := by decide +kernel
theorem dX3_drop_10 : decode cX3_drop 10 = .ok (.iconst (-1), 1) := by decide +kernel
theorem dX3_drop_11 : decode cX3_drop 11 = .ok (.ireturn, 1) := by decide +kernel
theorem dX3_drop_12 : decode cX3_drop 12 = .ok (.aload_n 2, 1) := by decide +kernel
theorem dX3_drop_13 : decode cX3_drop 13 = .ok (.getfield 127, 3) := by decide +kernel
theorem dX3_drop_16 : decode cX3_drop 16 = .ok (.ifCond .eq 6, 3) := by decide +kernel
theorem dX3_drop_19 : decode cX3_drop 19 = .ok (.bipush (-2), 2) := by decide +kernel
theorem dX3_drop_21 : decode cX3_drop 21 = .ok (.ireturn, 1) := by decide +kernel
theorem dX3_drop_22 : decode cX3_drop 22 = .ok (.aload_n 2, 1) := by decide +kernel
theorem dX3_drop_23 : decode cX3_drop 23 = .ok (.iconst 1, 1) := by decide +kernel
theorem dX3_drop_24 : decode cX3_drop 24 = .ok (.putfield 127, 3) := by decide +kernel
theorem dX3_drop_27 : decode cX3_drop 27 = .ok (.iconst 1, 1) := by decide +kernel
theorem dX3_drop_28 : decode cX3_drop 28 = .ok (.ireturn, 1) := by decide +kernel
set_option maxRecDepth 20000 in
theorem ggX3_holds_X3_ruleAt : GoodIn wsX3_holds wsX3_ruleAt := goodIn_r _ [5, 6, 26, 27, 28, 29, 30, 31, 32, 33, 34, 35, 36, 37] (by decide +kernel) (by decide +kernel)
set_option maxRecDepth 20000 in
theorem gX3_holds_X3_ruleAt : GoodIn wsX3_holds (wsV RX3 123 RX3 yX3_ruleAt wsX3_ruleAt) := goodIn_app (goodIn_of _ (by decide +kernel)) ggX3_holds_X3_ruleAt
set_option maxRecDepth 20000 in
theorem ggX3_holds_X3_itemAt : GoodIn wsX3_holds wsX3_itemAt := goodIn_r _ [10, 11, 26, 27, 28, 29, 30, 31, 32, 33, 34, 35, 36, 37] (by decide +kernel) (by decide +kernel)
set_option maxRecDepth 20000 in
theorem gX3_holds_X3_itemAt : GoodIn wsX3_holds (wsV RX3 103 RX3 yX3_itemAt wsX3_itemAt) := goodIn_app (goodIn_of _ (by decide +kernel)) ggX3_holds_X3_itemAt
set_option maxRecDepth 20000 in
theorem ggX3_holds_X1_fits : GoodIn wsX3_holds wsX1_fits := goodIn_r _ [16, 17, 18, 19, 20, 21, 22, 23, 24, 4, 25, 38, 39, 40, 41, 42, 43, 44, 45, 46, 47, 48, 49, 50, 51, 52, 53, 54, 55] (by decide +kernel) (by decide +kernel)
set_option maxRecDepth 20000 in
theorem gX3_holds_X1_fits : GoodIn wsX3_holds (wsV RX3 135 RX1 yX1_fits wsX1_fits) := goodIn_app (goodIn_of _ (by decide +kernel)) ggX3_holds_X1_fits
theorem dX3_holds_0 : decode cX3_holds 0 = .ok (.aload_n 0, 1) := by decide +kernel
theorem dX3_holds_1 : decode cX3_holds 1 = .ok (.iload_n 1, 1) := by decide +kernel
theorem dX3_holds_2 : decode cX3_holds 2 = .ok (.invokevirtual 123, 3) := by decide +kernel
theorem dX3_holds_5 : decode cX3_holds 5 = .ok (.astore_n 3, 1) := by decide +kernel
theorem dX3_holds_6 : decode cX3_holds 6 = .ok (.aload_n 0, 1) := by decide +kernel
theorem dX3_holds_7 : decode cX3_holds 7 = .ok (.iload_n 2, 1) := by decide +kernel
theorem dX3_holds_8 : decode cX3_holds 8 = .ok (.invokevirtual 103, 3) := by decide +kernel
theorem dX3_holds_11 : decode cX3_holds 11 = .ok (.astore 4, 2) := by decide +kernel
theorem dX3_holds_13 : decode cX3_holds 13 = .ok (.aload_n 3, 1) := by decide +kernel
theorem dX3_holds_14 : decode cX3_holds 14 = .ok (.ifnull 8, 3) := by decide +kernel
theorem dX3_holds_17 : decode cX3_holds 17 = .ok (.aload 4, 2) := by decide +kernel
theorem dX3_holds_19 : decode cX3_holds 19 = .ok (.ifnonnull 5, 3) := by decide +kernel
theorem dX3_holds_22 : decode cX3_holds 22 = .ok (.iconst (-1), 1) := by decide +kernel
theorem dX3_holds_23 : decode cX3_holds 23 = .ok (.ireturn, 1) := by decide +kernel
theorem dX3_holds_24 : decode cX3_holds 24 = .ok (.aload_n 3, 1) := by decide +kernel
theorem dX3_holds_25 : decode cX3_holds 25 = .ok (.aload 4, 2) := by decide +kernel
theorem dX3_holds_27 : decode cX3_holds 27 = .ok (.invokevirtual 135, 3) := by decide +kernel
theorem dX3_holds_30 : decode cX3_holds 30 = .ok (.ifCond .eq 7, 3) := by decide +kernel
theorem dX3_holds_33 : decode cX3_holds 33 = .ok (.iconst 1, 1) := by decide +kernel
theorem dX3_holds_34 : decode cX3_holds 34 = .ok (.goto 4, 3) := by decide +kernel
theorem dX3_holds_37 : decode cX3_holds 37 = .ok (.iconst 0, 1) := by decide +kernel
theorem dX3_holds_38 : decode cX3_holds 38 = .ok (.ireturn, 1) := by decide +kernel
set_option maxRecDepth 20000 in
theorem ggX3_ruled_X3_itemAt : GoodIn wsX3_ruled wsX3_itemAt := goodIn_r _ [5, 6, 36, 37, 38, 39, 40, 41, 42, 43, 44, 45, 46, 47] (by decide +kernel) (by decide +kernel)
set_option maxRecDepth 20000 in
theorem gX3_ruled_X3_itemAt : GoodIn wsX3_ruled (wsV RX3 103 RX3 yX3_itemAt wsX3_itemAt) := goodIn_app (goodIn_of _ (by decide +kernel)) ggX3_ruled_X3_itemAt
set_option maxRecDepth 20000 in
theorem ggX3_ruled_X3_byRules : GoodIn wsX3_ruled wsX3_byRules := goodIn_r _ [10, 11, 12, 13, 14, 15, 16, 4, 17, 18, 19, 20, 21, 22, 23, 24, 25, 26, 27, 28, 29, 30, 31, 32, 33, 34, 35, 36, 37, 38, 39, 40, 41, 42, 43, 44, 45, 46, 47, 48, 49, 50, 51, 52, 53, 54, 55, 56, 57, 58, 59, 60, 61, 62, 63, 64, 65] (by decide +kernel) (by decide +kernel)
set_option maxRecDepth 20000 in
theorem gX3_ruled_X3_byRules : GoodIn wsX3_ruled (wsV RX3 139 RX3 yX3_byRules wsX3_byRules) := goodIn_app (goodIn_of _ (by decide +kernel)) ggX3_ruled_X3_byRules
theorem dX3_ruled_0 : decode cX3_ruled 0 = .ok (.aload_n 0, 1) := by decide +kernel
theorem dX3_ruled_1 : decode cX3_ruled 1 = .ok (.iload_n 1, 1) := by decide +kernel
theorem dX3_ruled_2 : decode cX3_ruled 2 = .ok (.invokevirtual 103, 3) := by decide +kernel
theorem dX3_ruled_5 : decode cX3_ruled 5 = .ok (.astore_n 2, 1) := by decide +kernel
theorem dX3_ruled_6 : decode cX3_ruled 6 = .ok (.aload_n 2, 1) := by decide +kernel
theorem dX3_ruled_7 : decode cX3_ruled 7 = .ok (.ifnonnull 7, 3) := by decide +kernel
theorem dX3_ruled_10 : decode cX3_ruled 10 = .ok (.iconst (-1), 1) := by decide +kernel
theorem dX3_ruled_11 : decode cX3_ruled 11 = .ok (.goto 9, 3) := by decide +kernel
theorem dX3_ruled_14 : decode cX3_ruled 14 = .ok (.aload_n 0, 1) := by decide +kernel
theorem dX3_ruled_15 : decode cX3_ruled 15 = .ok (.aload_n 2, 1) := by decide +kernel
theorem dX3_ruled_16 : decode cX3_ruled 16 = .ok (.iconst (-1), 1) := by decide +kernel
theorem dX3_ruled_17 : decode cX3_ruled 17 = .ok (.invokevirtual 139, 3) := by decide +kernel
theorem dX3_ruled_20 : decode cX3_ruled 20 = .ok (.ireturn, 1) := by decide +kernel
set_option maxRecDepth 20000 in
theorem ggX3_quarrel_X3_doQuarrel : GoodIn wsX3_quarrel wsX3_doQuarrel := goodIn_r _ [6, 7, 8, 9, 5, 10, 1, 11, 12, 13, 14, 15, 16, 17, 18, 19, 20, 21, 22, 23, 24, 25, 26, 27, 28, 29, 30, 31, 32, 33, 34, 35, 36, 37, 38, 39] (by decide +kernel) (by decide +kernel)
set_option maxRecDepth 20000 in
theorem gX3_quarrel_X3_doQuarrel : GoodIn wsX3_quarrel (wsV RX3 143 RX3 yX3_doQuarrel wsX3_doQuarrel) := goodIn_app (goodIn_of _ (by decide +kernel)) ggX3_quarrel_X3_doQuarrel
theorem dX3_quarrel_0 : decode cX3_quarrel 0 = .ok (.iconst 0, 1) := by decide +kernel
theorem dX3_quarrel_1 : decode cX3_quarrel 1 = .ok (.istore_n 2, 1) := by decide +kernel
theorem dX3_quarrel_2 : decode cX3_quarrel 2 = .ok (.iconst 0, 1) := by decide +kernel
theorem dX3_quarrel_3 : decode cX3_quarrel 3 = .ok (.istore_n 3, 1) := by decide +kernel
theorem dX3_quarrel_4 : decode cX3_quarrel 4 = .ok (.iload_n 3, 1) := by decide +kernel
theorem dX3_quarrel_5 : decode cX3_quarrel 5 = .ok (.aload_n 0, 1) := by decide +kernel
theorem dX3_quarrel_6 : decode cX3_quarrel 6 = .ok (.getfield 44, 3) := by decide +kernel
theorem dX3_quarrel_9 : decode cX3_quarrel 9 = .ok (.arraylength, 1) := by decide +kernel
theorem dX3_quarrel_10 : decode cX3_quarrel 10 = .ok (.if_icmp .ge 59, 3) := by decide +kernel
theorem dX3_quarrel_13 : decode cX3_quarrel 13 = .ok (.iload_n 3, 1) := by decide +kernel
theorem dX3_quarrel_14 : decode cX3_quarrel 14 = .ok (.iconst 1, 1) := by decide +kernel
theorem dX3_quarrel_15 : decode cX3_quarrel 15 = .ok (.iadd, 1) := by decide +kernel
theorem dX3_quarrel_16 : decode cX3_quarrel 16 = .ok (.istore 4, 2) := by decide +kernel
theorem dX3_quarrel_18 : decode cX3_quarrel 18 = .ok (.iload 4, 2) := by decide +kernel
theorem dX3_quarrel_20 : decode cX3_quarrel 20 = .ok (.aload_n 0, 1) := by decide +kernel
theorem dX3_quarrel_21 : decode cX3_quarrel 21 = .ok (.getfield 44, 3) := by decide +kernel
theorem dX3_quarrel_24 : decode cX3_quarrel 24 = .ok (.arraylength, 1) := by decide +kernel
theorem dX3_quarrel_25 : decode cX3_quarrel 25 = .ok (.if_icmp .ge 38, 3) := by decide +kernel
theorem dX3_quarrel_28 : decode cX3_quarrel 28 = .ok (.aload_n 0, 1) := by decide +kernel
theorem dX3_quarrel_29 : decode cX3_quarrel 29 = .ok (.iload_n 3, 1) := by decide +kernel
theorem dX3_quarrel_30 : decode cX3_quarrel 30 = .ok (.iload 4, 2) := by decide +kernel
theorem dX3_quarrel_32 : decode cX3_quarrel 32 = .ok (.invokevirtual 143, 3) := by decide +kernel
theorem dX3_quarrel_35 : decode cX3_quarrel 35 = .ok (.ifCond .ne 6, 3) := by decide +kernel
theorem dX3_quarrel_38 : decode cX3_quarrel 38 = .ok (.goto 19, 3) := by decide +kernel
theorem dX3_quarrel_41 : decode cX3_quarrel 41 = .ok (.iload_n 2, 1) := by decide +kernel
theorem dX3_quarrel_42 : decode cX3_quarrel 42 = .ok (.iload_n 1, 1) := by decide +kernel
theorem dX3_quarrel_43 : decode cX3_quarrel 43 = .ok (.if_icmp .ne 11, 3) := by decide +kernel
theorem dX3_quarrel_46 : decode cX3_quarrel 46 = .ok (.bipush 100, 2) := by decide +kernel
theorem dX3_quarrel_48 : decode cX3_quarrel 48 = .ok (.iload_n 3, 1) := by decide +kernel
theorem dX3_quarrel_49 : decode cX3_quarrel 49 = .ok (.imul, 1) := by decide +kernel
theorem dX3_quarrel_50 : decode cX3_quarrel 50 = .ok (.iload 4, 2) := by decide +kernel
theorem dX3_quarrel_52 : decode cX3_quarrel 52 = .ok (.iadd, 1) := by decide +kernel
theorem dX3_quarrel_53 : decode cX3_quarrel 53 = .ok (.ireturn, 1) := by decide +kernel
theorem dX3_quarrel_54 : decode cX3_quarrel 54 = .ok (.iinc 2 1, 3) := by decide +kernel
theorem dX3_quarrel_57 : decode cX3_quarrel 57 = .ok (.iinc 4 1, 3) := by decide +kernel
theorem dX3_quarrel_60 : decode cX3_quarrel 60 = .ok (.goto (-42), 3) := by decide +kernel
theorem dX3_quarrel_63 : decode cX3_quarrel 63 = .ok (.iinc 3 1, 3) := by decide +kernel
theorem dX3_quarrel_66 : decode cX3_quarrel 66 = .ok (.goto (-62), 3) := by decide +kernel
theorem dX3_quarrel_69 : decode cX3_quarrel 69 = .ok (.iconst (-1), 1) := by decide +kernel
theorem dX3_quarrel_70 : decode cX3_quarrel 70 = .ok (.ireturn, 1) := by decide +kernel
set_option maxRecDepth 20000 in
theorem ggX3_reach_X3_ruleAt : GoodIn wsX3_reach wsX3_ruleAt := goodIn_r _ [7, 8, 39, 40, 41, 42, 43, 44, 45, 46, 47, 48, 49, 50] (by decide +kernel) (by decide +kernel)
set_option maxRecDepth 20000 in
theorem gX3_reach_X3_ruleAt : GoodIn wsX3_reach (wsV RX3 123 RX3 yX3_ruleAt wsX3_ruleAt) := goodIn_app (goodIn_of _ (by decide +kernel)) ggX3_reach_X3_ruleAt
set_option maxRecDepth 20000 in
theorem ggX3_reach_X3_byRules : GoodIn wsX3_reach wsX3_byRules := goodIn_r _ [12, 8, 13, 14, 15, 16, 17, 6, 18, 19, 20, 21, 22, 23, 24, 25, 26, 27, 28, 29, 30, 31, 32, 3, 4, 5, 7, 39, 40, 41, 42, 43, 44, 45, 46, 47, 48, 49, 50, 33, 34, 35, 36, 37, 38, 51, 52, 53, 54, 55, 56, 57, 58, 59, 60, 61, 62] (by decide +kernel) (by decide +kernel)
set_option maxRecDepth 20000 in
theorem gX3_reach_X3_byRules : GoodIn wsX3_reach (wsV RX3 139 RX3 yX3_byRules wsX3_byRules) := goodIn_app (goodIn_of _ (by decide +kernel)) ggX3_reach_X3_byRules
theorem dX3_reach_0 : decode cX3_reach 0 = .ok (.aload_n 0, 1) := by decide +kernel
theorem dX3_reach_1 : decode cX3_reach 1 = .ok (.iload_n 1, 1) := by decide +kernel
theorem dX3_reach_2 : decode cX3_reach 2 = .ok (.invokevirtual 123, 3) := by decide +kernel
theorem dX3_reach_5 : decode cX3_reach 5 = .ok (.astore_n 2, 1) := by decide +kernel
theorem dX3_reach_6 : decode cX3_reach 6 = .ok (.aload_n 2, 1) := by decide +kernel
theorem dX3_reach_7 : decode cX3_reach 7 = .ok (.ifnull 10, 3) := by decide +kernel
theorem dX3_reach_10 : decode cX3_reach 10 = .ok (.aload_n 2, 1) := by decide +kernel
theorem dX3_reach_11 : decode cX3_reach 11 = .ok (.getfield 127, 3) := by decide +kernel
theorem dX3_reach_14 : decode cX3_reach 14 = .ok (.ifCond .eq 5, 3) := by decide +kernel
theorem dX3_reach_17 : decode cX3_reach 17 = .ok (.iconst (-1), 1) := by decide +kernel
theorem dX3_reach_18 : decode cX3_reach 18 = .ok (.ireturn, 1) := by decide +kernel
theorem dX3_reach_19 : decode cX3_reach 19 = .ok (.iconst 0, 1) := by decide +kernel
theorem dX3_reach_20 : decode cX3_reach 20 = .ok (.istore_n 3, 1) := by decide +kernel
theorem dX3_reach_21 : decode cX3_reach 21 = .ok (.iconst 0, 1) := by decide +kernel
theorem dX3_reach_22 : decode cX3_reach 22 = .ok (.istore 4, 2) := by decide +kernel
theorem dX3_reach_24 : decode cX3_reach 24 = .ok (.iload 4, 2) := by decide +kernel
theorem dX3_reach_26 : decode cX3_reach 26 = .ok (.aload_n 0, 1) := by decide +kernel
theorem dX3_reach_27 : decode cX3_reach 27 = .ok (.getfield 34, 3) := by decide +kernel
theorem dX3_reach_30 : decode cX3_reach 30 = .ok (.arraylength, 1) := by decide +kernel
theorem dX3_reach_31 : decode cX3_reach 31 = .ok (.if_icmp .ge 43, 3) := by decide +kernel
theorem dX3_reach_34 : decode cX3_reach 34 = .ok (.aload_n 0, 1) := by decide +kernel
theorem dX3_reach_35 : decode cX3_reach 35 = .ok (.getfield 34, 3) := by decide +kernel
theorem dX3_reach_38 : decode cX3_reach 38 = .ok (.iload 4, 2) := by decide +kernel
theorem dX3_reach_40 : decode cX3_reach 40 = .ok (.aaload, 1) := by decide +kernel
theorem dX3_reach_41 : decode cX3_reach 41 = .ok (.astore 5, 2) := by decide +kernel
theorem dX3_reach_43 : decode cX3_reach 43 = .ok (.aload 5, 2) := by decide +kernel
theorem dX3_reach_45 : decode cX3_reach 45 = .ok (.ifnull 23, 3) := by decide +kernel
theorem dX3_reach_48 : decode cX3_reach 48 = .ok (.aload_n 0, 1) := by decide +kernel
theorem dX3_reach_49 : decode cX3_reach 49 = .ok (.aload 5, 2) := by decide +kernel
theorem dX3_reach_51 : decode cX3_reach 51 = .ok (.iconst (-1), 1) := by decide +kernel
theorem dX3_reach_52 : decode cX3_reach 52 = .ok (.invokevirtual 139, 3) := by decide +kernel
theorem dX3_reach_55 : decode cX3_reach 55 = .ok (.aload_n 0, 1) := by decide +kernel
theorem dX3_reach_56 : decode cX3_reach 56 = .ok (.aload 5, 2) := by decide +kernel
theorem dX3_reach_58 : decode cX3_reach 58 = .ok (.iload_n 1, 1) := by decide +kernel
theorem dX3_reach_59 : decode cX3_reach 59 = .ok (.invokevirtual 139, 3) := by decide +kernel
theorem dX3_reach_62 : decode cX3_reach 62 = .ok (.if_icmp .eq 6, 3) := by decide +kernel
theorem dX3_reach_65 : decode cX3_reach 65 = .ok (.iinc 3 1, 3) := by decide +kernel
theorem dX3_reach_68 : decode cX3_reach 68 = .ok (.iinc 4 1, 3) := by decide +kernel
theorem dX3_reach_71 : decode cX3_reach 71 = .ok (.goto (-47), 3) := by decide +kernel
theorem dX3_reach_74 : decode cX3_reach 74 = .ok (.iload_n 3, 1) := by decide +kernel
theorem dX3_reach_75 : decode cX3_reach 75 = .ok (.ireturn, 1) := by decide +kernel
set_option maxRecDepth 20000 in
theorem ggX3_gap_X3_isIn : GoodIn wsX3_gap wsX3_isIn := goodIn_r _ [6] (by decide +kernel) (by decide +kernel)
set_option maxRecDepth 20000 in
theorem gX3_gap_X3_isIn : GoodIn wsX3_gap (va_wsS RX3 71 yX3_isIn wsX3_isIn) := goodIn_app (goodIn_of _ (by decide +kernel)) ggX3_gap_X3_isIn
theorem dX3_gap_0 : decode cX3_gap 0 = .ok (.iload_n 1, 1) := by decide +kernel
theorem dX3_gap_1 : decode cX3_gap 1 = .ok (.iconst 1, 1) := by decide +kernel
theorem dX3_gap_2 : decode cX3_gap 2 = .ok (.sipush 1000, 3) := by decide +kernel
theorem dX3_gap_5 : decode cX3_gap 5 = .ok (.invokestatic 71, 3) := by decide +kernel
theorem dX3_gap_8 : decode cX3_gap 8 = .ok (.ifCond .eq 14, 3) := by decide +kernel
theorem dX3_gap_11 : decode cX3_gap 11 = .ok (.iload_n 2, 1) := by decide +kernel
theorem dX3_gap_12 : decode cX3_gap 12 = .ok (.iconst 0, 1) := by decide +kernel
theorem dX3_gap_13 : decode cX3_gap 13 = .ok (.sipush 1000, 3) := by decide +kernel
theorem dX3_gap_16 : decode cX3_gap 16 = .ok (.invokestatic 71, 3) := by decide +kernel
theorem dX3_gap_19 : decode cX3_gap 19 = .ok (.ifCond .ne 5, 3) := by decide +kernel
theorem dX3_gap_22 : decode cX3_gap 22 = .ok (.iconst (-1), 1) := by decide +kernel
theorem dX3_gap_23 : decode cX3_gap 23 = .ok (.ireturn, 1) := by decide +kernel
theorem dX3_gap_24 : decode cX3_gap 24 = .ok (.aload_n 0, 1) := by decide +kernel
theorem dX3_gap_25 : decode cX3_gap 25 = .ok (.iload_n 1, 1) := by decide +kernel
theorem dX3_gap_26 : decode cX3_gap 26 = .ok (.putfield 51, 3) := by decide +kernel
theorem dX3_gap_29 : decode cX3_gap 29 = .ok (.aload_n 0, 1) := by decide +kernel
theorem dX3_gap_30 : decode cX3_gap 30 = .ok (.iload_n 2, 1) := by decide +kernel
theorem dX3_gap_31 : decode cX3_gap 31 = .ok (.putfield 54, 3) := by decide +kernel
theorem dX3_gap_34 : decode cX3_gap 34 = .ok (.iconst 1, 1) := by decide +kernel
theorem dX3_gap_35 : decode cX3_gap 35 = .ok (.ireturn, 1) := by decide +kernel
set_option maxRecDepth 20000 in
theorem ggX3_likeness_X3_itemAt : GoodIn wsX3_likeness wsX3_itemAt := goodIn_r _ [5, 6, 20, 21, 22, 23, 24, 25, 26, 27, 28, 29, 30, 31] (by decide +kernel) (by decide +kernel)
set_option maxRecDepth 20000 in
theorem gX3_likeness_X3_itemAt : GoodIn wsX3_likeness (wsV RX3 103 RX3 yX3_itemAt wsX3_itemAt) := goodIn_app (goodIn_of _ (by decide +kernel)) ggX3_likeness_X3_itemAt
set_option maxRecDepth 20000 in
theorem ggX3_likeness_X0_likenessTo : GoodIn wsX3_likeness wsX0_likenessTo := goodIn_r _ [11, 12, 13, 14, 15, 16, 17, 18, 19, 32, 33, 34, 35, 36, 37, 38, 39, 40, 41, 42, 43] (by decide +kernel) (by decide +kernel)
set_option maxRecDepth 20000 in
theorem gX3_likeness_X0_likenessTo : GoodIn wsX3_likeness (wsV RX3 147 RX0 yX0_likenessTo wsX0_likenessTo) := goodIn_app (goodIn_of _ (by decide +kernel)) ggX3_likeness_X0_likenessTo
theorem dX3_likeness_0 : decode cX3_likeness 0 = .ok (.aload_n 0, 1) := by decide +kernel
theorem dX3_likeness_1 : decode cX3_likeness 1 = .ok (.iload_n 1, 1) := by decide +kernel
theorem dX3_likeness_2 : decode cX3_likeness 2 = .ok (.invokevirtual 103, 3) := by decide +kernel
theorem dX3_likeness_5 : decode cX3_likeness 5 = .ok (.astore_n 3, 1) := by decide +kernel
theorem dX3_likeness_6 : decode cX3_likeness 6 = .ok (.aload_n 0, 1) := by decide +kernel
theorem dX3_likeness_7 : decode cX3_likeness 7 = .ok (.iload_n 2, 1) := by decide +kernel
theorem dX3_likeness_8 : decode cX3_likeness 8 = .ok (.invokevirtual 103, 3) := by decide +kernel
theorem dX3_likeness_11 : decode cX3_likeness 11 = .ok (.astore 4, 2) := by decide +kernel
theorem dX3_likeness_13 : decode cX3_likeness 13 = .ok (.aload_n 3, 1) := by decide +kernel
theorem dX3_likeness_14 : decode cX3_likeness 14 = .ok (.ifnull 8, 3) := by decide +kernel
theorem dX3_likeness_17 : decode cX3_likeness 17 = .ok (.aload 4, 2) := by decide +kernel
theorem dX3_likeness_19 : decode cX3_likeness 19 = .ok (.ifnonnull 7, 3) := by decide +kernel
theorem dX3_likeness_22 : decode cX3_likeness 22 = .ok (.iconst (-1), 1) := by decide +kernel
theorem dX3_likeness_23 : decode cX3_likeness 23 = .ok (.goto 9, 3) := by decide +kernel
theorem dX3_likeness_26 : decode cX3_likeness 26 = .ok (.aload_n 3, 1) := by decide +kernel
theorem dX3_likeness_27 : decode cX3_likeness 27 = .ok (.aload 4, 2) := by decide +kernel
theorem dX3_likeness_29 : decode cX3_likeness 29 = .ok (.invokevirtual 147, 3) := by decide +kernel
theorem dX3_likeness_32 : decode cX3_likeness 32 = .ok (.ireturn, 1) := by decide +kernel
set_option maxRecDepth 20000 in
theorem ggX3_near_X3_itemAt : GoodIn wsX3_near wsX3_itemAt := goodIn_r _ [6, 7, 55, 56, 57, 58, 59, 60, 61, 62, 63, 64, 65, 66] (by decide +kernel) (by decide +kernel)
set_option maxRecDepth 20000 in
theorem gX3_near_X3_itemAt : GoodIn wsX3_near (wsV RX3 103 RX3 yX3_itemAt wsX3_itemAt) := goodIn_app (goodIn_of _ (by decide +kernel)) ggX3_near_X3_itemAt
set_option maxRecDepth 20000 in
theorem ggX3_near_X3_isCode : GoodIn wsX3_near wsX3_isCode := goodIn_r _ [11, 12, 13, 14, 15, 16, 17, 18, 19, 55, 56, 57, 58, 59, 60, 61, 62, 63, 64, 65, 66, 67, 68, 69] (by decide +kernel) (by decide +kernel)
set_option maxRecDepth 20000 in
theorem gX3_near_X3_isCode : GoodIn wsX3_near (wsV RX3 64 RX3 yX3_isCode wsX3_isCode) := goodIn_app (goodIn_of _ (by decide +kernel)) ggX3_near_X3_isCode
set_option maxRecDepth 20000 in
theorem ggX3_near_X3_fillNears : GoodIn wsX3_near wsX3_fillNears := goodIn_r _ [23, 1, 12, 24, 7, 25, 26, 27, 28, 29, 30, 31, 32, 5, 33, 34, 35, 36, 37, 16, 38, 18, 19, 39, 40, 8, 9, 10, 11, 13, 14, 15, 17, 41, 42, 43, 44, 45, 46, 47, 48, 49, 50, 51, 52, 53, 54, 55, 56, 57, 58, 59, 60, 61, 62, 63, 64, 65, 66, 70, 71, 72, 73, 74, 75, 76, 77, 78, 79, 80, 81, 67, 68, 69] (by decide +kernel) (by decide +kernel)
set_option maxRecDepth 20000 in
theorem gX3_near_X3_fillNears : GoodIn wsX3_near (wsV RX3 150 RX3 yX3_fillNears wsX3_fillNears) := goodIn_app (goodIn_of _ (by decide +kernel)) ggX3_near_X3_fillNears
theorem dX3_near_0 : decode cX3_near 0 = .ok (.aload_n 0, 1) := by decide +kernel
theorem dX3_near_1 : decode cX3_near 1 = .ok (.iload_n 2, 1) := by decide +kernel
theorem dX3_near_2 : decode cX3_near 2 = .ok (.invokevirtual 103, 3) := by decide +kernel
theorem dX3_near_5 : decode cX3_near 5 = .ok (.astore_n 3, 1) := by decide +kernel
theorem dX3_near_6 : decode cX3_near 6 = .ok (.aload_n 0, 1) := by decide +kernel
theorem dX3_near_7 : decode cX3_near 7 = .ok (.iload_n 1, 1) := by decide +kernel
theorem dX3_near_8 : decode cX3_near 8 = .ok (.invokevirtual 64, 3) := by decide +kernel
theorem dX3_near_11 : decode cX3_near 11 = .ok (.ifCond .eq 7, 3) := by decide +kernel
theorem dX3_near_14 : decode cX3_near 14 = .ok (.aload_n 3, 1) := by decide +kernel
theorem dX3_near_15 : decode cX3_near 15 = .ok (.ifnonnull 5, 3) := by decide +kernel
theorem dX3_near_18 : decode cX3_near 18 = .ok (.iconst (-1), 1) := by decide +kernel
theorem dX3_near_19 : decode cX3_near 19 = .ok (.ireturn, 1) := by decide +kernel
theorem dX3_near_20 : decode cX3_near 20 = .ok (.aload_n 0, 1) := by decide +kernel
theorem dX3_near_21 : decode cX3_near 21 = .ok (.aload_n 3, 1) := by decide +kernel
theorem dX3_near_22 : decode cX3_near 22 = .ok (.invokevirtual 150, 3) := by decide +kernel
theorem dX3_near_25 : decode cX3_near 25 = .ok (.aload_n 0, 1) := by decide +kernel
theorem dX3_near_26 : decode cX3_near 26 = .ok (.getfield 57, 3) := by decide +kernel
theorem dX3_near_29 : decode cX3_near 29 = .ok (.iload_n 1, 1) := by decide +kernel
theorem dX3_near_30 : decode cX3_near 30 = .ok (.iaload, 1) := by decide +kernel
theorem dX3_near_31 : decode cX3_near 31 = .ok (.ireturn, 1) := by decide +kernel
set_option maxRecDepth 20000 in
theorem ggX3_liked_X3_itemAt : GoodIn wsX3_liked wsX3_itemAt := goodIn_r _ [5, 6, 61, 62, 63, 64, 65, 66, 67, 68, 69, 70, 71, 72] (by decide +kernel) (by decide +kernel)
set_option maxRecDepth 20000 in
theorem gX3_liked_X3_itemAt : GoodIn wsX3_liked (wsV RX3 103 RX3 yX3_itemAt wsX3_itemAt) := goodIn_app (goodIn_of _ (by decide +kernel)) ggX3_liked_X3_itemAt
set_option maxRecDepth 20000 in
theorem ggX3_liked_X3_byLikeness : GoodIn wsX3_liked wsX3_byLikeness := goodIn_r _ [10, 11, 12, 13, 14, 15, 16, 4, 17, 18, 19, 6, 20, 21, 22, 23, 24, 25, 26, 27, 28, 29, 30, 31, 32, 33, 34, 35, 36, 37, 38, 39, 40, 41, 42, 43, 44, 45, 46, 47, 48, 49, 50, 51, 52, 53, 54, 55, 56, 57, 58, 59, 60, 61, 62, 63, 64, 65, 66, 67, 68, 69, 70, 71, 72, 73, 74, 75, 76, 77, 78, 79, 80, 81, 82, 83, 84, 85, 86, 87] (by decide +kernel) (by decide +kernel)
set_option maxRecDepth 20000 in
theorem gX3_liked_X3_byLikeness : GoodIn wsX3_liked (wsV RX3 154 RX3 yX3_byLikeness wsX3_byLikeness) := goodIn_app (goodIn_of _ (by decide +kernel)) ggX3_liked_X3_byLikeness
theorem dX3_liked_0 : decode cX3_liked 0 = .ok (.aload_n 0, 1) := by decide +kernel
theorem dX3_liked_1 : decode cX3_liked 1 = .ok (.iload_n 1, 1) := by decide +kernel
theorem dX3_liked_2 : decode cX3_liked 2 = .ok (.invokevirtual 103, 3) := by decide +kernel
theorem dX3_liked_5 : decode cX3_liked 5 = .ok (.astore_n 2, 1) := by decide +kernel
theorem dX3_liked_6 : decode cX3_liked 6 = .ok (.aload_n 2, 1) := by decide +kernel
theorem dX3_liked_7 : decode cX3_liked 7 = .ok (.ifnonnull 7, 3) := by decide +kernel
theorem dX3_liked_10 : decode cX3_liked 10 = .ok (.iconst (-1), 1) := by decide +kernel
theorem dX3_liked_11 : decode cX3_liked 11 = .ok (.goto 8, 3) := by decide +kernel
theorem dX3_liked_14 : decode cX3_liked 14 = .ok (.aload_n 0, 1) := by decide +kernel
theorem dX3_liked_15 : decode cX3_liked 15 = .ok (.aload_n 2, 1) := by decide +kernel
theorem dX3_liked_16 : decode cX3_liked 16 = .ok (.invokevirtual 154, 3) := by decide +kernel
theorem dX3_liked_19 : decode cX3_liked 19 = .ok (.ireturn, 1) := by decide +kernel
set_option maxRecDepth 20000 in
theorem ggX3_day_X3_isOpen : GoodIn wsX3_day wsX3_isOpen := goodIn_r _ [5, 6, 131, 132, 133, 134, 135, 136, 137, 138, 139, 140, 141, 142] (by decide +kernel) (by decide +kernel)
set_option maxRecDepth 20000 in
theorem gX3_day_X3_isOpen : GoodIn wsX3_day (va_wsS RX3 157 yX3_isOpen wsX3_isOpen) := goodIn_app (goodIn_of _ (by decide +kernel)) ggX3_day_X3_isOpen
set_option maxRecDepth 20000 in
theorem ggX3_day_X3_plan : GoodIn wsX3_day wsX3_plan := goodIn_r _ [10, 11, 12, 13, 4, 14, 15, 16, 17, 18, 19, 20, 21, 22, 23, 24, 25, 26, 27, 28, 29, 30, 31, 32, 33, 34, 35, 36, 37, 38, 39, 40, 41, 42, 43, 44, 45, 46, 47, 48, 49, 50, 51, 52, 53, 54, 55, 56, 57, 58, 59, 60, 61, 62, 63, 64, 1, 65, 66, 67, 68, 69, 70, 71, 72, 73, 74, 75, 76, 77, 78, 79, 80, 81, 82, 83, 84, 85, 86, 87, 88, 89, 90, 91, 92, 93, 94, 95, 96, 97, 98, 99, 100, 101, 102, 103, 104, 105, 106, 119, 120, 121, 122, 123, 124, 125, 126, 127, 128, 129, 130, 143, 144, 145, 146, 147, 148, 131, 132, 133, 134, 135, 136, 137, 138, 139, 140, 141, 142, 149, 150, 151] (by decide +kernel) (by decide +kernel)
set_option maxRecDepth 20000 in
theorem gX3_day_X3_plan : GoodIn wsX3_day (wsV RX3 160 RX3 yX3_plan wsX3_plan) := goodIn_app (goodIn_of _ (by decide +kernel)) ggX3_day_X3_plan
set_option maxRecDepth 20000 in
theorem ggX3_day_X0_followPlan : GoodIn wsX3_day wsX0_followPlan := goodIn_r _ [110, 45, 111, 46, 47, 112, 113, 114, 43, 115, 116, 117, 118, 131, 132, 133, 134, 135, 136, 137, 138, 139, 140, 141, 142] (by decide +kernel) (by decide +kernel)
set_option maxRecDepth 20000 in
theorem gX3_day_X0_followPlan : GoodIn wsX3_day (wsV RX3 163 RX0 yX0_followPlan wsX0_followPlan) := goodIn_app (goodIn_of _ (by decide +kernel)) ggX3_day_X0_followPlan
theorem dX3_day_0 : decode cX3_day 0 = .ok (.iconst 0, 1) := by decide +kernel
theorem dX3_day_1 : decode cX3_day 1 = .ok (.istore_n 1, 1) := by decide +kernel
theorem dX3_day_2 : decode cX3_day 2 = .ok (.iload_n 1, 1) := by decide +kernel
theorem dX3_day_3 : decode cX3_day 3 = .ok (.aload_n 0, 1) := by decide +kernel
theorem dX3_day_4 : decode cX3_day 4 = .ok (.getfield 34, 3) := by decide +kernel
theorem dX3_day_7 : decode cX3_day 7 = .ok (.arraylength, 1) := by decide +kernel
theorem dX3_day_8 : decode cX3_day 8 = .ok (.if_icmp .ge 31, 3) := by decide +kernel
theorem dX3_day_11 : decode cX3_day 11 = .ok (.aload_n 0, 1) := by decide +kernel
theorem dX3_day_12 : decode cX3_day 12 = .ok (.getfield 34, 3) := by decide +kernel
theorem dX3_day_15 : decode cX3_day 15 = .ok (.iload_n 1, 1) := by decide +kernel
theorem dX3_day_16 : decode cX3_day 16 = .ok (.aaload, 1) := by decide +kernel
theorem dX3_day_17 : decode cX3_day 17 = .ok (.invokestatic 157, 3) := by decide +kernel
theorem dX3_day_20 : decode cX3_day 20 = .ok (.ifCond .eq 13, 3) := by decide +kernel
theorem dX3_day_23 : decode cX3_day 23 = .ok (.aload_n 0, 1) := by decide +kernel
theorem dX3_day_24 : decode cX3_day 24 = .ok (.aload_n 0, 1) := by decide +kernel
theorem dX3_day_25 : decode cX3_day 25 = .ok (.getfield 34, 3) := by decide +kernel
theorem dX3_day_28 : decode cX3_day 28 = .ok (.iload_n 1, 1) := by decide +kernel
theorem dX3_day_29 : decode cX3_day 29 = .ok (.aaload, 1) := by decide +kernel
theorem dX3_day_30 : decode cX3_day 30 = .ok (.invokevirtual 160, 3) := by decide +kernel
theorem dX3_day_33 : decode cX3_day 33 = .ok (.iinc 1 1, 3) := by decide +kernel
theorem dX3_day_36 : decode cX3_day 36 = .ok (.goto (-34), 3) := by decide +kernel
theorem dX3_day_39 : decode cX3_day 39 = .ok (.iconst 0, 1) := by decide +kernel
theorem dX3_day_40 : decode cX3_day 40 = .ok (.istore_n 1, 1) := by decide +kernel
theorem dX3_day_41 : decode cX3_day 41 = .ok (.iconst 0, 1) := by decide +kernel
theorem dX3_day_42 : decode cX3_day 42 = .ok (.istore_n 2, 1) := by decide +kernel
theorem dX3_day_43 : decode cX3_day 43 = .ok (.iload_n 2, 1) := by decide +kernel
theorem dX3_day_44 : decode cX3_day 44 = .ok (.aload_n 0, 1) := by decide +kernel
theorem dX3_day_45 : decode cX3_day 45 = .ok (.getfield 34, 3) := by decide +kernel
theorem dX3_day_48 : decode cX3_day 48 = .ok (.arraylength, 1) := by decide +kernel
theorem dX3_day_49 : decode cX3_day 49 = .ok (.if_icmp .ge 36, 3) := by decide +kernel
theorem dX3_day_52 : decode cX3_day 52 = .ok (.aload_n 0, 1) := by decide +kernel
theorem dX3_day_53 : decode cX3_day 53 = .ok (.getfield 34, 3) := by decide +kernel
theorem dX3_day_56 : decode cX3_day 56 = .ok (.iload_n 2, 1) := by decide +kernel
theorem dX3_day_57 : decode cX3_day 57 = .ok (.aaload, 1) := by decide +kernel
theorem dX3_day_58 : decode cX3_day 58 = .ok (.invokestatic 157, 3) := by decide +kernel
theorem dX3_day_61 : decode cX3_day 61 = .ok (.ifCond .eq 18, 3) := by decide +kernel
theorem dX3_day_64 : decode cX3_day 64 = .ok (.aload_n 0, 1) := by decide +kernel
theorem dX3_day_65 : decode cX3_day 65 = .ok (.getfield 34, 3) := by decide +kernel
theorem dX3_day_68 : decode cX3_day 68 = .ok (.iload_n 2, 1) := by decide +kernel
theorem dX3_day_69 : decode cX3_day 69 = .ok (.aaload, 1) := by decide +kernel
theorem dX3_day_70 : decode cX3_day 70 = .ok (.invokevirtual 163, 3) := by decide +kernel
theorem dX3_day_73 : decode cX3_day 73 = .ok (.ifCond .eq 6, 3) := by decide +kernel
theorem dX3_day_76 : decode cX3_day 76 = .ok (.iinc 1 1, 3) := by decide +kernel
theorem dX3_day_79 : decode cX3_day 79 = .ok (.iinc 2 1, 3) := by decide +kernel
theorem dX3_day_82 : decode cX3_day 82 = .ok (.goto (-39), 3) := by decide +kernel
theorem dX3_day_85 : decode cX3_day 85 = .ok (.iload_n 1, 1) := by decide +kernel
theorem dX3_day_86 : decode cX3_day 86 = .ok (.ireturn, 1) := by decide +kernel
