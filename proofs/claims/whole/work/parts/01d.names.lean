set_option maxRecDepth 20000 in
theorem gX2_isPresent_X2_isIn : GoodIn wsX2_isPresent (va_wsS RX2 108 yX2_isIn wsX2_isIn) := goodIn_app (goodIn_of _ (by decide +kernel)) ggX2_isPresent_X2_isIn
theorem dX2_isPresent_0 : decode cX2_isPresent 0 = .ok (.iload_n 1, 1) := by decide +kernel
theorem dX2_isPresent_1 : decode cX2_isPresent 1 = .ok (.invokestatic 37, 3) := by decide +kernel
theorem dX2_isPresent_4 : decode cX2_isPresent 4 = .ok (.ifCond .eq 18, 3) := by decide +kernel
theorem dX2_isPresent_7 : decode cX2_isPresent 7 = .ok (.aload_n 0, 1) := by decide +kernel
theorem dX2_isPresent_8 : decode cX2_isPresent 8 = .ok (.getfield 16, 3) := by decide +kernel
theorem dX2_isPresent_11 : decode cX2_isPresent 11 = .ok (.iload_n 1, 1) := by decide +kernel
theorem dX2_isPresent_12 : decode cX2_isPresent 12 = .ok (.invokestatic 108, 3) := by decide +kernel
theorem dX2_isPresent_15 : decode cX2_isPresent 15 = .ok (.ifCond .eq 7, 3) := by decide +kernel
theorem dX2_isPresent_18 : decode cX2_isPresent 18 = .ok (.iconst 1, 1) := by decide +kernel
theorem dX2_isPresent_19 : decode cX2_isPresent 19 = .ok (.goto 4, 3) := by decide +kernel
theorem dX2_isPresent_22 : decode cX2_isPresent 22 = .ok (.iconst 0, 1) := by decide +kernel
theorem dX2_isPresent_23 : decode cX2_isPresent 23 = .ok (.ireturn, 1) := by decide +kernel
set_option maxRecDepth 20000 in
theorem ggX2_isLoaded_X2_isModule : GoodIn wsX2_isLoaded wsX2_isModule := goodIn_r _ [5] (by decide +kernel) (by decide +kernel)
set_option maxRecDepth 20000 in
theorem gX2_isLoaded_X2_isModule : GoodIn wsX2_isLoaded (va_wsS RX2 37 yX2_isModule wsX2_isModule) := goodIn_app (goodIn_of _ (by decide +kernel)) ggX2_isLoaded_X2_isModule
set_option maxRecDepth 20000 in
theorem ggX2_isLoaded_X2_isIn : GoodIn wsX2_isLoaded wsX2_isIn := goodIn_r _ [8] (by decide +kernel) (by decide +kernel)
set_option maxRecDepth 20000 in
theorem gX2_isLoaded_X2_isIn : GoodIn wsX2_isLoaded (va_wsS RX2 108 yX2_isIn wsX2_isIn) := goodIn_app (goodIn_of _ (by decide +kernel)) ggX2_isLoaded_X2_isIn
theorem dX2_isLoaded_0 : decode cX2_isLoaded 0 = .ok (.iload_n 1, 1) := by decide +kernel
theorem dX2_isLoaded_1 : decode cX2_isLoaded 1 = .ok (.invokestatic 37, 3) := by decide +kernel
theorem dX2_isLoaded_4 : decode cX2_isLoaded 4 = .ok (.ifCond .eq 18, 3) := by decide +kernel
theorem dX2_isLoaded_7 : decode cX2_isLoaded 7 = .ok (.aload_n 0, 1) := by decide +kernel
theorem dX2_isLoaded_8 : decode cX2_isLoaded 8 = .ok (.getfield 20, 3) := by decide +kernel
theorem dX2_isLoaded_11 : decode cX2_isLoaded 11 = .ok (.iload_n 1, 1) := by decide +kernel
theorem dX2_isLoaded_12 : decode cX2_isLoaded 12 = .ok (.invokestatic 108, 3) := by decide +kernel
theorem dX2_isLoaded_15 : decode cX2_isLoaded 15 = .ok (.ifCond .eq 7, 3) := by decide +kernel
theorem dX2_isLoaded_18 : decode cX2_isLoaded 18 = .ok (.iconst 1, 1) := by decide +kernel
theorem dX2_isLoaded_19 : decode cX2_isLoaded 19 = .ok (.goto 4, 3) := by decide +kernel
theorem dX2_isLoaded_22 : decode cX2_isLoaded 22 = .ok (.iconst 0, 1) := by decide +kernel
theorem dX2_isLoaded_23 : decode cX2_isLoaded 23 = .ok (.ireturn, 1) := by decide +kernel
set_option maxRecDepth 20000 in
theorem ggX2_loadableSet_X2_withoutLacking : GoodIn wsX2_loadableSet wsX2_withoutLacking := goodIn_r _ [6, 7, 8, 9, 5, 10, 11, 12, 13, 14, 15, 16, 17, 18, 19, 20, 21, 22, 23, 24] (by decide +kernel) (by decide +kernel)
set_option maxRecDepth 20000 in
theorem gX2_loadableSet_X2_withoutLacking : GoodIn wsX2_loadableSet (wsV RX2 166 RX2 yX2_withoutLacking wsX2_withoutLacking) := goodIn_app (goodIn_of _ (by decide +kernel)) ggX2_loadableSet_X2_withoutLacking
theorem dX2_loadableSet_0 : decode cX2_loadableSet 0 = .ok (.aload_n 0, 1) := by decide +kernel
theorem dX2_loadableSet_1 : decode cX2_loadableSet 1 = .ok (.getfield 16, 3) := by decide +kernel
theorem dX2_loadableSet_4 : decode cX2_loadableSet 4 = .ok (.istore_n 1, 1) := by decide +kernel
theorem dX2_loadableSet_5 : decode cX2_loadableSet 5 = .ok (.iconst 0, 1) := by decide +kernel
theorem dX2_loadableSet_6 : decode cX2_loadableSet 6 = .ok (.istore_n 2, 1) := by decide +kernel
theorem dX2_loadableSet_7 : decode cX2_loadableSet 7 = .ok (.iload_n 2, 1) := by decide +kernel
theorem dX2_loadableSet_8 : decode cX2_loadableSet 8 = .ok (.bipush 8, 2) := by decide +kernel
theorem dX2_loadableSet_10 : decode cX2_loadableSet 10 = .ok (.if_icmp .ge 15, 3) := by decide +kernel
theorem dX2_loadableSet_13 : decode cX2_loadableSet 13 = .ok (.aload_n 0, 1) := by decide +kernel
theorem dX2_loadableSet_14 : decode cX2_loadableSet 14 = .ok (.iload_n 1, 1) := by decide +kernel
theorem dX2_loadableSet_15 : decode cX2_loadableSet 15 = .ok (.invokevirtual 166, 3) := by decide +kernel
theorem dX2_loadableSet_18 : decode cX2_loadableSet 18 = .ok (.istore_n 1, 1) := by decide +kernel
theorem dX2_loadableSet_19 : decode cX2_loadableSet 19 = .ok (.iinc 2 1, 3) := by decide +kernel
theorem dX2_loadableSet_22 : decode cX2_loadableSet 22 = .ok (.goto (-15), 3) := by decide +kernel
theorem dX2_loadableSet_25 : decode cX2_loadableSet 25 = .ok (.iload_n 1, 1) := by decide +kernel
theorem dX2_loadableSet_26 : decode cX2_loadableSet 26 = .ok (.ireturn, 1) := by decide +kernel
set_option maxRecDepth 20000 in
theorem ggX2_withoutLacking_X2_bit : GoodIn wsX2_withoutLacking wsX2_bit := goodIn_r _ [5] (by decide +kernel) (by decide +kernel)
set_option maxRecDepth 20000 in
theorem gX2_withoutLacking_X2_bit : GoodIn wsX2_withoutLacking (va_wsS RX2 56 yX2_bit wsX2_bit) := goodIn_app (goodIn_of _ (by decide +kernel)) ggX2_withoutLacking_X2_bit
theorem dX2_withoutLacking_0 : decode cX2_withoutLacking 0 = .ok (.iload_n 1, 1) := by decide +kernel
theorem dX2_withoutLacking_1 : decode cX2_withoutLacking 1 = .ok (.istore_n 2, 1) := by decide +kernel
theorem dX2_withoutLacking_2 : decode cX2_withoutLacking 2 = .ok (.iconst 0, 1) := by decide +kernel
theorem dX2_withoutLacking_3 : decode cX2_withoutLacking 3 = .ok (.istore_n 3, 1) := by decide +kernel
theorem dX2_withoutLacking_4 : decode cX2_withoutLacking 4 = .ok (.iload_n 3, 1) := by decide +kernel
theorem dX2_withoutLacking_5 : decode cX2_withoutLacking 5 = .ok (.bipush 8, 2) := by decide +kernel
theorem dX2_withoutLacking_7 : decode cX2_withoutLacking 7 = .ok (.if_icmp .ge 34, 3) := by decide +kernel
theorem dX2_withoutLacking_10 : decode cX2_withoutLacking 10 = .ok (.aload_n 0, 1) := by decide +kernel
theorem dX2_withoutLacking_11 : decode cX2_withoutLacking 11 = .ok (.getfield 11, 3) := by decide +kernel
theorem dX2_withoutLacking_14 : decode cX2_withoutLacking 14 = .ok (.iload_n 3, 1) := by decide +kernel
theorem dX2_withoutLacking_15 : decode cX2_withoutLacking 15 = .ok (.aaload, 1) := by decide +kernel
theorem dX2_withoutLacking_16 : decode cX2_withoutLacking 16 = .ok (.getfield 169, 3) := by decide +kernel
theorem dX2_withoutLacking_19 : decode cX2_withoutLacking 19 = .ok (.iload_n 1, 1) := by decide +kernel
theorem dX2_withoutLacking_20 : decode cX2_withoutLacking 20 = .ok (.iconst (-1), 1) := by decide +kernel
theorem dX2_withoutLacking_21 : decode cX2_withoutLacking 21 = .ok (.ixor, 1) := by decide +kernel
theorem dX2_withoutLacking_22 : decode cX2_withoutLacking 22 = .ok (.iand, 1) := by decide +kernel
theorem dX2_withoutLacking_23 : decode cX2_withoutLacking 23 = .ok (.ifCond .eq 12, 3) := by decide +kernel
theorem dX2_withoutLacking_26 : decode cX2_withoutLacking 26 = .ok (.iload_n 2, 1) := by decide +kernel
theorem dX2_withoutLacking_27 : decode cX2_withoutLacking 27 = .ok (.iload_n 3, 1) := by decide +kernel
theorem dX2_withoutLacking_28 : decode cX2_withoutLacking 28 = .ok (.invokestatic 56, 3) := by decide +kernel
theorem dX2_withoutLacking_31 : decode cX2_withoutLacking 31 = .ok (.iconst (-1), 1) := by decide +kernel
theorem dX2_withoutLacking_32 : decode cX2_withoutLacking 32 = .ok (.ixor, 1) := by decide +kernel
theorem dX2_withoutLacking_33 : decode cX2_withoutLacking 33 = .ok (.iand, 1) := by decide +kernel
theorem dX2_withoutLacking_34 : decode cX2_withoutLacking 34 = .ok (.istore_n 2, 1) := by decide +kernel
theorem dX2_withoutLacking_35 : decode cX2_withoutLacking 35 = .ok (.iinc 3 1, 3) := by decide +kernel
theorem dX2_withoutLacking_38 : decode cX2_withoutLacking 38 = .ok (.goto (-34), 3) := by decide +kernel
theorem dX2_withoutLacking_41 : decode cX2_withoutLacking 41 = .ok (.iload_n 2, 1) := by decide +kernel
theorem dX2_withoutLacking_42 : decode cX2_withoutLacking 42 = .ok (.ireturn, 1) := by decide +kernel
set_option maxRecDepth 20000 in
theorem ggX2_reachedSet_X2_bit : GoodIn wsX2_reachedSet wsX2_bit := goodIn_r _ [4] (by decide +kernel) (by decide +kernel)
set_option maxRecDepth 20000 in
theorem gX2_reachedSet_X2_bit : GoodIn wsX2_reachedSet (va_wsS RX2 56 yX2_bit wsX2_bit) := goodIn_app (goodIn_of _ (by decide +kernel)) ggX2_reachedSet_X2_bit
set_option maxRecDepth 20000 in
theorem ggX2_reachedSet_X2_nextTo : GoodIn wsX2_reachedSet wsX2_nextTo := goodIn_r _ [8, 9, 10, 11, 3, 12, 13, 14, 15, 16, 17, 18, 19, 20, 21, 22, 23, 24, 25, 26] (by decide +kernel) (by decide +kernel)
set_option maxRecDepth 20000 in
theorem gX2_reachedSet_X2_nextTo : GoodIn wsX2_reachedSet (wsV RX2 172 RX2 yX2_nextTo wsX2_nextTo) := goodIn_app (goodIn_of _ (by decide +kernel)) ggX2_reachedSet_X2_nextTo
theorem dX2_reachedSet_0 : decode cX2_reachedSet 0 = .ok (.iload_n 1, 1) := by decide +kernel
theorem dX2_reachedSet_1 : decode cX2_reachedSet 1 = .ok (.invokestatic 56, 3) := by decide +kernel
theorem dX2_reachedSet_4 : decode cX2_reachedSet 4 = .ok (.istore_n 3, 1) := by decide +kernel
theorem dX2_reachedSet_5 : decode cX2_reachedSet 5 = .ok (.iconst 0, 1) := by decide +kernel
theorem dX2_reachedSet_6 : decode cX2_reachedSet 6 = .ok (.istore 4, 2) := by decide +kernel
theorem dX2_reachedSet_8 : decode cX2_reachedSet 8 = .ok (.iload 4, 2) := by decide +kernel
theorem dX2_reachedSet_10 : decode cX2_reachedSet 10 = .ok (.bipush 8, 2) := by decide +kernel
theorem dX2_reachedSet_12 : decode cX2_reachedSet 12 = .ok (.if_icmp .ge 19, 3) := by decide +kernel
theorem dX2_reachedSet_15 : decode cX2_reachedSet 15 = .ok (.iload_n 3, 1) := by decide +kernel
theorem dX2_reachedSet_16 : decode cX2_reachedSet 16 = .ok (.aload_n 0, 1) := by decide +kernel
theorem dX2_reachedSet_17 : decode cX2_reachedSet 17 = .ok (.iload_n 3, 1) := by decide +kernel
theorem dX2_reachedSet_18 : decode cX2_reachedSet 18 = .ok (.invokevirtual 172, 3) := by decide +kernel
theorem dX2_reachedSet_21 : decode cX2_reachedSet 21 = .ok (.iload_n 2, 1) := by decide +kernel
theorem dX2_reachedSet_22 : decode cX2_reachedSet 22 = .ok (.iand, 1) := by decide +kernel
theorem dX2_reachedSet_23 : decode cX2_reachedSet 23 = .ok (.ior, 1) := by decide +kernel
theorem dX2_reachedSet_24 : decode cX2_reachedSet 24 = .ok (.istore_n 3, 1) := by decide +kernel
theorem dX2_reachedSet_25 : decode cX2_reachedSet 25 = .ok (.iinc 4 1, 3) := by decide +kernel
theorem dX2_reachedSet_28 : decode cX2_reachedSet 28 = .ok (.goto (-20), 3) := by decide +kernel
theorem dX2_reachedSet_31 : decode cX2_reachedSet 31 = .ok (.iload_n 3, 1) := by decide +kernel
theorem dX2_reachedSet_32 : decode cX2_reachedSet 32 = .ok (.ireturn, 1) := by decide +kernel
set_option maxRecDepth 20000 in
theorem ggX2_nextTo_X2_isIn : GoodIn wsX2_nextTo wsX2_isIn := goodIn_r _ [5] (by decide +kernel) (by decide +kernel)
set_option maxRecDepth 20000 in
theorem gX2_nextTo_X2_isIn : GoodIn wsX2_nextTo (va_wsS RX2 108 yX2_isIn wsX2_isIn) := goodIn_app (goodIn_of _ (by decide +kernel)) ggX2_nextTo_X2_isIn
theorem dX2_nextTo_0 : decode cX2_nextTo 0 = .ok (.iconst 0, 1) := by decide +kernel
theorem dX2_nextTo_1 : decode cX2_nextTo 1 = .ok (.istore_n 2, 1) := by decide +kernel
theorem dX2_nextTo_2 : decode cX2_nextTo 2 = .ok (.iconst 0, 1) := by decide +kernel
theorem dX2_nextTo_3 : decode cX2_nextTo 3 = .ok (.istore_n 3, 1) := by decide +kernel
theorem dX2_nextTo_4 : decode cX2_nextTo 4 = .ok (.iload_n 3, 1) := by decide +kernel
theorem dX2_nextTo_5 : decode cX2_nextTo 5 = .ok (.bipush 8, 2) := by decide +kernel
theorem dX2_nextTo_7 : decode cX2_nextTo 7 = .ok (.if_icmp .ge 29, 3) := by decide +kernel
theorem dX2_nextTo_10 : decode cX2_nextTo 10 = .ok (.iload_n 1, 1) := by decide +kernel
theorem dX2_nextTo_11 : decode cX2_nextTo 11 = .ok (.iload_n 3, 1) := by decide +kernel
theorem dX2_nextTo_12 : decode cX2_nextTo 12 = .ok (.invokestatic 108, 3) := by decide +kernel
theorem dX2_nextTo_15 : decode cX2_nextTo 15 = .ok (.ifCond .eq 15, 3) := by decide +kernel
theorem dX2_nextTo_18 : decode cX2_nextTo 18 = .ok (.iload_n 2, 1) := by decide +kernel
theorem dX2_nextTo_19 : decode cX2_nextTo 19 = .ok (.aload_n 0, 1) := by decide +kernel
theorem dX2_nextTo_20 : decode cX2_nextTo 20 = .ok (.getfield 11, 3) := by decide +kernel
theorem dX2_nextTo_23 : decode cX2_nextTo 23 = .ok (.iload_n 3, 1) := by decide +kernel
theorem dX2_nextTo_24 : decode cX2_nextTo 24 = .ok (.aaload, 1) := by decide +kernel
theorem dX2_nextTo_25 : decode cX2_nextTo 25 = .ok (.getfield 175, 3) := by decide +kernel
theorem dX2_nextTo_28 : decode cX2_nextTo 28 = .ok (.ior, 1) := by decide +kernel
theorem dX2_nextTo_29 : decode cX2_nextTo 29 = .ok (.istore_n 2, 1) := by decide +kernel
theorem dX2_nextTo_30 : decode cX2_nextTo 30 = .ok (.iinc 3 1, 3) := by decide +kernel
theorem dX2_nextTo_33 : decode cX2_nextTo 33 = .ok (.goto (-29), 3) := by decide +kernel
theorem dX2_nextTo_36 : decode cX2_nextTo 36 = .ok (.iload_n 2, 1) := by decide +kernel
theorem dX2_nextTo_37 : decode cX2_nextTo 37 = .ok (.ireturn, 1) := by decide +kernel
set_option maxRecDepth 20000 in
theorem ggX2_isHeldByAnother_X2_isLoaded : GoodIn wsX2_isHeldByAnother wsX2_isLoaded := goodIn_r _ [6, 7, 8, 9, 5, 10, 11, 12, 13, 19, 20, 21, 22, 23, 24] (by decide +kernel) (by decide +kernel)
set_option maxRecDepth 20000 in
theorem gX2_isHeldByAnother_X2_isLoaded : GoodIn wsX2_isHeldByAnother (wsV RX2 68 RX2 yX2_isLoaded wsX2_isLoaded) := goodIn_app (goodIn_of _ (by decide +kernel)) ggX2_isHeldByAnother_X2_isLoaded
set_option maxRecDepth 20000 in
theorem ggX2_isHeldByAnother_X2_isIn : GoodIn wsX2_isHeldByAnother wsX2_isIn := goodIn_r _ [13] (by decide +kernel) (by decide +kernel)
set_option maxRecDepth 20000 in
theorem gX2_isHeldByAnother_X2_isIn : GoodIn wsX2_isHeldByAnother (va_wsS RX2 108 yX2_isIn wsX2_isIn) := goodIn_app (goodIn_of _ (by decide +kernel)) ggX2_isHeldByAnother_X2_isIn
set_option maxRecDepth 20000 in
theorem ggX2_isHeldByAnother_X0_hasClassBelow : GoodIn wsX2_isHeldByAnother wsX0_hasClassBelow := goodIn_r _ [17, 18, 25, 26, 27, 28, 29, 30, 31, 32] (by decide +kernel) (by decide +kernel)
set_option maxRecDepth 20000 in
theorem gX2_isHeldByAnother_X0_hasClassBelow_n178 : GoodIn wsX2_isHeldByAnother (wsX0_hasClassBelow) := ggX2_isHeldByAnother_X0_hasClassBelow
theorem dX2_isHeldByAnother_0 : decode cX2_isHeldByAnother 0 = .ok (.iconst 0, 1) := by decide +kernel
theorem dX2_isHeldByAnother_1 : decode cX2_isHeldByAnother 1 = .ok (.istore_n 2, 1) := by decide +kernel
theorem dX2_isHeldByAnother_2 : decode cX2_isHeldByAnother 2 = .ok (.iload_n 2, 1) := by decide +kernel
theorem dX2_isHeldByAnother_3 : decode cX2_isHeldByAnother 3 = .ok (.bipush 8, 2) := by decide +kernel
theorem dX2_isHeldByAnother_5 : decode cX2_isHeldByAnother 5 = .ok (.if_icmp .ge 53, 3) := by decide +kernel
theorem dX2_isHeldByAnother_8 : decode cX2_isHeldByAnother 8 = .ok (.iload_n 2, 1) := by decide +kernel
theorem dX2_isHeldByAnother_9 : decode cX2_isHeldByAnother 9 = .ok (.iload_n 1, 1) := by decide +kernel
theorem dX2_isHeldByAnother_10 : decode cX2_isHeldByAnother 10 = .ok (.if_icmp .eq 42, 3) := by decide +kernel
theorem dX2_isHeldByAnother_13 : decode cX2_isHeldByAnother 13 = .ok (.aload_n 0, 1) := by decide +kernel
theorem dX2_isHeldByAnother_14 : decode cX2_isHeldByAnother 14 = .ok (.iload_n 2, 1) := by decide +kernel
theorem dX2_isHeldByAnother_15 : decode cX2_isHeldByAnother 15 = .ok (.invokevirtual 68, 3) := by decide +kernel
theorem dX2_isHeldByAnother_18 : decode cX2_isHeldByAnother 18 = .ok (.ifCond .eq 34, 3) := by decide +kernel
theorem dX2_isHeldByAnother_21 : decode cX2_isHeldByAnother 21 = .ok (.aload_n 0, 1) := by decide +kernel
theorem dX2_isHeldByAnother_22 : decode cX2_isHeldByAnother 22 = .ok (.getfield 11, 3) := by decide +kernel
theorem dX2_isHeldByAnother_25 : decode cX2_isHeldByAnother 25 = .ok (.iload_n 2, 1) := by decide +kernel
theorem dX2_isHeldByAnother_26 : decode cX2_isHeldByAnother 26 = .ok (.aaload, 1) := by decide +kernel
theorem dX2_isHeldByAnother_27 : decode cX2_isHeldByAnother 27 = .ok (.getfield 169, 3) := by decide +kernel
theorem dX2_isHeldByAnother_30 : decode cX2_isHeldByAnother 30 = .ok (.iload_n 1, 1) := by decide +kernel
theorem dX2_isHeldByAnother_31 : decode cX2_isHeldByAnother 31 = .ok (.invokestatic 108, 3) := by decide +kernel
theorem dX2_isHeldByAnother_34 : decode cX2_isHeldByAnother 34 = .ok (.ifCond .ne 16, 3) := by decide +kernel
theorem dX2_isHeldByAnother_37 : decode cX2_isHeldByAnother 37 = .ok (.aload_n 0, 1) := by decide +kernel
theorem dX2_isHeldByAnother_38 : decode cX2_isHeldByAnother 38 = .ok (.getfield 11, 3) := by decide +kernel
theorem dX2_isHeldByAnother_41 : decode cX2_isHeldByAnother 41 = .ok (.iload_n 2, 1) := by decide +kernel
theorem dX2_isHeldByAnother_42 : decode cX2_isHeldByAnother 42 = .ok (.aaload, 1) := by decide +kernel
theorem dX2_isHeldByAnother_43 : decode cX2_isHeldByAnother 43 = .ok (.iload_n 1, 1) := by decide +kernel
theorem dX2_isHeldByAnother_44 : decode cX2_isHeldByAnother 44 = .ok (.invokevirtual 178, 3) := by decide +kernel
theorem dX2_isHeldByAnother_47 : decode cX2_isHeldByAnother 47 = .ok (.ifCond .eq 5, 3) := by decide +kernel
theorem dX2_isHeldByAnother_50 : decode cX2_isHeldByAnother 50 = .ok (.iconst 1, 1) := by decide +kernel
theorem dX2_isHeldByAnother_51 : decode cX2_isHeldByAnother 51 = .ok (.ireturn, 1) := by decide +kernel
theorem dX2_isHeldByAnother_52 : decode cX2_isHeldByAnother 52 = .ok (.iinc 2 1, 3) := by decide +kernel
theorem dX2_isHeldByAnother_55 : decode cX2_isHeldByAnother 55 = .ok (.goto (-53), 3) := by decide +kernel
theorem dX2_isHeldByAnother_58 : decode cX2_isHeldByAnother 58 = .ok (.iconst 0, 1) := by decide +kernel
theorem dX2_isHeldByAnother_59 : decode cX2_isHeldByAnother 59 = .ok (.ireturn, 1) := by decide +kernel
set_option maxRecDepth 20000 in
theorem ggX2_holderSet_X0_holds : GoodIn wsX2_holderSet wsX0_holds := goodIn_r _ [5, 6, 17, 18, 19, 20, 21, 22, 23, 24] (by decide +kernel) (by decide +kernel)
set_option maxRecDepth 20000 in
theorem gX2_holderSet_X0_holds_n71 : GoodIn wsX2_holderSet (wsX0_holds) := ggX2_holderSet_X0_holds
set_option maxRecDepth 20000 in
theorem ggX2_holderSet_X2_bit : GoodIn wsX2_holderSet wsX2_bit := goodIn_r _ [10] (by decide +kernel) (by decide +kernel)
set_option maxRecDepth 20000 in
theorem gX2_holderSet_X2_bit : GoodIn wsX2_holderSet (va_wsS RX2 56 yX2_bit wsX2_bit) := goodIn_app (goodIn_of _ (by decide +kernel)) ggX2_holderSet_X2_bit
theorem dX2_holderSet_0 : decode cX2_holderSet 0 = .ok (.iconst 0, 1) := by decide +kernel
theorem dX2_holderSet_1 : decode cX2_holderSet 1 = .ok (.istore_n 2, 1) := by decide +kernel
theorem dX2_holderSet_2 : decode cX2_holderSet 2 = .ok (.iconst 0, 1) := by decide +kernel
theorem dX2_holderSet_3 : decode cX2_holderSet 3 = .ok (.istore_n 3, 1) := by decide +kernel
theorem dX2_holderSet_4 : decode cX2_holderSet 4 = .ok (.iload_n 3, 1) := by decide +kernel
theorem dX2_holderSet_5 : decode cX2_holderSet 5 = .ok (.bipush 8, 2) := by decide +kernel
theorem dX2_holderSet_7 : decode cX2_holderSet 7 = .ok (.if_icmp .ge 29, 3) := by decide +kernel
theorem dX2_holderSet_10 : decode cX2_holderSet 10 = .ok (.aload_n 0, 1) := by decide +kernel
theorem dX2_holderSet_11 : decode cX2_holderSet 11 = .ok (.getfield 11, 3) := by decide +kernel
theorem dX2_holderSet_14 : decode cX2_holderSet 14 = .ok (.iload_n 3, 1) := by decide +kernel
theorem dX2_holderSet_15 : decode cX2_holderSet 15 = .ok (.aaload, 1) := by decide +kernel
theorem dX2_holderSet_16 : decode cX2_holderSet 16 = .ok (.iload_n 1, 1) := by decide +kernel
theorem dX2_holderSet_17 : decode cX2_holderSet 17 = .ok (.invokevirtual 71, 3) := by decide +kernel
theorem dX2_holderSet_20 : decode cX2_holderSet 20 = .ok (.ifCond .eq 10, 3) := by decide +kernel
theorem dX2_holderSet_23 : decode cX2_holderSet 23 = .ok (.iload_n 2, 1) := by decide +kernel
theorem dX2_holderSet_24 : decode cX2_holderSet 24 = .ok (.iload_n 3, 1) := by decide +kernel
theorem dX2_holderSet_25 : decode cX2_holderSet 25 = .ok (.invokestatic 56, 3) := by decide +kernel
theorem dX2_holderSet_28 : decode cX2_holderSet 28 = .ok (.ior, 1) := by decide +kernel
theorem dX2_holderSet_29 : decode cX2_holderSet 29 = .ok (.istore_n 2, 1) := by decide +kernel
theorem dX2_holderSet_30 : decode cX2_holderSet 30 = .ok (.iinc 3 1, 3) := by decide +kernel
theorem dX2_holderSet_33 : decode cX2_holderSet 33 = .ok (.goto (-29), 3) := by decide +kernel
theorem dX2_holderSet_36 : decode cX2_holderSet 36 = .ok (.iload_n 2, 1) := by decide +kernel
theorem dX2_holderSet_37 : decode cX2_holderSet 37 = .ok (.ireturn, 1) := by decide +kernel
set_option maxRecDepth 20000 in
theorem ggX2_holderSeenFrom_X2_fillVisibleRow : GoodIn wsX2_holderSeenFrom wsX2_fillVisibleRow := goodIn_r _ [7, 1, 2, 8, 9, 10, 11, 12, 13, 14, 15, 16, 17, 18, 19, 20, 21, 22, 23, 24, 25, 26, 27, 28, 6, 29, 30, 31, 32, 33, 34, 35, 36, 37, 38, 39, 40, 41, 42, 43, 44, 45, 46, 47, 48, 49, 50, 51, 56, 57, 58, 59, 60, 61, 62, 63, 52, 53, 54, 55] (by decide +kernel) (by decide +kernel)
set_option maxRecDepth 20000 in
theorem gX2_holderSeenFrom_X2_fillVisibleRow : GoodIn wsX2_holderSeenFrom (wsV RX2 150 RX2 yX2_fillVisibleRow wsX2_fillVisibleRow) := goodIn_app (goodIn_of _ (by decide +kernel)) ggX2_holderSeenFrom_X2_fillVisibleRow
set_option maxRecDepth 20000 in
theorem ggX2_holderSeenFrom_X0_holds : GoodIn wsX2_holderSeenFrom wsX0_holds := goodIn_r _ [22, 23, 56, 57, 58, 59, 60, 61, 62, 63] (by decide +kernel) (by decide +kernel)
set_option maxRecDepth 20000 in
theorem gX2_holderSeenFrom_X0_holds_n71 : GoodIn wsX2_holderSeenFrom (wsX0_holds) := ggX2_holderSeenFrom_X0_holds
theorem dX2_holderSeenFrom_0 : decode cX2_holderSeenFrom 0 = .ok (.iload_n 2, 1) := by decide +kernel
theorem dX2_holderSeenFrom_1 : decode cX2_holderSeenFrom 1 = .ok (.iconst 2, 1) := by decide +kernel
theorem dX2_holderSeenFrom_2 : decode cX2_holderSeenFrom 2 = .ok (.if_icmp .ge 6, 3) := by decide +kernel
theorem dX2_holderSeenFrom_5 : decode cX2_holderSeenFrom 5 = .ok (.bipush 8, 2) := by decide +kernel
theorem dX2_holderSeenFrom_7 : decode cX2_holderSeenFrom 7 = .ok (.ireturn, 1) := by decide +kernel
theorem dX2_holderSeenFrom_8 : decode cX2_holderSeenFrom 8 = .ok (.aload_n 0, 1) := by decide +kernel
theorem dX2_holderSeenFrom_9 : decode cX2_holderSeenFrom 9 = .ok (.iload_n 1, 1) := by decide +kernel
theorem dX2_holderSeenFrom_10 : decode cX2_holderSeenFrom 10 = .ok (.iload_n 2, 1) := by decide +kernel
theorem dX2_holderSeenFrom_11 : decode cX2_holderSeenFrom 11 = .ok (.iconst 4, 1) := by decide +kernel
theorem dX2_holderSeenFrom_12 : decode cX2_holderSeenFrom 12 = .ok (.idiv, 1) := by decide +kernel
theorem dX2_holderSeenFrom_13 : decode cX2_holderSeenFrom 13 = .ok (.invokevirtual 150, 3) := by decide +kernel
theorem dX2_holderSeenFrom_16 : decode cX2_holderSeenFrom 16 = .ok (.iconst 0, 1) := by decide +kernel
theorem dX2_holderSeenFrom_17 : decode cX2_holderSeenFrom 17 = .ok (.istore_n 3, 1) := by decide +kernel
theorem dX2_holderSeenFrom_18 : decode cX2_holderSeenFrom 18 = .ok (.iload_n 3, 1) := by decide +kernel
theorem dX2_holderSeenFrom_19 : decode cX2_holderSeenFrom 19 = .ok (.aload_n 0, 1) := by decide +kernel
theorem dX2_holderSeenFrom_20 : decode cX2_holderSeenFrom 20 = .ok (.getfield 26, 3) := by decide +kernel
theorem dX2_holderSeenFrom_23 : decode cX2_holderSeenFrom 23 = .ok (.getfield 154, 3) := by decide +kernel
theorem dX2_holderSeenFrom_26 : decode cX2_holderSeenFrom 26 = .ok (.if_icmp .ge 40, 3) := by decide +kernel
theorem dX2_holderSeenFrom_29 : decode cX2_holderSeenFrom 29 = .ok (.aload_n 0, 1) := by decide +kernel
theorem dX2_holderSeenFrom_30 : decode cX2_holderSeenFrom 30 = .ok (.getfield 11, 3) := by decide +kernel
theorem dX2_holderSeenFrom_33 : decode cX2_holderSeenFrom 33 = .ok (.aload_n 0, 1) := by decide +kernel
theorem dX2_holderSeenFrom_34 : decode cX2_holderSeenFrom 34 = .ok (.getfield 26, 3) := by decide +kernel
theorem dX2_holderSeenFrom_37 : decode cX2_holderSeenFrom 37 = .ok (.getfield 157, 3) := by decide +kernel
theorem dX2_holderSeenFrom_40 : decode cX2_holderSeenFrom 40 = .ok (.iload_n 3, 1) := by decide +kernel
theorem dX2_holderSeenFrom_41 : decode cX2_holderSeenFrom 41 = .ok (.iaload, 1) := by decide +kernel
theorem dX2_holderSeenFrom_42 : decode cX2_holderSeenFrom 42 = .ok (.aaload, 1) := by decide +kernel
theorem dX2_holderSeenFrom_43 : decode cX2_holderSeenFrom 43 = .ok (.iload_n 2, 1) := by decide +kernel
theorem dX2_holderSeenFrom_44 : decode cX2_holderSeenFrom 44 = .ok (.invokevirtual 71, 3) := by decide +kernel
theorem dX2_holderSeenFrom_47 : decode cX2_holderSeenFrom 47 = .ok (.ifCond .eq 13, 3) := by decide +kernel
theorem dX2_holderSeenFrom_50 : decode cX2_holderSeenFrom 50 = .ok (.aload_n 0, 1) := by decide +kernel
theorem dX2_holderSeenFrom_51 : decode cX2_holderSeenFrom 51 = .ok (.getfield 26, 3) := by decide +kernel
theorem dX2_holderSeenFrom_54 : decode cX2_holderSeenFrom 54 = .ok (.getfield 157, 3) := by decide +kernel
theorem dX2_holderSeenFrom_57 : decode cX2_holderSeenFrom 57 = .ok (.iload_n 3, 1) := by decide +kernel
theorem dX2_holderSeenFrom_58 : decode cX2_holderSeenFrom 58 = .ok (.iaload, 1) := by decide +kernel
theorem dX2_holderSeenFrom_59 : decode cX2_holderSeenFrom 59 = .ok (.ireturn, 1) := by decide +kernel
theorem dX2_holderSeenFrom_60 : decode cX2_holderSeenFrom 60 = .ok (.iinc 3 1, 3) := by decide +kernel
theorem dX2_holderSeenFrom_63 : decode cX2_holderSeenFrom 63 = .ok (.goto (-45), 3) := by decide +kernel
theorem dX2_holderSeenFrom_66 : decode cX2_holderSeenFrom 66 = .ok (.iconst (-1), 1) := by decide +kernel
theorem dX2_holderSeenFrom_67 : decode cX2_holderSeenFrom 67 = .ok (.ireturn, 1) := by decide +kernel
set_option maxRecDepth 20000 in
theorem ggX2_fillVisibleRow_X1_clear : GoodIn wsX2_fillVisibleRow wsX1_clear := goodIn_r _ [6, 7, 8, 9, 56, 57, 58, 59] (by decide +kernel) (by decide +kernel)
set_option maxRecDepth 20000 in
theorem gX2_fillVisibleRow_X1_clear_n181 : GoodIn wsX2_fillVisibleRow (wsX1_clear) := ggX2_fillVisibleRow_X1_clear
set_option maxRecDepth 20000 in
theorem ggX2_fillVisibleRow_X0_hasPath : GoodIn wsX2_fillVisibleRow wsX0_hasPath := goodIn_r _ [13, 14, 15, 16, 11, 17, 18, 48, 49, 50, 51, 52, 53, 54, 55] (by decide +kernel) (by decide +kernel)
set_option maxRecDepth 20000 in
theorem gX2_fillVisibleRow_X0_hasPath_n187 : GoodIn wsX2_fillVisibleRow (wsX0_hasPath) := ggX2_fillVisibleRow_X0_hasPath
set_option maxRecDepth 20000 in
theorem ggX2_fillVisibleRow_X1_addOnceIf : GoodIn wsX2_fillVisibleRow wsX1_addOnceIf := goodIn_r _ [21, 7, 8, 22, 23, 24, 25, 26, 27, 56, 57, 58, 59] (by decide +kernel) (by decide +kernel)
set_option maxRecDepth 20000 in
theorem gX2_fillVisibleRow_X1_addOnceIf_n190 : GoodIn wsX2_fillVisibleRow (wsX1_addOnceIf) := ggX2_fillVisibleRow_X1_addOnceIf
set_option maxRecDepth 20000 in
theorem ggX2_fillVisibleRow_X2_isIn : GoodIn wsX2_fillVisibleRow wsX2_isIn := goodIn_r _ [25] (by decide +kernel) (by decide +kernel)
set_option maxRecDepth 20000 in
theorem gX2_fillVisibleRow_X2_isIn : GoodIn wsX2_fillVisibleRow (va_wsS RX2 108 yX2_isIn wsX2_isIn) := goodIn_app (goodIn_of _ (by decide +kernel)) ggX2_fillVisibleRow_X2_isIn
set_option maxRecDepth 20000 in
theorem ggX2_fillVisibleRow_X2_addExportedRow : GoodIn wsX2_fillVisibleRow wsX2_addExportedRow := goodIn_r _ [32, 1, 2, 33, 34, 35, 24, 36, 37, 38, 39, 40, 28, 23, 25, 41, 26, 27, 10, 11, 12, 13, 14, 15, 16, 17, 18, 19, 4, 20, 21, 7, 8, 22, 29, 30, 31, 42, 43, 44, 45, 46, 47, 56, 57, 58, 59, 48, 49, 50, 51, 52, 53, 54, 55] (by decide +kernel) (by decide +kernel)
set_option maxRecDepth 20000 in
theorem gX2_fillVisibleRow_X2_addExportedRow : GoodIn wsX2_fillVisibleRow (wsV RX2 197 RX2 yX2_addExportedRow wsX2_addExportedRow) := goodIn_app (goodIn_of _ (by decide +kernel)) ggX2_fillVisibleRow_X2_addExportedRow
theorem dX2_fillVisibleRow_0 : decode cX2_fillVisibleRow 0 = .ok (.aload_n 0, 1) := by decide +kernel
theorem dX2_fillVisibleRow_1 : decode cX2_fillVisibleRow 1 = .ok (.getfield 26, 3) := by decide +kernel
theorem dX2_fillVisibleRow_4 : decode cX2_fillVisibleRow 4 = .ok (.invokevirtual 181, 3) := by decide +kernel
theorem dX2_fillVisibleRow_7 : decode cX2_fillVisibleRow 7 = .ok (.aload_n 0, 1) := by decide +kernel
theorem dX2_fillVisibleRow_8 : decode cX2_fillVisibleRow 8 = .ok (.getfield 11, 3) := by decide +kernel
theorem dX2_fillVisibleRow_11 : decode cX2_fillVisibleRow 11 = .ok (.iload_n 1, 1) := by decide +kernel
theorem dX2_fillVisibleRow_12 : decode cX2_fillVisibleRow 12 = .ok (.aaload, 1) := by decide +kernel
theorem dX2_fillVisibleRow_13 : decode cX2_fillVisibleRow 13 = .ok (.astore_n 3, 1) := by decide +kernel
theorem dX2_fillVisibleRow_14 : decode cX2_fillVisibleRow 14 = .ok (.iconst 0, 1) := by decide +kernel
theorem dX2_fillVisibleRow_15 : decode cX2_fillVisibleRow 15 = .ok (.istore 4, 2) := by decide +kernel
theorem dX2_fillVisibleRow_17 : decode cX2_fillVisibleRow 17 = .ok (.iload 4, 2) := by decide +kernel
theorem dX2_fillVisibleRow_19 : decode cX2_fillVisibleRow 19 = .ok (.aload_n 3, 1) := by decide +kernel
theorem dX2_fillVisibleRow_20 : decode cX2_fillVisibleRow 20 = .ok (.getfield 88, 3) := by decide +kernel
theorem dX2_fillVisibleRow_23 : decode cX2_fillVisibleRow 23 = .ok (.if_icmp .ge 63, 3) := by decide +kernel
theorem dX2_fillVisibleRow_26 : decode cX2_fillVisibleRow 26 = .ok (.aload_n 3, 1) := by decide +kernel
theorem dX2_fillVisibleRow_27 : decode cX2_fillVisibleRow 27 = .ok (.getfield 184, 3) := by decide +kernel
theorem dX2_fillVisibleRow_30 : decode cX2_fillVisibleRow 30 = .ok (.iload 4, 2) := by decide +kernel
theorem dX2_fillVisibleRow_32 : decode cX2_fillVisibleRow 32 = .ok (.iaload, 1) := by decide +kernel
theorem dX2_fillVisibleRow_33 : decode cX2_fillVisibleRow 33 = .ok (.iconst (-1), 1) := by decide +kernel
theorem dX2_fillVisibleRow_34 : decode cX2_fillVisibleRow 34 = .ok (.if_icmp .ne 19, 3) := by decide +kernel
theorem dX2_fillVisibleRow_37 : decode cX2_fillVisibleRow 37 = .ok (.aload_n 0, 1) := by decide +kernel
theorem dX2_fillVisibleRow_38 : decode cX2_fillVisibleRow 38 = .ok (.getfield 26, 3) := by decide +kernel
theorem dX2_fillVisibleRow_41 : decode cX2_fillVisibleRow 41 = .ok (.aload_n 3, 1) := by decide +kernel
theorem dX2_fillVisibleRow_42 : decode cX2_fillVisibleRow 42 = .ok (.iload_n 2, 1) := by decide +kernel
theorem dX2_fillVisibleRow_43 : decode cX2_fillVisibleRow 43 = .ok (.invokevirtual 187, 3) := by decide +kernel
theorem dX2_fillVisibleRow_46 : decode cX2_fillVisibleRow 46 = .ok (.iload_n 1, 1) := by decide +kernel
theorem dX2_fillVisibleRow_47 : decode cX2_fillVisibleRow 47 = .ok (.invokevirtual 190, 3) := by decide +kernel
theorem dX2_fillVisibleRow_50 : decode cX2_fillVisibleRow 50 = .ok (.goto 30, 3) := by decide +kernel
theorem dX2_fillVisibleRow_53 : decode cX2_fillVisibleRow 53 = .ok (.aload_n 3, 1) := by decide +kernel
theorem dX2_fillVisibleRow_54 : decode cX2_fillVisibleRow 54 = .ok (.getfield 194, 3) := by decide +kernel
theorem dX2_fillVisibleRow_57 : decode cX2_fillVisibleRow 57 = .ok (.iload 4, 2) := by decide +kernel
theorem dX2_fillVisibleRow_59 : decode cX2_fillVisibleRow 59 = .ok (.iaload, 1) := by decide +kernel
theorem dX2_fillVisibleRow_60 : decode cX2_fillVisibleRow 60 = .ok (.iload_n 2, 1) := by decide +kernel
theorem dX2_fillVisibleRow_61 : decode cX2_fillVisibleRow 61 = .ok (.invokestatic 108, 3) := by decide +kernel
theorem dX2_fillVisibleRow_64 : decode cX2_fillVisibleRow 64 = .ok (.ifCond .eq 16, 3) := by decide +kernel
theorem dX2_fillVisibleRow_67 : decode cX2_fillVisibleRow 67 = .ok (.aload_n 0, 1) := by decide +kernel
theorem dX2_fillVisibleRow_68 : decode cX2_fillVisibleRow 68 = .ok (.aload_n 3, 1) := by decide +kernel
theorem dX2_fillVisibleRow_69 : decode cX2_fillVisibleRow 69 = .ok (.getfield 184, 3) := by decide +kernel
theorem dX2_fillVisibleRow_72 : decode cX2_fillVisibleRow 72 = .ok (.iload 4, 2) := by decide +kernel
theorem dX2_fillVisibleRow_74 : decode cX2_fillVisibleRow 74 = .ok (.iaload, 1) := by decide +kernel
theorem dX2_fillVisibleRow_75 : decode cX2_fillVisibleRow 75 = .ok (.iload_n 2, 1) := by decide +kernel
theorem dX2_fillVisibleRow_76 : decode cX2_fillVisibleRow 76 = .ok (.iconst 1, 1) := by decide +kernel
theorem dX2_fillVisibleRow_77 : decode cX2_fillVisibleRow 77 = .ok (.invokevirtual 197, 3) := by decide +kernel
theorem dX2_fillVisibleRow_80 : decode cX2_fillVisibleRow 80 = .ok (.iinc 4 1, 3) := by decide +kernel
theorem dX2_fillVisibleRow_83 : decode cX2_fillVisibleRow 83 = .ok (.goto (-66), 3) := by decide +kernel
theorem dX2_fillVisibleRow_86 : decode cX2_fillVisibleRow 86 = .ok (.return_, 1) := by decide +kernel
set_option maxRecDepth 20000 in
theorem ggX2_addExportedRow_X2_isLoaded : GoodIn wsX2_addExportedRow wsX2_isLoaded := goodIn_r _ [7, 8, 9, 10, 6, 11, 12, 13, 14, 37, 38, 39, 40, 41, 42] (by decide +kernel) (by decide +kernel)
set_option maxRecDepth 20000 in
theorem gX2_addExportedRow_X2_isLoaded : GoodIn wsX2_addExportedRow (wsV RX2 68 RX2 yX2_isLoaded wsX2_isLoaded) := goodIn_app (goodIn_of _ (by decide +kernel)) ggX2_addExportedRow_X2_isLoaded
set_option maxRecDepth 20000 in
theorem ggX2_addExportedRow_X2_isIn : GoodIn wsX2_addExportedRow wsX2_isIn := goodIn_r _ [14] (by decide +kernel) (by decide +kernel)
set_option maxRecDepth 20000 in
theorem gX2_addExportedRow_X2_isIn : GoodIn wsX2_addExportedRow (va_wsS RX2 108 yX2_isIn wsX2_isIn) := goodIn_app (goodIn_of _ (by decide +kernel)) ggX2_addExportedRow_X2_isIn
set_option maxRecDepth 20000 in
theorem ggX2_addExportedRow_X2_bit : GoodIn wsX2_addExportedRow wsX2_bit := goodIn_r _ [17] (by decide +kernel) (by decide +kernel)
set_option maxRecDepth 20000 in
theorem gX2_addExportedRow_X2_bit : GoodIn wsX2_addExportedRow (va_wsS RX2 56 yX2_bit wsX2_bit) := goodIn_app (goodIn_of _ (by decide +kernel)) ggX2_addExportedRow_X2_bit
set_option maxRecDepth 20000 in
theorem ggX2_addExportedRow_X0_hasPath : GoodIn wsX2_addExportedRow wsX0_hasPath := goodIn_r _ [21, 22, 23, 24, 19, 25, 26, 47, 48, 49, 50, 51, 52, 53, 54] (by decide +kernel) (by decide +kernel)
set_option maxRecDepth 20000 in
theorem gX2_addExportedRow_X0_hasPath_n187 : GoodIn wsX2_addExportedRow (wsX0_hasPath) := ggX2_addExportedRow_X0_hasPath
set_option maxRecDepth 20000 in
theorem ggX2_addExportedRow_X1_addOnceIf : GoodIn wsX2_addExportedRow wsX1_addOnceIf := goodIn_r _ [30, 31, 32, 33, 13, 6, 14, 16, 17, 43, 44, 45, 46] (by decide +kernel) (by decide +kernel)
set_option maxRecDepth 20000 in
theorem gX2_addExportedRow_X1_addOnceIf_n190 : GoodIn wsX2_addExportedRow (wsX1_addOnceIf) := ggX2_addExportedRow_X1_addOnceIf
set_option maxRecDepth 20000 in
theorem ggX2_addExportedRow_X2_addExportedRow : GoodIn wsX2_addExportedRow wsX2_addExportedRow := goodIn_r _ [0, 1, 2, 3, 4, 5, 6, 7, 8, 9, 10, 11, 12, 13, 14, 15, 16, 17, 18, 19, 20, 21, 22, 23, 24, 25, 26, 27, 28, 29, 30, 31, 32, 33, 34, 35, 36, 37, 38, 39, 40, 41, 42, 43, 44, 45, 46, 47, 48, 49, 50, 51, 52, 53, 54] (by decide +kernel) (by decide +kernel)
set_option maxRecDepth 20000 in
theorem gX2_addExportedRow_X2_addExportedRow : GoodIn wsX2_addExportedRow (wsV RX2 197 RX2 yX2_addExportedRow wsX2_addExportedRow) := goodIn_app (goodIn_of _ (by decide +kernel)) ggX2_addExportedRow_X2_addExportedRow
theorem dX2_addExportedRow_0 : decode cX2_addExportedRow 0 = .ok (.iload_n 3, 1) := by decide +kernel
theorem dX2_addExportedRow_1 : decode cX2_addExportedRow 1 = .ok (.bipush 8, 2) := by decide +kernel
theorem dX2_addExportedRow_3 : decode cX2_addExportedRow 3 = .ok (.if_icmp .gt 25, 3) := by decide +kernel
theorem dX2_addExportedRow_6 : decode cX2_addExportedRow 6 = .ok (.aload_n 0, 1) := by decide +kernel
theorem dX2_addExportedRow_7 : decode cX2_addExportedRow 7 = .ok (.iload_n 1, 1) := by decide +kernel
theorem dX2_addExportedRow_8 : decode cX2_addExportedRow 8 = .ok (.invokevirtual 68, 3) := by decide +kernel
theorem dX2_addExportedRow_11 : decode cX2_addExportedRow 11 = .ok (.ifCond .eq 17, 3) := by decide +kernel
theorem dX2_addExportedRow_14 : decode cX2_addExportedRow 14 = .ok (.aload_n 0, 1) := by decide +kernel
theorem dX2_addExportedRow_15 : decode cX2_addExportedRow 15 = .ok (.getfield 26, 3) := by decide +kernel
theorem dX2_addExportedRow_18 : decode cX2_addExportedRow 18 = .ok (.getfield 201, 3) := by decide +kernel
theorem dX2_addExportedRow_21 : decode cX2_addExportedRow 21 = .ok (.iload_n 1, 1) := by decide +kernel
theorem dX2_addExportedRow_22 : decode cX2_addExportedRow 22 = .ok (.invokestatic 108, 3) := by decide +kernel
theorem dX2_addExportedRow_25 : decode cX2_addExportedRow 25 = .ok (.ifCond .eq 4, 3) := by decide +kernel
theorem dX2_addExportedRow_28 : decode cX2_addExportedRow 28 = .ok (.return_, 1) := by decide +kernel
theorem dX2_addExportedRow_29 : decode cX2_addExportedRow 29 = .ok (.aload_n 0, 1) := by decide +kernel
theorem dX2_addExportedRow_30 : decode cX2_addExportedRow 30 = .ok (.getfield 26, 3) := by decide +kernel
theorem dX2_addExportedRow_33 : decode cX2_addExportedRow 33 = .ok (.dup, 1) := by decide +kernel
theorem dX2_addExportedRow_34 : decode cX2_addExportedRow 34 = .ok (.getfield 201, 3) := by decide +kernel
theorem dX2_addExportedRow_37 : decode cX2_addExportedRow 37 = .ok (.iload_n 1, 1) := by decide +kernel
theorem dX2_addExportedRow_38 : decode cX2_addExportedRow 38 = .ok (.invokestatic 56, 3) := by decide +kernel
theorem dX2_addExportedRow_41 : decode cX2_addExportedRow 41 = .ok (.ior, 1) := by decide +kernel
theorem dX2_addExportedRow_42 : decode cX2_addExportedRow 42 = .ok (.putfield 201, 3) := by decide +kernel
theorem dX2_addExportedRow_45 : decode cX2_addExportedRow 45 = .ok (.aload_n 0, 1) := by decide +kernel
theorem dX2_addExportedRow_46 : decode cX2_addExportedRow 46 = .ok (.getfield 11, 3) := by decide +kernel
theorem dX2_addExportedRow_49 : decode cX2_addExportedRow 49 = .ok (.iload_n 1, 1) := by decide +kernel
theorem dX2_addExportedRow_50 : decode cX2_addExportedRow 50 = .ok (.aaload, 1) := by decide +kernel
theorem dX2_addExportedRow_51 : decode cX2_addExportedRow 51 = .ok (.astore 4, 2) := by decide +kernel
theorem dX2_addExportedRow_53 : decode cX2_addExportedRow 53 = .ok (.iconst 0, 1) := by decide +kernel
theorem dX2_addExportedRow_54 : decode cX2_addExportedRow 54 = .ok (.istore 5, 2) := by decide +kernel
theorem dX2_addExportedRow_56 : decode cX2_addExportedRow 56 = .ok (.iload 5, 2) := by decide +kernel
theorem dX2_addExportedRow_58 : decode cX2_addExportedRow 58 = .ok (.aload 4, 2) := by decide +kernel
theorem dX2_addExportedRow_60 : decode cX2_addExportedRow 60 = .ok (.getfield 88, 3) := by decide +kernel
theorem dX2_addExportedRow_63 : decode cX2_addExportedRow 63 = .ok (.if_icmp .ge 78, 3) := by decide +kernel
theorem dX2_addExportedRow_66 : decode cX2_addExportedRow 66 = .ok (.aload 4, 2) := by decide +kernel
theorem dX2_addExportedRow_68 : decode cX2_addExportedRow 68 = .ok (.getfield 184, 3) := by decide +kernel
theorem dX2_addExportedRow_71 : decode cX2_addExportedRow 71 = .ok (.iload 5, 2) := by decide +kernel
theorem dX2_addExportedRow_73 : decode cX2_addExportedRow 73 = .ok (.iaload, 1) := by decide +kernel
theorem dX2_addExportedRow_74 : decode cX2_addExportedRow 74 = .ok (.iconst (-1), 1) := by decide +kernel
theorem dX2_addExportedRow_75 : decode cX2_addExportedRow 75 = .ok (.if_icmp .ne 20, 3) := by decide +kernel
theorem dX2_addExportedRow_78 : decode cX2_addExportedRow 78 = .ok (.aload_n 0, 1) := by decide +kernel
theorem dX2_addExportedRow_79 : decode cX2_addExportedRow 79 = .ok (.getfield 26, 3) := by decide +kernel
theorem dX2_addExportedRow_82 : decode cX2_addExportedRow 82 = .ok (.aload 4, 2) := by decide +kernel
theorem dX2_addExportedRow_84 : decode cX2_addExportedRow 84 = .ok (.iload_n 2, 1) := by decide +kernel
theorem dX2_addExportedRow_85 : decode cX2_addExportedRow 85 = .ok (.invokevirtual 187, 3) := by decide +kernel
theorem dX2_addExportedRow_88 : decode cX2_addExportedRow 88 = .ok (.iload_n 1, 1) := by decide +kernel
theorem dX2_addExportedRow_89 : decode cX2_addExportedRow 89 = .ok (.invokevirtual 190, 3) := by decide +kernel
theorem dX2_addExportedRow_92 : decode cX2_addExportedRow 92 = .ok (.goto 43, 3) := by decide +kernel
theorem dX2_addExportedRow_95 : decode cX2_addExportedRow 95 = .ok (.aload 4, 2) := by decide +kernel
theorem dX2_addExportedRow_97 : decode cX2_addExportedRow 97 = .ok (.getfield 194, 3) := by decide +kernel
theorem dX2_addExportedRow_100 : decode cX2_addExportedRow 100 = .ok (.iload 5, 2) := by decide +kernel
theorem dX2_addExportedRow_102 : decode cX2_addExportedRow 102 = .ok (.iaload, 1) := by decide +kernel
theorem dX2_addExportedRow_103 : decode cX2_addExportedRow 103 = .ok (.aload 4, 2) := by decide +kernel
theorem dX2_addExportedRow_105 : decode cX2_addExportedRow 105 = .ok (.getfield 204, 3) := by decide +kernel
theorem dX2_addExportedRow_108 : decode cX2_addExportedRow 108 = .ok (.iload 5, 2) := by decide +kernel
theorem dX2_addExportedRow_110 : decode cX2_addExportedRow 110 = .ok (.iaload, 1) := by decide +kernel
theorem dX2_addExportedRow_111 : decode cX2_addExportedRow 111 = .ok (.iand, 1) := by decide +kernel
theorem dX2_addExportedRow_112 : decode cX2_addExportedRow 112 = .ok (.iload_n 2, 1) := by decide +kernel
theorem dX2_addExportedRow_113 : decode cX2_addExportedRow 113 = .ok (.invokestatic 108, 3) := by decide +kernel
theorem dX2_addExportedRow_116 : decode cX2_addExportedRow 116 = .ok (.ifCond .eq 19, 3) := by decide +kernel
theorem dX2_addExportedRow_119 : decode cX2_addExportedRow 119 = .ok (.aload_n 0, 1) := by decide +kernel
theorem dX2_addExportedRow_120 : decode cX2_addExportedRow 120 = .ok (.aload 4, 2) := by decide +kernel
theorem dX2_addExportedRow_122 : decode cX2_addExportedRow 122 = .ok (.getfield 184, 3) := by decide +kernel
theorem dX2_addExportedRow_125 : decode cX2_addExportedRow 125 = .ok (.iload 5, 2) := by decide +kernel
theorem dX2_addExportedRow_127 : decode cX2_addExportedRow 127 = .ok (.iaload, 1) := by decide +kernel
theorem dX2_addExportedRow_128 : decode cX2_addExportedRow 128 = .ok (.iload_n 2, 1) := by decide +kernel
theorem dX2_addExportedRow_129 : decode cX2_addExportedRow 129 = .ok (.iload_n 3, 1) := by decide +kernel
theorem dX2_addExportedRow_130 : decode cX2_addExportedRow 130 = .ok (.iconst 1, 1) := by decide +kernel
theorem dX2_addExportedRow_131 : decode cX2_addExportedRow 131 = .ok (.iadd, 1) := by decide +kernel
theorem dX2_addExportedRow_132 : decode cX2_addExportedRow 132 = .ok (.invokevirtual 197, 3) := by decide +kernel
theorem dX2_addExportedRow_135 : decode cX2_addExportedRow 135 = .ok (.iinc 5 1, 3) := by decide +kernel
theorem dX2_addExportedRow_138 : decode cX2_addExportedRow 138 = .ok (.goto (-82), 3) := by decide +kernel
theorem dX2_addExportedRow_141 : decode cX2_addExportedRow 141 = .ok (.return_, 1) := by decide +kernel
set_option maxRecDepth 20000 in
theorem ggX2_defineWithAllAbove_X2_needsNoDefining : GoodIn wsX2_defineWithAllAbove wsX2_needsNoDefining := goodIn_r _ [8, 3, 9, 10, 11, 12, 13, 64, 65, 66, 67, 68, 69, 70, 71, 72, 73, 74, 75, 76, 77] (by decide +kernel) (by decide +kernel)
set_option maxRecDepth 20000 in
theorem gX2_defineWithAllAbove_X2_needsNoDefining : GoodIn wsX2_defineWithAllAbove (wsV RX2 207 RX2 yX2_needsNoDefining wsX2_needsNoDefining) := goodIn_app (goodIn_of _ (by decide +kernel)) ggX2_defineWithAllAbove_X2_needsNoDefining
set_option maxRecDepth 20000 in
theorem ggX2_defineWithAllAbove_X2_holderSeenFrom : GoodIn wsX2_defineWithAllAbove wsX2_holderSeenFrom := goodIn_r _ [17, 18, 3, 19, 20, 21, 7, 22, 23, 24, 25, 26, 27, 28, 29, 30, 10, 31, 32, 33, 34, 35, 36, 37, 38, 39, 40, 41, 42, 43, 44, 45, 46, 47, 48, 49, 50, 51, 52, 53, 54, 55, 56, 57, 58, 59, 64, 65, 66, 67, 68, 69, 78, 79, 80, 81, 70, 71, 72, 73, 74, 75, 76, 77] (by decide +kernel) (by decide +kernel)
set_option maxRecDepth 20000 in
theorem gX2_defineWithAllAbove_X2_holderSeenFrom : GoodIn wsX2_defineWithAllAbove (wsV RX2 140 RX2 yX2_holderSeenFrom wsX2_holderSeenFrom) := goodIn_app (goodIn_of _ (by decide +kernel)) ggX2_defineWithAllAbove_X2_holderSeenFrom
set_option maxRecDepth 20000 in
theorem ggX2_defineWithAllAbove_X2_defineChain : GoodIn wsX2_defineWithAllAbove wsX2_defineChain := goodIn_r _ [63, 3, 1, 2, 64, 65, 66, 67, 68, 69, 70, 71, 72, 73, 74, 75, 76, 77] (by decide +kernel) (by decide +kernel)
set_option maxRecDepth 20000 in
theorem gX2_defineWithAllAbove_X2_defineChain : GoodIn wsX2_defineWithAllAbove (wsV RX2 210 RX2 yX2_defineChain wsX2_defineChain) := goodIn_app (goodIn_of _ (by decide +kernel)) ggX2_defineWithAllAbove_X2_defineChain
theorem dX2_defineWithAllAbove_0 : decode cX2_defineWithAllAbove 0 = .ok (.iload_n 1, 1) := by decide +kernel
theorem dX2_defineWithAllAbove_1 : decode cX2_defineWithAllAbove 1 = .ok (.istore_n 3, 1) := by decide +kernel
theorem dX2_defineWithAllAbove_2 : decode cX2_defineWithAllAbove 2 = .ok (.iload_n 2, 1) := by decide +kernel
theorem dX2_defineWithAllAbove_3 : decode cX2_defineWithAllAbove 3 = .ok (.istore 4, 2) := by decide +kernel
theorem dX2_defineWithAllAbove_5 : decode cX2_defineWithAllAbove 5 = .ok (.iconst 0, 1) := by decide +kernel
theorem dX2_defineWithAllAbove_6 : decode cX2_defineWithAllAbove 6 = .ok (.istore 5, 2) := by decide +kernel
theorem dX2_defineWithAllAbove_8 : decode cX2_defineWithAllAbove 8 = .ok (.iload 5, 2) := by decide +kernel
theorem dX2_defineWithAllAbove_10 : decode cX2_defineWithAllAbove 10 = .ok (.bipush 10, 2) := by decide +kernel
theorem dX2_defineWithAllAbove_12 : decode cX2_defineWithAllAbove 12 = .ok (.if_icmp .ge 82, 3) := by decide +kernel
theorem dX2_defineWithAllAbove_15 : decode cX2_defineWithAllAbove 15 = .ok (.aload_n 0, 1) := by decide +kernel
theorem dX2_defineWithAllAbove_16 : decode cX2_defineWithAllAbove 16 = .ok (.iload_n 3, 1) := by decide +kernel
theorem dX2_defineWithAllAbove_17 : decode cX2_defineWithAllAbove 17 = .ok (.iload 4, 2) := by decide +kernel
theorem dX2_defineWithAllAbove_19 : decode cX2_defineWithAllAbove 19 = .ok (.invokevirtual 207, 3) := by decide +kernel
theorem dX2_defineWithAllAbove_22 : decode cX2_defineWithAllAbove 22 = .ok (.ifCond .ne 72, 3) := by decide +kernel
theorem dX2_defineWithAllAbove_25 : decode cX2_defineWithAllAbove 25 = .ok (.aload_n 0, 1) := by decide +kernel
theorem dX2_defineWithAllAbove_26 : decode cX2_defineWithAllAbove 26 = .ok (.getfield 30, 3) := by decide +kernel
theorem dX2_defineWithAllAbove_29 : decode cX2_defineWithAllAbove 29 = .ok (.iload 5, 2) := by decide +kernel
theorem dX2_defineWithAllAbove_31 : decode cX2_defineWithAllAbove 31 = .ok (.iload_n 3, 1) := by decide +kernel
theorem dX2_defineWithAllAbove_32 : decode cX2_defineWithAllAbove 32 = .ok (.iastore, 1) := by decide +kernel
theorem dX2_defineWithAllAbove_33 : decode cX2_defineWithAllAbove 33 = .ok (.aload_n 0, 1) := by decide +kernel
theorem dX2_defineWithAllAbove_34 : decode cX2_defineWithAllAbove 34 = .ok (.getfield 34, 3) := by decide +kernel
theorem dX2_defineWithAllAbove_37 : decode cX2_defineWithAllAbove 37 = .ok (.iload 5, 2) := by decide +kernel
theorem dX2_defineWithAllAbove_39 : decode cX2_defineWithAllAbove 39 = .ok (.iload 4, 2) := by decide +kernel
theorem dX2_defineWithAllAbove_41 : decode cX2_defineWithAllAbove 41 = .ok (.iastore, 1) := by decide +kernel
theorem dX2_defineWithAllAbove_42 : decode cX2_defineWithAllAbove 42 = .ok (.iinc 5 1, 3) := by decide +kernel
theorem dX2_defineWithAllAbove_45 : decode cX2_defineWithAllAbove 45 = .ok (.aload_n 0, 1) := by decide +kernel
theorem dX2_defineWithAllAbove_46 : decode cX2_defineWithAllAbove 46 = .ok (.getfield 11, 3) := by decide +kernel
theorem dX2_defineWithAllAbove_49 : decode cX2_defineWithAllAbove 49 = .ok (.iload_n 3, 1) := by decide +kernel
theorem dX2_defineWithAllAbove_50 : decode cX2_defineWithAllAbove 50 = .ok (.aaload, 1) := by decide +kernel
theorem dX2_defineWithAllAbove_51 : decode cX2_defineWithAllAbove 51 = .ok (.getfield 76, 3) := by decide +kernel
theorem dX2_defineWithAllAbove_54 : decode cX2_defineWithAllAbove 54 = .ok (.iload 4, 2) := by decide +kernel
theorem dX2_defineWithAllAbove_56 : decode cX2_defineWithAllAbove 56 = .ok (.iaload, 1) := by decide +kernel
theorem dX2_defineWithAllAbove_57 : decode cX2_defineWithAllAbove 57 = .ok (.istore 4, 2) := by decide +kernel
theorem dX2_defineWithAllAbove_59 : decode cX2_defineWithAllAbove 59 = .ok (.iload 4, 2) := by decide +kernel
theorem dX2_defineWithAllAbove_61 : decode cX2_defineWithAllAbove 61 = .ok (.bipush (-2), 2) := by decide +kernel
theorem dX2_defineWithAllAbove_63 : decode cX2_defineWithAllAbove 63 = .ok (.if_icmp .ne 5, 3) := by decide +kernel
theorem dX2_defineWithAllAbove_66 : decode cX2_defineWithAllAbove 66 = .ok (.iconst 0, 1) := by decide +kernel
theorem dX2_defineWithAllAbove_67 : decode cX2_defineWithAllAbove 67 = .ok (.ireturn, 1) := by decide +kernel
theorem dX2_defineWithAllAbove_68 : decode cX2_defineWithAllAbove 68 = .ok (.iload 4, 2) := by decide +kernel
theorem dX2_defineWithAllAbove_70 : decode cX2_defineWithAllAbove 70 = .ok (.iconst (-1), 1) := by decide +kernel
theorem dX2_defineWithAllAbove_71 : decode cX2_defineWithAllAbove 71 = .ok (.if_icmp .ne 8, 3) := by decide +kernel
theorem dX2_defineWithAllAbove_74 : decode cX2_defineWithAllAbove 74 = .ok (.bipush 9, 2) := by decide +kernel
theorem dX2_defineWithAllAbove_76 : decode cX2_defineWithAllAbove 76 = .ok (.goto 10, 3) := by decide +kernel
theorem dX2_defineWithAllAbove_79 : decode cX2_defineWithAllAbove 79 = .ok (.aload_n 0, 1) := by decide +kernel
theorem dX2_defineWithAllAbove_80 : decode cX2_defineWithAllAbove 80 = .ok (.iload_n 3, 1) := by decide +kernel
theorem dX2_defineWithAllAbove_81 : decode cX2_defineWithAllAbove 81 = .ok (.iload 4, 2) := by decide +kernel
theorem dX2_defineWithAllAbove_83 : decode cX2_defineWithAllAbove 83 = .ok (.invokevirtual 140, 3) := by decide +kernel
theorem dX2_defineWithAllAbove_86 : decode cX2_defineWithAllAbove 86 = .ok (.istore_n 3, 1) := by decide +kernel
theorem dX2_defineWithAllAbove_87 : decode cX2_defineWithAllAbove 87 = .ok (.iload_n 3, 1) := by decide +kernel
theorem dX2_defineWithAllAbove_88 : decode cX2_defineWithAllAbove 88 = .ok (.iconst (-1), 1) := by decide +kernel
theorem dX2_defineWithAllAbove_89 : decode cX2_defineWithAllAbove 89 = .ok (.if_icmp .ne (-81), 3) := by decide +kernel
theorem dX2_defineWithAllAbove_92 : decode cX2_defineWithAllAbove 92 = .ok (.iconst 0, 1) := by decide +kernel
theorem dX2_defineWithAllAbove_93 : decode cX2_defineWithAllAbove 93 = .ok (.ireturn, 1) := by decide +kernel
theorem dX2_defineWithAllAbove_94 : decode cX2_defineWithAllAbove 94 = .ok (.aload_n 0, 1) := by decide +kernel
theorem dX2_defineWithAllAbove_95 : decode cX2_defineWithAllAbove 95 = .ok (.iload_n 3, 1) := by decide +kernel
theorem dX2_defineWithAllAbove_96 : decode cX2_defineWithAllAbove 96 = .ok (.iload 4, 2) := by decide +kernel
theorem dX2_defineWithAllAbove_98 : decode cX2_defineWithAllAbove 98 = .ok (.invokevirtual 207, 3) := by decide +kernel
theorem dX2_defineWithAllAbove_101 : decode cX2_defineWithAllAbove 101 = .ok (.ifCond .ne 5, 3) := by decide +kernel
theorem dX2_defineWithAllAbove_104 : decode cX2_defineWithAllAbove 104 = .ok (.iconst 0, 1) := by decide +kernel
theorem dX2_defineWithAllAbove_105 : decode cX2_defineWithAllAbove 105 = .ok (.ireturn, 1) := by decide +kernel
theorem dX2_defineWithAllAbove_106 : decode cX2_defineWithAllAbove 106 = .ok (.aload_n 0, 1) := by decide +kernel
theorem dX2_defineWithAllAbove_107 : decode cX2_defineWithAllAbove 107 = .ok (.iload 5, 2) := by decide +kernel
theorem dX2_defineWithAllAbove_109 : decode cX2_defineWithAllAbove 109 = .ok (.iload_n 3, 1) := by decide +kernel
theorem dX2_defineWithAllAbove_110 : decode cX2_defineWithAllAbove 110 = .ok (.invokevirtual 210, 3) := by decide +kernel
theorem dX2_defineWithAllAbove_113 : decode cX2_defineWithAllAbove 113 = .ok (.iconst 1, 1) := by decide +kernel
theorem dX2_defineWithAllAbove_114 : decode cX2_defineWithAllAbove 114 = .ok (.ireturn, 1) := by decide +kernel
set_option maxRecDepth 20000 in
theorem ggX2_needsNoDefining_X0_hasDefined : GoodIn wsX2_needsNoDefining wsX0_hasDefined := goodIn_r _ [5, 6, 13, 14, 15, 16, 17, 18, 19, 20] (by decide +kernel) (by decide +kernel)
set_option maxRecDepth 20000 in
theorem gX2_needsNoDefining_X0_hasDefined_n213 : GoodIn wsX2_needsNoDefining (wsX0_hasDefined) := ggX2_needsNoDefining_X0_hasDefined
theorem dX2_needsNoDefining_0 : decode cX2_needsNoDefining 0 = .ok (.iload_n 1, 1) := by decide +kernel
theorem dX2_needsNoDefining_1 : decode cX2_needsNoDefining 1 = .ok (.bipush 8, 2) := by decide +kernel
theorem dX2_needsNoDefining_3 : decode cX2_needsNoDefining 3 = .ok (.if_icmp .eq 22, 3) := by decide +kernel
theorem dX2_needsNoDefining_6 : decode cX2_needsNoDefining 6 = .ok (.iload_n 1, 1) := by decide +kernel
theorem dX2_needsNoDefining_7 : decode cX2_needsNoDefining 7 = .ok (.bipush 9, 2) := by decide +kernel
theorem dX2_needsNoDefining_9 : decode cX2_needsNoDefining 9 = .ok (.if_icmp .eq 16, 3) := by decide +kernel
theorem dX2_needsNoDefining_12 : decode cX2_needsNoDefining 12 = .ok (.aload_n 0, 1) := by decide +kernel
theorem dX2_needsNoDefining_13 : decode cX2_needsNoDefining 13 = .ok (.getfield 11, 3) := by decide +kernel
theorem dX2_needsNoDefining_16 : decode cX2_needsNoDefining 16 = .ok (.iload_n 1, 1) := by decide +kernel
theorem dX2_needsNoDefining_17 : decode cX2_needsNoDefining 17 = .ok (.aaload, 1) := by decide +kernel
theorem dX2_needsNoDefining_18 : decode cX2_needsNoDefining 18 = .ok (.iload_n 2, 1) := by decide +kernel
theorem dX2_needsNoDefining_19 : decode cX2_needsNoDefining 19 = .ok (.invokevirtual 213, 3) := by decide +kernel
theorem dX2_needsNoDefining_22 : decode cX2_needsNoDefining 22 = .ok (.ifCond .eq 7, 3) := by decide +kernel
theorem dX2_needsNoDefining_25 : decode cX2_needsNoDefining 25 = .ok (.iconst 1, 1) := by decide +kernel
theorem dX2_needsNoDefining_26 : decode cX2_needsNoDefining 26 = .ok (.goto 4, 3) := by decide +kernel
theorem dX2_needsNoDefining_29 : decode cX2_needsNoDefining 29 = .ok (.iconst 0, 1) := by decide +kernel
theorem dX2_needsNoDefining_30 : decode cX2_needsNoDefining 30 = .ok (.ireturn, 1) := by decide +kernel
theorem dX2_defineChain_0 : decode cX2_defineChain 0 = .ok (.iload_n 2, 1) := by decide +kernel
theorem dX2_defineChain_1 : decode cX2_defineChain 1 = .ok (.istore_n 3, 1) := by decide +kernel
theorem dX2_defineChain_2 : decode cX2_defineChain 2 = .ok (.iload_n 1, 1) := by decide +kernel
theorem dX2_defineChain_3 : decode cX2_defineChain 3 = .ok (.iconst 1, 1) := by decide +kernel
theorem dX2_defineChain_4 : decode cX2_defineChain 4 = .ok (.isub, 1) := by decide +kernel
theorem dX2_defineChain_5 : decode cX2_defineChain 5 = .ok (.istore 4, 2) := by decide +kernel
theorem dX2_defineChain_7 : decode cX2_defineChain 7 = .ok (.iload 4, 2) := by decide +kernel
theorem dX2_defineChain_9 : decode cX2_defineChain 9 = .ok (.ifCond .lt 41, 3) := by decide +kernel
theorem dX2_defineChain_12 : decode cX2_defineChain 12 = .ok (.aload_n 0, 1) := by decide +kernel
theorem dX2_defineChain_13 : decode cX2_defineChain 13 = .ok (.getfield 11, 3) := by decide +kernel
theorem dX2_defineChain_16 : decode cX2_defineChain 16 = .ok (.aload_n 0, 1) := by decide +kernel
theorem dX2_defineChain_17 : decode cX2_defineChain 17 = .ok (.getfield 30, 3) := by decide +kernel
theorem dX2_defineChain_20 : decode cX2_defineChain 20 = .ok (.iload 4, 2) := by decide +kernel
theorem dX2_defineChain_22 : decode cX2_defineChain 22 = .ok (.iaload, 1) := by decide +kernel
theorem dX2_defineChain_23 : decode cX2_defineChain 23 = .ok (.aaload, 1) := by decide +kernel
theorem dX2_defineChain_24 : decode cX2_defineChain 24 = .ok (.getfield 163, 3) := by decide +kernel
theorem dX2_defineChain_27 : decode cX2_defineChain 27 = .ok (.aload_n 0, 1) := by decide +kernel
theorem dX2_defineChain_28 : decode cX2_defineChain 28 = .ok (.getfield 34, 3) := by decide +kernel
theorem dX2_defineChain_31 : decode cX2_defineChain 31 = .ok (.iload 4, 2) := by decide +kernel
theorem dX2_defineChain_33 : decode cX2_defineChain 33 = .ok (.iaload, 1) := by decide +kernel
theorem dX2_defineChain_34 : decode cX2_defineChain 34 = .ok (.iload_n 3, 1) := by decide +kernel
theorem dX2_defineChain_35 : decode cX2_defineChain 35 = .ok (.iastore, 1) := by decide +kernel
theorem dX2_defineChain_36 : decode cX2_defineChain 36 = .ok (.aload_n 0, 1) := by decide +kernel
theorem dX2_defineChain_37 : decode cX2_defineChain 37 = .ok (.getfield 30, 3) := by decide +kernel
theorem dX2_defineChain_40 : decode cX2_defineChain 40 = .ok (.iload 4, 2) := by decide +kernel
theorem dX2_defineChain_42 : decode cX2_defineChain 42 = .ok (.iaload, 1) := by decide +kernel
theorem dX2_defineChain_43 : decode cX2_defineChain 43 = .ok (.istore_n 3, 1) := by decide +kernel
theorem dX2_defineChain_44 : decode cX2_defineChain 44 = .ok (.iinc 4 (-1), 3) := by decide +kernel
theorem dX2_defineChain_47 : decode cX2_defineChain 47 = .ok (.goto (-40), 3) := by decide +kernel
theorem dX2_defineChain_50 : decode cX2_defineChain 50 = .ok (.return_, 1) := by decide +kernel
theorem dX3_init_0 : decode cX3_init 0 = .ok (.aload_n 0, 1) := by decide +kernel
theorem dX3_init_1 : decode cX3_init 1 = .ok (.invokespecial 1, 3) := by decide +kernel
theorem dX3_init_4 : decode cX3_init 4 = .ok (.aload_n 0, 1) := by decide +kernel
theorem dX3_init_5 : decode cX3_init 5 = .ok (.bipush 8, 2) := by decide +kernel
theorem dX3_init_7 : decode cX3_init 7 = .ok (.newarray .boolean, 2) := by decide +kernel
theorem dX3_init_9 : decode cX3_init 9 = .ok (.putfield 7, 3) := by decide +kernel
theorem dX3_init_12 : decode cX3_init 12 = .ok (.aload_n 0, 1) := by decide +kernel
theorem dX3_init_13 : decode cX3_init 13 = .ok (.bipush 8, 2) := by decide +kernel
theorem dX3_init_15 : decode cX3_init 15 = .ok (.newarray .boolean, 2) := by decide +kernel
theorem dX3_init_17 : decode cX3_init 17 = .ok (.putfield 13, 3) := by decide +kernel
theorem dX3_init_20 : decode cX3_init 20 = .ok (.aload_n 0, 1) := by decide +kernel
theorem dX3_init_21 : decode cX3_init 21 = .ok (.bipush 8, 2) := by decide +kernel
theorem dX3_init_23 : decode cX3_init 23 = .ok (.newarray .boolean, 2) := by decide +kernel
theorem dX3_init_25 : decode cX3_init 25 = .ok (.putfield 16, 3) := by decide +kernel
theorem dX3_init_28 : decode cX3_init 28 = .ok (.aload_n 0, 1) := by decide +kernel
theorem dX3_init_29 : decode cX3_init 29 = .ok (.sipush 192, 3) := by decide +kernel
theorem dX3_init_32 : decode cX3_init 32 = .ok (.newarray .int, 2) := by decide +kernel
theorem dX3_init_34 : decode cX3_init 34 = .ok (.putfield 19, 3) := by decide +kernel
theorem dX3_init_37 : decode cX3_init 37 = .ok (.aload_n 0, 1) := by decide +kernel
theorem dX3_init_38 : decode cX3_init 38 = .ok (.sipush 192, 3) := by decide +kernel
theorem dX3_init_41 : decode cX3_init 41 = .ok (.newarray .int, 2) := by decide +kernel
theorem dX3_init_43 : decode cX3_init 43 = .ok (.putfield 23, 3) := by decide +kernel
theorem dX3_init_46 : decode cX3_init 46 = .ok (.aload_n 0, 1) := by decide +kernel
theorem dX3_init_47 : decode cX3_init 47 = .ok (.bipush 8, 2) := by decide +kernel
theorem dX3_init_49 : decode cX3_init 49 = .ok (.newarray .int, 2) := by decide +kernel
theorem dX3_init_51 : decode cX3_init 51 = .ok (.putfield 26, 3) := by decide +kernel
theorem dX3_init_54 : decode cX3_init 54 = .ok (.aload_n 0, 1) := by decide +kernel
theorem dX3_init_55 : decode cX3_init 55 = .ok (.bipush 48, 2) := by decide +kernel
theorem dX3_init_57 : decode cX3_init 57 = .ok (.newarray .int, 2) := by decide +kernel
theorem dX3_init_59 : decode cX3_init 59 = .ok (.putfield 29, 3) := by decide +kernel
theorem dX3_init_62 : decode cX3_init 62 = .ok (.aload_n 0, 1) := by decide +kernel
theorem dX3_init_63 : decode cX3_init 63 = .ok (.bipush 48, 2) := by decide +kernel
theorem dX3_init_65 : decode cX3_init 65 = .ok (.newarray .int, 2) := by decide +kernel
theorem dX3_init_67 : decode cX3_init 67 = .ok (.putfield 32, 3) := by decide +kernel
theorem dX3_init_70 : decode cX3_init 70 = .ok (.aload_n 0, 1) := by decide +kernel
theorem dX3_init_71 : decode cX3_init 71 = .ok (.bipush 48, 2) := by decide +kernel
theorem dX3_init_73 : decode cX3_init 73 = .ok (.newarray .int, 2) := by decide +kernel
theorem dX3_init_75 : decode cX3_init 75 = .ok (.putfield 35, 3) := by decide +kernel
theorem dX3_init_78 : decode cX3_init 78 = .ok (.aload_n 0, 1) := by decide +kernel
theorem dX3_init_79 : decode cX3_init 79 = .ok (.bipush 48, 2) := by decide +kernel
theorem dX3_init_81 : decode cX3_init 81 = .ok (.newarray .boolean, 2) := by decide +kernel
theorem dX3_init_83 : decode cX3_init 83 = .ok (.putfield 38, 3) := by decide +kernel
theorem dX3_init_86 : decode cX3_init 86 = .ok (.aload_n 0, 1) := by decide +kernel
theorem dX3_init_87 : decode cX3_init 87 = .ok (.bipush 8, 2) := by decide +kernel
theorem dX3_init_89 : decode cX3_init 89 = .ok (.newarray .int, 2) := by decide +kernel
theorem dX3_init_91 : decode cX3_init 91 = .ok (.putfield 41, 3) := by decide +kernel
theorem dX3_init_94 : decode cX3_init 94 = .ok (.aload_n 0, 1) := by decide +kernel
theorem dX3_init_95 : decode cX3_init 95 = .ok (.bipush 8, 2) := by decide +kernel
theorem dX3_init_97 : decode cX3_init 97 = .ok (.newarray .boolean, 2) := by decide +kernel
theorem dX3_init_99 : decode cX3_init 99 = .ok (.putfield 44, 3) := by decide +kernel
theorem dX3_init_102 : decode cX3_init 102 = .ok (.aload_n 0, 1) := by decide +kernel
theorem dX3_init_103 : decode cX3_init 103 = .ok (.bipush 8, 2) := by decide +kernel
theorem dX3_init_105 : decode cX3_init 105 = .ok (.newarray .boolean, 2) := by decide +kernel
theorem dX3_init_107 : decode cX3_init 107 = .ok (.putfield 47, 3) := by decide +kernel
theorem dX3_init_110 : decode cX3_init 110 = .ok (.aload_n 0, 1) := by decide +kernel
theorem dX3_init_111 : decode cX3_init 111 = .ok (.bipush 10, 2) := by decide +kernel
theorem dX3_init_113 : decode cX3_init 113 = .ok (.newarray .int, 2) := by decide +kernel
theorem dX3_init_115 : decode cX3_init 115 = .ok (.putfield 50, 3) := by decide +kernel
theorem dX3_init_118 : decode cX3_init 118 = .ok (.aload_n 0, 1) := by decide +kernel
theorem dX3_init_119 : decode cX3_init 119 = .ok (.bipush 10, 2) := by decide +kernel
theorem dX3_init_121 : decode cX3_init 121 = .ok (.newarray .int, 2) := by decide +kernel
theorem dX3_init_123 : decode cX3_init 123 = .ok (.putfield 53, 3) := by decide +kernel
theorem dX3_init_126 : decode cX3_init 126 = .ok (.aload_n 0, 1) := by decide +kernel
theorem dX3_init_127 : decode cX3_init 127 = .ok (.bipush 11, 2) := by decide +kernel
theorem dX3_init_129 : decode cX3_init 129 = .ok (.newarray .int, 2) := by decide +kernel
theorem dX3_init_131 : decode cX3_init 131 = .ok (.putfield 56, 3) := by decide +kernel
theorem dX3_init_134 : decode cX3_init 134 = .ok (.iconst 0, 1) := by decide +kernel
theorem dX3_init_135 : decode cX3_init 135 = .ok (.istore_n 1, 1) := by decide +kernel
theorem dX3_init_136 : decode cX3_init 136 = .ok (.iload_n 1, 1) := by decide +kernel
theorem dX3_init_137 : decode cX3_init 137 = .ok (.sipush 192, 3) := by decide +kernel
theorem dX3_init_140 : decode cX3_init 140 = .ok (.if_icmp .ge 24, 3) := by decide +kernel
theorem dX3_init_143 : decode cX3_init 143 = .ok (.aload_n 0, 1) := by decide +kernel
theorem dX3_init_144 : decode cX3_init 144 = .ok (.getfield 19, 3) := by decide +kernel
theorem dX3_init_147 : decode cX3_init 147 = .ok (.iload_n 1, 1) := by decide +kernel
theorem dX3_init_148 : decode cX3_init 148 = .ok (.bipush (-3), 2) := by decide +kernel
theorem dX3_init_150 : decode cX3_init 150 = .ok (.iastore, 1) := by decide +kernel
theorem dX3_init_151 : decode cX3_init 151 = .ok (.aload_n 0, 1) := by decide +kernel
theorem dX3_init_152 : decode cX3_init 152 = .ok (.getfield 23, 3) := by decide +kernel
theorem dX3_init_155 : decode cX3_init 155 = .ok (.iload_n 1, 1) := by decide +kernel
theorem dX3_init_156 : decode cX3_init 156 = .ok (.iconst (-1), 1) := by decide +kernel
theorem dX3_init_157 : decode cX3_init 157 = .ok (.iastore, 1) := by decide +kernel
theorem dX3_init_158 : decode cX3_init 158 = .ok (.iinc 1 1, 3) := by decide +kernel
theorem dX3_init_161 : decode cX3_init 161 = .ok (.goto (-25), 3) := by decide +kernel
theorem dX3_init_164 : decode cX3_init 164 = .ok (.return_, 1) := by decide +kernel
theorem dX3_thrown_0 : decode cX3_thrown 0 = .ok (.aload_n 0, 1) := by decide +kernel
theorem dX3_thrown_1 : decode cX3_thrown 1 = .ok (.getfield 59, 3) := by decide +kernel
theorem dX3_thrown_4 : decode cX3_thrown 4 = .ok (.ireturn, 1) := by decide +kernel
theorem dX3_throwsBy_0 : decode cX3_throwsBy 0 = .ok (.aload_n 0, 1) := by decide +kernel
theorem dX3_throwsBy_1 : decode cX3_throwsBy 1 = .ok (.iload_n 1, 1) := by decide +kernel
theorem dX3_throwsBy_2 : decode cX3_throwsBy 2 = .ok (.putfield 59, 3) := by decide +kernel
theorem dX3_throwsBy_5 : decode cX3_throwsBy 5 = .ok (.iload_n 1, 1) := by decide +kernel
theorem dX3_throwsBy_6 : decode cX3_throwsBy 6 = .ok (.ifCond .le 7, 3) := by decide +kernel
theorem dX3_throwsBy_9 : decode cX3_throwsBy 9 = .ok (.iconst 1, 1) := by decide +kernel
theorem dX3_throwsBy_10 : decode cX3_throwsBy 10 = .ok (.goto 4, 3) := by decide +kernel
theorem dX3_throwsBy_13 : decode cX3_throwsBy 13 = .ok (.iconst 0, 1) := by decide +kernel
theorem dX3_throwsBy_14 : decode cX3_throwsBy 14 = .ok (.ireturn, 1) := by decide +kernel
theorem dX3_in_0 : decode cX3_in 0 = .ok (.iload_n 0, 1) := by decide +kernel
theorem dX3_in_1 : decode cX3_in 1 = .ok (.iload_n 1, 1) := by decide +kernel
theorem dX3_in_2 : decode cX3_in 2 = .ok (.if_icmp .lt 12, 3) := by decide +kernel
theorem dX3_in_5 : decode cX3_in 5 = .ok (.iload_n 0, 1) := by decide +kernel
theorem dX3_in_6 : decode cX3_in 6 = .ok (.iload_n 2, 1) := by decide +kernel
theorem dX3_in_7 : decode cX3_in 7 = .ok (.if_icmp .gt 7, 3) := by decide +kernel
theorem dX3_in_10 : decode cX3_in 10 = .ok (.iconst 1, 1) := by decide +kernel
theorem dX3_in_11 : decode cX3_in 11 = .ok (.goto 4, 3) := by decide +kernel
theorem dX3_in_14 : decode cX3_in 14 = .ok (.iconst 0, 1) := by decide +kernel
theorem dX3_in_15 : decode cX3_in 15 = .ok (.ireturn, 1) := by decide +kernel
set_option maxRecDepth 20000 in
theorem ggX3_isModule_X3_in : GoodIn wsX3_isModule wsX3_in := goodIn_r _ [4] (by decide +kernel) (by decide +kernel)
set_option maxRecDepth 20000 in
theorem gX3_isModule_X3_in : GoodIn wsX3_isModule (va_wsS RX3 63 yX3_in wsX3_in) := goodIn_app (goodIn_of _ (by decide +kernel)) ggX3_isModule_X3_in
theorem dX3_isModule_0 : decode cX3_isModule 0 = .ok (.iload_n 0, 1) := by decide +kernel
theorem dX3_isModule_1 : decode cX3_isModule 1 = .ok (.iconst 0, 1) := by decide +kernel
theorem dX3_isModule_2 : decode cX3_isModule 2 = .ok (.bipush 7, 2) := by decide +kernel
theorem dX3_isModule_4 : decode cX3_isModule 4 = .ok (.invokestatic 63, 3) := by decide +kernel
theorem dX3_isModule_7 : decode cX3_isModule 7 = .ok (.ireturn, 1) := by decide +kernel
set_option maxRecDepth 20000 in
theorem ggX3_isPresent_X3_isModule : GoodIn wsX3_isPresent wsX3_isModule := goodIn_r _ [5, 6, 7, 4, 8] (by decide +kernel) (by decide +kernel)
set_option maxRecDepth 20000 in
theorem gX3_isPresent_X3_isModule : GoodIn wsX3_isPresent (va_wsS RX3 67 yX3_isModule wsX3_isModule) := goodIn_app (goodIn_of _ (by decide +kernel)) ggX3_isPresent_X3_isModule
theorem dX3_isPresent_0 : decode cX3_isPresent 0 = .ok (.iload_n 1, 1) := by decide +kernel
theorem dX3_isPresent_1 : decode cX3_isPresent 1 = .ok (.invokestatic 67, 3) := by decide +kernel
theorem dX3_isPresent_4 : decode cX3_isPresent 4 = .ok (.ifCond .eq 16, 3) := by decide +kernel
theorem dX3_isPresent_7 : decode cX3_isPresent 7 = .ok (.aload_n 0, 1) := by decide +kernel
theorem dX3_isPresent_8 : decode cX3_isPresent 8 = .ok (.getfield 7, 3) := by decide +kernel
theorem dX3_isPresent_11 : decode cX3_isPresent 11 = .ok (.iload_n 1, 1) := by decide +kernel
theorem dX3_isPresent_12 : decode cX3_isPresent 12 = .ok (.baload, 1) := by decide +kernel
theorem dX3_isPresent_13 : decode cX3_isPresent 13 = .ok (.ifCond .eq 7, 3) := by decide +kernel
theorem dX3_isPresent_16 : decode cX3_isPresent 16 = .ok (.iconst 1, 1) := by decide +kernel
theorem dX3_isPresent_17 : decode cX3_isPresent 17 = .ok (.goto 4, 3) := by decide +kernel
theorem dX3_isPresent_20 : decode cX3_isPresent 20 = .ok (.iconst 0, 1) := by decide +kernel
theorem dX3_isPresent_21 : decode cX3_isPresent 21 = .ok (.ireturn, 1) := by decide +kernel
set_option maxRecDepth 20000 in
theorem ggX3_isLoaded_X3_isModule : GoodIn wsX3_isLoaded wsX3_isModule := goodIn_r _ [5, 6, 7, 4, 8] (by decide +kernel) (by decide +kernel)
set_option maxRecDepth 20000 in
theorem gX3_isLoaded_X3_isModule : GoodIn wsX3_isLoaded (va_wsS RX3 67 yX3_isModule wsX3_isModule) := goodIn_app (goodIn_of _ (by decide +kernel)) ggX3_isLoaded_X3_isModule
theorem dX3_isLoaded_0 : decode cX3_isLoaded 0 = .ok (.iload_n 1, 1) := by decide +kernel
theorem dX3_isLoaded_1 : decode cX3_isLoaded 1 = .ok (.invokestatic 67, 3) := by decide +kernel
theorem dX3_isLoaded_4 : decode cX3_isLoaded 4 = .ok (.ifCond .eq 16, 3) := by decide +kernel
theorem dX3_isLoaded_7 : decode cX3_isLoaded 7 = .ok (.aload_n 0, 1) := by decide +kernel
theorem dX3_isLoaded_8 : decode cX3_isLoaded 8 = .ok (.getfield 13, 3) := by decide +kernel
theorem dX3_isLoaded_11 : decode cX3_isLoaded 11 = .ok (.iload_n 1, 1) := by decide +kernel
theorem dX3_isLoaded_12 : decode cX3_isLoaded 12 = .ok (.baload, 1) := by decide +kernel
theorem dX3_isLoaded_13 : decode cX3_isLoaded 13 = .ok (.ifCond .eq 7, 3) := by decide +kernel
theorem dX3_isLoaded_16 : decode cX3_isLoaded 16 = .ok (.iconst 1, 1) := by decide +kernel
theorem dX3_isLoaded_17 : decode cX3_isLoaded 17 = .ok (.goto 4, 3) := by decide +kernel
