theorem dX1_addOnceIf_46 : decode cX1_addOnceIf 46 = .ok (.getfield 22, 3) := by decide +kernel
theorem dX1_addOnceIf_49 : decode cX1_addOnceIf 49 = .ok (.iload_n 2, 1) := by decide +kernel
theorem dX1_addOnceIf_50 : decode cX1_addOnceIf 50 = .ok (.invokestatic 32, 3) := by decide +kernel
theorem dX1_addOnceIf_53 : decode cX1_addOnceIf 53 = .ok (.ior, 1) := by decide +kernel
theorem dX1_addOnceIf_54 : decode cX1_addOnceIf 54 = .ok (.putfield 22, 3) := by decide +kernel
theorem dX1_addOnceIf_57 : decode cX1_addOnceIf 57 = .ok (.return_, 1) := by decide +kernel
set_option maxRecDepth 20000 in
theorem ggX2_init_X0_init : GoodIn wsX2_init wsX0_init := goodIn_r _ [18, 19, 2, 3, 14, 20, 21, 22, 23, 24, 25, 26, 27, 45, 46, 47, 48, 49, 50, 51, 52] (by decide +kernel) (by decide +kernel)
set_option maxRecDepth 20000 in
theorem gX2_init_X0_init_n15 : GoodIn wsX2_init (wsX0_init) := ggX2_init_X0_init
set_option maxRecDepth 20000 in
theorem ggX2_init_X1_init : GoodIn wsX2_init wsX1_init := goodIn_r _ [29, 30, 2, 3, 14, 31, 32, 33, 34, 12, 35, 36, 37, 38, 53, 54, 55, 56] (by decide +kernel) (by decide +kernel)
set_option maxRecDepth 20000 in
theorem gX2_init_X1_init_n25 : GoodIn wsX2_init (wsX1_init) := ggX2_init_X1_init
theorem dX2_init_0 : decode cX2_init 0 = .ok (.aload_n 0, 1) := by decide +kernel
theorem dX2_init_1 : decode cX2_init 1 = .ok (.invokespecial 3, 3) := by decide +kernel
theorem dX2_init_4 : decode cX2_init 4 = .ok (.aload_n 0, 1) := by decide +kernel
theorem dX2_init_5 : decode cX2_init 5 = .ok (.bipush 8, 2) := by decide +kernel
theorem dX2_init_7 : decode cX2_init 7 = .ok (.anewarray 9, 3) := by decide +kernel
theorem dX2_init_10 : decode cX2_init 10 = .ok (.putfield 11, 3) := by decide +kernel
theorem dX2_init_13 : decode cX2_init 13 = .ok (.iconst 0, 1) := by decide +kernel
theorem dX2_init_14 : decode cX2_init 14 = .ok (.istore_n 1, 1) := by decide +kernel
theorem dX2_init_15 : decode cX2_init 15 = .ok (.iload_n 1, 1) := by decide +kernel
theorem dX2_init_16 : decode cX2_init 16 = .ok (.bipush 8, 2) := by decide +kernel
theorem dX2_init_18 : decode cX2_init 18 = .ok (.if_icmp .ge 22, 3) := by decide +kernel
theorem dX2_init_21 : decode cX2_init 21 = .ok (.aload_n 0, 1) := by decide +kernel
theorem dX2_init_22 : decode cX2_init 22 = .ok (.getfield 11, 3) := by decide +kernel
theorem dX2_init_25 : decode cX2_init 25 = .ok (.iload_n 1, 1) := by decide +kernel
theorem dX2_init_26 : decode cX2_init 26 = .ok (.new 9, 3) := by decide +kernel
theorem dX2_init_29 : decode cX2_init 29 = .ok (.dup, 1) := by decide +kernel
theorem dX2_init_30 : decode cX2_init 30 = .ok (.invokespecial 15, 3) := by decide +kernel
theorem dX2_init_33 : decode cX2_init 33 = .ok (.aastore, 1) := by decide +kernel
theorem dX2_init_34 : decode cX2_init 34 = .ok (.iinc 1 1, 3) := by decide +kernel
theorem dX2_init_37 : decode cX2_init 37 = .ok (.goto (-22), 3) := by decide +kernel
theorem dX2_init_40 : decode cX2_init 40 = .ok (.aload_n 0, 1) := by decide +kernel
theorem dX2_init_41 : decode cX2_init 41 = .ok (.iconst 0, 1) := by decide +kernel
theorem dX2_init_42 : decode cX2_init 42 = .ok (.putfield 16, 3) := by decide +kernel
theorem dX2_init_45 : decode cX2_init 45 = .ok (.aload_n 0, 1) := by decide +kernel
theorem dX2_init_46 : decode cX2_init 46 = .ok (.iconst 0, 1) := by decide +kernel
theorem dX2_init_47 : decode cX2_init 47 = .ok (.putfield 20, 3) := by decide +kernel
theorem dX2_init_50 : decode cX2_init 50 = .ok (.aload_n 0, 1) := by decide +kernel
theorem dX2_init_51 : decode cX2_init 51 = .ok (.new 23, 3) := by decide +kernel
theorem dX2_init_54 : decode cX2_init 54 = .ok (.dup, 1) := by decide +kernel
theorem dX2_init_55 : decode cX2_init 55 = .ok (.invokespecial 25, 3) := by decide +kernel
theorem dX2_init_58 : decode cX2_init 58 = .ok (.putfield 26, 3) := by decide +kernel
theorem dX2_init_61 : decode cX2_init 61 = .ok (.aload_n 0, 1) := by decide +kernel
theorem dX2_init_62 : decode cX2_init 62 = .ok (.bipush 10, 2) := by decide +kernel
theorem dX2_init_64 : decode cX2_init 64 = .ok (.newarray .int, 2) := by decide +kernel
theorem dX2_init_66 : decode cX2_init 66 = .ok (.putfield 30, 3) := by decide +kernel
theorem dX2_init_69 : decode cX2_init 69 = .ok (.aload_n 0, 1) := by decide +kernel
theorem dX2_init_70 : decode cX2_init 70 = .ok (.bipush 10, 2) := by decide +kernel
theorem dX2_init_72 : decode cX2_init 72 = .ok (.newarray .int, 2) := by decide +kernel
theorem dX2_init_74 : decode cX2_init 74 = .ok (.putfield 34, 3) := by decide +kernel
theorem dX2_init_77 : decode cX2_init 77 = .ok (.return_, 1) := by decide +kernel
set_option maxRecDepth 20000 in
theorem ggX2_present_X2_isModule : GoodIn wsX2_present wsX2_isModule := goodIn_r _ [9] (by decide +kernel) (by decide +kernel)
set_option maxRecDepth 20000 in
theorem gX2_present_X2_isModule : GoodIn wsX2_present (va_wsS RX2 37 yX2_isModule wsX2_isModule) := goodIn_app (goodIn_of _ (by decide +kernel)) ggX2_present_X2_isModule
set_option maxRecDepth 20000 in
theorem ggX2_present_X2_isPresent : GoodIn wsX2_present wsX2_isPresent := goodIn_r _ [13, 5, 6, 7, 8, 9, 14, 15, 16, 20, 21, 22, 23, 24, 25] (by decide +kernel) (by decide +kernel)
set_option maxRecDepth 20000 in
theorem gX2_present_X2_isPresent : GoodIn wsX2_present (wsV RX2 48 RX2 yX2_isPresent wsX2_isPresent) := goodIn_app (goodIn_of _ (by decide +kernel)) ggX2_present_X2_isPresent
set_option maxRecDepth 20000 in
theorem ggX2_present_X2_bit : GoodIn wsX2_present wsX2_bit := goodIn_r _ [19] (by decide +kernel) (by decide +kernel)
set_option maxRecDepth 20000 in
theorem gX2_present_X2_bit : GoodIn wsX2_present (va_wsS RX2 56 yX2_bit wsX2_bit) := goodIn_app (goodIn_of _ (by decide +kernel)) ggX2_present_X2_bit
theorem dX2_present_0 : decode cX2_present 0 = .ok (.iload_n 1, 1) := by decide +kernel
theorem dX2_present_1 : decode cX2_present 1 = .ok (.invokestatic 37, 3) := by decide +kernel
theorem dX2_present_4 : decode cX2_present 4 = .ok (.ifCond .ne 13, 3) := by decide +kernel
theorem dX2_present_7 : decode cX2_present 7 = .ok (.new 41, 3) := by decide +kernel
theorem dX2_present_10 : decode cX2_present 10 = .ok (.dup, 1) := by decide +kernel
theorem dX2_present_11 : decode cX2_present 11 = .ok (.ldc 43, 2) := by decide +kernel
theorem dX2_present_13 : decode cX2_present 13 = .ok (.invokespecial 45, 3) := by decide +kernel
theorem dX2_present_16 : decode cX2_present 16 = .ok (.athrow, 1) := by decide +kernel
theorem dX2_present_17 : decode cX2_present 17 = .ok (.aload_n 0, 1) := by decide +kernel
theorem dX2_present_18 : decode cX2_present 18 = .ok (.iload_n 1, 1) := by decide +kernel
theorem dX2_present_19 : decode cX2_present 19 = .ok (.invokevirtual 48, 3) := by decide +kernel
theorem dX2_present_22 : decode cX2_present 22 = .ok (.ifCond .eq 13, 3) := by decide +kernel
theorem dX2_present_25 : decode cX2_present 25 = .ok (.new 51, 3) := by decide +kernel
theorem dX2_present_28 : decode cX2_present 28 = .ok (.dup, 1) := by decide +kernel
theorem dX2_present_29 : decode cX2_present 29 = .ok (.ldc 53, 2) := by decide +kernel
theorem dX2_present_31 : decode cX2_present 31 = .ok (.invokespecial 55, 3) := by decide +kernel
theorem dX2_present_34 : decode cX2_present 34 = .ok (.athrow, 1) := by decide +kernel
theorem dX2_present_35 : decode cX2_present 35 = .ok (.aload_n 0, 1) := by decide +kernel
theorem dX2_present_36 : decode cX2_present 36 = .ok (.dup, 1) := by decide +kernel
theorem dX2_present_37 : decode cX2_present 37 = .ok (.getfield 16, 3) := by decide +kernel
theorem dX2_present_40 : decode cX2_present 40 = .ok (.iload_n 1, 1) := by decide +kernel
theorem dX2_present_41 : decode cX2_present 41 = .ok (.invokestatic 56, 3) := by decide +kernel
theorem dX2_present_44 : decode cX2_present 44 = .ok (.ior, 1) := by decide +kernel
theorem dX2_present_45 : decode cX2_present 45 = .ok (.putfield 16, 3) := by decide +kernel
theorem dX2_present_48 : decode cX2_present 48 = .ok (.return_, 1) := by decide +kernel
set_option maxRecDepth 20000 in
theorem ggX2_file_X2_isPresent : GoodIn wsX2_file wsX2_isPresent := goodIn_r _ [10, 11, 12, 13, 9, 14, 15, 16, 17, 34, 35, 36, 37, 38, 39] (by decide +kernel) (by decide +kernel)
set_option maxRecDepth 20000 in
theorem gX2_file_X2_isPresent : GoodIn wsX2_file (wsV RX2 48 RX2 yX2_isPresent wsX2_isPresent) := goodIn_app (goodIn_of _ (by decide +kernel)) ggX2_file_X2_isPresent
set_option maxRecDepth 20000 in
theorem ggX2_file_X2_isName : GoodIn wsX2_file wsX2_isName := goodIn_r _ [20] (by decide +kernel) (by decide +kernel)
set_option maxRecDepth 20000 in
theorem gX2_file_X2_isName : GoodIn wsX2_file (va_wsS RX2 60 yX2_isName wsX2_isName) := goodIn_app (goodIn_of _ (by decide +kernel)) ggX2_file_X2_isName
set_option maxRecDepth 20000 in
theorem ggX2_file_X2_isExtended : GoodIn wsX2_file wsX2_isExtended := goodIn_r _ [23, 18, 19, 9, 20] (by decide +kernel) (by decide +kernel)
set_option maxRecDepth 20000 in
theorem gX2_file_X2_isExtended : GoodIn wsX2_file (va_wsS RX2 63 yX2_isExtended wsX2_isExtended) := goodIn_app (goodIn_of _ (by decide +kernel)) ggX2_file_X2_isExtended
set_option maxRecDepth 20000 in
theorem ggX2_file_X2_isLoaded : GoodIn wsX2_file wsX2_isLoaded := goodIn_r _ [27, 28, 12, 13, 9, 14, 15, 16, 17, 34, 35, 36, 37, 38, 39] (by decide +kernel) (by decide +kernel)
set_option maxRecDepth 20000 in
theorem gX2_file_X2_isLoaded : GoodIn wsX2_file (wsV RX2 68 RX2 yX2_isLoaded wsX2_isLoaded) := goodIn_app (goodIn_of _ (by decide +kernel)) ggX2_file_X2_isLoaded
set_option maxRecDepth 20000 in
theorem ggX2_file_X0_holds : GoodIn wsX2_file wsX0_holds := goodIn_r _ [32, 33, 40, 41, 42, 43, 44, 45, 46, 47] (by decide +kernel) (by decide +kernel)
set_option maxRecDepth 20000 in
theorem gX2_file_X0_holds_n71 : GoodIn wsX2_file (wsX0_holds) := ggX2_file_X0_holds
theorem dX2_file_0 : decode cX2_file 0 = .ok (.aload_n 0, 1) := by decide +kernel
theorem dX2_file_1 : decode cX2_file 1 = .ok (.iload_n 1, 1) := by decide +kernel
theorem dX2_file_2 : decode cX2_file 2 = .ok (.invokevirtual 48, 3) := by decide +kernel
theorem dX2_file_5 : decode cX2_file 5 = .ok (.ifCond .eq 17, 3) := by decide +kernel
theorem dX2_file_8 : decode cX2_file 8 = .ok (.iload_n 2, 1) := by decide +kernel
theorem dX2_file_9 : decode cX2_file 9 = .ok (.invokestatic 60, 3) := by decide +kernel
theorem dX2_file_12 : decode cX2_file 12 = .ok (.ifCond .eq 10, 3) := by decide +kernel
theorem dX2_file_15 : decode cX2_file 15 = .ok (.iload_n 3, 1) := by decide +kernel
theorem dX2_file_16 : decode cX2_file 16 = .ok (.invokestatic 63, 3) := by decide +kernel
theorem dX2_file_19 : decode cX2_file 19 = .ok (.ifCond .ne 13, 3) := by decide +kernel
theorem dX2_file_22 : decode cX2_file 22 = .ok (.new 41, 3) := by decide +kernel
theorem dX2_file_25 : decode cX2_file 25 = .ok (.dup, 1) := by decide +kernel
theorem dX2_file_26 : decode cX2_file 26 = .ok (.ldc 66, 2) := by decide +kernel
theorem dX2_file_28 : decode cX2_file 28 = .ok (.invokespecial 45, 3) := by decide +kernel
theorem dX2_file_31 : decode cX2_file 31 = .ok (.athrow, 1) := by decide +kernel
theorem dX2_file_32 : decode cX2_file 32 = .ok (.aload_n 0, 1) := by decide +kernel
theorem dX2_file_33 : decode cX2_file 33 = .ok (.iload_n 1, 1) := by decide +kernel
theorem dX2_file_34 : decode cX2_file 34 = .ok (.invokevirtual 68, 3) := by decide +kernel
theorem dX2_file_37 : decode cX2_file 37 = .ok (.ifCond .ne 16, 3) := by decide +kernel
theorem dX2_file_40 : decode cX2_file 40 = .ok (.aload_n 0, 1) := by decide +kernel
theorem dX2_file_41 : decode cX2_file 41 = .ok (.getfield 11, 3) := by decide +kernel
theorem dX2_file_44 : decode cX2_file 44 = .ok (.iload_n 1, 1) := by decide +kernel
theorem dX2_file_45 : decode cX2_file 45 = .ok (.aaload, 1) := by decide +kernel
theorem dX2_file_46 : decode cX2_file 46 = .ok (.iload_n 2, 1) := by decide +kernel
theorem dX2_file_47 : decode cX2_file 47 = .ok (.invokevirtual 71, 3) := by decide +kernel
theorem dX2_file_50 : decode cX2_file 50 = .ok (.ifCond .eq 13, 3) := by decide +kernel
theorem dX2_file_53 : decode cX2_file 53 = .ok (.new 51, 3) := by decide +kernel
theorem dX2_file_56 : decode cX2_file 56 = .ok (.dup, 1) := by decide +kernel
theorem dX2_file_57 : decode cX2_file 57 = .ok (.ldc 74, 2) := by decide +kernel
theorem dX2_file_59 : decode cX2_file 59 = .ok (.invokespecial 55, 3) := by decide +kernel
theorem dX2_file_62 : decode cX2_file 62 = .ok (.athrow, 1) := by decide +kernel
theorem dX2_file_63 : decode cX2_file 63 = .ok (.aload_n 0, 1) := by decide +kernel
theorem dX2_file_64 : decode cX2_file 64 = .ok (.getfield 11, 3) := by decide +kernel
theorem dX2_file_67 : decode cX2_file 67 = .ok (.iload_n 1, 1) := by decide +kernel
theorem dX2_file_68 : decode cX2_file 68 = .ok (.aaload, 1) := by decide +kernel
theorem dX2_file_69 : decode cX2_file 69 = .ok (.getfield 76, 3) := by decide +kernel
theorem dX2_file_72 : decode cX2_file 72 = .ok (.iload_n 2, 1) := by decide +kernel
theorem dX2_file_73 : decode cX2_file 73 = .ok (.iload_n 3, 1) := by decide +kernel
theorem dX2_file_74 : decode cX2_file 74 = .ok (.iastore, 1) := by decide +kernel
theorem dX2_file_75 : decode cX2_file 75 = .ok (.return_, 1) := by decide +kernel
set_option maxRecDepth 20000 in
theorem ggX2_depend_X2_isPresent : GoodIn wsX2_depend wsX2_isPresent := goodIn_r _ [10, 11, 12, 13, 9, 14, 15, 16, 17, 41, 42, 43, 44, 45, 46] (by decide +kernel) (by decide +kernel)
set_option maxRecDepth 20000 in
theorem gX2_depend_X2_isPresent : GoodIn wsX2_depend (wsV RX2 48 RX2 yX2_isPresent wsX2_isPresent) := goodIn_app (goodIn_of _ (by decide +kernel)) ggX2_depend_X2_isPresent
set_option maxRecDepth 20000 in
theorem ggX2_depend_X2_canDependOn : GoodIn wsX2_depend wsX2_canDependOn := goodIn_r _ [20, 12, 13, 9, 14] (by decide +kernel) (by decide +kernel)
set_option maxRecDepth 20000 in
theorem gX2_depend_X2_canDependOn : GoodIn wsX2_depend (va_wsS RX2 79 yX2_canDependOn wsX2_canDependOn) := goodIn_app (goodIn_of _ (by decide +kernel)) ggX2_depend_X2_canDependOn
set_option maxRecDepth 20000 in
theorem ggX2_depend_X2_isPathSet : GoodIn wsX2_depend wsX2_isPathSet := goodIn_r _ [23] (by decide +kernel) (by decide +kernel)
set_option maxRecDepth 20000 in
theorem gX2_depend_X2_isPathSet : GoodIn wsX2_depend (va_wsS RX2 83 yX2_isPathSet wsX2_isPathSet) := goodIn_app (goodIn_of _ (by decide +kernel)) ggX2_depend_X2_isPathSet
set_option maxRecDepth 20000 in
theorem ggX2_depend_X2_isLoaded : GoodIn wsX2_depend wsX2_isLoaded := goodIn_r _ [27, 28, 12, 13, 9, 14, 15, 16, 17, 41, 42, 43, 44, 45, 46] (by decide +kernel) (by decide +kernel)
set_option maxRecDepth 20000 in
theorem gX2_depend_X2_isLoaded : GoodIn wsX2_depend (wsV RX2 68 RX2 yX2_isLoaded wsX2_isLoaded) := goodIn_app (goodIn_of _ (by decide +kernel)) ggX2_depend_X2_isLoaded
set_option maxRecDepth 20000 in
theorem ggX2_depend_X0_addDependency : GoodIn wsX2_depend wsX0_addDependency := goodIn_r _ [32, 33, 34, 35, 36, 37, 38, 39, 9, 40, 47, 48, 49, 50, 51, 52, 53, 54] (by decide +kernel) (by decide +kernel)
set_option maxRecDepth 20000 in
theorem gX2_depend_X0_addDependency_n95 : GoodIn wsX2_depend (wsX0_addDependency) := ggX2_depend_X0_addDependency
theorem dX2_depend_0 : decode cX2_depend 0 = .ok (.aload_n 0, 1) := by decide +kernel
theorem dX2_depend_1 : decode cX2_depend 1 = .ok (.iload_n 1, 1) := by decide +kernel
theorem dX2_depend_2 : decode cX2_depend 2 = .ok (.invokevirtual 48, 3) := by decide +kernel
theorem dX2_depend_5 : decode cX2_depend 5 = .ok (.ifCond .eq 26, 3) := by decide +kernel
theorem dX2_depend_8 : decode cX2_depend 8 = .ok (.iload_n 1, 1) := by decide +kernel
theorem dX2_depend_9 : decode cX2_depend 9 = .ok (.iload_n 2, 1) := by decide +kernel
theorem dX2_depend_10 : decode cX2_depend 10 = .ok (.invokestatic 79, 3) := by decide +kernel
theorem dX2_depend_13 : decode cX2_depend 13 = .ok (.ifCond .eq 18, 3) := by decide +kernel
theorem dX2_depend_16 : decode cX2_depend 16 = .ok (.iload_n 3, 1) := by decide +kernel
theorem dX2_depend_17 : decode cX2_depend 17 = .ok (.invokestatic 83, 3) := by decide +kernel
theorem dX2_depend_20 : decode cX2_depend 20 = .ok (.ifCond .eq 11, 3) := by decide +kernel
theorem dX2_depend_23 : decode cX2_depend 23 = .ok (.iload 4, 2) := by decide +kernel
theorem dX2_depend_25 : decode cX2_depend 25 = .ok (.invokestatic 83, 3) := by decide +kernel
theorem dX2_depend_28 : decode cX2_depend 28 = .ok (.ifCond .ne 13, 3) := by decide +kernel
theorem dX2_depend_31 : decode cX2_depend 31 = .ok (.new 41, 3) := by decide +kernel
theorem dX2_depend_34 : decode cX2_depend 34 = .ok (.dup, 1) := by decide +kernel
theorem dX2_depend_35 : decode cX2_depend 35 = .ok (.ldc 86, 2) := by decide +kernel
theorem dX2_depend_37 : decode cX2_depend 37 = .ok (.invokespecial 45, 3) := by decide +kernel
theorem dX2_depend_40 : decode cX2_depend 40 = .ok (.athrow, 1) := by decide +kernel
theorem dX2_depend_41 : decode cX2_depend 41 = .ok (.aload_n 0, 1) := by decide +kernel
theorem dX2_depend_42 : decode cX2_depend 42 = .ok (.getfield 11, 3) := by decide +kernel
theorem dX2_depend_45 : decode cX2_depend 45 = .ok (.iload_n 1, 1) := by decide +kernel
theorem dX2_depend_46 : decode cX2_depend 46 = .ok (.aaload, 1) := by decide +kernel
theorem dX2_depend_47 : decode cX2_depend 47 = .ok (.getfield 88, 3) := by decide +kernel
theorem dX2_depend_50 : decode cX2_depend 50 = .ok (.bipush 6, 2) := by decide +kernel
theorem dX2_depend_52 : decode cX2_depend 52 = .ok (.if_icmp .lt 13, 3) := by decide +kernel
theorem dX2_depend_55 : decode cX2_depend 55 = .ok (.new 51, 3) := by decide +kernel
theorem dX2_depend_58 : decode cX2_depend 58 = .ok (.dup, 1) := by decide +kernel
theorem dX2_depend_59 : decode cX2_depend 59 = .ok (.ldc 91, 2) := by decide +kernel
theorem dX2_depend_61 : decode cX2_depend 61 = .ok (.invokespecial 55, 3) := by decide +kernel
theorem dX2_depend_64 : decode cX2_depend 64 = .ok (.athrow, 1) := by decide +kernel
theorem dX2_depend_65 : decode cX2_depend 65 = .ok (.aload_n 0, 1) := by decide +kernel
theorem dX2_depend_66 : decode cX2_depend 66 = .ok (.iload_n 1, 1) := by decide +kernel
theorem dX2_depend_67 : decode cX2_depend 67 = .ok (.invokevirtual 68, 3) := by decide +kernel
theorem dX2_depend_70 : decode cX2_depend 70 = .ok (.ifCond .eq 31, 3) := by decide +kernel
theorem dX2_depend_73 : decode cX2_depend 73 = .ok (.iload 5, 2) := by decide +kernel
theorem dX2_depend_75 : decode cX2_depend 75 = .ok (.ifCond .eq 26, 3) := by decide +kernel
theorem dX2_depend_78 : decode cX2_depend 78 = .ok (.iload_n 2, 1) := by decide +kernel
theorem dX2_depend_79 : decode cX2_depend 79 = .ok (.iconst (-1), 1) := by decide +kernel
theorem dX2_depend_80 : decode cX2_depend 80 = .ok (.if_icmp .eq 21, 3) := by decide +kernel
theorem dX2_depend_83 : decode cX2_depend 83 = .ok (.aload_n 0, 1) := by decide +kernel
theorem dX2_depend_84 : decode cX2_depend 84 = .ok (.iload_n 2, 1) := by decide +kernel
theorem dX2_depend_85 : decode cX2_depend 85 = .ok (.invokevirtual 68, 3) := by decide +kernel
theorem dX2_depend_88 : decode cX2_depend 88 = .ok (.ifCond .ne 13, 3) := by decide +kernel
theorem dX2_depend_91 : decode cX2_depend 91 = .ok (.new 51, 3) := by decide +kernel
theorem dX2_depend_94 : decode cX2_depend 94 = .ok (.dup, 1) := by decide +kernel
theorem dX2_depend_95 : decode cX2_depend 95 = .ok (.ldc 93, 2) := by decide +kernel
theorem dX2_depend_97 : decode cX2_depend 97 = .ok (.invokespecial 55, 3) := by decide +kernel
theorem dX2_depend_100 : decode cX2_depend 100 = .ok (.athrow, 1) := by decide +kernel
theorem dX2_depend_101 : decode cX2_depend 101 = .ok (.aload_n 0, 1) := by decide +kernel
theorem dX2_depend_102 : decode cX2_depend 102 = .ok (.getfield 11, 3) := by decide +kernel
theorem dX2_depend_105 : decode cX2_depend 105 = .ok (.iload_n 1, 1) := by decide +kernel
theorem dX2_depend_106 : decode cX2_depend 106 = .ok (.aaload, 1) := by decide +kernel
theorem dX2_depend_107 : decode cX2_depend 107 = .ok (.iload_n 2, 1) := by decide +kernel
theorem dX2_depend_108 : decode cX2_depend 108 = .ok (.iload_n 3, 1) := by decide +kernel
theorem dX2_depend_109 : decode cX2_depend 109 = .ok (.iload 4, 2) := by decide +kernel
theorem dX2_depend_111 : decode cX2_depend 111 = .ok (.iload 5, 2) := by decide +kernel
theorem dX2_depend_113 : decode cX2_depend 113 = .ok (.invokevirtual 95, 3) := by decide +kernel
theorem dX2_depend_116 : decode cX2_depend 116 = .ok (.aload_n 0, 1) := by decide +kernel
theorem dX2_depend_117 : decode cX2_depend 117 = .ok (.getfield 11, 3) := by decide +kernel
theorem dX2_depend_120 : decode cX2_depend 120 = .ok (.iload_n 1, 1) := by decide +kernel
theorem dX2_depend_121 : decode cX2_depend 121 = .ok (.aaload, 1) := by decide +kernel
theorem dX2_depend_122 : decode cX2_depend 122 = .ok (.getfield 88, 3) := by decide +kernel
theorem dX2_depend_125 : decode cX2_depend 125 = .ok (.ireturn, 1) := by decide +kernel
set_option maxRecDepth 20000 in
theorem ggX2_relink_X2_isPresent : GoodIn wsX2_relink wsX2_isPresent := goodIn_r _ [8, 9, 10, 11, 7, 12, 13, 14, 15, 23, 24, 25, 26, 27, 28] (by decide +kernel) (by decide +kernel)
set_option maxRecDepth 20000 in
theorem gX2_relink_X2_isPresent : GoodIn wsX2_relink (wsV RX2 48 RX2 yX2_isPresent wsX2_isPresent) := goodIn_app (goodIn_of _ (by decide +kernel)) ggX2_relink_X2_isPresent
set_option maxRecDepth 20000 in
theorem ggX2_relink_X0_dropDependencies : GoodIn wsX2_relink wsX0_dropDependencies := goodIn_r _ [19, 20, 21, 22, 29, 30, 31, 32, 33, 34, 35, 36] (by decide +kernel) (by decide +kernel)
set_option maxRecDepth 20000 in
theorem gX2_relink_X0_dropDependencies_n101 : GoodIn wsX2_relink (wsX0_dropDependencies) := ggX2_relink_X0_dropDependencies
theorem dX2_relink_0 : decode cX2_relink 0 = .ok (.aload_n 0, 1) := by decide +kernel
theorem dX2_relink_1 : decode cX2_relink 1 = .ok (.iload_n 1, 1) := by decide +kernel
theorem dX2_relink_2 : decode cX2_relink 2 = .ok (.invokevirtual 48, 3) := by decide +kernel
theorem dX2_relink_5 : decode cX2_relink 5 = .ok (.ifCond .ne 13, 3) := by decide +kernel
theorem dX2_relink_8 : decode cX2_relink 8 = .ok (.new 41, 3) := by decide +kernel
theorem dX2_relink_11 : decode cX2_relink 11 = .ok (.dup, 1) := by decide +kernel
theorem dX2_relink_12 : decode cX2_relink 12 = .ok (.ldc 99, 2) := by decide +kernel
theorem dX2_relink_14 : decode cX2_relink 14 = .ok (.invokespecial 45, 3) := by decide +kernel
theorem dX2_relink_17 : decode cX2_relink 17 = .ok (.athrow, 1) := by decide +kernel
theorem dX2_relink_18 : decode cX2_relink 18 = .ok (.aload_n 0, 1) := by decide +kernel
theorem dX2_relink_19 : decode cX2_relink 19 = .ok (.getfield 11, 3) := by decide +kernel
theorem dX2_relink_22 : decode cX2_relink 22 = .ok (.iload_n 1, 1) := by decide +kernel
theorem dX2_relink_23 : decode cX2_relink 23 = .ok (.aaload, 1) := by decide +kernel
theorem dX2_relink_24 : decode cX2_relink 24 = .ok (.getfield 88, 3) := by decide +kernel
theorem dX2_relink_27 : decode cX2_relink 27 = .ok (.istore_n 2, 1) := by decide +kernel
theorem dX2_relink_28 : decode cX2_relink 28 = .ok (.aload_n 0, 1) := by decide +kernel
theorem dX2_relink_29 : decode cX2_relink 29 = .ok (.getfield 11, 3) := by decide +kernel
theorem dX2_relink_32 : decode cX2_relink 32 = .ok (.iload_n 1, 1) := by decide +kernel
theorem dX2_relink_33 : decode cX2_relink 33 = .ok (.aaload, 1) := by decide +kernel
theorem dX2_relink_34 : decode cX2_relink 34 = .ok (.invokevirtual 101, 3) := by decide +kernel
theorem dX2_relink_37 : decode cX2_relink 37 = .ok (.iload_n 2, 1) := by decide +kernel
theorem dX2_relink_38 : decode cX2_relink 38 = .ok (.ireturn, 1) := by decide +kernel
set_option maxRecDepth 20000 in
theorem ggX2_load_X2_isModule : GoodIn wsX2_load wsX2_isModule := goodIn_r _ [9] (by decide +kernel) (by decide +kernel)
set_option maxRecDepth 20000 in
theorem gX2_load_X2_isModule : GoodIn wsX2_load (va_wsS RX2 37 yX2_isModule wsX2_isModule) := goodIn_app (goodIn_of _ (by decide +kernel)) ggX2_load_X2_isModule
set_option maxRecDepth 20000 in
theorem ggX2_load_X2_loadableSet : GoodIn wsX2_load wsX2_loadableSet := goodIn_r _ [13, 14, 15, 16, 17, 8, 18, 19, 20, 21, 22, 41, 42, 43, 44, 45, 46, 47, 48, 49, 50, 51, 52, 53, 54] (by decide +kernel) (by decide +kernel)
set_option maxRecDepth 20000 in
theorem gX2_load_X2_loadableSet : GoodIn wsX2_load (wsV RX2 104 RX2 yX2_loadableSet wsX2_loadableSet) := goodIn_app (goodIn_of _ (by decide +kernel)) ggX2_load_X2_loadableSet
set_option maxRecDepth 20000 in
theorem ggX2_load_X2_isIn : GoodIn wsX2_load wsX2_isIn := goodIn_r _ [25] (by decide +kernel) (by decide +kernel)
set_option maxRecDepth 20000 in
theorem gX2_load_X2_isIn : GoodIn wsX2_load (va_wsS RX2 108 yX2_isIn wsX2_isIn) := goodIn_app (goodIn_of _ (by decide +kernel)) ggX2_load_X2_isIn
set_option maxRecDepth 20000 in
theorem ggX2_load_X2_reachedSet : GoodIn wsX2_load wsX2_reachedSet := goodIn_r _ [29, 20, 21, 8, 22, 30, 31, 32, 33, 19, 23, 24, 25, 41, 42, 43, 44, 45, 46, 47, 48, 49, 50, 51, 52, 53, 54] (by decide +kernel) (by decide +kernel)
set_option maxRecDepth 20000 in
theorem gX2_load_X2_reachedSet : GoodIn wsX2_load (wsV RX2 116 RX2 yX2_reachedSet wsX2_reachedSet) := goodIn_app (goodIn_of _ (by decide +kernel)) ggX2_load_X2_reachedSet
set_option maxRecDepth 20000 in
theorem ggX2_load_J6_bitCount_0f7a4 : GoodIn wsX2_load wsJ6_bitCount_0f7a4 := goodIn_r _ [37, 38, 39, 40] (by decide +kernel) (by decide +kernel)
set_option maxRecDepth 20000 in
theorem gX2_load_J6_bitCount_0f7a4 : GoodIn wsX2_load (va_wsS RX2 120 yJ6_bitCount_0f7a4 wsJ6_bitCount_0f7a4) := goodIn_app (goodIn_of _ (by decide +kernel)) ggX2_load_J6_bitCount_0f7a4
theorem dX2_load_0 : decode cX2_load 0 = .ok (.iload_n 1, 1) := by decide +kernel
theorem dX2_load_1 : decode cX2_load 1 = .ok (.invokestatic 37, 3) := by decide +kernel
theorem dX2_load_4 : decode cX2_load 4 = .ok (.ifCond .ne 13, 3) := by decide +kernel
theorem dX2_load_7 : decode cX2_load 7 = .ok (.new 41, 3) := by decide +kernel
theorem dX2_load_10 : decode cX2_load 10 = .ok (.dup, 1) := by decide +kernel
theorem dX2_load_11 : decode cX2_load 11 = .ok (.ldc 43, 2) := by decide +kernel
theorem dX2_load_13 : decode cX2_load 13 = .ok (.invokespecial 45, 3) := by decide +kernel
theorem dX2_load_16 : decode cX2_load 16 = .ok (.athrow, 1) := by decide +kernel
theorem dX2_load_17 : decode cX2_load 17 = .ok (.aload_n 0, 1) := by decide +kernel
theorem dX2_load_18 : decode cX2_load 18 = .ok (.invokevirtual 104, 3) := by decide +kernel
theorem dX2_load_21 : decode cX2_load 21 = .ok (.istore_n 2, 1) := by decide +kernel
theorem dX2_load_22 : decode cX2_load 22 = .ok (.iload_n 2, 1) := by decide +kernel
theorem dX2_load_23 : decode cX2_load 23 = .ok (.iload_n 1, 1) := by decide +kernel
theorem dX2_load_24 : decode cX2_load 24 = .ok (.invokestatic 108, 3) := by decide +kernel
theorem dX2_load_27 : decode cX2_load 27 = .ok (.ifCond .ne 13, 3) := by decide +kernel
theorem dX2_load_30 : decode cX2_load 30 = .ok (.new 111, 3) := by decide +kernel
theorem dX2_load_33 : decode cX2_load 33 = .ok (.dup, 1) := by decide +kernel
theorem dX2_load_34 : decode cX2_load 34 = .ok (.ldc 113, 2) := by decide +kernel
theorem dX2_load_36 : decode cX2_load 36 = .ok (.invokespecial 115, 3) := by decide +kernel
theorem dX2_load_39 : decode cX2_load 39 = .ok (.athrow, 1) := by decide +kernel
theorem dX2_load_40 : decode cX2_load 40 = .ok (.aload_n 0, 1) := by decide +kernel
theorem dX2_load_41 : decode cX2_load 41 = .ok (.iload_n 1, 1) := by decide +kernel
theorem dX2_load_42 : decode cX2_load 42 = .ok (.iload_n 2, 1) := by decide +kernel
theorem dX2_load_43 : decode cX2_load 43 = .ok (.invokevirtual 116, 3) := by decide +kernel
theorem dX2_load_46 : decode cX2_load 46 = .ok (.aload_n 0, 1) := by decide +kernel
theorem dX2_load_47 : decode cX2_load 47 = .ok (.getfield 20, 3) := by decide +kernel
theorem dX2_load_50 : decode cX2_load 50 = .ok (.iconst (-1), 1) := by decide +kernel
theorem dX2_load_51 : decode cX2_load 51 = .ok (.ixor, 1) := by decide +kernel
theorem dX2_load_52 : decode cX2_load 52 = .ok (.iand, 1) := by decide +kernel
theorem dX2_load_53 : decode cX2_load 53 = .ok (.istore_n 3, 1) := by decide +kernel
theorem dX2_load_54 : decode cX2_load 54 = .ok (.aload_n 0, 1) := by decide +kernel
theorem dX2_load_55 : decode cX2_load 55 = .ok (.dup, 1) := by decide +kernel
theorem dX2_load_56 : decode cX2_load 56 = .ok (.getfield 20, 3) := by decide +kernel
theorem dX2_load_59 : decode cX2_load 59 = .ok (.iload_n 3, 1) := by decide +kernel
theorem dX2_load_60 : decode cX2_load 60 = .ok (.ior, 1) := by decide +kernel
theorem dX2_load_61 : decode cX2_load 61 = .ok (.putfield 20, 3) := by decide +kernel
theorem dX2_load_64 : decode cX2_load 64 = .ok (.iload_n 3, 1) := by decide +kernel
theorem dX2_load_65 : decode cX2_load 65 = .ok (.invokestatic 120, 3) := by decide +kernel
theorem dX2_load_68 : decode cX2_load 68 = .ok (.ireturn, 1) := by decide +kernel
set_option maxRecDepth 20000 in
theorem ggX2_unload_X2_isLoaded : GoodIn wsX2_unload wsX2_isLoaded := goodIn_r _ [11, 6, 12, 13, 10, 14, 15, 16, 17, 40, 41, 42, 43, 44, 45] (by decide +kernel) (by decide +kernel)
set_option maxRecDepth 20000 in
theorem gX2_unload_X2_isLoaded : GoodIn wsX2_unload (wsV RX2 68 RX2 yX2_isLoaded wsX2_isLoaded) := goodIn_app (goodIn_of _ (by decide +kernel)) ggX2_unload_X2_isLoaded
set_option maxRecDepth 20000 in
theorem ggX2_unload_X2_isHeldByAnother : GoodIn wsX2_unload wsX2_isHeldByAnother := goodIn_r _ [21, 5, 7, 8, 9, 10, 11, 6, 12, 13, 14, 15, 16, 17, 22, 23, 24, 25, 26, 40, 41, 42, 43, 44, 45, 46, 47, 48, 49, 50, 51, 52, 53] (by decide +kernel) (by decide +kernel)
set_option maxRecDepth 20000 in
theorem gX2_unload_X2_isHeldByAnother : GoodIn wsX2_unload (wsV RX2 127 RX2 yX2_isHeldByAnother wsX2_isHeldByAnother) := goodIn_app (goodIn_of _ (by decide +kernel)) ggX2_unload_X2_isHeldByAnother
set_option maxRecDepth 20000 in
theorem ggX2_unload_X0_countClasses : GoodIn wsX2_unload wsX0_countClasses := goodIn_r _ [29, 30, 31, 32, 23, 33, 26, 46, 47, 48, 49, 50, 51, 52, 53] (by decide +kernel) (by decide +kernel)
set_option maxRecDepth 20000 in
theorem gX2_unload_X0_countClasses_n132 : GoodIn wsX2_unload (wsX0_countClasses) := ggX2_unload_X0_countClasses
set_option maxRecDepth 20000 in
theorem ggX2_unload_X0_dropClasses : GoodIn wsX2_unload wsX0_dropClasses := goodIn_r _ [36, 26, 46, 47, 48, 49, 50, 51, 52, 53] (by decide +kernel) (by decide +kernel)
set_option maxRecDepth 20000 in
theorem gX2_unload_X0_dropClasses_n135 : GoodIn wsX2_unload (wsX0_dropClasses) := ggX2_unload_X0_dropClasses
set_option maxRecDepth 20000 in
theorem ggX2_unload_X2_bit : GoodIn wsX2_unload wsX2_bit := goodIn_r _ [39] (by decide +kernel) (by decide +kernel)
set_option maxRecDepth 20000 in
theorem gX2_unload_X2_bit : GoodIn wsX2_unload (va_wsS RX2 56 yX2_bit wsX2_bit) := goodIn_app (goodIn_of _ (by decide +kernel)) ggX2_unload_X2_bit
theorem dX2_unload_0 : decode cX2_unload 0 = .ok (.aload_n 0, 1) := by decide +kernel
theorem dX2_unload_1 : decode cX2_unload 1 = .ok (.iload_n 1, 1) := by decide +kernel
theorem dX2_unload_2 : decode cX2_unload 2 = .ok (.invokevirtual 68, 3) := by decide +kernel
theorem dX2_unload_5 : decode cX2_unload 5 = .ok (.ifCond .ne 13, 3) := by decide +kernel
theorem dX2_unload_8 : decode cX2_unload 8 = .ok (.new 41, 3) := by decide +kernel
theorem dX2_unload_11 : decode cX2_unload 11 = .ok (.dup, 1) := by decide +kernel
theorem dX2_unload_12 : decode cX2_unload 12 = .ok (.ldc 125, 2) := by decide +kernel
theorem dX2_unload_14 : decode cX2_unload 14 = .ok (.invokespecial 45, 3) := by decide +kernel
theorem dX2_unload_17 : decode cX2_unload 17 = .ok (.athrow, 1) := by decide +kernel
theorem dX2_unload_18 : decode cX2_unload 18 = .ok (.aload_n 0, 1) := by decide +kernel
theorem dX2_unload_19 : decode cX2_unload 19 = .ok (.iload_n 1, 1) := by decide +kernel
theorem dX2_unload_20 : decode cX2_unload 20 = .ok (.invokevirtual 127, 3) := by decide +kernel
theorem dX2_unload_23 : decode cX2_unload 23 = .ok (.ifCond .eq 13, 3) := by decide +kernel
theorem dX2_unload_26 : decode cX2_unload 26 = .ok (.new 51, 3) := by decide +kernel
theorem dX2_unload_29 : decode cX2_unload 29 = .ok (.dup, 1) := by decide +kernel
theorem dX2_unload_30 : decode cX2_unload 30 = .ok (.ldc 130, 2) := by decide +kernel
theorem dX2_unload_32 : decode cX2_unload 32 = .ok (.invokespecial 55, 3) := by decide +kernel
theorem dX2_unload_35 : decode cX2_unload 35 = .ok (.athrow, 1) := by decide +kernel
theorem dX2_unload_36 : decode cX2_unload 36 = .ok (.aload_n 0, 1) := by decide +kernel
theorem dX2_unload_37 : decode cX2_unload 37 = .ok (.getfield 11, 3) := by decide +kernel
theorem dX2_unload_40 : decode cX2_unload 40 = .ok (.iload_n 1, 1) := by decide +kernel
theorem dX2_unload_41 : decode cX2_unload 41 = .ok (.aaload, 1) := by decide +kernel
theorem dX2_unload_42 : decode cX2_unload 42 = .ok (.invokevirtual 132, 3) := by decide +kernel
theorem dX2_unload_45 : decode cX2_unload 45 = .ok (.istore_n 2, 1) := by decide +kernel
theorem dX2_unload_46 : decode cX2_unload 46 = .ok (.aload_n 0, 1) := by decide +kernel
theorem dX2_unload_47 : decode cX2_unload 47 = .ok (.getfield 11, 3) := by decide +kernel
theorem dX2_unload_50 : decode cX2_unload 50 = .ok (.iload_n 1, 1) := by decide +kernel
theorem dX2_unload_51 : decode cX2_unload 51 = .ok (.aaload, 1) := by decide +kernel
theorem dX2_unload_52 : decode cX2_unload 52 = .ok (.invokevirtual 135, 3) := by decide +kernel
theorem dX2_unload_55 : decode cX2_unload 55 = .ok (.aload_n 0, 1) := by decide +kernel
theorem dX2_unload_56 : decode cX2_unload 56 = .ok (.dup, 1) := by decide +kernel
theorem dX2_unload_57 : decode cX2_unload 57 = .ok (.getfield 20, 3) := by decide +kernel
theorem dX2_unload_60 : decode cX2_unload 60 = .ok (.iload_n 1, 1) := by decide +kernel
theorem dX2_unload_61 : decode cX2_unload 61 = .ok (.invokestatic 56, 3) := by decide +kernel
theorem dX2_unload_64 : decode cX2_unload 64 = .ok (.iconst (-1), 1) := by decide +kernel
theorem dX2_unload_65 : decode cX2_unload 65 = .ok (.ixor, 1) := by decide +kernel
theorem dX2_unload_66 : decode cX2_unload 66 = .ok (.iand, 1) := by decide +kernel
theorem dX2_unload_67 : decode cX2_unload 67 = .ok (.putfield 20, 3) := by decide +kernel
theorem dX2_unload_70 : decode cX2_unload 70 = .ok (.iload_n 2, 1) := by decide +kernel
theorem dX2_unload_71 : decode cX2_unload 71 = .ok (.ireturn, 1) := by decide +kernel
set_option maxRecDepth 20000 in
theorem ggX2_find_X2_isLoaded : GoodIn wsX2_find wsX2_isLoaded := goodIn_r _ [11, 12, 13, 14, 10, 15, 16, 17, 18, 77, 78, 79, 80, 81, 82] (by decide +kernel) (by decide +kernel)
set_option maxRecDepth 20000 in
theorem gX2_find_X2_isLoaded : GoodIn wsX2_find (wsV RX2 68 RX2 yX2_isLoaded wsX2_isLoaded) := goodIn_app (goodIn_of _ (by decide +kernel)) ggX2_find_X2_isLoaded
set_option maxRecDepth 20000 in
theorem ggX2_find_X2_isName : GoodIn wsX2_find wsX2_isName := goodIn_r _ [21] (by decide +kernel) (by decide +kernel)
set_option maxRecDepth 20000 in
theorem gX2_find_X2_isName : GoodIn wsX2_find (va_wsS RX2 60 yX2_isName wsX2_isName) := goodIn_app (goodIn_of _ (by decide +kernel)) ggX2_find_X2_isName
set_option maxRecDepth 20000 in
theorem ggX2_find_X2_holderSeenFrom : GoodIn wsX2_find wsX2_holderSeenFrom := goodIn_r _ [25, 26, 27, 28, 29, 30, 10, 31, 32, 33, 34, 35, 36, 37, 38, 39, 40, 41, 42, 43, 44, 45, 46, 47, 48, 49, 50, 51, 17, 18, 52, 53, 16, 54, 55, 56, 57, 7, 8, 9, 11, 12, 13, 14, 15, 58, 77, 78, 79, 80, 81, 82, 83, 84, 85, 86, 87, 88, 89, 90, 91, 92, 93, 94] (by decide +kernel) (by decide +kernel)
set_option maxRecDepth 20000 in
theorem gX2_find_X2_holderSeenFrom : GoodIn wsX2_find (wsV RX2 140 RX2 yX2_holderSeenFrom wsX2_holderSeenFrom) := goodIn_app (goodIn_of _ (by decide +kernel)) ggX2_find_X2_holderSeenFrom
set_option maxRecDepth 20000 in
theorem ggX2_find_X2_defineWithAllAbove : GoodIn wsX2_find wsX2_defineWithAllAbove := goodIn_r _ [62, 63, 64, 27, 65, 66, 67, 10, 68, 69, 40, 70, 71, 72, 22, 23, 24, 25, 26, 28, 29, 30, 31, 32, 33, 34, 35, 36, 37, 38, 39, 41, 42, 43, 44, 45, 46, 47, 48, 49, 50, 51, 17, 18, 52, 53, 16, 54, 55, 56, 57, 7, 8, 9, 11, 12, 13, 14, 15, 58, 73, 74, 75, 76, 77, 78, 79, 80, 81, 82, 87, 88, 89, 90, 91, 92, 93, 94, 83, 84, 85, 86] (by decide +kernel) (by decide +kernel)
set_option maxRecDepth 20000 in
theorem gX2_find_X2_defineWithAllAbove : GoodIn wsX2_find (wsV RX2 145 RX2 yX2_defineWithAllAbove wsX2_defineWithAllAbove) := goodIn_app (goodIn_of _ (by decide +kernel)) ggX2_find_X2_defineWithAllAbove
theorem dX2_find_0 : decode cX2_find 0 = .ok (.aload_n 0, 1) := by decide +kernel
theorem dX2_find_1 : decode cX2_find 1 = .ok (.iload_n 1, 1) := by decide +kernel
theorem dX2_find_2 : decode cX2_find 2 = .ok (.invokevirtual 68, 3) := by decide +kernel
theorem dX2_find_5 : decode cX2_find 5 = .ok (.ifCond .eq 10, 3) := by decide +kernel
theorem dX2_find_8 : decode cX2_find 8 = .ok (.iload_n 2, 1) := by decide +kernel
theorem dX2_find_9 : decode cX2_find 9 = .ok (.invokestatic 60, 3) := by decide +kernel
theorem dX2_find_12 : decode cX2_find 12 = .ok (.ifCond .ne 13, 3) := by decide +kernel
theorem dX2_find_15 : decode cX2_find 15 = .ok (.new 41, 3) := by decide +kernel
theorem dX2_find_18 : decode cX2_find 18 = .ok (.dup, 1) := by decide +kernel
theorem dX2_find_19 : decode cX2_find 19 = .ok (.ldc 138, 2) := by decide +kernel
theorem dX2_find_21 : decode cX2_find 21 = .ok (.invokespecial 45, 3) := by decide +kernel
theorem dX2_find_24 : decode cX2_find 24 = .ok (.athrow, 1) := by decide +kernel
theorem dX2_find_25 : decode cX2_find 25 = .ok (.aload_n 0, 1) := by decide +kernel
theorem dX2_find_26 : decode cX2_find 26 = .ok (.iload_n 1, 1) := by decide +kernel
theorem dX2_find_27 : decode cX2_find 27 = .ok (.iload_n 2, 1) := by decide +kernel
theorem dX2_find_28 : decode cX2_find 28 = .ok (.invokevirtual 140, 3) := by decide +kernel
theorem dX2_find_31 : decode cX2_find 31 = .ok (.istore_n 3, 1) := by decide +kernel
theorem dX2_find_32 : decode cX2_find 32 = .ok (.iload_n 3, 1) := by decide +kernel
theorem dX2_find_33 : decode cX2_find 33 = .ok (.iconst (-1), 1) := by decide +kernel
theorem dX2_find_34 : decode cX2_find 34 = .ok (.if_icmp .ne 13, 3) := by decide +kernel
theorem dX2_find_37 : decode cX2_find 37 = .ok (.new 111, 3) := by decide +kernel
theorem dX2_find_40 : decode cX2_find 40 = .ok (.dup, 1) := by decide +kernel
theorem dX2_find_41 : decode cX2_find 41 = .ok (.ldc 143, 2) := by decide +kernel
theorem dX2_find_43 : decode cX2_find 43 = .ok (.invokespecial 115, 3) := by decide +kernel
theorem dX2_find_46 : decode cX2_find 46 = .ok (.athrow, 1) := by decide +kernel
theorem dX2_find_47 : decode cX2_find 47 = .ok (.aload_n 0, 1) := by decide +kernel
theorem dX2_find_48 : decode cX2_find 48 = .ok (.iload_n 3, 1) := by decide +kernel
theorem dX2_find_49 : decode cX2_find 49 = .ok (.iload_n 2, 1) := by decide +kernel
theorem dX2_find_50 : decode cX2_find 50 = .ok (.invokevirtual 145, 3) := by decide +kernel
theorem dX2_find_53 : decode cX2_find 53 = .ok (.ifCond .ne 13, 3) := by decide +kernel
theorem dX2_find_56 : decode cX2_find 56 = .ok (.new 51, 3) := by decide +kernel
theorem dX2_find_59 : decode cX2_find 59 = .ok (.dup, 1) := by decide +kernel
theorem dX2_find_60 : decode cX2_find 60 = .ok (.ldc 148, 2) := by decide +kernel
theorem dX2_find_62 : decode cX2_find 62 = .ok (.invokespecial 55, 3) := by decide +kernel
theorem dX2_find_65 : decode cX2_find 65 = .ok (.athrow, 1) := by decide +kernel
theorem dX2_find_66 : decode cX2_find 66 = .ok (.iload_n 3, 1) := by decide +kernel
theorem dX2_find_67 : decode cX2_find 67 = .ok (.ireturn, 1) := by decide +kernel
set_option maxRecDepth 20000 in
theorem ggX2_visible_X2_isLoaded : GoodIn wsX2_visible wsX2_isLoaded := goodIn_r _ [6, 7, 8, 9, 5, 10, 11, 12, 13, 46, 47, 48, 49, 50, 51] (by decide +kernel) (by decide +kernel)
set_option maxRecDepth 20000 in
theorem gX2_visible_X2_isLoaded : GoodIn wsX2_visible (wsV RX2 68 RX2 yX2_isLoaded wsX2_isLoaded) := goodIn_app (goodIn_of _ (by decide +kernel)) ggX2_visible_X2_isLoaded
set_option maxRecDepth 20000 in
theorem ggX2_visible_X2_fillVisibleRow : GoodIn wsX2_visible wsX2_fillVisibleRow := goodIn_r _ [17, 1, 18, 19, 20, 21, 22, 23, 24, 25, 26, 27, 28, 29, 30, 31, 32, 33, 34, 35, 36, 37, 38, 12, 5, 13, 39, 40, 11, 41, 42, 43, 44, 2, 3, 4, 6, 7, 8, 9, 10, 45, 46, 47, 48, 49, 50, 51, 56, 57, 58, 59, 60, 61, 62, 63, 52, 53, 54, 55] (by decide +kernel) (by decide +kernel)
set_option maxRecDepth 20000 in
theorem gX2_visible_X2_fillVisibleRow : GoodIn wsX2_visible (wsV RX2 150 RX2 yX2_fillVisibleRow wsX2_fillVisibleRow) := goodIn_app (goodIn_of _ (by decide +kernel)) ggX2_visible_X2_fillVisibleRow
theorem dX2_visible_0 : decode cX2_visible 0 = .ok (.aload_n 0, 1) := by decide +kernel
theorem dX2_visible_1 : decode cX2_visible 1 = .ok (.iload_n 1, 1) := by decide +kernel
theorem dX2_visible_2 : decode cX2_visible 2 = .ok (.invokevirtual 68, 3) := by decide +kernel
theorem dX2_visible_5 : decode cX2_visible 5 = .ok (.ifCond .eq 13, 3) := by decide +kernel
theorem dX2_visible_8 : decode cX2_visible 8 = .ok (.iload_n 2, 1) := by decide +kernel
theorem dX2_visible_9 : decode cX2_visible 9 = .ok (.ifCond .lt 9, 3) := by decide +kernel
theorem dX2_visible_12 : decode cX2_visible 12 = .ok (.iload_n 2, 1) := by decide +kernel
theorem dX2_visible_13 : decode cX2_visible 13 = .ok (.bipush 6, 2) := by decide +kernel
theorem dX2_visible_15 : decode cX2_visible 15 = .ok (.if_icmp .lt 5, 3) := by decide +kernel
theorem dX2_visible_18 : decode cX2_visible 18 = .ok (.iconst (-1), 1) := by decide +kernel
theorem dX2_visible_19 : decode cX2_visible 19 = .ok (.ireturn, 1) := by decide +kernel
theorem dX2_visible_20 : decode cX2_visible 20 = .ok (.aload_n 0, 1) := by decide +kernel
theorem dX2_visible_21 : decode cX2_visible 21 = .ok (.iload_n 1, 1) := by decide +kernel
theorem dX2_visible_22 : decode cX2_visible 22 = .ok (.iload_n 2, 1) := by decide +kernel
theorem dX2_visible_23 : decode cX2_visible 23 = .ok (.invokevirtual 150, 3) := by decide +kernel
theorem dX2_visible_26 : decode cX2_visible 26 = .ok (.iload_n 3, 1) := by decide +kernel
theorem dX2_visible_27 : decode cX2_visible 27 = .ok (.ifCond .lt 26, 3) := by decide +kernel
theorem dX2_visible_30 : decode cX2_visible 30 = .ok (.iload_n 3, 1) := by decide +kernel
theorem dX2_visible_31 : decode cX2_visible 31 = .ok (.aload_n 0, 1) := by decide +kernel
theorem dX2_visible_32 : decode cX2_visible 32 = .ok (.getfield 26, 3) := by decide +kernel
theorem dX2_visible_35 : decode cX2_visible 35 = .ok (.getfield 154, 3) := by decide +kernel
theorem dX2_visible_38 : decode cX2_visible 38 = .ok (.if_icmp .ge 15, 3) := by decide +kernel
theorem dX2_visible_41 : decode cX2_visible 41 = .ok (.aload_n 0, 1) := by decide +kernel
theorem dX2_visible_42 : decode cX2_visible 42 = .ok (.getfield 26, 3) := by decide +kernel
theorem dX2_visible_45 : decode cX2_visible 45 = .ok (.getfield 157, 3) := by decide +kernel
theorem dX2_visible_48 : decode cX2_visible 48 = .ok (.iload_n 3, 1) := by decide +kernel
theorem dX2_visible_49 : decode cX2_visible 49 = .ok (.iaload, 1) := by decide +kernel
theorem dX2_visible_50 : decode cX2_visible 50 = .ok (.goto 4, 3) := by decide +kernel
theorem dX2_visible_53 : decode cX2_visible 53 = .ok (.iconst (-1), 1) := by decide +kernel
theorem dX2_visible_54 : decode cX2_visible 54 = .ok (.ireturn, 1) := by decide +kernel
set_option maxRecDepth 20000 in
theorem ggX2_why_X2_isLoaded : GoodIn wsX2_why wsX2_isLoaded := goodIn_r _ [6, 1, 7, 8, 5, 9, 10, 11, 12, 57, 58, 59, 60, 61, 62] (by decide +kernel) (by decide +kernel)
set_option maxRecDepth 20000 in
theorem gX2_why_X2_isLoaded : GoodIn wsX2_why (wsV RX2 68 RX2 yX2_isLoaded wsX2_isLoaded) := goodIn_app (goodIn_of _ (by decide +kernel)) ggX2_why_X2_isLoaded
set_option maxRecDepth 20000 in
theorem ggX2_why_X2_isName : GoodIn wsX2_why wsX2_isName := goodIn_r _ [15] (by decide +kernel) (by decide +kernel)
set_option maxRecDepth 20000 in
theorem gX2_why_X2_isName : GoodIn wsX2_why (va_wsS RX2 60 yX2_isName wsX2_isName) := goodIn_app (goodIn_of _ (by decide +kernel)) ggX2_why_X2_isName
set_option maxRecDepth 20000 in
theorem ggX2_why_X2_holderSeenFrom : GoodIn wsX2_why wsX2_holderSeenFrom := goodIn_r _ [19, 20, 21, 22, 23, 24, 5, 25, 26, 27, 28, 29, 30, 31, 32, 33, 34, 35, 36, 37, 38, 39, 40, 41, 42, 43, 44, 45, 11, 12, 46, 47, 10, 48, 49, 50, 51, 2, 3, 4, 6, 1, 7, 8, 9, 52, 57, 58, 59, 60, 61, 62, 63, 64, 65, 66, 67, 68, 69, 70, 71, 72, 73, 74] (by decide +kernel) (by decide +kernel)
set_option maxRecDepth 20000 in
theorem gX2_why_X2_holderSeenFrom : GoodIn wsX2_why (wsV RX2 140 RX2 yX2_holderSeenFrom wsX2_holderSeenFrom) := goodIn_app (goodIn_of _ (by decide +kernel)) ggX2_why_X2_holderSeenFrom
set_option maxRecDepth 20000 in
theorem ggX2_why_X2_holderSet : GoodIn wsX2_why wsX2_holderSet := goodIn_r _ [56, 21, 38, 34, 39, 40, 41, 52, 46, 5, 47, 57, 58, 59, 60, 61, 62, 67, 68, 69, 70, 71, 72, 73, 74] (by decide +kernel) (by decide +kernel)
set_option maxRecDepth 20000 in
theorem gX2_why_X2_holderSet : GoodIn wsX2_why (wsV RX2 160 RX2 yX2_holderSet wsX2_holderSet) := goodIn_app (goodIn_of _ (by decide +kernel)) ggX2_why_X2_holderSet
theorem dX2_why_0 : decode cX2_why 0 = .ok (.aload_n 0, 1) := by decide +kernel
theorem dX2_why_1 : decode cX2_why 1 = .ok (.iload_n 1, 1) := by decide +kernel
theorem dX2_why_2 : decode cX2_why 2 = .ok (.invokevirtual 68, 3) := by decide +kernel
theorem dX2_why_5 : decode cX2_why 5 = .ok (.ifCond .eq 10, 3) := by decide +kernel
theorem dX2_why_8 : decode cX2_why 8 = .ok (.iload_n 2, 1) := by decide +kernel
theorem dX2_why_9 : decode cX2_why 9 = .ok (.invokestatic 60, 3) := by decide +kernel
theorem dX2_why_12 : decode cX2_why 12 = .ok (.ifCond .ne 5, 3) := by decide +kernel
theorem dX2_why_15 : decode cX2_why 15 = .ok (.iconst 1, 1) := by decide +kernel
theorem dX2_why_16 : decode cX2_why 16 = .ok (.ireturn, 1) := by decide +kernel
theorem dX2_why_17 : decode cX2_why 17 = .ok (.aload_n 0, 1) := by decide +kernel
theorem dX2_why_18 : decode cX2_why 18 = .ok (.iload_n 1, 1) := by decide +kernel
theorem dX2_why_19 : decode cX2_why 19 = .ok (.iload_n 2, 1) := by decide +kernel
theorem dX2_why_20 : decode cX2_why 20 = .ok (.invokevirtual 140, 3) := by decide +kernel
theorem dX2_why_23 : decode cX2_why 23 = .ok (.iconst (-1), 1) := by decide +kernel
theorem dX2_why_24 : decode cX2_why 24 = .ok (.if_icmp .eq 5, 3) := by decide +kernel
theorem dX2_why_27 : decode cX2_why 27 = .ok (.iconst 0, 1) := by decide +kernel
theorem dX2_why_28 : decode cX2_why 28 = .ok (.ireturn, 1) := by decide +kernel
theorem dX2_why_29 : decode cX2_why 29 = .ok (.aload_n 0, 1) := by decide +kernel
theorem dX2_why_30 : decode cX2_why 30 = .ok (.iload_n 2, 1) := by decide +kernel
theorem dX2_why_31 : decode cX2_why 31 = .ok (.invokevirtual 160, 3) := by decide +kernel
theorem dX2_why_34 : decode cX2_why 34 = .ok (.istore_n 3, 1) := by decide +kernel
theorem dX2_why_35 : decode cX2_why 35 = .ok (.iload_n 3, 1) := by decide +kernel
theorem dX2_why_36 : decode cX2_why 36 = .ok (.aload_n 0, 1) := by decide +kernel
theorem dX2_why_37 : decode cX2_why 37 = .ok (.getfield 20, 3) := by decide +kernel
theorem dX2_why_40 : decode cX2_why 40 = .ok (.iand, 1) := by decide +kernel
theorem dX2_why_41 : decode cX2_why 41 = .ok (.ifCond .eq 5, 3) := by decide +kernel
theorem dX2_why_44 : decode cX2_why 44 = .ok (.iconst 2, 1) := by decide +kernel
theorem dX2_why_45 : decode cX2_why 45 = .ok (.ireturn, 1) := by decide +kernel
theorem dX2_why_46 : decode cX2_why 46 = .ok (.iload_n 3, 1) := by decide +kernel
theorem dX2_why_47 : decode cX2_why 47 = .ok (.ifCond .eq 7, 3) := by decide +kernel
theorem dX2_why_50 : decode cX2_why 50 = .ok (.iconst 3, 1) := by decide +kernel
theorem dX2_why_51 : decode cX2_why 51 = .ok (.goto 4, 3) := by decide +kernel
theorem dX2_why_54 : decode cX2_why 54 = .ok (.iconst 4, 1) := by decide +kernel
theorem dX2_why_55 : decode cX2_why 55 = .ok (.ireturn, 1) := by decide +kernel
set_option maxRecDepth 20000 in
theorem ggX2_state_X2_isModule : GoodIn wsX2_state wsX2_isModule := goodIn_r _ [4] (by decide +kernel) (by decide +kernel)
set_option maxRecDepth 20000 in
theorem gX2_state_X2_isModule : GoodIn wsX2_state (va_wsS RX2 37 yX2_isModule wsX2_isModule) := goodIn_app (goodIn_of _ (by decide +kernel)) ggX2_state_X2_isModule
set_option maxRecDepth 20000 in
theorem ggX2_state_X2_isPresent : GoodIn wsX2_state wsX2_isPresent := goodIn_r _ [8, 9, 1, 2, 3, 4, 10, 11, 12, 30, 31, 32, 33, 34, 35] (by decide +kernel) (by decide +kernel)
set_option maxRecDepth 20000 in
theorem gX2_state_X2_isPresent : GoodIn wsX2_state (wsV RX2 48 RX2 yX2_isPresent wsX2_isPresent) := goodIn_app (goodIn_of _ (by decide +kernel)) ggX2_state_X2_isPresent
set_option maxRecDepth 20000 in
theorem ggX2_state_X2_isLoaded : GoodIn wsX2_state wsX2_isLoaded := goodIn_r _ [16, 17, 1, 2, 3, 4, 10, 11, 12, 30, 31, 32, 33, 34, 35] (by decide +kernel) (by decide +kernel)
set_option maxRecDepth 20000 in
theorem gX2_state_X2_isLoaded : GoodIn wsX2_state (wsV RX2 68 RX2 yX2_isLoaded wsX2_isLoaded) := goodIn_app (goodIn_of _ (by decide +kernel)) ggX2_state_X2_isLoaded
set_option maxRecDepth 20000 in
theorem ggX2_state_X2_loadableSet : GoodIn wsX2_state wsX2_loadableSet := goodIn_r _ [21, 9, 22, 23, 24, 3, 25, 26, 27, 28, 29, 30, 31, 32, 33, 34, 35, 36, 37, 38, 39, 40, 41, 42, 43] (by decide +kernel) (by decide +kernel)
set_option maxRecDepth 20000 in
theorem gX2_state_X2_loadableSet : GoodIn wsX2_state (wsV RX2 104 RX2 yX2_loadableSet wsX2_loadableSet) := goodIn_app (goodIn_of _ (by decide +kernel)) ggX2_state_X2_loadableSet
set_option maxRecDepth 20000 in
theorem ggX2_state_X2_isIn : GoodIn wsX2_state wsX2_isIn := goodIn_r _ [12] (by decide +kernel) (by decide +kernel)
set_option maxRecDepth 20000 in
theorem gX2_state_X2_isIn : GoodIn wsX2_state (va_wsS RX2 108 yX2_isIn wsX2_isIn) := goodIn_app (goodIn_of _ (by decide +kernel)) ggX2_state_X2_isIn
theorem dX2_state_0 : decode cX2_state 0 = .ok (.iload_n 1, 1) := by decide +kernel
theorem dX2_state_1 : decode cX2_state 1 = .ok (.invokestatic 37, 3) := by decide +kernel
theorem dX2_state_4 : decode cX2_state 4 = .ok (.ifCond .ne 5, 3) := by decide +kernel
theorem dX2_state_7 : decode cX2_state 7 = .ok (.iconst (-1), 1) := by decide +kernel
theorem dX2_state_8 : decode cX2_state 8 = .ok (.ireturn, 1) := by decide +kernel
theorem dX2_state_9 : decode cX2_state 9 = .ok (.aload_n 0, 1) := by decide +kernel
theorem dX2_state_10 : decode cX2_state 10 = .ok (.iload_n 1, 1) := by decide +kernel
theorem dX2_state_11 : decode cX2_state 11 = .ok (.invokevirtual 48, 3) := by decide +kernel
theorem dX2_state_14 : decode cX2_state 14 = .ok (.ifCond .ne 5, 3) := by decide +kernel
theorem dX2_state_17 : decode cX2_state 17 = .ok (.iconst 0, 1) := by decide +kernel
theorem dX2_state_18 : decode cX2_state 18 = .ok (.ireturn, 1) := by decide +kernel
theorem dX2_state_19 : decode cX2_state 19 = .ok (.aload_n 0, 1) := by decide +kernel
theorem dX2_state_20 : decode cX2_state 20 = .ok (.iload_n 1, 1) := by decide +kernel
theorem dX2_state_21 : decode cX2_state 21 = .ok (.invokevirtual 68, 3) := by decide +kernel
theorem dX2_state_24 : decode cX2_state 24 = .ok (.ifCond .eq 5, 3) := by decide +kernel
theorem dX2_state_27 : decode cX2_state 27 = .ok (.iconst 3, 1) := by decide +kernel
theorem dX2_state_28 : decode cX2_state 28 = .ok (.ireturn, 1) := by decide +kernel
theorem dX2_state_29 : decode cX2_state 29 = .ok (.aload_n 0, 1) := by decide +kernel
theorem dX2_state_30 : decode cX2_state 30 = .ok (.invokevirtual 104, 3) := by decide +kernel
theorem dX2_state_33 : decode cX2_state 33 = .ok (.iload_n 1, 1) := by decide +kernel
theorem dX2_state_34 : decode cX2_state 34 = .ok (.invokestatic 108, 3) := by decide +kernel
theorem dX2_state_37 : decode cX2_state 37 = .ok (.ifCond .eq 7, 3) := by decide +kernel
theorem dX2_state_40 : decode cX2_state 40 = .ok (.iconst 2, 1) := by decide +kernel
theorem dX2_state_41 : decode cX2_state 41 = .ok (.goto 4, 3) := by decide +kernel
theorem dX2_state_44 : decode cX2_state 44 = .ok (.iconst 1, 1) := by decide +kernel
theorem dX2_state_45 : decode cX2_state 45 = .ok (.ireturn, 1) := by decide +kernel
set_option maxRecDepth 20000 in
theorem ggX2_above_X2_isModule : GoodIn wsX2_above wsX2_isModule := goodIn_r _ [5] (by decide +kernel) (by decide +kernel)
set_option maxRecDepth 20000 in
theorem gX2_above_X2_isModule : GoodIn wsX2_above (va_wsS RX2 37 yX2_isModule wsX2_isModule) := goodIn_app (goodIn_of _ (by decide +kernel)) ggX2_above_X2_isModule
set_option maxRecDepth 20000 in
theorem ggX2_above_X2_isName : GoodIn wsX2_above wsX2_isName := goodIn_r _ [8] (by decide +kernel) (by decide +kernel)
set_option maxRecDepth 20000 in
theorem gX2_above_X2_isName : GoodIn wsX2_above (va_wsS RX2 60 yX2_isName wsX2_isName) := goodIn_app (goodIn_of _ (by decide +kernel)) ggX2_above_X2_isName
theorem dX2_above_0 : decode cX2_above 0 = .ok (.iload_n 1, 1) := by decide +kernel
theorem dX2_above_1 : decode cX2_above 1 = .ok (.invokestatic 37, 3) := by decide +kernel
theorem dX2_above_4 : decode cX2_above 4 = .ok (.ifCond .eq 24, 3) := by decide +kernel
theorem dX2_above_7 : decode cX2_above 7 = .ok (.iload_n 2, 1) := by decide +kernel
theorem dX2_above_8 : decode cX2_above 8 = .ok (.invokestatic 60, 3) := by decide +kernel
theorem dX2_above_11 : decode cX2_above 11 = .ok (.ifCond .eq 17, 3) := by decide +kernel
theorem dX2_above_14 : decode cX2_above 14 = .ok (.aload_n 0, 1) := by decide +kernel
theorem dX2_above_15 : decode cX2_above 15 = .ok (.getfield 11, 3) := by decide +kernel
theorem dX2_above_18 : decode cX2_above 18 = .ok (.iload_n 1, 1) := by decide +kernel
theorem dX2_above_19 : decode cX2_above 19 = .ok (.aaload, 1) := by decide +kernel
theorem dX2_above_20 : decode cX2_above 20 = .ok (.getfield 163, 3) := by decide +kernel
theorem dX2_above_23 : decode cX2_above 23 = .ok (.iload_n 2, 1) := by decide +kernel
theorem dX2_above_24 : decode cX2_above 24 = .ok (.iaload, 1) := by decide +kernel
theorem dX2_above_25 : decode cX2_above 25 = .ok (.goto 4, 3) := by decide +kernel
theorem dX2_above_28 : decode cX2_above 28 = .ok (.iconst (-1), 1) := by decide +kernel
theorem dX2_above_29 : decode cX2_above 29 = .ok (.ireturn, 1) := by decide +kernel
set_option maxRecDepth 20000 in
theorem ggX2_defined_X0_countClasses : GoodIn wsX2_defined wsX0_countClasses := goodIn_r _ [5, 6, 7, 8, 3, 9, 10, 17, 18, 19, 20, 21, 22, 23, 24] (by decide +kernel) (by decide +kernel)
set_option maxRecDepth 20000 in
theorem gX2_defined_X0_countClasses_n132 : GoodIn wsX2_defined (wsX0_countClasses) := ggX2_defined_X0_countClasses
theorem dX2_defined_0 : decode cX2_defined 0 = .ok (.iconst 0, 1) := by decide +kernel
theorem dX2_defined_1 : decode cX2_defined 1 = .ok (.istore_n 1, 1) := by decide +kernel
theorem dX2_defined_2 : decode cX2_defined 2 = .ok (.iconst 0, 1) := by decide +kernel
theorem dX2_defined_3 : decode cX2_defined 3 = .ok (.istore_n 2, 1) := by decide +kernel
theorem dX2_defined_4 : decode cX2_defined 4 = .ok (.iload_n 2, 1) := by decide +kernel
theorem dX2_defined_5 : decode cX2_defined 5 = .ok (.bipush 8, 2) := by decide +kernel
theorem dX2_defined_7 : decode cX2_defined 7 = .ok (.if_icmp .ge 21, 3) := by decide +kernel
theorem dX2_defined_10 : decode cX2_defined 10 = .ok (.iload_n 1, 1) := by decide +kernel
theorem dX2_defined_11 : decode cX2_defined 11 = .ok (.aload_n 0, 1) := by decide +kernel
theorem dX2_defined_12 : decode cX2_defined 12 = .ok (.getfield 11, 3) := by decide +kernel
theorem dX2_defined_15 : decode cX2_defined 15 = .ok (.iload_n 2, 1) := by decide +kernel
theorem dX2_defined_16 : decode cX2_defined 16 = .ok (.aaload, 1) := by decide +kernel
theorem dX2_defined_17 : decode cX2_defined 17 = .ok (.invokevirtual 132, 3) := by decide +kernel
theorem dX2_defined_20 : decode cX2_defined 20 = .ok (.iadd, 1) := by decide +kernel
theorem dX2_defined_21 : decode cX2_defined 21 = .ok (.istore_n 1, 1) := by decide +kernel
theorem dX2_defined_22 : decode cX2_defined 22 = .ok (.iinc 2 1, 3) := by decide +kernel
theorem dX2_defined_25 : decode cX2_defined 25 = .ok (.goto (-21), 3) := by decide +kernel
theorem dX2_defined_28 : decode cX2_defined 28 = .ok (.iload_n 1, 1) := by decide +kernel
theorem dX2_defined_29 : decode cX2_defined 29 = .ok (.ireturn, 1) := by decide +kernel
theorem dX2_bit_0 : decode cX2_bit 0 = .ok (.iconst 1, 1) := by decide +kernel
theorem dX2_bit_1 : decode cX2_bit 1 = .ok (.iload_n 0, 1) := by decide +kernel
theorem dX2_bit_2 : decode cX2_bit 2 = .ok (.ishl, 1) := by decide +kernel
theorem dX2_bit_3 : decode cX2_bit 3 = .ok (.ireturn, 1) := by decide +kernel
theorem dX2_isIn_0 : decode cX2_isIn 0 = .ok (.iload_n 0, 1) := by decide +kernel
theorem dX2_isIn_1 : decode cX2_isIn 1 = .ok (.iload_n 1, 1) := by decide +kernel
theorem dX2_isIn_2 : decode cX2_isIn 2 = .ok (.ishr, 1) := by decide +kernel
theorem dX2_isIn_3 : decode cX2_isIn 3 = .ok (.iconst 1, 1) := by decide +kernel
theorem dX2_isIn_4 : decode cX2_isIn 4 = .ok (.iand, 1) := by decide +kernel
theorem dX2_isIn_5 : decode cX2_isIn 5 = .ok (.ifCond .eq 7, 3) := by decide +kernel
theorem dX2_isIn_8 : decode cX2_isIn 8 = .ok (.iconst 1, 1) := by decide +kernel
theorem dX2_isIn_9 : decode cX2_isIn 9 = .ok (.goto 4, 3) := by decide +kernel
theorem dX2_isIn_12 : decode cX2_isIn 12 = .ok (.iconst 0, 1) := by decide +kernel
theorem dX2_isIn_13 : decode cX2_isIn 13 = .ok (.ireturn, 1) := by decide +kernel
theorem dX2_isModule_0 : decode cX2_isModule 0 = .ok (.iload_n 0, 1) := by decide +kernel
theorem dX2_isModule_1 : decode cX2_isModule 1 = .ok (.ifCond .lt 13, 3) := by decide +kernel
theorem dX2_isModule_4 : decode cX2_isModule 4 = .ok (.iload_n 0, 1) := by decide +kernel
theorem dX2_isModule_5 : decode cX2_isModule 5 = .ok (.bipush 8, 2) := by decide +kernel
theorem dX2_isModule_7 : decode cX2_isModule 7 = .ok (.if_icmp .ge 7, 3) := by decide +kernel
theorem dX2_isModule_10 : decode cX2_isModule 10 = .ok (.iconst 1, 1) := by decide +kernel
theorem dX2_isModule_11 : decode cX2_isModule 11 = .ok (.goto 4, 3) := by decide +kernel
theorem dX2_isModule_14 : decode cX2_isModule 14 = .ok (.iconst 0, 1) := by decide +kernel
theorem dX2_isModule_15 : decode cX2_isModule 15 = .ok (.ireturn, 1) := by decide +kernel
theorem dX2_isName_0 : decode cX2_isName 0 = .ok (.iload_n 0, 1) := by decide +kernel
theorem dX2_isName_1 : decode cX2_isName 1 = .ok (.ifCond .lt 13, 3) := by decide +kernel
theorem dX2_isName_4 : decode cX2_isName 4 = .ok (.iload_n 0, 1) := by decide +kernel
theorem dX2_isName_5 : decode cX2_isName 5 = .ok (.bipush 24, 2) := by decide +kernel
theorem dX2_isName_7 : decode cX2_isName 7 = .ok (.if_icmp .ge 7, 3) := by decide +kernel
theorem dX2_isName_10 : decode cX2_isName 10 = .ok (.iconst 1, 1) := by decide +kernel
theorem dX2_isName_11 : decode cX2_isName 11 = .ok (.goto 4, 3) := by decide +kernel
theorem dX2_isName_14 : decode cX2_isName 14 = .ok (.iconst 0, 1) := by decide +kernel
theorem dX2_isName_15 : decode cX2_isName 15 = .ok (.ireturn, 1) := by decide +kernel
set_option maxRecDepth 20000 in
theorem ggX2_isExtended_X2_isName : GoodIn wsX2_isExtended wsX2_isName := goodIn_r _ [4] (by decide +kernel) (by decide +kernel)
set_option maxRecDepth 20000 in
theorem gX2_isExtended_X2_isName : GoodIn wsX2_isExtended (va_wsS RX2 60 yX2_isName wsX2_isName) := goodIn_app (goodIn_of _ (by decide +kernel)) ggX2_isExtended_X2_isName
theorem dX2_isExtended_0 : decode cX2_isExtended 0 = .ok (.iload_n 0, 1) := by decide +kernel
theorem dX2_isExtended_1 : decode cX2_isExtended 1 = .ok (.invokestatic 60, 3) := by decide +kernel
theorem dX2_isExtended_4 : decode cX2_isExtended 4 = .ok (.ifCond .ne 14, 3) := by decide +kernel
theorem dX2_isExtended_7 : decode cX2_isExtended 7 = .ok (.iload_n 0, 1) := by decide +kernel
theorem dX2_isExtended_8 : decode cX2_isExtended 8 = .ok (.iconst (-1), 1) := by decide +kernel
theorem dX2_isExtended_9 : decode cX2_isExtended 9 = .ok (.if_icmp .eq 9, 3) := by decide +kernel
theorem dX2_isExtended_12 : decode cX2_isExtended 12 = .ok (.iload_n 0, 1) := by decide +kernel
theorem dX2_isExtended_13 : decode cX2_isExtended 13 = .ok (.bipush (-2), 2) := by decide +kernel
theorem dX2_isExtended_15 : decode cX2_isExtended 15 = .ok (.if_icmp .ne 7, 3) := by decide +kernel
theorem dX2_isExtended_18 : decode cX2_isExtended 18 = .ok (.iconst 1, 1) := by decide +kernel
theorem dX2_isExtended_19 : decode cX2_isExtended 19 = .ok (.goto 4, 3) := by decide +kernel
theorem dX2_isExtended_22 : decode cX2_isExtended 22 = .ok (.iconst 0, 1) := by decide +kernel
theorem dX2_isExtended_23 : decode cX2_isExtended 23 = .ok (.ireturn, 1) := by decide +kernel
theorem dX2_isPathSet_0 : decode cX2_isPathSet 0 = .ok (.iload_n 0, 1) := by decide +kernel
theorem dX2_isPathSet_1 : decode cX2_isPathSet 1 = .ok (.ifCond .lt 13, 3) := by decide +kernel
theorem dX2_isPathSet_4 : decode cX2_isPathSet 4 = .ok (.iload_n 0, 1) := by decide +kernel
theorem dX2_isPathSet_5 : decode cX2_isPathSet 5 = .ok (.bipush 63, 2) := by decide +kernel
theorem dX2_isPathSet_7 : decode cX2_isPathSet 7 = .ok (.if_icmp .gt 7, 3) := by decide +kernel
theorem dX2_isPathSet_10 : decode cX2_isPathSet 10 = .ok (.iconst 1, 1) := by decide +kernel
theorem dX2_isPathSet_11 : decode cX2_isPathSet 11 = .ok (.goto 4, 3) := by decide +kernel
theorem dX2_isPathSet_14 : decode cX2_isPathSet 14 = .ok (.iconst 0, 1) := by decide +kernel
theorem dX2_isPathSet_15 : decode cX2_isPathSet 15 = .ok (.ireturn, 1) := by decide +kernel
set_option maxRecDepth 20000 in
theorem ggX2_canDependOn_X2_isModule : GoodIn wsX2_canDependOn wsX2_isModule := goodIn_r _ [4] (by decide +kernel) (by decide +kernel)
set_option maxRecDepth 20000 in
theorem gX2_canDependOn_X2_isModule : GoodIn wsX2_canDependOn (va_wsS RX2 37 yX2_isModule wsX2_isModule) := goodIn_app (goodIn_of _ (by decide +kernel)) ggX2_canDependOn_X2_isModule
theorem dX2_canDependOn_0 : decode cX2_canDependOn 0 = .ok (.iload_n 1, 1) := by decide +kernel
theorem dX2_canDependOn_1 : decode cX2_canDependOn 1 = .ok (.iconst (-1), 1) := by decide +kernel
theorem dX2_canDependOn_2 : decode cX2_canDependOn 2 = .ok (.if_icmp .eq 15, 3) := by decide +kernel
theorem dX2_canDependOn_5 : decode cX2_canDependOn 5 = .ok (.iload_n 1, 1) := by decide +kernel
theorem dX2_canDependOn_6 : decode cX2_canDependOn 6 = .ok (.invokestatic 37, 3) := by decide +kernel
theorem dX2_canDependOn_9 : decode cX2_canDependOn 9 = .ok (.ifCond .eq 12, 3) := by decide +kernel
theorem dX2_canDependOn_12 : decode cX2_canDependOn 12 = .ok (.iload_n 1, 1) := by decide +kernel
theorem dX2_canDependOn_13 : decode cX2_canDependOn 13 = .ok (.iload_n 0, 1) := by decide +kernel
theorem dX2_canDependOn_14 : decode cX2_canDependOn 14 = .ok (.if_icmp .eq 7, 3) := by decide +kernel
theorem dX2_canDependOn_17 : decode cX2_canDependOn 17 = .ok (.iconst 1, 1) := by decide +kernel
theorem dX2_canDependOn_18 : decode cX2_canDependOn 18 = .ok (.goto 4, 3) := by decide +kernel
theorem dX2_canDependOn_21 : decode cX2_canDependOn 21 = .ok (.iconst 0, 1) := by decide +kernel
theorem dX2_canDependOn_22 : decode cX2_canDependOn 22 = .ok (.ireturn, 1) := by decide +kernel
set_option maxRecDepth 20000 in
theorem ggX2_isPresent_X2_isModule : GoodIn wsX2_isPresent wsX2_isModule := goodIn_r _ [5] (by decide +kernel) (by decide +kernel)
set_option maxRecDepth 20000 in
theorem gX2_isPresent_X2_isModule : GoodIn wsX2_isPresent (va_wsS RX2 37 yX2_isModule wsX2_isModule) := goodIn_app (goodIn_of _ (by decide +kernel)) ggX2_isPresent_X2_isModule
set_option maxRecDepth 20000 in
theorem ggX2_isPresent_X2_isIn : GoodIn wsX2_isPresent wsX2_isIn := goodIn_r _ [8] (by decide +kernel) (by decide +kernel)
