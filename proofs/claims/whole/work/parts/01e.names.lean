theorem dX3_isLoaded_20 : decode cX3_isLoaded 20 = .ok (.iconst 0, 1) := by decide +kernel
theorem dX3_isLoaded_21 : decode cX3_isLoaded 21 = .ok (.ireturn, 1) := by decide +kernel
set_option maxRecDepth 20000 in
theorem ggX3_present_X3_isModule : GoodIn wsX3_present wsX3_isModule := goodIn_r _ [5, 6, 7, 4, 8] (by decide +kernel) (by decide +kernel)
set_option maxRecDepth 20000 in
theorem gX3_present_X3_isModule : GoodIn wsX3_present (va_wsS RX3 67 yX3_isModule wsX3_isModule) := goodIn_app (goodIn_of _ (by decide +kernel)) ggX3_present_X3_isModule
set_option maxRecDepth 20000 in
theorem ggX3_present_X3_throwsBy : GoodIn wsX3_present wsX3_throwsBy := goodIn_r _ [12, 13, 14, 15, 16, 17, 18, 19, 20, 21, 22, 23, 24, 25, 26, 27, 28, 29, 30, 31, 32] (by decide +kernel) (by decide +kernel)
set_option maxRecDepth 20000 in
theorem gX3_present_X3_throwsBy : GoodIn wsX3_present (wsV RX3 71 RX3 yX3_throwsBy wsX3_throwsBy) := goodIn_app (goodIn_of _ (by decide +kernel)) ggX3_present_X3_throwsBy
theorem dX3_present_0 : decode cX3_present 0 = .ok (.aload_n 0, 1) := by decide +kernel
theorem dX3_present_1 : decode cX3_present 1 = .ok (.iload_n 1, 1) := by decide +kernel
theorem dX3_present_2 : decode cX3_present 2 = .ok (.invokestatic 67, 3) := by decide +kernel
theorem dX3_present_5 : decode cX3_present 5 = .ok (.ifCond .ne 7, 3) := by decide +kernel
theorem dX3_present_8 : decode cX3_present 8 = .ok (.iconst 1, 1) := by decide +kernel
theorem dX3_present_9 : decode cX3_present 9 = .ok (.goto 17, 3) := by decide +kernel
theorem dX3_present_12 : decode cX3_present 12 = .ok (.aload_n 0, 1) := by decide +kernel
theorem dX3_present_13 : decode cX3_present 13 = .ok (.getfield 7, 3) := by decide +kernel
theorem dX3_present_16 : decode cX3_present 16 = .ok (.iload_n 1, 1) := by decide +kernel
theorem dX3_present_17 : decode cX3_present 17 = .ok (.baload, 1) := by decide +kernel
theorem dX3_present_18 : decode cX3_present 18 = .ok (.ifCond .eq 7, 3) := by decide +kernel
theorem dX3_present_21 : decode cX3_present 21 = .ok (.iconst 2, 1) := by decide +kernel
theorem dX3_present_22 : decode cX3_present 22 = .ok (.goto 4, 3) := by decide +kernel
theorem dX3_present_25 : decode cX3_present 25 = .ok (.iconst 0, 1) := by decide +kernel
theorem dX3_present_26 : decode cX3_present 26 = .ok (.invokevirtual 71, 3) := by decide +kernel
theorem dX3_present_29 : decode cX3_present 29 = .ok (.ifCond .eq 4, 3) := by decide +kernel
theorem dX3_present_32 : decode cX3_present 32 = .ok (.return_, 1) := by decide +kernel
theorem dX3_present_33 : decode cX3_present 33 = .ok (.aload_n 0, 1) := by decide +kernel
theorem dX3_present_34 : decode cX3_present 34 = .ok (.getfield 7, 3) := by decide +kernel
theorem dX3_present_37 : decode cX3_present 37 = .ok (.iload_n 1, 1) := by decide +kernel
theorem dX3_present_38 : decode cX3_present 38 = .ok (.iconst 1, 1) := by decide +kernel
theorem dX3_present_39 : decode cX3_present 39 = .ok (.bastore, 1) := by decide +kernel
theorem dX3_present_40 : decode cX3_present 40 = .ok (.return_, 1) := by decide +kernel
set_option maxRecDepth 20000 in
theorem ggX3_file_X3_isPresent : GoodIn wsX3_file wsX3_isPresent := goodIn_r _ [7, 8, 9, 10, 6, 11, 12, 13, 14, 20, 21, 22, 23, 24, 25, 26, 27, 28, 29, 30, 31, 32, 33, 34, 35, 36, 37, 38] (by decide +kernel) (by decide +kernel)
set_option maxRecDepth 20000 in
theorem gX3_file_X3_isPresent : GoodIn wsX3_file (wsV RX3 74 RX3 yX3_isPresent wsX3_isPresent) := goodIn_app (goodIn_of _ (by decide +kernel)) ggX3_file_X3_isPresent
set_option maxRecDepth 20000 in
theorem ggX3_file_X3_in : GoodIn wsX3_file wsX3_in := goodIn_r _ [14] (by decide +kernel) (by decide +kernel)
set_option maxRecDepth 20000 in
theorem gX3_file_X3_in : GoodIn wsX3_file (va_wsS RX3 63 yX3_in wsX3_in) := goodIn_app (goodIn_of _ (by decide +kernel)) ggX3_file_X3_in
set_option maxRecDepth 20000 in
theorem ggX3_file_X3_throwsBy : GoodIn wsX3_file wsX3_throwsBy := goodIn_r _ [18, 19, 20, 21, 22, 23, 24, 25, 26, 27, 28, 29, 30, 31, 32, 33, 34, 35, 36, 37, 38] (by decide +kernel) (by decide +kernel)
set_option maxRecDepth 20000 in
theorem gX3_file_X3_throwsBy : GoodIn wsX3_file (wsV RX3 71 RX3 yX3_throwsBy wsX3_throwsBy) := goodIn_app (goodIn_of _ (by decide +kernel)) ggX3_file_X3_throwsBy
theorem dX3_file_0 : decode cX3_file 0 = .ok (.aload_n 0, 1) := by decide +kernel
theorem dX3_file_1 : decode cX3_file 1 = .ok (.iload_n 1, 1) := by decide +kernel
theorem dX3_file_2 : decode cX3_file 2 = .ok (.invokevirtual 74, 3) := by decide +kernel
theorem dX3_file_5 : decode cX3_file 5 = .ok (.ifCond .eq 28, 3) := by decide +kernel
theorem dX3_file_8 : decode cX3_file 8 = .ok (.iload_n 2, 1) := by decide +kernel
theorem dX3_file_9 : decode cX3_file 9 = .ok (.iconst 0, 1) := by decide +kernel
theorem dX3_file_10 : decode cX3_file 10 = .ok (.bipush 23, 2) := by decide +kernel
theorem dX3_file_12 : decode cX3_file 12 = .ok (.invokestatic 63, 3) := by decide +kernel
theorem dX3_file_15 : decode cX3_file 15 = .ok (.ifCond .eq 18, 3) := by decide +kernel
theorem dX3_file_18 : decode cX3_file 18 = .ok (.iload_n 3, 1) := by decide +kernel
theorem dX3_file_19 : decode cX3_file 19 = .ok (.bipush (-2), 2) := by decide +kernel
theorem dX3_file_21 : decode cX3_file 21 = .ok (.bipush 23, 2) := by decide +kernel
theorem dX3_file_23 : decode cX3_file 23 = .ok (.invokestatic 63, 3) := by decide +kernel
theorem dX3_file_26 : decode cX3_file 26 = .ok (.ifCond .eq 7, 3) := by decide +kernel
theorem dX3_file_29 : decode cX3_file 29 = .ok (.iconst 1, 1) := by decide +kernel
theorem dX3_file_30 : decode cX3_file 30 = .ok (.goto 4, 3) := by decide +kernel
theorem dX3_file_33 : decode cX3_file 33 = .ok (.iconst 0, 1) := by decide +kernel
theorem dX3_file_34 : decode cX3_file 34 = .ok (.istore 4, 2) := by decide +kernel
theorem dX3_file_36 : decode cX3_file 36 = .ok (.aload_n 0, 1) := by decide +kernel
theorem dX3_file_37 : decode cX3_file 37 = .ok (.iload 4, 2) := by decide +kernel
theorem dX3_file_39 : decode cX3_file 39 = .ok (.ifCond .ne 7, 3) := by decide +kernel
theorem dX3_file_42 : decode cX3_file 42 = .ok (.iconst 1, 1) := by decide +kernel
theorem dX3_file_43 : decode cX3_file 43 = .ok (.goto 33, 3) := by decide +kernel
theorem dX3_file_46 : decode cX3_file 46 = .ok (.aload_n 0, 1) := by decide +kernel
theorem dX3_file_47 : decode cX3_file 47 = .ok (.getfield 13, 3) := by decide +kernel
theorem dX3_file_50 : decode cX3_file 50 = .ok (.iload_n 1, 1) := by decide +kernel
theorem dX3_file_51 : decode cX3_file 51 = .ok (.baload, 1) := by decide +kernel
theorem dX3_file_52 : decode cX3_file 52 = .ok (.ifCond .ne 19, 3) := by decide +kernel
theorem dX3_file_55 : decode cX3_file 55 = .ok (.aload_n 0, 1) := by decide +kernel
theorem dX3_file_56 : decode cX3_file 56 = .ok (.getfield 19, 3) := by decide +kernel
theorem dX3_file_59 : decode cX3_file 59 = .ok (.bipush 24, 2) := by decide +kernel
theorem dX3_file_61 : decode cX3_file 61 = .ok (.iload_n 1, 1) := by decide +kernel
theorem dX3_file_62 : decode cX3_file 62 = .ok (.imul, 1) := by decide +kernel
theorem dX3_file_63 : decode cX3_file 63 = .ok (.iload_n 2, 1) := by decide +kernel
theorem dX3_file_64 : decode cX3_file 64 = .ok (.iadd, 1) := by decide +kernel
theorem dX3_file_65 : decode cX3_file 65 = .ok (.iaload, 1) := by decide +kernel
theorem dX3_file_66 : decode cX3_file 66 = .ok (.bipush (-3), 2) := by decide +kernel
theorem dX3_file_68 : decode cX3_file 68 = .ok (.if_icmp .eq 7, 3) := by decide +kernel
theorem dX3_file_71 : decode cX3_file 71 = .ok (.iconst 2, 1) := by decide +kernel
theorem dX3_file_72 : decode cX3_file 72 = .ok (.goto 4, 3) := by decide +kernel
theorem dX3_file_75 : decode cX3_file 75 = .ok (.iconst 0, 1) := by decide +kernel
theorem dX3_file_76 : decode cX3_file 76 = .ok (.invokevirtual 71, 3) := by decide +kernel
theorem dX3_file_79 : decode cX3_file 79 = .ok (.ifCond .eq 4, 3) := by decide +kernel
theorem dX3_file_82 : decode cX3_file 82 = .ok (.return_, 1) := by decide +kernel
theorem dX3_file_83 : decode cX3_file 83 = .ok (.aload_n 0, 1) := by decide +kernel
theorem dX3_file_84 : decode cX3_file 84 = .ok (.getfield 19, 3) := by decide +kernel
theorem dX3_file_87 : decode cX3_file 87 = .ok (.bipush 24, 2) := by decide +kernel
theorem dX3_file_89 : decode cX3_file 89 = .ok (.iload_n 1, 1) := by decide +kernel
theorem dX3_file_90 : decode cX3_file 90 = .ok (.imul, 1) := by decide +kernel
theorem dX3_file_91 : decode cX3_file 91 = .ok (.iload_n 2, 1) := by decide +kernel
theorem dX3_file_92 : decode cX3_file 92 = .ok (.iadd, 1) := by decide +kernel
theorem dX3_file_93 : decode cX3_file 93 = .ok (.iload_n 3, 1) := by decide +kernel
theorem dX3_file_94 : decode cX3_file 94 = .ok (.iastore, 1) := by decide +kernel
theorem dX3_file_95 : decode cX3_file 95 = .ok (.return_, 1) := by decide +kernel
set_option maxRecDepth 20000 in
theorem ggX3_depend_X3_isPresent : GoodIn wsX3_depend wsX3_isPresent := goodIn_r _ [11, 12, 13, 14, 10, 15, 16, 17, 18, 24, 25, 26, 27, 28, 29, 30, 31, 32, 33, 34, 35, 36, 37, 38, 39, 40, 41, 42] (by decide +kernel) (by decide +kernel)
set_option maxRecDepth 20000 in
theorem gX3_depend_X3_isPresent : GoodIn wsX3_depend (wsV RX3 74 RX3 yX3_isPresent wsX3_isPresent) := goodIn_app (goodIn_of _ (by decide +kernel)) ggX3_depend_X3_isPresent
set_option maxRecDepth 20000 in
theorem ggX3_depend_X3_in : GoodIn wsX3_depend wsX3_in := goodIn_r _ [18] (by decide +kernel) (by decide +kernel)
set_option maxRecDepth 20000 in
theorem gX3_depend_X3_in : GoodIn wsX3_depend (va_wsS RX3 63 yX3_in wsX3_in) := goodIn_app (goodIn_of _ (by decide +kernel)) ggX3_depend_X3_in
set_option maxRecDepth 20000 in
theorem ggX3_depend_X3_throwsBy : GoodIn wsX3_depend wsX3_throwsBy := goodIn_r _ [22, 23, 24, 25, 26, 27, 28, 29, 30, 31, 32, 33, 34, 35, 36, 37, 38, 39, 40, 41, 42] (by decide +kernel) (by decide +kernel)
set_option maxRecDepth 20000 in
theorem gX3_depend_X3_throwsBy : GoodIn wsX3_depend (wsV RX3 71 RX3 yX3_throwsBy wsX3_throwsBy) := goodIn_app (goodIn_of _ (by decide +kernel)) ggX3_depend_X3_throwsBy
theorem dX3_depend_0 : decode cX3_depend 0 = .ok (.aload_n 0, 1) := by decide +kernel
theorem dX3_depend_1 : decode cX3_depend 1 = .ok (.iload_n 1, 1) := by decide +kernel
theorem dX3_depend_2 : decode cX3_depend 2 = .ok (.invokevirtual 74, 3) := by decide +kernel
theorem dX3_depend_5 : decode cX3_depend 5 = .ok (.ifCond .eq 43, 3) := by decide +kernel
theorem dX3_depend_8 : decode cX3_depend 8 = .ok (.iload_n 2, 1) := by decide +kernel
theorem dX3_depend_9 : decode cX3_depend 9 = .ok (.iconst (-1), 1) := by decide +kernel
theorem dX3_depend_10 : decode cX3_depend 10 = .ok (.bipush 7, 2) := by decide +kernel
theorem dX3_depend_12 : decode cX3_depend 12 = .ok (.invokestatic 63, 3) := by decide +kernel
theorem dX3_depend_15 : decode cX3_depend 15 = .ok (.ifCond .eq 33, 3) := by decide +kernel
theorem dX3_depend_18 : decode cX3_depend 18 = .ok (.iload_n 2, 1) := by decide +kernel
theorem dX3_depend_19 : decode cX3_depend 19 = .ok (.iload_n 1, 1) := by decide +kernel
theorem dX3_depend_20 : decode cX3_depend 20 = .ok (.if_icmp .eq 28, 3) := by decide +kernel
theorem dX3_depend_23 : decode cX3_depend 23 = .ok (.iload_n 3, 1) := by decide +kernel
theorem dX3_depend_24 : decode cX3_depend 24 = .ok (.iconst 0, 1) := by decide +kernel
theorem dX3_depend_25 : decode cX3_depend 25 = .ok (.bipush 63, 2) := by decide +kernel
theorem dX3_depend_27 : decode cX3_depend 27 = .ok (.invokestatic 63, 3) := by decide +kernel
theorem dX3_depend_30 : decode cX3_depend 30 = .ok (.ifCond .eq 18, 3) := by decide +kernel
theorem dX3_depend_33 : decode cX3_depend 33 = .ok (.iload 4, 2) := by decide +kernel
theorem dX3_depend_35 : decode cX3_depend 35 = .ok (.iconst 0, 1) := by decide +kernel
theorem dX3_depend_36 : decode cX3_depend 36 = .ok (.bipush 63, 2) := by decide +kernel
theorem dX3_depend_38 : decode cX3_depend 38 = .ok (.invokestatic 63, 3) := by decide +kernel
theorem dX3_depend_41 : decode cX3_depend 41 = .ok (.ifCond .eq 7, 3) := by decide +kernel
theorem dX3_depend_44 : decode cX3_depend 44 = .ok (.iconst 1, 1) := by decide +kernel
theorem dX3_depend_45 : decode cX3_depend 45 = .ok (.goto 4, 3) := by decide +kernel
theorem dX3_depend_48 : decode cX3_depend 48 = .ok (.iconst 0, 1) := by decide +kernel
theorem dX3_depend_49 : decode cX3_depend 49 = .ok (.istore 6, 2) := by decide +kernel
theorem dX3_depend_51 : decode cX3_depend 51 = .ok (.iload 6, 2) := by decide +kernel
theorem dX3_depend_53 : decode cX3_depend 53 = .ok (.ifCond .eq 34, 3) := by decide +kernel
theorem dX3_depend_56 : decode cX3_depend 56 = .ok (.aload_n 0, 1) := by decide +kernel
theorem dX3_depend_57 : decode cX3_depend 57 = .ok (.getfield 13, 3) := by decide +kernel
theorem dX3_depend_60 : decode cX3_depend 60 = .ok (.iload_n 1, 1) := by decide +kernel
theorem dX3_depend_61 : decode cX3_depend 61 = .ok (.baload, 1) := by decide +kernel
theorem dX3_depend_62 : decode cX3_depend 62 = .ok (.ifCond .eq 25, 3) := by decide +kernel
theorem dX3_depend_65 : decode cX3_depend 65 = .ok (.iload 5, 2) := by decide +kernel
theorem dX3_depend_67 : decode cX3_depend 67 = .ok (.ifCond .eq 20, 3) := by decide +kernel
theorem dX3_depend_70 : decode cX3_depend 70 = .ok (.iload_n 2, 1) := by decide +kernel
theorem dX3_depend_71 : decode cX3_depend 71 = .ok (.ifCond .lt 16, 3) := by decide +kernel
theorem dX3_depend_74 : decode cX3_depend 74 = .ok (.aload_n 0, 1) := by decide +kernel
theorem dX3_depend_75 : decode cX3_depend 75 = .ok (.getfield 13, 3) := by decide +kernel
theorem dX3_depend_78 : decode cX3_depend 78 = .ok (.iload_n 2, 1) := by decide +kernel
theorem dX3_depend_79 : decode cX3_depend 79 = .ok (.baload, 1) := by decide +kernel
theorem dX3_depend_80 : decode cX3_depend 80 = .ok (.ifCond .ne 7, 3) := by decide +kernel
theorem dX3_depend_83 : decode cX3_depend 83 = .ok (.iconst 1, 1) := by decide +kernel
theorem dX3_depend_84 : decode cX3_depend 84 = .ok (.goto 4, 3) := by decide +kernel
theorem dX3_depend_87 : decode cX3_depend 87 = .ok (.iconst 0, 1) := by decide +kernel
theorem dX3_depend_88 : decode cX3_depend 88 = .ok (.istore 7, 2) := by decide +kernel
theorem dX3_depend_90 : decode cX3_depend 90 = .ok (.aload_n 0, 1) := by decide +kernel
theorem dX3_depend_91 : decode cX3_depend 91 = .ok (.iload 6, 2) := by decide +kernel
theorem dX3_depend_93 : decode cX3_depend 93 = .ok (.ifCond .ne 7, 3) := by decide +kernel
theorem dX3_depend_96 : decode cX3_depend 96 = .ok (.iconst 1, 1) := by decide +kernel
theorem dX3_depend_97 : decode cX3_depend 97 = .ok (.goto 24, 3) := by decide +kernel
theorem dX3_depend_100 : decode cX3_depend 100 = .ok (.aload_n 0, 1) := by decide +kernel
theorem dX3_depend_101 : decode cX3_depend 101 = .ok (.getfield 26, 3) := by decide +kernel
theorem dX3_depend_104 : decode cX3_depend 104 = .ok (.iload_n 1, 1) := by decide +kernel
theorem dX3_depend_105 : decode cX3_depend 105 = .ok (.iaload, 1) := by decide +kernel
theorem dX3_depend_106 : decode cX3_depend 106 = .ok (.bipush 6, 2) := by decide +kernel
theorem dX3_depend_108 : decode cX3_depend 108 = .ok (.if_icmp .ge 8, 3) := by decide +kernel
theorem dX3_depend_111 : decode cX3_depend 111 = .ok (.iload 7, 2) := by decide +kernel
theorem dX3_depend_113 : decode cX3_depend 113 = .ok (.ifCond .eq 7, 3) := by decide +kernel
theorem dX3_depend_116 : decode cX3_depend 116 = .ok (.iconst 2, 1) := by decide +kernel
theorem dX3_depend_117 : decode cX3_depend 117 = .ok (.goto 4, 3) := by decide +kernel
theorem dX3_depend_120 : decode cX3_depend 120 = .ok (.iconst 0, 1) := by decide +kernel
theorem dX3_depend_121 : decode cX3_depend 121 = .ok (.invokevirtual 71, 3) := by decide +kernel
theorem dX3_depend_124 : decode cX3_depend 124 = .ok (.ifCond .eq 5, 3) := by decide +kernel
theorem dX3_depend_127 : decode cX3_depend 127 = .ok (.iconst 0, 1) := by decide +kernel
theorem dX3_depend_128 : decode cX3_depend 128 = .ok (.ireturn, 1) := by decide +kernel
theorem dX3_depend_129 : decode cX3_depend 129 = .ok (.bipush 6, 2) := by decide +kernel
theorem dX3_depend_131 : decode cX3_depend 131 = .ok (.iload_n 1, 1) := by decide +kernel
theorem dX3_depend_132 : decode cX3_depend 132 = .ok (.imul, 1) := by decide +kernel
theorem dX3_depend_133 : decode cX3_depend 133 = .ok (.aload_n 0, 1) := by decide +kernel
theorem dX3_depend_134 : decode cX3_depend 134 = .ok (.getfield 26, 3) := by decide +kernel
theorem dX3_depend_137 : decode cX3_depend 137 = .ok (.iload_n 1, 1) := by decide +kernel
theorem dX3_depend_138 : decode cX3_depend 138 = .ok (.iaload, 1) := by decide +kernel
theorem dX3_depend_139 : decode cX3_depend 139 = .ok (.iadd, 1) := by decide +kernel
theorem dX3_depend_140 : decode cX3_depend 140 = .ok (.istore 8, 2) := by decide +kernel
theorem dX3_depend_142 : decode cX3_depend 142 = .ok (.aload_n 0, 1) := by decide +kernel
theorem dX3_depend_143 : decode cX3_depend 143 = .ok (.getfield 29, 3) := by decide +kernel
theorem dX3_depend_146 : decode cX3_depend 146 = .ok (.iload 8, 2) := by decide +kernel
theorem dX3_depend_148 : decode cX3_depend 148 = .ok (.iload_n 2, 1) := by decide +kernel
theorem dX3_depend_149 : decode cX3_depend 149 = .ok (.ifCond .ge 7, 3) := by decide +kernel
theorem dX3_depend_152 : decode cX3_depend 152 = .ok (.iload_n 1, 1) := by decide +kernel
theorem dX3_depend_153 : decode cX3_depend 153 = .ok (.goto 4, 3) := by decide +kernel
theorem dX3_depend_156 : decode cX3_depend 156 = .ok (.iload_n 2, 1) := by decide +kernel
theorem dX3_depend_157 : decode cX3_depend 157 = .ok (.iastore, 1) := by decide +kernel
theorem dX3_depend_158 : decode cX3_depend 158 = .ok (.aload_n 0, 1) := by decide +kernel
theorem dX3_depend_159 : decode cX3_depend 159 = .ok (.getfield 32, 3) := by decide +kernel
theorem dX3_depend_162 : decode cX3_depend 162 = .ok (.iload 8, 2) := by decide +kernel
theorem dX3_depend_164 : decode cX3_depend 164 = .ok (.iload_n 3, 1) := by decide +kernel
theorem dX3_depend_165 : decode cX3_depend 165 = .ok (.iastore, 1) := by decide +kernel
theorem dX3_depend_166 : decode cX3_depend 166 = .ok (.aload_n 0, 1) := by decide +kernel
theorem dX3_depend_167 : decode cX3_depend 167 = .ok (.getfield 35, 3) := by decide +kernel
theorem dX3_depend_170 : decode cX3_depend 170 = .ok (.iload 8, 2) := by decide +kernel
theorem dX3_depend_172 : decode cX3_depend 172 = .ok (.iload 4, 2) := by decide +kernel
theorem dX3_depend_174 : decode cX3_depend 174 = .ok (.iastore, 1) := by decide +kernel
theorem dX3_depend_175 : decode cX3_depend 175 = .ok (.aload_n 0, 1) := by decide +kernel
theorem dX3_depend_176 : decode cX3_depend 176 = .ok (.getfield 38, 3) := by decide +kernel
theorem dX3_depend_179 : decode cX3_depend 179 = .ok (.iload 8, 2) := by decide +kernel
theorem dX3_depend_181 : decode cX3_depend 181 = .ok (.iload 5, 2) := by decide +kernel
theorem dX3_depend_183 : decode cX3_depend 183 = .ok (.bastore, 1) := by decide +kernel
theorem dX3_depend_184 : decode cX3_depend 184 = .ok (.aload_n 0, 1) := by decide +kernel
theorem dX3_depend_185 : decode cX3_depend 185 = .ok (.getfield 26, 3) := by decide +kernel
theorem dX3_depend_188 : decode cX3_depend 188 = .ok (.iload_n 1, 1) := by decide +kernel
theorem dX3_depend_189 : decode cX3_depend 189 = .ok (.aload_n 0, 1) := by decide +kernel
theorem dX3_depend_190 : decode cX3_depend 190 = .ok (.getfield 26, 3) := by decide +kernel
theorem dX3_depend_193 : decode cX3_depend 193 = .ok (.iload_n 1, 1) := by decide +kernel
theorem dX3_depend_194 : decode cX3_depend 194 = .ok (.iaload, 1) := by decide +kernel
theorem dX3_depend_195 : decode cX3_depend 195 = .ok (.iconst 1, 1) := by decide +kernel
theorem dX3_depend_196 : decode cX3_depend 196 = .ok (.iadd, 1) := by decide +kernel
theorem dX3_depend_197 : decode cX3_depend 197 = .ok (.iastore, 1) := by decide +kernel
theorem dX3_depend_198 : decode cX3_depend 198 = .ok (.aload_n 0, 1) := by decide +kernel
theorem dX3_depend_199 : decode cX3_depend 199 = .ok (.getfield 26, 3) := by decide +kernel
theorem dX3_depend_202 : decode cX3_depend 202 = .ok (.iload_n 1, 1) := by decide +kernel
theorem dX3_depend_203 : decode cX3_depend 203 = .ok (.iaload, 1) := by decide +kernel
theorem dX3_depend_204 : decode cX3_depend 204 = .ok (.ireturn, 1) := by decide +kernel
set_option maxRecDepth 20000 in
theorem ggX3_relink_X3_isPresent : GoodIn wsX3_relink wsX3_isPresent := goodIn_r _ [6, 7, 8, 9, 5, 10, 11, 12, 13, 19, 20, 21, 22, 23, 24, 25, 26, 27, 28, 29, 30, 31, 32, 33, 34, 35, 36, 37] (by decide +kernel) (by decide +kernel)
set_option maxRecDepth 20000 in
theorem gX3_relink_X3_isPresent : GoodIn wsX3_relink (wsV RX3 74 RX3 yX3_isPresent wsX3_isPresent) := goodIn_app (goodIn_of _ (by decide +kernel)) ggX3_relink_X3_isPresent
set_option maxRecDepth 20000 in
theorem ggX3_relink_X3_throwsBy : GoodIn wsX3_relink wsX3_throwsBy := goodIn_r _ [17, 18, 19, 20, 21, 22, 23, 24, 25, 26, 27, 28, 29, 30, 31, 32, 33, 34, 35, 36, 37] (by decide +kernel) (by decide +kernel)
set_option maxRecDepth 20000 in
theorem gX3_relink_X3_throwsBy : GoodIn wsX3_relink (wsV RX3 71 RX3 yX3_throwsBy wsX3_throwsBy) := goodIn_app (goodIn_of _ (by decide +kernel)) ggX3_relink_X3_throwsBy
theorem dX3_relink_0 : decode cX3_relink 0 = .ok (.aload_n 0, 1) := by decide +kernel
theorem dX3_relink_1 : decode cX3_relink 1 = .ok (.aload_n 0, 1) := by decide +kernel
theorem dX3_relink_2 : decode cX3_relink 2 = .ok (.iload_n 1, 1) := by decide +kernel
theorem dX3_relink_3 : decode cX3_relink 3 = .ok (.invokevirtual 74, 3) := by decide +kernel
theorem dX3_relink_6 : decode cX3_relink 6 = .ok (.ifCond .eq 7, 3) := by decide +kernel
theorem dX3_relink_9 : decode cX3_relink 9 = .ok (.iconst 0, 1) := by decide +kernel
theorem dX3_relink_10 : decode cX3_relink 10 = .ok (.goto 4, 3) := by decide +kernel
theorem dX3_relink_13 : decode cX3_relink 13 = .ok (.iconst 1, 1) := by decide +kernel
theorem dX3_relink_14 : decode cX3_relink 14 = .ok (.invokevirtual 71, 3) := by decide +kernel
theorem dX3_relink_17 : decode cX3_relink 17 = .ok (.ifCond .eq 5, 3) := by decide +kernel
theorem dX3_relink_20 : decode cX3_relink 20 = .ok (.iconst 0, 1) := by decide +kernel
theorem dX3_relink_21 : decode cX3_relink 21 = .ok (.ireturn, 1) := by decide +kernel
theorem dX3_relink_22 : decode cX3_relink 22 = .ok (.aload_n 0, 1) := by decide +kernel
theorem dX3_relink_23 : decode cX3_relink 23 = .ok (.getfield 26, 3) := by decide +kernel
theorem dX3_relink_26 : decode cX3_relink 26 = .ok (.iload_n 1, 1) := by decide +kernel
theorem dX3_relink_27 : decode cX3_relink 27 = .ok (.iaload, 1) := by decide +kernel
theorem dX3_relink_28 : decode cX3_relink 28 = .ok (.istore_n 2, 1) := by decide +kernel
theorem dX3_relink_29 : decode cX3_relink 29 = .ok (.aload_n 0, 1) := by decide +kernel
theorem dX3_relink_30 : decode cX3_relink 30 = .ok (.getfield 26, 3) := by decide +kernel
theorem dX3_relink_33 : decode cX3_relink 33 = .ok (.iload_n 1, 1) := by decide +kernel
theorem dX3_relink_34 : decode cX3_relink 34 = .ok (.iconst 0, 1) := by decide +kernel
theorem dX3_relink_35 : decode cX3_relink 35 = .ok (.iastore, 1) := by decide +kernel
theorem dX3_relink_36 : decode cX3_relink 36 = .ok (.iload_n 2, 1) := by decide +kernel
theorem dX3_relink_37 : decode cX3_relink 37 = .ok (.ireturn, 1) := by decide +kernel
theorem dX3_judge_0 : decode cX3_judge 0 = .ok (.iconst 0, 1) := by decide +kernel
theorem dX3_judge_1 : decode cX3_judge 1 = .ok (.istore_n 1, 1) := by decide +kernel
theorem dX3_judge_2 : decode cX3_judge 2 = .ok (.iload_n 1, 1) := by decide +kernel
theorem dX3_judge_3 : decode cX3_judge 3 = .ok (.bipush 8, 2) := by decide +kernel
theorem dX3_judge_5 : decode cX3_judge 5 = .ok (.if_icmp .ge 21, 3) := by decide +kernel
theorem dX3_judge_8 : decode cX3_judge 8 = .ok (.aload_n 0, 1) := by decide +kernel
theorem dX3_judge_9 : decode cX3_judge 9 = .ok (.getfield 16, 3) := by decide +kernel
theorem dX3_judge_12 : decode cX3_judge 12 = .ok (.iload_n 1, 1) := by decide +kernel
theorem dX3_judge_13 : decode cX3_judge 13 = .ok (.aload_n 0, 1) := by decide +kernel
theorem dX3_judge_14 : decode cX3_judge 14 = .ok (.getfield 7, 3) := by decide +kernel
theorem dX3_judge_17 : decode cX3_judge 17 = .ok (.iload_n 1, 1) := by decide +kernel
theorem dX3_judge_18 : decode cX3_judge 18 = .ok (.baload, 1) := by decide +kernel
theorem dX3_judge_19 : decode cX3_judge 19 = .ok (.bastore, 1) := by decide +kernel
theorem dX3_judge_20 : decode cX3_judge 20 = .ok (.iinc 1 1, 3) := by decide +kernel
theorem dX3_judge_23 : decode cX3_judge 23 = .ok (.goto (-21), 3) := by decide +kernel
theorem dX3_judge_26 : decode cX3_judge 26 = .ok (.iconst 0, 1) := by decide +kernel
theorem dX3_judge_27 : decode cX3_judge 27 = .ok (.istore_n 1, 1) := by decide +kernel
theorem dX3_judge_28 : decode cX3_judge 28 = .ok (.iload_n 1, 1) := by decide +kernel
theorem dX3_judge_29 : decode cX3_judge 29 = .ok (.bipush 8, 2) := by decide +kernel
theorem dX3_judge_31 : decode cX3_judge 31 = .ok (.if_icmp .ge 71, 3) := by decide +kernel
theorem dX3_judge_34 : decode cX3_judge 34 = .ok (.iconst 0, 1) := by decide +kernel
theorem dX3_judge_35 : decode cX3_judge 35 = .ok (.istore_n 2, 1) := by decide +kernel
theorem dX3_judge_36 : decode cX3_judge 36 = .ok (.iload_n 2, 1) := by decide +kernel
theorem dX3_judge_37 : decode cX3_judge 37 = .ok (.bipush 48, 2) := by decide +kernel
theorem dX3_judge_39 : decode cX3_judge 39 = .ok (.if_icmp .ge 57, 3) := by decide +kernel
theorem dX3_judge_42 : decode cX3_judge 42 = .ok (.iload_n 2, 1) := by decide +kernel
theorem dX3_judge_43 : decode cX3_judge 43 = .ok (.bipush 6, 2) := by decide +kernel
theorem dX3_judge_45 : decode cX3_judge 45 = .ok (.idiv, 1) := by decide +kernel
theorem dX3_judge_46 : decode cX3_judge 46 = .ok (.istore_n 3, 1) := by decide +kernel
theorem dX3_judge_47 : decode cX3_judge 47 = .ok (.iload_n 2, 1) := by decide +kernel
theorem dX3_judge_48 : decode cX3_judge 48 = .ok (.bipush 6, 2) := by decide +kernel
theorem dX3_judge_50 : decode cX3_judge 50 = .ok (.irem, 1) := by decide +kernel
theorem dX3_judge_51 : decode cX3_judge 51 = .ok (.aload_n 0, 1) := by decide +kernel
theorem dX3_judge_52 : decode cX3_judge 52 = .ok (.getfield 26, 3) := by decide +kernel
theorem dX3_judge_55 : decode cX3_judge 55 = .ok (.iload_n 3, 1) := by decide +kernel
theorem dX3_judge_56 : decode cX3_judge 56 = .ok (.iaload, 1) := by decide +kernel
theorem dX3_judge_57 : decode cX3_judge 57 = .ok (.if_icmp .ge 33, 3) := by decide +kernel
theorem dX3_judge_60 : decode cX3_judge 60 = .ok (.aload_n 0, 1) := by decide +kernel
theorem dX3_judge_61 : decode cX3_judge 61 = .ok (.getfield 38, 3) := by decide +kernel
theorem dX3_judge_64 : decode cX3_judge 64 = .ok (.iload_n 2, 1) := by decide +kernel
theorem dX3_judge_65 : decode cX3_judge 65 = .ok (.baload, 1) := by decide +kernel
theorem dX3_judge_66 : decode cX3_judge 66 = .ok (.ifCond .eq 24, 3) := by decide +kernel
theorem dX3_judge_69 : decode cX3_judge 69 = .ok (.aload_n 0, 1) := by decide +kernel
theorem dX3_judge_70 : decode cX3_judge 70 = .ok (.getfield 16, 3) := by decide +kernel
theorem dX3_judge_73 : decode cX3_judge 73 = .ok (.aload_n 0, 1) := by decide +kernel
theorem dX3_judge_74 : decode cX3_judge 74 = .ok (.getfield 29, 3) := by decide +kernel
theorem dX3_judge_77 : decode cX3_judge 77 = .ok (.iload_n 2, 1) := by decide +kernel
theorem dX3_judge_78 : decode cX3_judge 78 = .ok (.iaload, 1) := by decide +kernel
theorem dX3_judge_79 : decode cX3_judge 79 = .ok (.baload, 1) := by decide +kernel
theorem dX3_judge_80 : decode cX3_judge 80 = .ok (.ifCond .ne 10, 3) := by decide +kernel
theorem dX3_judge_83 : decode cX3_judge 83 = .ok (.aload_n 0, 1) := by decide +kernel
theorem dX3_judge_84 : decode cX3_judge 84 = .ok (.getfield 16, 3) := by decide +kernel
theorem dX3_judge_87 : decode cX3_judge 87 = .ok (.iload_n 3, 1) := by decide +kernel
theorem dX3_judge_88 : decode cX3_judge 88 = .ok (.iconst 0, 1) := by decide +kernel
theorem dX3_judge_89 : decode cX3_judge 89 = .ok (.bastore, 1) := by decide +kernel
theorem dX3_judge_90 : decode cX3_judge 90 = .ok (.iinc 2 1, 3) := by decide +kernel
theorem dX3_judge_93 : decode cX3_judge 93 = .ok (.goto (-57), 3) := by decide +kernel
theorem dX3_judge_96 : decode cX3_judge 96 = .ok (.iinc 1 1, 3) := by decide +kernel
theorem dX3_judge_99 : decode cX3_judge 99 = .ok (.goto (-71), 3) := by decide +kernel
theorem dX3_judge_102 : decode cX3_judge 102 = .ok (.return_, 1) := by decide +kernel
set_option maxRecDepth 20000 in
theorem ggX3_load_X3_judge : GoodIn wsX3_load wsX3_judge := goodIn_r _ [10, 1, 11, 3, 12, 4, 24, 25, 26, 27, 28, 29, 30, 31, 32, 33, 34, 35, 36, 37, 38, 39, 40, 41, 42] (by decide +kernel) (by decide +kernel)
set_option maxRecDepth 20000 in
theorem gX3_load_X3_judge : GoodIn wsX3_load (wsV RX3 77 RX3 yX3_judge wsX3_judge) := goodIn_app (goodIn_of _ (by decide +kernel)) ggX3_load_X3_judge
set_option maxRecDepth 20000 in
theorem ggX3_load_X3_isModule : GoodIn wsX3_load wsX3_isModule := goodIn_r _ [15, 16, 17, 9, 18] (by decide +kernel) (by decide +kernel)
set_option maxRecDepth 20000 in
theorem gX3_load_X3_isModule : GoodIn wsX3_load (va_wsS RX3 67 yX3_isModule wsX3_isModule) := goodIn_app (goodIn_of _ (by decide +kernel)) ggX3_load_X3_isModule
set_option maxRecDepth 20000 in
theorem ggX3_load_X3_throwsBy : GoodIn wsX3_load wsX3_throwsBy := goodIn_r _ [22, 23, 24, 25, 26, 27, 28, 29, 30, 31, 32, 33, 34, 35, 36, 37, 38, 39, 40, 41, 42] (by decide +kernel) (by decide +kernel)
set_option maxRecDepth 20000 in
theorem gX3_load_X3_throwsBy : GoodIn wsX3_load (wsV RX3 71 RX3 yX3_throwsBy wsX3_throwsBy) := goodIn_app (goodIn_of _ (by decide +kernel)) ggX3_load_X3_throwsBy
theorem dX3_load_0 : decode cX3_load 0 = .ok (.aload_n 0, 1) := by decide +kernel
theorem dX3_load_1 : decode cX3_load 1 = .ok (.invokevirtual 77, 3) := by decide +kernel
theorem dX3_load_4 : decode cX3_load 4 = .ok (.aload_n 0, 1) := by decide +kernel
theorem dX3_load_5 : decode cX3_load 5 = .ok (.iload_n 1, 1) := by decide +kernel
theorem dX3_load_6 : decode cX3_load 6 = .ok (.invokestatic 67, 3) := by decide +kernel
theorem dX3_load_9 : decode cX3_load 9 = .ok (.ifCond .ne 7, 3) := by decide +kernel
theorem dX3_load_12 : decode cX3_load 12 = .ok (.iconst 1, 1) := by decide +kernel
theorem dX3_load_13 : decode cX3_load 13 = .ok (.goto 17, 3) := by decide +kernel
theorem dX3_load_16 : decode cX3_load 16 = .ok (.aload_n 0, 1) := by decide +kernel
theorem dX3_load_17 : decode cX3_load 17 = .ok (.getfield 16, 3) := by decide +kernel
theorem dX3_load_20 : decode cX3_load 20 = .ok (.iload_n 1, 1) := by decide +kernel
theorem dX3_load_21 : decode cX3_load 21 = .ok (.baload, 1) := by decide +kernel
theorem dX3_load_22 : decode cX3_load 22 = .ok (.ifCond .ne 7, 3) := by decide +kernel
theorem dX3_load_25 : decode cX3_load 25 = .ok (.iconst 2, 1) := by decide +kernel
theorem dX3_load_26 : decode cX3_load 26 = .ok (.goto 4, 3) := by decide +kernel
theorem dX3_load_29 : decode cX3_load 29 = .ok (.iconst 0, 1) := by decide +kernel
theorem dX3_load_30 : decode cX3_load 30 = .ok (.invokevirtual 71, 3) := by decide +kernel
theorem dX3_load_33 : decode cX3_load 33 = .ok (.ifCond .eq 5, 3) := by decide +kernel
theorem dX3_load_36 : decode cX3_load 36 = .ok (.iconst 0, 1) := by decide +kernel
theorem dX3_load_37 : decode cX3_load 37 = .ok (.ireturn, 1) := by decide +kernel
theorem dX3_load_38 : decode cX3_load 38 = .ok (.iconst 0, 1) := by decide +kernel
theorem dX3_load_39 : decode cX3_load 39 = .ok (.istore_n 2, 1) := by decide +kernel
theorem dX3_load_40 : decode cX3_load 40 = .ok (.iload_n 2, 1) := by decide +kernel
theorem dX3_load_41 : decode cX3_load 41 = .ok (.bipush 8, 2) := by decide +kernel
theorem dX3_load_43 : decode cX3_load 43 = .ok (.if_icmp .ge 25, 3) := by decide +kernel
theorem dX3_load_46 : decode cX3_load 46 = .ok (.aload_n 0, 1) := by decide +kernel
theorem dX3_load_47 : decode cX3_load 47 = .ok (.getfield 47, 3) := by decide +kernel
theorem dX3_load_50 : decode cX3_load 50 = .ok (.iload_n 2, 1) := by decide +kernel
theorem dX3_load_51 : decode cX3_load 51 = .ok (.iload_n 2, 1) := by decide +kernel
theorem dX3_load_52 : decode cX3_load 52 = .ok (.iload_n 1, 1) := by decide +kernel
theorem dX3_load_53 : decode cX3_load 53 = .ok (.if_icmp .ne 7, 3) := by decide +kernel
theorem dX3_load_56 : decode cX3_load 56 = .ok (.iconst 1, 1) := by decide +kernel
theorem dX3_load_57 : decode cX3_load 57 = .ok (.goto 4, 3) := by decide +kernel
theorem dX3_load_60 : decode cX3_load 60 = .ok (.iconst 0, 1) := by decide +kernel
theorem dX3_load_61 : decode cX3_load 61 = .ok (.bastore, 1) := by decide +kernel
theorem dX3_load_62 : decode cX3_load 62 = .ok (.iinc 2 1, 3) := by decide +kernel
theorem dX3_load_65 : decode cX3_load 65 = .ok (.goto (-25), 3) := by decide +kernel
theorem dX3_load_68 : decode cX3_load 68 = .ok (.iconst 0, 1) := by decide +kernel
theorem dX3_load_69 : decode cX3_load 69 = .ok (.istore_n 2, 1) := by decide +kernel
theorem dX3_load_70 : decode cX3_load 70 = .ok (.iload_n 2, 1) := by decide +kernel
theorem dX3_load_71 : decode cX3_load 71 = .ok (.bipush 8, 2) := by decide +kernel
theorem dX3_load_73 : decode cX3_load 73 = .ok (.if_icmp .ge 77, 3) := by decide +kernel
theorem dX3_load_76 : decode cX3_load 76 = .ok (.iconst 0, 1) := by decide +kernel
theorem dX3_load_77 : decode cX3_load 77 = .ok (.istore_n 3, 1) := by decide +kernel
theorem dX3_load_78 : decode cX3_load 78 = .ok (.iload_n 3, 1) := by decide +kernel
theorem dX3_load_79 : decode cX3_load 79 = .ok (.bipush 48, 2) := by decide +kernel
theorem dX3_load_81 : decode cX3_load 81 = .ok (.if_icmp .ge 63, 3) := by decide +kernel
theorem dX3_load_84 : decode cX3_load 84 = .ok (.aload_n 0, 1) := by decide +kernel
theorem dX3_load_85 : decode cX3_load 85 = .ok (.getfield 47, 3) := by decide +kernel
theorem dX3_load_88 : decode cX3_load 88 = .ok (.iload_n 3, 1) := by decide +kernel
theorem dX3_load_89 : decode cX3_load 89 = .ok (.bipush 6, 2) := by decide +kernel
theorem dX3_load_91 : decode cX3_load 91 = .ok (.idiv, 1) := by decide +kernel
theorem dX3_load_92 : decode cX3_load 92 = .ok (.baload, 1) := by decide +kernel
theorem dX3_load_93 : decode cX3_load 93 = .ok (.ifCond .eq 45, 3) := by decide +kernel
theorem dX3_load_96 : decode cX3_load 96 = .ok (.iload_n 3, 1) := by decide +kernel
theorem dX3_load_97 : decode cX3_load 97 = .ok (.bipush 6, 2) := by decide +kernel
theorem dX3_load_99 : decode cX3_load 99 = .ok (.irem, 1) := by decide +kernel
theorem dX3_load_100 : decode cX3_load 100 = .ok (.aload_n 0, 1) := by decide +kernel
theorem dX3_load_101 : decode cX3_load 101 = .ok (.getfield 26, 3) := by decide +kernel
theorem dX3_load_104 : decode cX3_load 104 = .ok (.iload_n 3, 1) := by decide +kernel
theorem dX3_load_105 : decode cX3_load 105 = .ok (.bipush 6, 2) := by decide +kernel
theorem dX3_load_107 : decode cX3_load 107 = .ok (.idiv, 1) := by decide +kernel
theorem dX3_load_108 : decode cX3_load 108 = .ok (.iaload, 1) := by decide +kernel
theorem dX3_load_109 : decode cX3_load 109 = .ok (.if_icmp .ge 29, 3) := by decide +kernel
theorem dX3_load_112 : decode cX3_load 112 = .ok (.aload_n 0, 1) := by decide +kernel
theorem dX3_load_113 : decode cX3_load 113 = .ok (.getfield 16, 3) := by decide +kernel
theorem dX3_load_116 : decode cX3_load 116 = .ok (.aload_n 0, 1) := by decide +kernel
theorem dX3_load_117 : decode cX3_load 117 = .ok (.getfield 29, 3) := by decide +kernel
theorem dX3_load_120 : decode cX3_load 120 = .ok (.iload_n 3, 1) := by decide +kernel
theorem dX3_load_121 : decode cX3_load 121 = .ok (.iaload, 1) := by decide +kernel
theorem dX3_load_122 : decode cX3_load 122 = .ok (.baload, 1) := by decide +kernel
theorem dX3_load_123 : decode cX3_load 123 = .ok (.ifCond .eq 15, 3) := by decide +kernel
theorem dX3_load_126 : decode cX3_load 126 = .ok (.aload_n 0, 1) := by decide +kernel
theorem dX3_load_127 : decode cX3_load 127 = .ok (.getfield 47, 3) := by decide +kernel
theorem dX3_load_130 : decode cX3_load 130 = .ok (.aload_n 0, 1) := by decide +kernel
theorem dX3_load_131 : decode cX3_load 131 = .ok (.getfield 29, 3) := by decide +kernel
theorem dX3_load_134 : decode cX3_load 134 = .ok (.iload_n 3, 1) := by decide +kernel
theorem dX3_load_135 : decode cX3_load 135 = .ok (.iaload, 1) := by decide +kernel
theorem dX3_load_136 : decode cX3_load 136 = .ok (.iconst 1, 1) := by decide +kernel
theorem dX3_load_137 : decode cX3_load 137 = .ok (.bastore, 1) := by decide +kernel
theorem dX3_load_138 : decode cX3_load 138 = .ok (.iinc 3 1, 3) := by decide +kernel
theorem dX3_load_141 : decode cX3_load 141 = .ok (.goto (-63), 3) := by decide +kernel
theorem dX3_load_144 : decode cX3_load 144 = .ok (.iinc 2 1, 3) := by decide +kernel
theorem dX3_load_147 : decode cX3_load 147 = .ok (.goto (-77), 3) := by decide +kernel
theorem dX3_load_150 : decode cX3_load 150 = .ok (.iconst 0, 1) := by decide +kernel
theorem dX3_load_151 : decode cX3_load 151 = .ok (.istore_n 2, 1) := by decide +kernel
theorem dX3_load_152 : decode cX3_load 152 = .ok (.iconst 0, 1) := by decide +kernel
theorem dX3_load_153 : decode cX3_load 153 = .ok (.istore_n 3, 1) := by decide +kernel
theorem dX3_load_154 : decode cX3_load 154 = .ok (.iload_n 3, 1) := by decide +kernel
theorem dX3_load_155 : decode cX3_load 155 = .ok (.bipush 8, 2) := by decide +kernel
theorem dX3_load_157 : decode cX3_load 157 = .ok (.if_icmp .ge 64, 3) := by decide +kernel
theorem dX3_load_160 : decode cX3_load 160 = .ok (.aload_n 0, 1) := by decide +kernel
theorem dX3_load_161 : decode cX3_load 161 = .ok (.getfield 47, 3) := by decide +kernel
theorem dX3_load_164 : decode cX3_load 164 = .ok (.iload_n 3, 1) := by decide +kernel
theorem dX3_load_165 : decode cX3_load 165 = .ok (.baload, 1) := by decide +kernel
theorem dX3_load_166 : decode cX3_load 166 = .ok (.ifCond .eq 18, 3) := by decide +kernel
theorem dX3_load_169 : decode cX3_load 169 = .ok (.aload_n 0, 1) := by decide +kernel
theorem dX3_load_170 : decode cX3_load 170 = .ok (.getfield 13, 3) := by decide +kernel
theorem dX3_load_173 : decode cX3_load 173 = .ok (.iload_n 3, 1) := by decide +kernel
theorem dX3_load_174 : decode cX3_load 174 = .ok (.baload, 1) := by decide +kernel
theorem dX3_load_175 : decode cX3_load 175 = .ok (.ifCond .ne 9, 3) := by decide +kernel
theorem dX3_load_178 : decode cX3_load 178 = .ok (.iload_n 2, 1) := by decide +kernel
theorem dX3_load_179 : decode cX3_load 179 = .ok (.iconst 1, 1) := by decide +kernel
theorem dX3_load_180 : decode cX3_load 180 = .ok (.iadd, 1) := by decide +kernel
theorem dX3_load_181 : decode cX3_load 181 = .ok (.goto 4, 3) := by decide +kernel
theorem dX3_load_184 : decode cX3_load 184 = .ok (.iload_n 2, 1) := by decide +kernel
theorem dX3_load_185 : decode cX3_load 185 = .ok (.istore_n 2, 1) := by decide +kernel
theorem dX3_load_186 : decode cX3_load 186 = .ok (.aload_n 0, 1) := by decide +kernel
theorem dX3_load_187 : decode cX3_load 187 = .ok (.getfield 13, 3) := by decide +kernel
theorem dX3_load_190 : decode cX3_load 190 = .ok (.iload_n 3, 1) := by decide +kernel
theorem dX3_load_191 : decode cX3_load 191 = .ok (.aload_n 0, 1) := by decide +kernel
theorem dX3_load_192 : decode cX3_load 192 = .ok (.getfield 13, 3) := by decide +kernel
theorem dX3_load_195 : decode cX3_load 195 = .ok (.iload_n 3, 1) := by decide +kernel
theorem dX3_load_196 : decode cX3_load 196 = .ok (.baload, 1) := by decide +kernel
theorem dX3_load_197 : decode cX3_load 197 = .ok (.ifCond .ne 12, 3) := by decide +kernel
theorem dX3_load_200 : decode cX3_load 200 = .ok (.aload_n 0, 1) := by decide +kernel
theorem dX3_load_201 : decode cX3_load 201 = .ok (.getfield 47, 3) := by decide +kernel
theorem dX3_load_204 : decode cX3_load 204 = .ok (.iload_n 3, 1) := by decide +kernel
theorem dX3_load_205 : decode cX3_load 205 = .ok (.baload, 1) := by decide +kernel
theorem dX3_load_206 : decode cX3_load 206 = .ok (.ifCond .eq 7, 3) := by decide +kernel
theorem dX3_load_209 : decode cX3_load 209 = .ok (.iconst 1, 1) := by decide +kernel
theorem dX3_load_210 : decode cX3_load 210 = .ok (.goto 4, 3) := by decide +kernel
theorem dX3_load_213 : decode cX3_load 213 = .ok (.iconst 0, 1) := by decide +kernel
theorem dX3_load_214 : decode cX3_load 214 = .ok (.bastore, 1) := by decide +kernel
theorem dX3_load_215 : decode cX3_load 215 = .ok (.iinc 3 1, 3) := by decide +kernel
theorem dX3_load_218 : decode cX3_load 218 = .ok (.goto (-64), 3) := by decide +kernel
theorem dX3_load_221 : decode cX3_load 221 = .ok (.iload_n 2, 1) := by decide +kernel
theorem dX3_load_222 : decode cX3_load 222 = .ok (.ireturn, 1) := by decide +kernel
theorem dX3_isNeeded_0 : decode cX3_isNeeded 0 = .ok (.iconst 0, 1) := by decide +kernel
theorem dX3_isNeeded_1 : decode cX3_isNeeded 1 = .ok (.istore_n 2, 1) := by decide +kernel
theorem dX3_isNeeded_2 : decode cX3_isNeeded 2 = .ok (.iconst 0, 1) := by decide +kernel
theorem dX3_isNeeded_3 : decode cX3_isNeeded 3 = .ok (.istore_n 3, 1) := by decide +kernel
theorem dX3_isNeeded_4 : decode cX3_isNeeded 4 = .ok (.iload_n 3, 1) := by decide +kernel
theorem dX3_isNeeded_5 : decode cX3_isNeeded 5 = .ok (.bipush 48, 2) := by decide +kernel
theorem dX3_isNeeded_7 : decode cX3_isNeeded 7 = .ok (.if_icmp .ge 74, 3) := by decide +kernel
theorem dX3_isNeeded_10 : decode cX3_isNeeded 10 = .ok (.iload_n 3, 1) := by decide +kernel
theorem dX3_isNeeded_11 : decode cX3_isNeeded 11 = .ok (.bipush 6, 2) := by decide +kernel
theorem dX3_isNeeded_13 : decode cX3_isNeeded 13 = .ok (.idiv, 1) := by decide +kernel
theorem dX3_isNeeded_14 : decode cX3_isNeeded 14 = .ok (.istore 4, 2) := by decide +kernel
theorem dX3_isNeeded_16 : decode cX3_isNeeded 16 = .ok (.iload_n 2, 1) := by decide +kernel
theorem dX3_isNeeded_17 : decode cX3_isNeeded 17 = .ok (.ifCond .ne 52, 3) := by decide +kernel
theorem dX3_isNeeded_20 : decode cX3_isNeeded 20 = .ok (.iload 4, 2) := by decide +kernel
theorem dX3_isNeeded_22 : decode cX3_isNeeded 22 = .ok (.iload_n 1, 1) := by decide +kernel
theorem dX3_isNeeded_23 : decode cX3_isNeeded 23 = .ok (.if_icmp .eq 50, 3) := by decide +kernel
theorem dX3_isNeeded_26 : decode cX3_isNeeded 26 = .ok (.aload_n 0, 1) := by decide +kernel
theorem dX3_isNeeded_27 : decode cX3_isNeeded 27 = .ok (.getfield 13, 3) := by decide +kernel
theorem dX3_isNeeded_30 : decode cX3_isNeeded 30 = .ok (.iload 4, 2) := by decide +kernel
theorem dX3_isNeeded_32 : decode cX3_isNeeded 32 = .ok (.baload, 1) := by decide +kernel
theorem dX3_isNeeded_33 : decode cX3_isNeeded 33 = .ok (.ifCond .eq 40, 3) := by decide +kernel
theorem dX3_isNeeded_36 : decode cX3_isNeeded 36 = .ok (.iload_n 3, 1) := by decide +kernel
theorem dX3_isNeeded_37 : decode cX3_isNeeded 37 = .ok (.bipush 6, 2) := by decide +kernel
theorem dX3_isNeeded_39 : decode cX3_isNeeded 39 = .ok (.irem, 1) := by decide +kernel
theorem dX3_isNeeded_40 : decode cX3_isNeeded 40 = .ok (.aload_n 0, 1) := by decide +kernel
theorem dX3_isNeeded_41 : decode cX3_isNeeded 41 = .ok (.getfield 26, 3) := by decide +kernel
theorem dX3_isNeeded_44 : decode cX3_isNeeded 44 = .ok (.iload 4, 2) := by decide +kernel
theorem dX3_isNeeded_46 : decode cX3_isNeeded 46 = .ok (.iaload, 1) := by decide +kernel
theorem dX3_isNeeded_47 : decode cX3_isNeeded 47 = .ok (.if_icmp .ge 26, 3) := by decide +kernel
theorem dX3_isNeeded_50 : decode cX3_isNeeded 50 = .ok (.aload_n 0, 1) := by decide +kernel
theorem dX3_isNeeded_51 : decode cX3_isNeeded 51 = .ok (.getfield 38, 3) := by decide +kernel
theorem dX3_isNeeded_54 : decode cX3_isNeeded 54 = .ok (.iload_n 3, 1) := by decide +kernel
theorem dX3_isNeeded_55 : decode cX3_isNeeded 55 = .ok (.baload, 1) := by decide +kernel
theorem dX3_isNeeded_56 : decode cX3_isNeeded 56 = .ok (.ifCond .eq 17, 3) := by decide +kernel
theorem dX3_isNeeded_59 : decode cX3_isNeeded 59 = .ok (.aload_n 0, 1) := by decide +kernel
theorem dX3_isNeeded_60 : decode cX3_isNeeded 60 = .ok (.getfield 29, 3) := by decide +kernel
theorem dX3_isNeeded_63 : decode cX3_isNeeded 63 = .ok (.iload_n 3, 1) := by decide +kernel
theorem dX3_isNeeded_64 : decode cX3_isNeeded 64 = .ok (.iaload, 1) := by decide +kernel
theorem dX3_isNeeded_65 : decode cX3_isNeeded 65 = .ok (.iload_n 1, 1) := by decide +kernel
theorem dX3_isNeeded_66 : decode cX3_isNeeded 66 = .ok (.if_icmp .ne 7, 3) := by decide +kernel
theorem dX3_isNeeded_69 : decode cX3_isNeeded 69 = .ok (.iconst 1, 1) := by decide +kernel
theorem dX3_isNeeded_70 : decode cX3_isNeeded 70 = .ok (.goto 4, 3) := by decide +kernel
theorem dX3_isNeeded_73 : decode cX3_isNeeded 73 = .ok (.iconst 0, 1) := by decide +kernel
theorem dX3_isNeeded_74 : decode cX3_isNeeded 74 = .ok (.istore_n 2, 1) := by decide +kernel
theorem dX3_isNeeded_75 : decode cX3_isNeeded 75 = .ok (.iinc 3 1, 3) := by decide +kernel
theorem dX3_isNeeded_78 : decode cX3_isNeeded 78 = .ok (.goto (-74), 3) := by decide +kernel
theorem dX3_isNeeded_81 : decode cX3_isNeeded 81 = .ok (.iconst 0, 1) := by decide +kernel
theorem dX3_isNeeded_82 : decode cX3_isNeeded 82 = .ok (.istore_n 3, 1) := by decide +kernel
theorem dX3_isNeeded_83 : decode cX3_isNeeded 83 = .ok (.iload_n 3, 1) := by decide +kernel
theorem dX3_isNeeded_84 : decode cX3_isNeeded 84 = .ok (.sipush 192, 3) := by decide +kernel
theorem dX3_isNeeded_87 : decode cX3_isNeeded 87 = .ok (.if_icmp .ge 37, 3) := by decide +kernel
theorem dX3_isNeeded_90 : decode cX3_isNeeded 90 = .ok (.iload_n 2, 1) := by decide +kernel
theorem dX3_isNeeded_91 : decode cX3_isNeeded 91 = .ok (.ifCond .ne 21, 3) := by decide +kernel
theorem dX3_isNeeded_94 : decode cX3_isNeeded 94 = .ok (.iload_n 3, 1) := by decide +kernel
theorem dX3_isNeeded_95 : decode cX3_isNeeded 95 = .ok (.bipush 24, 2) := by decide +kernel
theorem dX3_isNeeded_97 : decode cX3_isNeeded 97 = .ok (.idiv, 1) := by decide +kernel
theorem dX3_isNeeded_98 : decode cX3_isNeeded 98 = .ok (.iload_n 1, 1) := by decide +kernel
theorem dX3_isNeeded_99 : decode cX3_isNeeded 99 = .ok (.if_icmp .eq 17, 3) := by decide +kernel
theorem dX3_isNeeded_102 : decode cX3_isNeeded 102 = .ok (.aload_n 0, 1) := by decide +kernel
theorem dX3_isNeeded_103 : decode cX3_isNeeded 103 = .ok (.getfield 23, 3) := by decide +kernel
theorem dX3_isNeeded_106 : decode cX3_isNeeded 106 = .ok (.iload_n 3, 1) := by decide +kernel
theorem dX3_isNeeded_107 : decode cX3_isNeeded 107 = .ok (.iaload, 1) := by decide +kernel
theorem dX3_isNeeded_108 : decode cX3_isNeeded 108 = .ok (.iload_n 1, 1) := by decide +kernel
theorem dX3_isNeeded_109 : decode cX3_isNeeded 109 = .ok (.if_icmp .ne 7, 3) := by decide +kernel
theorem dX3_isNeeded_112 : decode cX3_isNeeded 112 = .ok (.iconst 1, 1) := by decide +kernel
theorem dX3_isNeeded_113 : decode cX3_isNeeded 113 = .ok (.goto 4, 3) := by decide +kernel
theorem dX3_isNeeded_116 : decode cX3_isNeeded 116 = .ok (.iconst 0, 1) := by decide +kernel
theorem dX3_isNeeded_117 : decode cX3_isNeeded 117 = .ok (.istore_n 2, 1) := by decide +kernel
theorem dX3_isNeeded_118 : decode cX3_isNeeded 118 = .ok (.iinc 3 1, 3) := by decide +kernel
theorem dX3_isNeeded_121 : decode cX3_isNeeded 121 = .ok (.goto (-38), 3) := by decide +kernel
theorem dX3_isNeeded_124 : decode cX3_isNeeded 124 = .ok (.iload_n 2, 1) := by decide +kernel
theorem dX3_isNeeded_125 : decode cX3_isNeeded 125 = .ok (.ireturn, 1) := by decide +kernel
set_option maxRecDepth 20000 in
theorem ggX3_unload_X3_isLoaded : GoodIn wsX3_unload wsX3_isLoaded := goodIn_r _ [8, 3, 9, 10, 7, 11, 12, 13, 14, 27, 28, 29, 30, 31, 32, 33, 34, 35, 36, 37, 38, 39, 40, 41, 42, 43, 44, 45] (by decide +kernel) (by decide +kernel)
set_option maxRecDepth 20000 in
theorem gX3_unload_X3_isLoaded : GoodIn wsX3_unload (wsV RX3 80 RX3 yX3_isLoaded wsX3_isLoaded) := goodIn_app (goodIn_of _ (by decide +kernel)) ggX3_unload_X3_isLoaded
set_option maxRecDepth 20000 in
theorem ggX3_unload_X3_isNeeded : GoodIn wsX3_unload wsX3_isNeeded := goodIn_r _ [18, 3, 19, 20, 21, 1, 27, 28, 29, 30, 31, 32, 33, 34, 35, 36, 37, 38, 39, 40, 41, 42, 43, 44, 45] (by decide +kernel) (by decide +kernel)
set_option maxRecDepth 20000 in
theorem gX3_unload_X3_isNeeded : GoodIn wsX3_unload (wsV RX3 83 RX3 yX3_isNeeded wsX3_isNeeded) := goodIn_app (goodIn_of _ (by decide +kernel)) ggX3_unload_X3_isNeeded
set_option maxRecDepth 20000 in
theorem ggX3_unload_X3_throwsBy : GoodIn wsX3_unload wsX3_throwsBy := goodIn_r _ [25, 26, 27, 28, 29, 30, 31, 32, 33, 34, 35, 36, 37, 38, 39, 40, 41, 42, 43, 44, 45] (by decide +kernel) (by decide +kernel)
set_option maxRecDepth 20000 in
theorem gX3_unload_X3_throwsBy : GoodIn wsX3_unload (wsV RX3 71 RX3 yX3_throwsBy wsX3_throwsBy) := goodIn_app (goodIn_of _ (by decide +kernel)) ggX3_unload_X3_throwsBy
theorem dX3_unload_0 : decode cX3_unload 0 = .ok (.aload_n 0, 1) := by decide +kernel
theorem dX3_unload_1 : decode cX3_unload 1 = .ok (.aload_n 0, 1) := by decide +kernel
theorem dX3_unload_2 : decode cX3_unload 2 = .ok (.iload_n 1, 1) := by decide +kernel
theorem dX3_unload_3 : decode cX3_unload 3 = .ok (.invokevirtual 80, 3) := by decide +kernel
theorem dX3_unload_6 : decode cX3_unload 6 = .ok (.ifCond .ne 7, 3) := by decide +kernel
theorem dX3_unload_9 : decode cX3_unload 9 = .ok (.iconst 1, 1) := by decide +kernel
theorem dX3_unload_10 : decode cX3_unload 10 = .ok (.goto 16, 3) := by decide +kernel
theorem dX3_unload_13 : decode cX3_unload 13 = .ok (.aload_n 0, 1) := by decide +kernel
theorem dX3_unload_14 : decode cX3_unload 14 = .ok (.iload_n 1, 1) := by decide +kernel
theorem dX3_unload_15 : decode cX3_unload 15 = .ok (.invokevirtual 83, 3) := by decide +kernel
theorem dX3_unload_18 : decode cX3_unload 18 = .ok (.ifCond .eq 7, 3) := by decide +kernel
theorem dX3_unload_21 : decode cX3_unload 21 = .ok (.iconst 2, 1) := by decide +kernel
theorem dX3_unload_22 : decode cX3_unload 22 = .ok (.goto 4, 3) := by decide +kernel
theorem dX3_unload_25 : decode cX3_unload 25 = .ok (.iconst 0, 1) := by decide +kernel
theorem dX3_unload_26 : decode cX3_unload 26 = .ok (.invokevirtual 71, 3) := by decide +kernel
theorem dX3_unload_29 : decode cX3_unload 29 = .ok (.ifCond .eq 5, 3) := by decide +kernel
theorem dX3_unload_32 : decode cX3_unload 32 = .ok (.iconst 0, 1) := by decide +kernel
theorem dX3_unload_33 : decode cX3_unload 33 = .ok (.ireturn, 1) := by decide +kernel
theorem dX3_unload_34 : decode cX3_unload 34 = .ok (.iconst 0, 1) := by decide +kernel
theorem dX3_unload_35 : decode cX3_unload 35 = .ok (.istore_n 2, 1) := by decide +kernel
theorem dX3_unload_36 : decode cX3_unload 36 = .ok (.bipush 24, 2) := by decide +kernel
theorem dX3_unload_38 : decode cX3_unload 38 = .ok (.iload_n 1, 1) := by decide +kernel
theorem dX3_unload_39 : decode cX3_unload 39 = .ok (.imul, 1) := by decide +kernel
theorem dX3_unload_40 : decode cX3_unload 40 = .ok (.istore_n 3, 1) := by decide +kernel
theorem dX3_unload_41 : decode cX3_unload 41 = .ok (.iload_n 3, 1) := by decide +kernel
theorem dX3_unload_42 : decode cX3_unload 42 = .ok (.bipush 24, 2) := by decide +kernel
theorem dX3_unload_44 : decode cX3_unload 44 = .ok (.iload_n 1, 1) := by decide +kernel
theorem dX3_unload_45 : decode cX3_unload 45 = .ok (.imul, 1) := by decide +kernel
theorem dX3_unload_46 : decode cX3_unload 46 = .ok (.bipush 24, 2) := by decide +kernel
theorem dX3_unload_48 : decode cX3_unload 48 = .ok (.iadd, 1) := by decide +kernel
theorem dX3_unload_49 : decode cX3_unload 49 = .ok (.if_icmp .ge 33, 3) := by decide +kernel
theorem dX3_unload_52 : decode cX3_unload 52 = .ok (.aload_n 0, 1) := by decide +kernel
theorem dX3_unload_53 : decode cX3_unload 53 = .ok (.getfield 23, 3) := by decide +kernel
theorem dX3_unload_56 : decode cX3_unload 56 = .ok (.iload_n 3, 1) := by decide +kernel
theorem dX3_unload_57 : decode cX3_unload 57 = .ok (.iaload, 1) := by decide +kernel
theorem dX3_unload_58 : decode cX3_unload 58 = .ok (.ifCond .lt 9, 3) := by decide +kernel
theorem dX3_unload_61 : decode cX3_unload 61 = .ok (.iload_n 2, 1) := by decide +kernel
theorem dX3_unload_62 : decode cX3_unload 62 = .ok (.iconst 1, 1) := by decide +kernel
theorem dX3_unload_63 : decode cX3_unload 63 = .ok (.iadd, 1) := by decide +kernel
theorem dX3_unload_64 : decode cX3_unload 64 = .ok (.goto 4, 3) := by decide +kernel
theorem dX3_unload_67 : decode cX3_unload 67 = .ok (.iload_n 2, 1) := by decide +kernel
theorem dX3_unload_68 : decode cX3_unload 68 = .ok (.istore_n 2, 1) := by decide +kernel
theorem dX3_unload_69 : decode cX3_unload 69 = .ok (.aload_n 0, 1) := by decide +kernel
theorem dX3_unload_70 : decode cX3_unload 70 = .ok (.getfield 23, 3) := by decide +kernel
theorem dX3_unload_73 : decode cX3_unload 73 = .ok (.iload_n 3, 1) := by decide +kernel
theorem dX3_unload_74 : decode cX3_unload 74 = .ok (.iconst (-1), 1) := by decide +kernel
theorem dX3_unload_75 : decode cX3_unload 75 = .ok (.iastore, 1) := by decide +kernel
theorem dX3_unload_76 : decode cX3_unload 76 = .ok (.iinc 3 1, 3) := by decide +kernel
theorem dX3_unload_79 : decode cX3_unload 79 = .ok (.goto (-38), 3) := by decide +kernel
theorem dX3_unload_82 : decode cX3_unload 82 = .ok (.aload_n 0, 1) := by decide +kernel
theorem dX3_unload_83 : decode cX3_unload 83 = .ok (.aload_n 0, 1) := by decide +kernel
theorem dX3_unload_84 : decode cX3_unload 84 = .ok (.getfield 86, 3) := by decide +kernel
theorem dX3_unload_87 : decode cX3_unload 87 = .ok (.iload_n 2, 1) := by decide +kernel
theorem dX3_unload_88 : decode cX3_unload 88 = .ok (.isub, 1) := by decide +kernel
theorem dX3_unload_89 : decode cX3_unload 89 = .ok (.putfield 86, 3) := by decide +kernel
theorem dX3_unload_92 : decode cX3_unload 92 = .ok (.aload_n 0, 1) := by decide +kernel
theorem dX3_unload_93 : decode cX3_unload 93 = .ok (.getfield 13, 3) := by decide +kernel
theorem dX3_unload_96 : decode cX3_unload 96 = .ok (.iload_n 1, 1) := by decide +kernel
theorem dX3_unload_97 : decode cX3_unload 97 = .ok (.iconst 0, 1) := by decide +kernel
theorem dX3_unload_98 : decode cX3_unload 98 = .ok (.bastore, 1) := by decide +kernel
theorem dX3_unload_99 : decode cX3_unload 99 = .ok (.iload_n 2, 1) := by decide +kernel
theorem dX3_unload_100 : decode cX3_unload 100 = .ok (.ireturn, 1) := by decide +kernel
theorem dX3_hasPath_0 : decode cX3_hasPath 0 = .ok (.iconst 0, 1) := by decide +kernel
theorem dX3_hasPath_1 : decode cX3_hasPath 1 = .ok (.istore_n 3, 1) := by decide +kernel
theorem dX3_hasPath_2 : decode cX3_hasPath 2 = .ok (.bipush 24, 2) := by decide +kernel
theorem dX3_hasPath_4 : decode cX3_hasPath 4 = .ok (.iload_n 1, 1) := by decide +kernel
theorem dX3_hasPath_5 : decode cX3_hasPath 5 = .ok (.imul, 1) := by decide +kernel
theorem dX3_hasPath_6 : decode cX3_hasPath 6 = .ok (.iconst 4, 1) := by decide +kernel
theorem dX3_hasPath_7 : decode cX3_hasPath 7 = .ok (.iload_n 2, 1) := by decide +kernel
theorem dX3_hasPath_8 : decode cX3_hasPath 8 = .ok (.imul, 1) := by decide +kernel
theorem dX3_hasPath_9 : decode cX3_hasPath 9 = .ok (.iadd, 1) := by decide +kernel
theorem dX3_hasPath_10 : decode cX3_hasPath 10 = .ok (.istore 4, 2) := by decide +kernel
theorem dX3_hasPath_12 : decode cX3_hasPath 12 = .ok (.iload 4, 2) := by decide +kernel
theorem dX3_hasPath_14 : decode cX3_hasPath 14 = .ok (.bipush 24, 2) := by decide +kernel
theorem dX3_hasPath_16 : decode cX3_hasPath 16 = .ok (.iload_n 1, 1) := by decide +kernel
theorem dX3_hasPath_17 : decode cX3_hasPath 17 = .ok (.imul, 1) := by decide +kernel
theorem dX3_hasPath_18 : decode cX3_hasPath 18 = .ok (.iconst 4, 1) := by decide +kernel
theorem dX3_hasPath_19 : decode cX3_hasPath 19 = .ok (.iload_n 2, 1) := by decide +kernel
theorem dX3_hasPath_20 : decode cX3_hasPath 20 = .ok (.imul, 1) := by decide +kernel
theorem dX3_hasPath_21 : decode cX3_hasPath 21 = .ok (.iadd, 1) := by decide +kernel
theorem dX3_hasPath_22 : decode cX3_hasPath 22 = .ok (.iconst 4, 1) := by decide +kernel
theorem dX3_hasPath_23 : decode cX3_hasPath 23 = .ok (.iadd, 1) := by decide +kernel
theorem dX3_hasPath_24 : decode cX3_hasPath 24 = .ok (.if_icmp .ge 31, 3) := by decide +kernel
theorem dX3_hasPath_27 : decode cX3_hasPath 27 = .ok (.iload_n 3, 1) := by decide +kernel
theorem dX3_hasPath_28 : decode cX3_hasPath 28 = .ok (.ifCond .ne 15, 3) := by decide +kernel
theorem dX3_hasPath_31 : decode cX3_hasPath 31 = .ok (.aload_n 0, 1) := by decide +kernel
theorem dX3_hasPath_32 : decode cX3_hasPath 32 = .ok (.getfield 19, 3) := by decide +kernel
theorem dX3_hasPath_35 : decode cX3_hasPath 35 = .ok (.iload 4, 2) := by decide +kernel
theorem dX3_hasPath_37 : decode cX3_hasPath 37 = .ok (.iaload, 1) := by decide +kernel
theorem dX3_hasPath_38 : decode cX3_hasPath 38 = .ok (.bipush (-3), 2) := by decide +kernel
theorem dX3_hasPath_40 : decode cX3_hasPath 40 = .ok (.if_icmp .eq 7, 3) := by decide +kernel
theorem dX3_hasPath_43 : decode cX3_hasPath 43 = .ok (.iconst 1, 1) := by decide +kernel
theorem dX3_hasPath_44 : decode cX3_hasPath 44 = .ok (.goto 4, 3) := by decide +kernel
theorem dX3_hasPath_47 : decode cX3_hasPath 47 = .ok (.iconst 0, 1) := by decide +kernel
theorem dX3_hasPath_48 : decode cX3_hasPath 48 = .ok (.istore_n 3, 1) := by decide +kernel
theorem dX3_hasPath_49 : decode cX3_hasPath 49 = .ok (.iinc 4 1, 3) := by decide +kernel
theorem dX3_hasPath_52 : decode cX3_hasPath 52 = .ok (.goto (-40), 3) := by decide +kernel
theorem dX3_hasPath_55 : decode cX3_hasPath 55 = .ok (.iload_n 3, 1) := by decide +kernel
theorem dX3_hasPath_56 : decode cX3_hasPath 56 = .ok (.ireturn, 1) := by decide +kernel
theorem dX3_append_0 : decode cX3_append 0 = .ok (.iconst 0, 1) := by decide +kernel
theorem dX3_append_1 : decode cX3_append 1 = .ok (.istore_n 2, 1) := by decide +kernel
theorem dX3_append_2 : decode cX3_append 2 = .ok (.iconst 0, 1) := by decide +kernel
theorem dX3_append_3 : decode cX3_append 3 = .ok (.istore_n 3, 1) := by decide +kernel
theorem dX3_append_4 : decode cX3_append 4 = .ok (.iload_n 3, 1) := by decide +kernel
theorem dX3_append_5 : decode cX3_append 5 = .ok (.aload_n 0, 1) := by decide +kernel
theorem dX3_append_6 : decode cX3_append 6 = .ok (.getfield 89, 3) := by decide +kernel
theorem dX3_append_9 : decode cX3_append 9 = .ok (.if_icmp .ge 29, 3) := by decide +kernel
theorem dX3_append_12 : decode cX3_append 12 = .ok (.iload_n 2, 1) := by decide +kernel
theorem dX3_append_13 : decode cX3_append 13 = .ok (.ifCond .ne 13, 3) := by decide +kernel
theorem dX3_append_16 : decode cX3_append 16 = .ok (.aload_n 0, 1) := by decide +kernel
theorem dX3_append_17 : decode cX3_append 17 = .ok (.getfield 41, 3) := by decide +kernel
theorem dX3_append_20 : decode cX3_append 20 = .ok (.iload_n 3, 1) := by decide +kernel
theorem dX3_append_21 : decode cX3_append 21 = .ok (.iaload, 1) := by decide +kernel
theorem dX3_append_22 : decode cX3_append 22 = .ok (.iload_n 1, 1) := by decide +kernel
theorem dX3_append_23 : decode cX3_append 23 = .ok (.if_icmp .ne 7, 3) := by decide +kernel
theorem dX3_append_26 : decode cX3_append 26 = .ok (.iconst 1, 1) := by decide +kernel
theorem dX3_append_27 : decode cX3_append 27 = .ok (.goto 4, 3) := by decide +kernel
theorem dX3_append_30 : decode cX3_append 30 = .ok (.iconst 0, 1) := by decide +kernel
theorem dX3_append_31 : decode cX3_append 31 = .ok (.istore_n 2, 1) := by decide +kernel
theorem dX3_append_32 : decode cX3_append 32 = .ok (.iinc 3 1, 3) := by decide +kernel
theorem dX3_append_35 : decode cX3_append 35 = .ok (.goto (-31), 3) := by decide +kernel
theorem dX3_append_38 : decode cX3_append 38 = .ok (.iload_n 2, 1) := by decide +kernel
theorem dX3_append_39 : decode cX3_append 39 = .ok (.ifCond .eq 4, 3) := by decide +kernel
theorem dX3_append_42 : decode cX3_append 42 = .ok (.return_, 1) := by decide +kernel
theorem dX3_append_43 : decode cX3_append 43 = .ok (.aload_n 0, 1) := by decide +kernel
theorem dX3_append_44 : decode cX3_append 44 = .ok (.getfield 41, 3) := by decide +kernel
theorem dX3_append_47 : decode cX3_append 47 = .ok (.aload_n 0, 1) := by decide +kernel
theorem dX3_append_48 : decode cX3_append 48 = .ok (.getfield 89, 3) := by decide +kernel
theorem dX3_append_51 : decode cX3_append 51 = .ok (.iload_n 1, 1) := by decide +kernel
theorem dX3_append_52 : decode cX3_append 52 = .ok (.iastore, 1) := by decide +kernel
theorem dX3_append_53 : decode cX3_append 53 = .ok (.aload_n 0, 1) := by decide +kernel
theorem dX3_append_54 : decode cX3_append 54 = .ok (.aload_n 0, 1) := by decide +kernel
theorem dX3_append_55 : decode cX3_append 55 = .ok (.getfield 89, 3) := by decide +kernel
theorem dX3_append_58 : decode cX3_append 58 = .ok (.iconst 1, 1) := by decide +kernel
theorem dX3_append_59 : decode cX3_append 59 = .ok (.iadd, 1) := by decide +kernel
theorem dX3_append_60 : decode cX3_append 60 = .ok (.putfield 89, 3) := by decide +kernel
theorem dX3_append_63 : decode cX3_append 63 = .ok (.return_, 1) := by decide +kernel
set_option maxRecDepth 20000 in
theorem ggX3_see_X3_hasPath : GoodIn wsX3_see wsX3_hasPath := goodIn_r _ [14, 15, 21, 22, 23, 24, 25, 26, 27, 28, 29, 30, 31, 32, 33, 34, 35, 36, 37, 38, 39] (by decide +kernel) (by decide +kernel)
set_option maxRecDepth 20000 in
theorem gX3_see_X3_hasPath : GoodIn wsX3_see (wsV RX3 92 RX3 yX3_hasPath wsX3_hasPath) := goodIn_app (goodIn_of _ (by decide +kernel)) ggX3_see_X3_hasPath
set_option maxRecDepth 20000 in
theorem ggX3_see_X3_append : GoodIn wsX3_see wsX3_append := goodIn_r _ [19, 1, 20, 21, 22, 23, 24, 25, 26, 27, 28, 29, 30, 31, 32, 33, 34, 35, 36, 37, 38, 39] (by decide +kernel) (by decide +kernel)
set_option maxRecDepth 20000 in
theorem gX3_see_X3_append : GoodIn wsX3_see (wsV RX3 96 RX3 yX3_append wsX3_append) := goodIn_app (goodIn_of _ (by decide +kernel)) ggX3_see_X3_append
theorem dX3_see_0 : decode cX3_see 0 = .ok (.aload_n 0, 1) := by decide +kernel
theorem dX3_see_1 : decode cX3_see 1 = .ok (.iconst 0, 1) := by decide +kernel
theorem dX3_see_2 : decode cX3_see 2 = .ok (.putfield 89, 3) := by decide +kernel
theorem dX3_see_5 : decode cX3_see 5 = .ok (.iconst 0, 1) := by decide +kernel
theorem dX3_see_6 : decode cX3_see 6 = .ok (.istore_n 3, 1) := by decide +kernel
theorem dX3_see_7 : decode cX3_see 7 = .ok (.iload_n 3, 1) := by decide +kernel
theorem dX3_see_8 : decode cX3_see 8 = .ok (.bipush 8, 2) := by decide +kernel
theorem dX3_see_10 : decode cX3_see 10 = .ok (.if_icmp .ge 16, 3) := by decide +kernel
theorem dX3_see_13 : decode cX3_see 13 = .ok (.aload_n 0, 1) := by decide +kernel
theorem dX3_see_14 : decode cX3_see 14 = .ok (.getfield 44, 3) := by decide +kernel
theorem dX3_see_17 : decode cX3_see 17 = .ok (.iload_n 3, 1) := by decide +kernel
theorem dX3_see_18 : decode cX3_see 18 = .ok (.iconst 0, 1) := by decide +kernel
theorem dX3_see_19 : decode cX3_see 19 = .ok (.bastore, 1) := by decide +kernel
theorem dX3_see_20 : decode cX3_see 20 = .ok (.iinc 3 1, 3) := by decide +kernel
