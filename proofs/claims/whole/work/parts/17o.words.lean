def wvX2_load : List Cond := .code yX2_load cX2_load 4 (some .int) :: ((wsX2_load_r1 ++ wsX2_load_r2) ++ wsX20 ++ wsX00 ++ (vx_atS RX2 45 "java/lang/IllegalArgumentException" ["java/lang/RuntimeException", "java/lang/Exception"]).filter goodWord ++ (ns_at RX2 115).filter goodWord)
def wvX2_find : List Cond := .code yX2_find cX2_find 4 (some .int) :: ((wsX2_find_r1 ++ (wsX2_find_r2 ++ (wsX2_find_r3 ++ wsX2_find_r4))) ++ wsX20 ++ wsX10 ++ wsX00 ++ (vx_atS RX2 45 "java/lang/IllegalArgumentException" ["java/lang/RuntimeException", "java/lang/Exception"]).filter goodWord ++ (ns_at RX2 115).filter goodWord ++ (vx_atS RX2 55 "java/lang/IllegalStateException" ["java/lang/RuntimeException", "java/lang/Exception"]).filter goodWord)
def wvL_load : List Cond := .codeWith yL_load cL_load 4 (some .int) [(0, 9, 12, 13), (0, 9, 15, 32)] :: ((wsL_load_r1 ++ wsL_load_r2) ++ wsX20 ++ wsX00 ++ (vx_atS RX2 45 "java/lang/IllegalArgumentException" ["java/lang/RuntimeException", "java/lang/Exception"]).filter goodWord ++ (ns_at RX2 115).filter goodWord)
def wvL_find : List Cond := .codeWith yL_find cL_find 5 (some .int) [(0, 10, 13, 13), (0, 10, 17, 32), (0, 10, 21, 15)] :: ((wsL_find_r1 ++ (wsL_find_r2 ++ (wsL_find_r3 ++ wsL_find_r4))) ++ wsX20 ++ wsX10 ++ wsX00 ++ (vx_atS RX2 45 "java/lang/IllegalArgumentException" ["java/lang/RuntimeException", "java/lang/Exception"]).filter goodWord ++ (ns_at RX2 115).filter goodWord ++ (vx_atS RX2 55 "java/lang/IllegalStateException" ["java/lang/RuntimeException", "java/lang/Exception"]).filter goodWord)
def wvL_law : List Cond := wsL_law0 ++ (vx_atS RX2 45 "java/lang/IllegalArgumentException" ["java/lang/RuntimeException", "java/lang/Exception"]).filter goodWord ++ (vx_atS RX2 55 "java/lang/IllegalStateException" ["java/lang/RuntimeException", "java/lang/Exception"]).filter goodWord ++ (ns_at RX2 115).filter goodWord
theorem vinlX0 : ∀ w ∈ wsX00, w ∈ wvL_law := fun _ h => List.mem_append_left _ (List.mem_append_left _ (List.mem_append_left _ (List.mem_append_left _ (List.mem_append_left _ (List.mem_append_right _ h)))))
theorem vinlX1 : ∀ w ∈ wsX10, w ∈ wvL_law := fun _ h => List.mem_append_left _ (List.mem_append_left _ (List.mem_append_left _ (List.mem_append_left _ (List.mem_append_right _ h))))
theorem vinlX2 : ∀ w ∈ wsX20, w ∈ wvL_law := fun _ h => List.mem_append_left _ (List.mem_append_left _ (List.mem_append_left _ (List.mem_append_left _ (List.mem_append_left _ (List.mem_append_left _ (List.mem_append_left _ (List.mem_append_right _ h)))))))
theorem vinlX3 : ∀ w ∈ wsX30, w ∈ wvL_law := fun _ h => List.mem_append_left _ (List.mem_append_left _ (List.mem_append_left _ (List.mem_append_left _ (List.mem_append_left _ (List.mem_append_left _ (List.mem_append_right _ h))))))
set_option maxRecDepth 20000 in
theorem vggX2_load_X2_isModule : GoodIn wvX2_load wsX2_isModule := goodIn_r _ [9] (by decide +kernel) (by decide +kernel)
set_option maxRecDepth 20000 in
theorem vgX2_load_X2_isModule : GoodIn wvX2_load (va_wsS RX2 37 yX2_isModule wsX2_isModule) := goodIn_app (goodIn_of _ (by decide +kernel)) vggX2_load_X2_isModule
set_option maxRecDepth 20000 in
theorem vggX2_load_X2_loadableSet : GoodIn wvX2_load wsX2_loadableSet := goodIn_r _ [13, 14, 15, 16, 17, 8, 18, 19, 20, 21, 22, 41, 42, 43, 44, 45, 46, 47, 48, 49, 50, 51, 52, 53, 54] (by decide +kernel) (by decide +kernel)
set_option maxRecDepth 20000 in
theorem vgX2_load_X2_loadableSet : GoodIn wvX2_load (wsV RX2 104 RX2 yX2_loadableSet wsX2_loadableSet) := goodIn_app (goodIn_of _ (by decide +kernel)) vggX2_load_X2_loadableSet
set_option maxRecDepth 20000 in
theorem vggX2_load_X2_isIn : GoodIn wvX2_load wsX2_isIn := goodIn_r _ [25] (by decide +kernel) (by decide +kernel)
set_option maxRecDepth 20000 in
theorem vgX2_load_X2_isIn : GoodIn wvX2_load (va_wsS RX2 108 yX2_isIn wsX2_isIn) := goodIn_app (goodIn_of _ (by decide +kernel)) vggX2_load_X2_isIn
set_option maxRecDepth 20000 in
theorem vggX2_load_X2_reachedSet : GoodIn wvX2_load wsX2_reachedSet := goodIn_r _ [29, 20, 21, 8, 22, 30, 31, 32, 33, 19, 23, 24, 25, 41, 42, 43, 44, 45, 46, 47, 48, 49, 50, 51, 52, 53, 54] (by decide +kernel) (by decide +kernel)
set_option maxRecDepth 20000 in
theorem vgX2_load_X2_reachedSet : GoodIn wvX2_load (wsV RX2 116 RX2 yX2_reachedSet wsX2_reachedSet) := goodIn_app (goodIn_of _ (by decide +kernel)) vggX2_load_X2_reachedSet
set_option maxRecDepth 20000 in
theorem vggX2_load_J6_bitCount_0f7a4 : GoodIn wvX2_load wsJ6_bitCount_0f7a4 := goodIn_r _ [37, 38, 39, 40] (by decide +kernel) (by decide +kernel)
set_option maxRecDepth 20000 in
theorem vgX2_load_J6_bitCount_0f7a4 : GoodIn wvX2_load (va_wsS RX2 120 yJ6_bitCount_0f7a4 wsJ6_bitCount_0f7a4) := goodIn_app (goodIn_of _ (by decide +kernel)) vggX2_load_J6_bitCount_0f7a4
set_option maxRecDepth 20000 in
theorem vggX2_find_X2_isLoaded : GoodIn wvX2_find wsX2_isLoaded := goodIn_r _ [11, 12, 13, 14, 10, 15, 16, 17, 18, 77, 78, 79, 80, 81, 82] (by decide +kernel) (by decide +kernel)
set_option maxRecDepth 20000 in
theorem vgX2_find_X2_isLoaded : GoodIn wvX2_find (wsV RX2 68 RX2 yX2_isLoaded wsX2_isLoaded) := goodIn_app (goodIn_of _ (by decide +kernel)) vggX2_find_X2_isLoaded
set_option maxRecDepth 20000 in
theorem vggX2_find_X2_isName : GoodIn wvX2_find wsX2_isName := goodIn_r _ [21] (by decide +kernel) (by decide +kernel)
set_option maxRecDepth 20000 in
theorem vgX2_find_X2_isName : GoodIn wvX2_find (va_wsS RX2 60 yX2_isName wsX2_isName) := goodIn_app (goodIn_of _ (by decide +kernel)) vggX2_find_X2_isName
set_option maxRecDepth 20000 in
theorem vggX2_find_X2_holderSeenFrom : GoodIn wvX2_find wsX2_holderSeenFrom := goodIn_r _ [25, 26, 27, 28, 29, 30, 10, 31, 32, 33, 34, 35, 36, 37, 38, 39, 40, 41, 42, 43, 44, 45, 46, 47, 48, 49, 50, 51, 17, 18, 52, 53, 16, 54, 55, 56, 57, 7, 8, 9, 11, 12, 13, 14, 15, 58, 77, 78, 79, 80, 81, 82, 83, 84, 85, 86, 87, 88, 89, 90, 91, 92, 93, 94] (by decide +kernel) (by decide +kernel)
set_option maxRecDepth 20000 in
theorem vgX2_find_X2_holderSeenFrom : GoodIn wvX2_find (wsV RX2 140 RX2 yX2_holderSeenFrom wsX2_holderSeenFrom) := goodIn_app (goodIn_of _ (by decide +kernel)) vggX2_find_X2_holderSeenFrom
set_option maxRecDepth 20000 in
theorem vggX2_find_X2_defineWithAllAbove : GoodIn wvX2_find wsX2_defineWithAllAbove := goodIn_r _ [62, 63, 64, 27, 65, 66, 67, 10, 68, 69, 40, 70, 71, 72, 22, 23, 24, 25, 26, 28, 29, 30, 31, 32, 33, 34, 35, 36, 37, 38, 39, 41, 42, 43, 44, 45, 46, 47, 48, 49, 50, 51, 17, 18, 52, 53, 16, 54, 55, 56, 57, 7, 8, 9, 11, 12, 13, 14, 15, 58, 73, 74, 75, 76, 77, 78, 79, 80, 81, 82, 87, 88, 89, 90, 91, 92, 93, 94, 83, 84, 85, 86] (by decide +kernel) (by decide +kernel)
set_option maxRecDepth 20000 in
theorem vgX2_find_X2_defineWithAllAbove : GoodIn wvX2_find (wsV RX2 145 RX2 yX2_defineWithAllAbove wsX2_defineWithAllAbove) := goodIn_app (goodIn_of _ (by decide +kernel)) vggX2_find_X2_defineWithAllAbove
set_option maxRecDepth 20000 in
theorem vggL_load_X2_load : GoodIn wvL_load wvX2_load := goodIn_ca (goodIn_ca (goodIn_r _ [7, 8, 9, 10, 11, 12, 13, 14, 6, 15, 16, 17, 18, 19, 20, 21, 22, 23, 24, 25, 26, 27, 28, 29, 30, 31, 32, 33, 34, 35, 36, 37, 38, 39, 40, 41, 42, 43, 44, 45, 46, 47, 48, 49, 50, 51, 52, 53, 54, 55, 56, 57, 58, 59, 60] (by decide +kernel) (by decide +kernel)) (goodIn_sub (fun _ h => List.mem_cons_of_mem _ (List.mem_append_left _ (List.mem_append_right _ h))) (by decide +kernel))) (goodIn_sub (fun _ h => List.mem_cons_of_mem _ (List.mem_append_right _ h)) (by decide +kernel))
set_option maxRecDepth 20000 in
theorem vgL_load_X2_load : GoodIn wvL_load (wsV RL 29 RX2 yX2_load wvX2_load) := goodIn_app (goodIn_of _ (by decide +kernel)) vggL_load_X2_load
set_option maxRecDepth 20000 in
theorem vggL_find_X2_find : GoodIn wvL_find wvX2_find := goodIn_ca (goodIn_ca (goodIn_ca (goodIn_r _ [8, 9, 10, 11, 12, 13, 14, 15, 16, 17, 7, 18, 19, 20, 21, 22, 23, 24, 25, 26, 27, 28, 29, 30, 31, 32, 33, 34, 35, 36, 37, 38, 39, 40, 41, 42, 43, 44, 45, 46, 47, 48, 49, 50, 51, 52, 53, 54, 55, 56, 57, 58, 59, 60, 61, 62, 63, 64, 65, 66, 67, 68, 69, 70, 71, 72, 73, 74, 75, 76, 77, 78, 79, 80, 81, 82, 83, 84, 85, 86, 87, 88, 89, 90, 91, 92, 93, 94, 95, 96, 97, 98, 99, 100, 101] (by decide +kernel) (by decide +kernel)) (goodIn_sub (fun _ h => List.mem_cons_of_mem _ (List.mem_append_left _ (List.mem_append_left _ (List.mem_append_right _ h)))) (by decide +kernel))) (goodIn_sub (fun _ h => List.mem_cons_of_mem _ (List.mem_append_left _ (List.mem_append_right _ h))) (by decide +kernel))) (goodIn_sub (fun _ h => List.mem_cons_of_mem _ (List.mem_append_right _ h)) (by decide +kernel))
set_option maxRecDepth 20000 in
theorem vgL_find_X2_find : GoodIn wvL_find (wsV RL 37 RX2 yX2_find wvX2_find) := goodIn_app (goodIn_of _ (by decide +kernel)) vggL_find_X2_find
set_option maxRecDepth 20000 in
theorem vggL_law_X2_init : GoodIn wvL_law wsX2_init := goodIn_r _ [9, 10, 11, 12, 13, 14, 15, 16, 17, 18, 19, 20, 21, 22, 23, 24, 25, 26, 27, 28, 29, 30, 31, 32, 33, 34, 35, 36, 37, 38, 39, 40, 41, 42, 43, 44, 45, 46, 47, 366, 367, 368, 369, 370, 371, 391, 392, 393, 394, 395, 396, 397, 398, 399, 400, 401, 402] (by decide +kernel) (by decide +kernel)
set_option maxRecDepth 20000 in
theorem vgL_law_X2_init : GoodIn wvL_law (wsX2_init) := vggL_law_X2_init
set_option maxRecDepth 20000 in
theorem vggL_law_X3_init : GoodIn wvL_law wsX3_init := goodIn_r _ [50, 51, 11, 12, 52, 53, 54, 55, 23, 56, 57, 58, 59, 60, 61, 62, 63, 64, 65, 66, 67, 68, 372, 373, 374, 375, 376, 377, 378, 379, 380, 381, 382, 383, 384, 385, 386, 387, 388, 389, 390] (by decide +kernel) (by decide +kernel)
set_option maxRecDepth 20000 in
theorem vgL_law_X3_init : GoodIn wvL_law (wsX3_init) := vggL_law_X3_init
set_option maxRecDepth 20000 in
theorem vggL_law_L_present : GoodIn wvL_law wsL_present := goodIn_ca (goodIn_ca (goodIn_r _ [72, 73, 74, 75, 76, 77, 2, 78, 79, 80, 81, 82, 17, 83, 84, 85, 86, 87, 88, 89, 90, 91, 92, 93, 94, 95, 366, 367, 368, 369, 370, 371] (by decide +kernel) (by decide +kernel)) (goodIn_sub (fun _ h => List.mem_append_left _ (List.mem_append_left _ (List.mem_append_right _ h))) (by decide +kernel))) (goodIn_sub (fun _ h => List.mem_append_left _ (List.mem_append_right _ h)) (by decide +kernel))
set_option maxRecDepth 20000 in
theorem vgL_law_L_present : GoodIn wvL_law (va_wsS RL 45 yL_present wsL_present) := goodIn_app (goodIn_of _ (by decide +kernel)) vggL_law_L_present
set_option maxRecDepth 20000 in
theorem vggL_law_X3_present : GoodIn wvL_law wsX3_present := goodIn_r _ [99, 53, 100, 101, 5, 102, 103, 104, 105, 106, 107, 108, 109, 110, 372, 373, 374, 375, 376, 377, 378, 379, 380, 381, 382, 383, 384, 385, 386, 387, 388, 389, 390] (by decide +kernel) (by decide +kernel)
set_option maxRecDepth 20000 in
theorem vgL_law_X3_present : GoodIn wvL_law (wsV RL 50 RX3 yX3_present wsX3_present) := goodIn_app (goodIn_of _ (by decide +kernel)) vggL_law_X3_present
set_option maxRecDepth 20000 in
theorem vggL_law_X3_thrown : GoodIn wvL_law wsX3_thrown := goodIn_r _ [114, 110, 372, 373, 374, 375, 376, 377, 378, 379, 380, 381, 382, 383, 384, 385, 386, 387, 388, 389, 390] (by decide +kernel) (by decide +kernel)
set_option maxRecDepth 20000 in
theorem vgL_law_X3_thrown : GoodIn wvL_law (wsV RL 51 RX3 yX3_thrown wsX3_thrown) := goodIn_app (goodIn_of _ (by decide +kernel)) vggL_law_X3_thrown
set_option maxRecDepth 20000 in
theorem vggL_law_L_file : GoodIn wvL_law wsL_file := goodIn_ca (goodIn_ca (goodIn_r _ [117, 73, 74, 118, 119, 120, 2, 121, 79, 80, 81, 82, 14, 86, 87, 88, 89, 17, 83, 84, 85, 90, 91, 92, 122, 123, 124, 125, 126, 127, 128, 129, 130, 131, 18, 132, 16, 133, 134, 29, 366, 367, 368, 369, 370, 371, 391, 392, 393, 394, 395, 396, 397, 398] (by decide +kernel) (by decide +kernel)) (goodIn_sub (fun _ h => List.mem_append_left _ (List.mem_append_left _ (List.mem_append_right _ h))) (by decide +kernel))) (goodIn_sub (fun _ h => List.mem_append_left _ (List.mem_append_right _ h)) (by decide +kernel))
set_option maxRecDepth 20000 in
theorem vgL_law_L_file : GoodIn wvL_law (va_wsS RL 55 yL_file wsL_file) := goodIn_app (goodIn_of _ (by decide +kernel)) vggL_law_L_file
set_option maxRecDepth 20000 in
theorem vggL_law_X3_file : GoodIn wvL_law wsX3_file := goodIn_r _ [138, 54, 56, 139, 140, 141, 5, 142, 53, 100, 101, 102, 103, 104, 105, 106, 107, 108, 109, 110, 372, 373, 374, 375, 376, 377, 378, 379, 380, 381, 382, 383, 384, 385, 386, 387, 388, 389, 390] (by decide +kernel) (by decide +kernel)
set_option maxRecDepth 20000 in
theorem vgL_law_X3_file : GoodIn wvL_law (wsV RL 58 RX3 yX3_file wsX3_file) := goodIn_app (goodIn_of _ (by decide +kernel)) vggL_law_X3_file
set_option maxRecDepth 20000 in
theorem vggL_law_L_depend : GoodIn wvL_law wsL_depend := goodIn_ca (goodIn_ca (goodIn_r _ [145, 73, 74, 146, 147, 148, 2, 149, 79, 80, 81, 82, 14, 86, 87, 88, 89, 17, 83, 84, 85, 90, 91, 92, 150, 151, 152, 153, 154, 155, 128, 129, 130, 131, 18, 156, 16, 157, 158, 31, 34, 32, 33, 35, 36, 94, 95, 366, 367, 368, 369, 370, 371, 391, 392, 393, 394, 395, 396, 397, 398] (by decide +kernel) (by decide +kernel)) (goodIn_sub (fun _ h => List.mem_append_left _ (List.mem_append_left _ (List.mem_append_right _ h))) (by decide +kernel))) (goodIn_sub (fun _ h => List.mem_append_left _ (List.mem_append_right _ h)) (by decide +kernel))
set_option maxRecDepth 20000 in
theorem vgL_law_L_depend : GoodIn wvL_law (va_wsS RL 59 yL_depend wsL_depend) := goodIn_app (goodIn_of _ (by decide +kernel)) vggL_law_L_depend
set_option maxRecDepth 20000 in
theorem vggL_law_X3_depend : GoodIn wvL_law wsX3_depend := goodIn_r _ [162, 54, 58, 59, 60, 61, 62, 139, 140, 141, 5, 142, 53, 100, 101, 102, 103, 104, 105, 106, 107, 108, 109, 110, 372, 373, 374, 375, 376, 377, 378, 379, 380, 381, 382, 383, 384, 385, 386, 387, 388, 389, 390] (by decide +kernel) (by decide +kernel)
set_option maxRecDepth 20000 in
theorem vgL_law_X3_depend : GoodIn wvL_law (wsV RL 62 RX3 yX3_depend wsX3_depend) := goodIn_app (goodIn_of _ (by decide +kernel)) vggL_law_X3_depend
set_option maxRecDepth 20000 in
theorem vggL_law_L_relink : GoodIn wvL_law wsL_relink := goodIn_ca (goodIn_r _ [165, 73, 166, 167, 168, 2, 169, 79, 80, 14, 86, 87, 88, 89, 17, 83, 84, 85, 90, 91, 92, 170, 16, 171, 172, 34, 35, 36, 366, 367, 368, 369, 370, 371, 391, 392, 393, 394, 395, 396, 397, 398] (by decide +kernel) (by decide +kernel)) (goodIn_sub (fun _ h => List.mem_append_left _ (List.mem_append_left _ (List.mem_append_right _ h))) (by decide +kernel))
set_option maxRecDepth 20000 in
theorem vgL_law_L_relink : GoodIn wvL_law (va_wsS RL 63 yL_relink wsL_relink) := goodIn_app (goodIn_of _ (by decide +kernel)) vggL_law_L_relink
set_option maxRecDepth 20000 in
theorem vggL_law_X3_relink : GoodIn wvL_law wsX3_relink := goodIn_r _ [176, 58, 139, 140, 141, 5, 142, 53, 100, 101, 102, 103, 104, 105, 106, 107, 108, 109, 110, 372, 373, 374, 375, 376, 377, 378, 379, 380, 381, 382, 383, 384, 385, 386, 387, 388, 389, 390] (by decide +kernel) (by decide +kernel)
set_option maxRecDepth 20000 in
theorem vgL_law_X3_relink : GoodIn wvL_law (wsV RL 66 RX3 yX3_relink wsX3_relink) := goodIn_app (goodIn_of _ (by decide +kernel)) vggL_law_X3_relink
set_option maxRecDepth 20000 in
theorem vggL_law_L_load : GoodIn wvL_law wvL_load := goodIn_ca (goodIn_ca (goodIn_r _ [179, 73, 180, 181, 182, 183, 2, 184, 79, 80, 185, 186, 18, 83, 84, 85, 187, 188, 189, 190, 17, 191, 192, 193, 194, 14, 93, 94, 95, 90, 91, 92, 195, 196, 197, 198, 199, 200, 201, 202, 203, 204, 205, 206, 207, 208, 209, 366, 367, 368, 369, 370, 371, 391, 392, 393, 394, 395, 396, 397, 398] (by decide +kernel) (by decide +kernel)) (goodIn_sub (fun _ h => List.mem_append_left _ (List.mem_append_left _ (List.mem_append_right _ h))) (by decide +kernel))) (goodIn_sub (fun _ h => List.mem_append_right _ h) (by decide +kernel))
set_option maxRecDepth 20000 in
theorem vgL_law_L_load : GoodIn wvL_law (va_wsS RL 67 yL_load wvL_load) := goodIn_app (goodIn_of _ (by decide +kernel)) vggL_law_L_load
set_option maxRecDepth 20000 in
theorem vggL_law_X3_load : GoodIn wvL_law wsX3_load := goodIn_r _ [213, 55, 65, 58, 59, 54, 214, 215, 216, 5, 217, 53, 62, 100, 101, 102, 103, 104, 105, 106, 107, 108, 109, 110, 372, 373, 374, 375, 376, 377, 378, 379, 380, 381, 382, 383, 384, 385, 386, 387, 388, 389, 390] (by decide +kernel) (by decide +kernel)
set_option maxRecDepth 20000 in
theorem vgL_law_X3_load : GoodIn wvL_law (wsV RL 69 RX3 yX3_load wsX3_load) := goodIn_app (goodIn_of _ (by decide +kernel)) vggL_law_X3_load
set_option maxRecDepth 20000 in
theorem vggL_law_L_unload : GoodIn wvL_law wsL_unload := goodIn_ca (goodIn_ca (goodIn_r _ [220, 73, 74, 221, 222, 223, 2, 224, 79, 80, 81, 82, 14, 18, 128, 129, 130, 131, 83, 84, 85, 90, 91, 92, 225, 226, 227, 228, 229, 16, 230, 231, 30, 232, 233, 234, 235, 236, 237, 238, 239, 240, 241, 93, 94, 95, 366, 367, 368, 369, 370, 371, 391, 392, 393, 394, 395, 396, 397, 398] (by decide +kernel) (by decide +kernel)) (goodIn_sub (fun _ h => List.mem_append_left _ (List.mem_append_left _ (List.mem_append_right _ h))) (by decide +kernel))) (goodIn_sub (fun _ h => List.mem_append_left _ (List.mem_append_right _ h)) (by decide +kernel))
set_option maxRecDepth 20000 in
theorem vgL_law_L_unload : GoodIn wvL_law (va_wsS RL 70 yL_unload wsL_unload) := goodIn_app (goodIn_of _ (by decide +kernel)) vggL_law_L_unload
set_option maxRecDepth 20000 in
theorem vggL_law_X3_unload : GoodIn wvL_law wsX3_unload := goodIn_r _ [245, 57, 246, 54, 247, 248, 249, 5, 250, 100, 101, 102, 103, 104, 105, 251, 252, 253, 254, 58, 62, 59, 106, 107, 108, 109, 110, 372, 373, 374, 375, 376, 377, 378, 379, 380, 381, 382, 383, 384, 385, 386, 387, 388, 389, 390] (by decide +kernel) (by decide +kernel)
set_option maxRecDepth 20000 in
theorem vgL_law_X3_unload : GoodIn wvL_law (wsV RL 72 RX3 yX3_unload wsX3_unload) := goodIn_app (goodIn_of _ (by decide +kernel)) vggL_law_X3_unload
set_option maxRecDepth 20000 in
theorem vggL_law_L_find : GoodIn wvL_law wvL_find := goodIn_ca (goodIn_ca (goodIn_ca (goodIn_r _ [257, 73, 180, 74, 258, 259, 260, 2, 261, 79, 80, 185, 186, 81, 82, 128, 129, 130, 131, 18, 83, 84, 85, 90, 91, 92, 122, 123, 124, 262, 263, 264, 265, 22, 14, 266, 267, 268, 269, 42, 21, 43, 44, 45, 46, 47, 270, 16, 271, 272, 273, 132, 133, 134, 29, 274, 275, 276, 40, 94, 95, 277, 278, 279, 280, 93, 281, 282, 283, 284, 24, 25, 285, 286, 287, 288, 236, 237, 238, 30, 289, 290, 291, 292, 366, 367, 368, 369, 370, 371, 399, 400, 401, 402, 391, 392, 393, 394, 395, 396, 397, 398] (by decide +kernel) (by decide +kernel)) (goodIn_sub (fun _ h => List.mem_append_left _ (List.mem_append_left _ (List.mem_append_right _ h))) (by decide +kernel))) (goodIn_sub (fun _ h => List.mem_append_right _ h) (by decide +kernel))) (goodIn_sub (fun _ h => List.mem_append_left _ (List.mem_append_right _ h)) (by decide +kernel))
set_option maxRecDepth 20000 in
theorem vgL_law_L_find : GoodIn wvL_law (va_wsS RL 73 yL_find wvL_find) := goodIn_app (goodIn_of _ (by decide +kernel)) vggL_law_L_find
set_option maxRecDepth 20000 in
theorem vggL_law_X3_find : GoodIn wvL_law wsX3_find := goodIn_r _ [296, 68, 247, 248, 249, 5, 250, 54, 100, 101, 102, 103, 104, 105, 297, 298, 299, 300, 301, 56, 63, 302, 303, 304, 305, 64, 66, 67, 58, 59, 60, 61, 306, 307, 308, 309, 310, 311, 312, 313, 314, 315, 316, 317, 57, 106, 107, 108, 109, 110, 318, 319, 320, 321, 246, 372, 373, 374, 375, 376, 377, 378, 379, 380, 381, 382, 383, 384, 385, 386, 387, 388, 389, 390] (by decide +kernel) (by decide +kernel)
set_option maxRecDepth 20000 in
theorem vgL_law_X3_find : GoodIn wvL_law (wsV RL 76 RX3 yX3_find wsX3_find) := goodIn_app (goodIn_of _ (by decide +kernel)) vggL_law_X3_find
set_option maxRecDepth 20000 in
theorem vggL_law_X2_visible : GoodIn wvL_law wsX2_visible := goodIn_r _ [325, 22, 128, 129, 130, 2, 131, 18, 83, 84, 85, 90, 91, 92, 266, 267, 268, 269, 14, 42, 21, 43, 44, 45, 46, 47, 270, 16, 271, 272, 273, 132, 133, 134, 29, 274, 275, 276, 40, 94, 95, 277, 278, 279, 280, 93, 366, 367, 368, 369, 370, 371, 399, 400, 401, 402, 391, 392, 393, 394, 395, 396, 397, 398] (by decide +kernel) (by decide +kernel)
set_option maxRecDepth 20000 in
theorem vgL_law_X2_visible : GoodIn wvL_law (wsV RL 77 RX2 yX2_visible wsX2_visible) := goodIn_app (goodIn_of _ (by decide +kernel)) vggL_law_X2_visible
set_option maxRecDepth 20000 in
theorem vggL_law_X3_visible : GoodIn wvL_law wsX3_visible := goodIn_r _ [329, 110, 301, 63, 247, 248, 249, 5, 250, 54, 100, 101, 102, 103, 104, 105, 302, 303, 304, 305, 64, 66, 67, 58, 59, 60, 61, 306, 307, 308, 309, 56, 310, 311, 312, 313, 372, 373, 374, 375, 376, 377, 378, 379, 380, 381, 382, 383, 384, 385, 386, 387, 388, 389, 390] (by decide +kernel) (by decide +kernel)
set_option maxRecDepth 20000 in
theorem vgL_law_X3_visible : GoodIn wvL_law (wsV RL 81 RX3 yX3_visible wsX3_visible) := goodIn_app (goodIn_of _ (by decide +kernel)) vggL_law_X3_visible
set_option maxRecDepth 20000 in
theorem vggL_law_X2_why : GoodIn wvL_law wsX2_why := goodIn_r _ [333, 18, 128, 129, 130, 2, 131, 83, 84, 85, 90, 91, 92, 122, 123, 124, 262, 263, 264, 265, 22, 14, 266, 267, 268, 269, 42, 21, 43, 44, 45, 46, 47, 270, 16, 271, 272, 273, 132, 133, 134, 29, 274, 275, 276, 40, 94, 95, 277, 278, 279, 280, 93, 334, 335, 336, 337, 366, 367, 368, 369, 370, 371, 399, 400, 401, 402, 391, 392, 393, 394, 395, 396, 397, 398] (by decide +kernel) (by decide +kernel)
set_option maxRecDepth 20000 in
theorem vgL_law_X2_why : GoodIn wvL_law (wsV RL 82 RX2 yX2_why wsX2_why) := goodIn_app (goodIn_of _ (by decide +kernel)) vggL_law_X2_why
set_option maxRecDepth 20000 in
theorem vggL_law_X3_why : GoodIn wvL_law wsX3_why := goodIn_r _ [341, 110, 56, 54, 247, 248, 249, 5, 250, 100, 101, 102, 103, 104, 105, 297, 298, 299, 300, 301, 63, 302, 303, 304, 305, 64, 66, 67, 58, 59, 60, 61, 306, 307, 308, 309, 310, 311, 312, 313, 372, 373, 374, 375, 376, 377, 378, 379, 380, 381, 382, 383, 384, 385, 386, 387, 388, 389, 390] (by decide +kernel) (by decide +kernel)
set_option maxRecDepth 20000 in
theorem vgL_law_X3_why : GoodIn wvL_law (wsV RL 85 RX3 yX3_why wsX3_why) := goodIn_app (goodIn_of _ (by decide +kernel)) vggL_law_X3_why
set_option maxRecDepth 20000 in
theorem vggL_law_X2_state : GoodIn wvL_law wsX2_state := goodIn_r _ [345, 83, 84, 2, 85, 86, 87, 88, 89, 17, 90, 91, 92, 128, 129, 130, 131, 18, 187, 188, 189, 190, 191, 192, 193, 194, 14, 93, 94, 95, 366, 367, 368, 369, 370, 371, 391, 392, 393, 394, 395, 396, 397, 398] (by decide +kernel) (by decide +kernel)
set_option maxRecDepth 20000 in
theorem vgL_law_X2_state : GoodIn wvL_law (wsV RL 86 RX2 yX2_state wsX2_state) := goodIn_app (goodIn_of _ (by decide +kernel)) vggL_law_X2_state
set_option maxRecDepth 20000 in
theorem vggL_law_X3_state : GoodIn wvL_law wsX3_state := goodIn_r _ [349, 110, 54, 55, 53, 100, 101, 5, 102, 103, 104, 105, 214, 215, 216, 217, 58, 62, 59, 372, 373, 374, 375, 376, 377, 378, 379, 380, 381, 382, 383, 384, 385, 386, 387, 388, 389, 390] (by decide +kernel) (by decide +kernel)
set_option maxRecDepth 20000 in
theorem vgL_law_X3_state : GoodIn wvL_law (wsV RL 89 RX3 yX3_state wsX3_state) := goodIn_app (goodIn_of _ (by decide +kernel)) vggL_law_X3_state
set_option maxRecDepth 20000 in
theorem vggL_law_X2_above : GoodIn wvL_law wsX2_above := goodIn_r _ [353, 14, 83, 84, 2, 85, 122, 123, 124, 366, 367, 368, 369, 370, 371, 391, 392, 393, 394, 395, 396, 397, 398] (by decide +kernel) (by decide +kernel)
set_option maxRecDepth 20000 in
theorem vgL_law_X2_above : GoodIn wvL_law (wsV RL 90 RX2 yX2_above wsX2_above) := goodIn_app (goodIn_of _ (by decide +kernel)) vggL_law_X2_above
set_option maxRecDepth 20000 in
theorem vggL_law_X3_above : GoodIn wvL_law wsX3_above := goodIn_r _ [357, 110, 57, 100, 101, 5, 102, 103, 104, 105, 372, 373, 374, 375, 376, 377, 378, 379, 380, 381, 382, 383, 384, 385, 386, 387, 388, 389, 390] (by decide +kernel) (by decide +kernel)
set_option maxRecDepth 20000 in
theorem vgL_law_X3_above : GoodIn wvL_law (wsV RL 93 RX3 yX3_above wsX3_above) := goodIn_app (goodIn_of _ (by decide +kernel)) vggL_law_X3_above
set_option maxRecDepth 20000 in
theorem vggL_law_X2_defined : GoodIn wvL_law wsX2_defined := goodIn_r _ [361, 14, 232, 16, 233, 234, 235, 236, 237, 238, 30, 366, 367, 368, 369, 370, 371, 391, 392, 393, 394, 395, 396, 397, 398] (by decide +kernel) (by decide +kernel)
set_option maxRecDepth 20000 in
theorem vgL_law_X2_defined : GoodIn wvL_law (wsV RL 94 RX2 yX2_defined wsX2_defined) := goodIn_app (goodIn_of _ (by decide +kernel)) vggL_law_X2_defined
set_option maxRecDepth 20000 in
theorem vggL_law_X3_defined : GoodIn wvL_law wsX3_defined := goodIn_r _ [365, 110, 246, 372, 373, 374, 375, 376, 377, 378, 379, 380, 381, 382, 383, 384, 385, 386, 387, 388, 389, 390] (by decide +kernel) (by decide +kernel)
set_option maxRecDepth 20000 in
theorem vgL_law_X3_defined : GoodIn wvL_law (wsV RL 97 RX3 yX3_defined wsX3_defined) := goodIn_app (goodIn_of _ (by decide +kernel)) vggL_law_X3_defined
