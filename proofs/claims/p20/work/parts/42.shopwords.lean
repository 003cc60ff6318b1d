theorem gi_cons {big ws : List Cond} {c : Cond} (h1 : GoodIn big [c]) (h2 : GoodIn big ws) : GoodIn big (c :: ws) := fun w h => (List.mem_cons.mp h).elim (fun e => h1 w (List.mem_singleton.mpr e)) (h2 w)
theorem gi_app {big a b : List Cond} (h1 : GoodIn big a) (h2 : GoodIn big b) : GoodIn big (a ++ b) := fun w h => (List.mem_append.mp h).elim (h1 w) (h2 w)
set_option maxRecDepth 20000 in
theorem sh_0 : GoodIn wsL_law [.code yL_shop cL_shop 11 (some (.object "GloveCutters"))] := goodIn_r _ [5] (by decide +kernel) (by decide +kernel)
set_option maxRecDepth 20000 in
theorem sh_1 : GoodIn wsL_law wsL_shop_r1 := goodIn_r _ [6, 7, 8, 9, 10, 11, 12, 13, 14, 15, 16, 17, 18, 19, 20, 21, 0, 22, 23, 24, 25, 26, 27, 28] (by decide +kernel) (by decide +kernel)
set_option maxRecDepth 20000 in
theorem sh_2 : GoodIn wsL_law wsL_shop_r2 := goodIn_r _ [29, 30, 31, 32, 33, 34, 35, 36, 37, 38, 4, 39, 40, 41, 42, 43, 44, 45, 46, 47, 48, 49, 50, 51] (by decide +kernel) (by decide +kernel)
set_option maxRecDepth 20000 in
theorem sh_3 : GoodIn wsL_law wsL_shop_r3 := goodIn_r _ [52, 53, 54, 55, 56, 57, 58, 59, 60, 61, 62, 63, 64, 65, 66, 67, 68, 69, 70, 71, 72, 73, 74, 75] (by decide +kernel) (by decide +kernel)
set_option maxRecDepth 20000 in
theorem sh_4 : GoodIn wsL_law wsL_shop_r4 := goodIn_r _ [76, 77, 78, 79, 80, 81, 82, 83, 84, 85, 86, 87, 88, 89, 90, 91, 92, 93, 94, 95, 96, 97, 98, 99] (by decide +kernel) (by decide +kernel)
set_option maxRecDepth 20000 in
theorem sh_5 : GoodIn wsL_law wsL_shop_r5 := goodIn_r _ [100, 101, 102, 103, 104, 105, 106, 107, 108, 109, 110, 111, 112, 113, 114, 115, 116, 117, 118, 119, 120, 121, 122, 123] (by decide +kernel) (by decide +kernel)
set_option maxRecDepth 20000 in
theorem sh_6 : GoodIn wsL_law wsL_shop_r6 := goodIn_r _ [124, 125, 126, 127, 128, 129, 130, 131, 132, 133, 134, 135, 136, 137, 138, 139, 140, 141, 142, 143, 144, 145, 146, 147] (by decide +kernel) (by decide +kernel)
set_option maxRecDepth 20000 in
theorem sh_7 : GoodIn wsL_law wsL_shop_r7 := goodIn_r _ [148, 149, 150, 151, 152, 153, 154, 155, 156, 157, 158, 159, 160, 161, 162, 163, 164, 165, 166, 167, 168, 169, 170, 171] (by decide +kernel) (by decide +kernel)
set_option maxRecDepth 20000 in
theorem sh_8 : GoodIn wsL_law wsL_shop_r8 := goodIn_r _ [172, 173, 174, 175, 176, 177, 178, 179, 180, 181, 182] (by decide +kernel) (by decide +kernel)
set_option maxRecDepth 20000 in
theorem sh_9 : GoodIn wsL_law wsX00 := goodIn_r _ [261, 262, 263, 264, 265, 266, 267, 268, 269, 270, 271, 272, 273, 274, 275, 276] (by decide +kernel) (by decide +kernel)
theorem gg_shop0 : GoodIn wsL_law (.code yL_shop cL_shop 11 (some (.object "GloveCutters")) :: ((wsL_shop_r1 ++ (wsL_shop_r2 ++ (wsL_shop_r3 ++ (wsL_shop_r4 ++ (wsL_shop_r5 ++ (wsL_shop_r6 ++ (wsL_shop_r7 ++ wsL_shop_r8))))))) ++ wsX00)) := gi_cons sh_0 (gi_app (gi_app sh_1 (gi_app sh_2 (gi_app sh_3 (gi_app sh_4 (gi_app sh_5 (gi_app sh_6 (gi_app sh_7 sh_8))))))) sh_9)
theorem ggL_law_L_shop : GoodIn wsL_law wsL_shop := goodIn_ca (goodIn_ca (goodIn_ca gg_shop0 (goodIn_sub (fun _ h => List.mem_append_left _ (List.mem_append_left _ (List.mem_append_right _ h))) (by decide +kernel))) (goodIn_sub (fun _ h => List.mem_append_left _ (List.mem_append_right _ h)) (by decide +kernel))) (goodIn_sub (fun _ h => List.mem_append_right _ h) (by decide +kernel))
set_option maxRecDepth 20000 in
theorem gL_law_L_shop : GoodIn wsL_law (va_wsS RL 67 yL_shop wsL_shop) := goodIn_app (goodIn_of _ (by decide +kernel)) ggL_law_L_shop
