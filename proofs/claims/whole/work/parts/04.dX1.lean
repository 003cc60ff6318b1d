theorem dX1_init_0 : decode cX1_init 0 = .ok (.aload_n 0, 1) := by decide +kernel
theorem dX1_init_1 : decode cX1_init 1 = .ok (.invokespecial 3, 3) := by decide +kernel
theorem dX1_init_4 : decode cX1_init 4 = .ok (.aload_n 0, 1) := by decide +kernel
theorem dX1_init_5 : decode cX1_init 5 = .ok (.bipush 10, 2) := by decide +kernel
theorem dX1_init_7 : decode cX1_init 7 = .ok (.newarray .int, 2) := by decide +kernel
theorem dX1_init_9 : decode cX1_init 9 = .ok (.putfield 9, 3) := by decide +kernel
theorem dX1_init_12 : decode cX1_init 12 = .ok (.aload_n 0, 1) := by decide +kernel
theorem dX1_init_13 : decode cX1_init 13 = .ok (.sipush 960, 3) := by decide +kernel
theorem dX1_init_16 : decode cX1_init 16 = .ok (.newarray .int, 2) := by decide +kernel
theorem dX1_init_18 : decode cX1_init 18 = .ok (.putfield 13, 3) := by decide +kernel
theorem dX1_init_21 : decode cX1_init 21 = .ok (.aload_n 0, 1) := by decide +kernel
theorem dX1_init_22 : decode cX1_init 22 = .ok (.sipush 150, 3) := by decide +kernel
theorem dX1_init_25 : decode cX1_init 25 = .ok (.newarray .int, 2) := by decide +kernel
theorem dX1_init_27 : decode cX1_init 27 = .ok (.putfield 16, 3) := by decide +kernel
theorem dX1_init_30 : decode cX1_init 30 = .ok (.aload_n 0, 1) := by decide +kernel
theorem dX1_init_31 : decode cX1_init 31 = .ok (.sipush 150, 3) := by decide +kernel
theorem dX1_init_34 : decode cX1_init 34 = .ok (.newarray .int, 2) := by decide +kernel
theorem dX1_init_36 : decode cX1_init 36 = .ok (.putfield 19, 3) := by decide +kernel
theorem dX1_init_39 : decode cX1_init 39 = .ok (.aload_n 0, 1) := by decide +kernel
theorem dX1_init_40 : decode cX1_init 40 = .ok (.sipush 150, 3) := by decide +kernel
theorem dX1_init_43 : decode cX1_init 43 = .ok (.newarray .int, 2) := by decide +kernel
theorem dX1_init_45 : decode cX1_init 45 = .ok (.putfield 22, 3) := by decide +kernel
theorem dX1_init_48 : decode cX1_init 48 = .ok (.aload_n 0, 1) := by decide +kernel
theorem dX1_init_49 : decode cX1_init 49 = .ok (.sipush 150, 3) := by decide +kernel
theorem dX1_init_52 : decode cX1_init 52 = .ok (.newarray .int, 2) := by decide +kernel
theorem dX1_init_54 : decode cX1_init 54 = .ok (.putfield 25, 3) := by decide +kernel
theorem dX1_init_57 : decode cX1_init 57 = .ok (.aload_n 0, 1) := by decide +kernel
theorem dX1_init_58 : decode cX1_init 58 = .ok (.bipush 100, 2) := by decide +kernel
theorem dX1_init_60 : decode cX1_init 60 = .ok (.newarray .int, 2) := by decide +kernel
theorem dX1_init_62 : decode cX1_init 62 = .ok (.putfield 28, 3) := by decide +kernel
theorem dX1_init_65 : decode cX1_init 65 = .ok (.aload_n 0, 1) := by decide +kernel
theorem dX1_init_66 : decode cX1_init 66 = .ok (.bipush 96, 2) := by decide +kernel
theorem dX1_init_68 : decode cX1_init 68 = .ok (.newarray .int, 2) := by decide +kernel
theorem dX1_init_70 : decode cX1_init 70 = .ok (.putfield 31, 3) := by decide +kernel
theorem dX1_init_73 : decode cX1_init 73 = .ok (.return_, 1) := by decide +kernel
theorem dX1_thrown_0 : decode cX1_thrown 0 = .ok (.aload_n 0, 1) := by decide +kernel
theorem dX1_thrown_1 : decode cX1_thrown 1 = .ok (.getfield 34, 3) := by decide +kernel
theorem dX1_thrown_4 : decode cX1_thrown 4 = .ok (.ireturn, 1) := by decide +kernel
theorem dX1_no_0 : decode cX1_no 0 = .ok (.aload_n 0, 1) := by decide +kernel
theorem dX1_no_1 : decode cX1_no 1 = .ok (.iload_n 1, 1) := by decide +kernel
theorem dX1_no_2 : decode cX1_no 2 = .ok (.putfield 34, 3) := by decide +kernel
theorem dX1_no_5 : decode cX1_no 5 = .ok (.iconst 0, 1) := by decide +kernel
theorem dX1_no_6 : decode cX1_no 6 = .ok (.ireturn, 1) := by decide +kernel
theorem dX1_isIn_0 : decode cX1_isIn 0 = .ok (.iload_n 0, 1) := by decide +kernel
theorem dX1_isIn_1 : decode cX1_isIn 1 = .ok (.iload_n 1, 1) := by decide +kernel
theorem dX1_isIn_2 : decode cX1_isIn 2 = .ok (.if_icmp .lt 12, 3) := by decide +kernel
theorem dX1_isIn_5 : decode cX1_isIn 5 = .ok (.iload_n 0, 1) := by decide +kernel
theorem dX1_isIn_6 : decode cX1_isIn 6 = .ok (.iload_n 2, 1) := by decide +kernel
theorem dX1_isIn_7 : decode cX1_isIn 7 = .ok (.if_icmp .gt 7, 3) := by decide +kernel
theorem dX1_isIn_10 : decode cX1_isIn 10 = .ok (.iconst 1, 1) := by decide +kernel
theorem dX1_isIn_11 : decode cX1_isIn 11 = .ok (.goto 4, 3) := by decide +kernel
theorem dX1_isIn_14 : decode cX1_isIn 14 = .ok (.iconst 0, 1) := by decide +kernel
theorem dX1_isIn_15 : decode cX1_isIn 15 = .ok (.ireturn, 1) := by decide +kernel
set_option maxRecDepth 20000 in
theorem ggX1_isSkin_X1_isIn : GoodIn wsX1_isSkin wsX1_isIn := goodIn_r _ [5] (by decide +kernel) (by decide +kernel)
set_option maxRecDepth 20000 in
theorem gX1_isSkin_X1_isIn : GoodIn wsX1_isSkin (va_wsS RX1 41 yX1_isIn wsX1_isIn) := goodIn_app (goodIn_of _ (by decide +kernel)) ggX1_isSkin_X1_isIn
theorem dX1_isSkin_0 : decode cX1_isSkin 0 = .ok (.iload_n 1, 1) := by decide +kernel
theorem dX1_isSkin_1 : decode cX1_isSkin 1 = .ok (.iconst 0, 1) := by decide +kernel
theorem dX1_isSkin_2 : decode cX1_isSkin 2 = .ok (.aload_n 0, 1) := by decide +kernel
theorem dX1_isSkin_3 : decode cX1_isSkin 3 = .ok (.getfield 38, 3) := by decide +kernel
theorem dX1_isSkin_6 : decode cX1_isSkin 6 = .ok (.iconst 1, 1) := by decide +kernel
theorem dX1_isSkin_7 : decode cX1_isSkin 7 = .ok (.isub, 1) := by decide +kernel
theorem dX1_isSkin_8 : decode cX1_isSkin 8 = .ok (.invokestatic 41, 3) := by decide +kernel
theorem dX1_isSkin_11 : decode cX1_isSkin 11 = .ok (.ireturn, 1) := by decide +kernel
set_option maxRecDepth 20000 in
theorem ggX1_isKind_X1_isIn : GoodIn wsX1_isKind wsX1_isIn := goodIn_r _ [4] (by decide +kernel) (by decide +kernel)
set_option maxRecDepth 20000 in
theorem gX1_isKind_X1_isIn : GoodIn wsX1_isKind (va_wsS RX1 41 yX1_isIn wsX1_isIn) := goodIn_app (goodIn_of _ (by decide +kernel)) ggX1_isKind_X1_isIn
theorem dX1_isKind_0 : decode cX1_isKind 0 = .ok (.iload_n 0, 1) := by decide +kernel
theorem dX1_isKind_1 : decode cX1_isKind 1 = .ok (.iconst 0, 1) := by decide +kernel
theorem dX1_isKind_2 : decode cX1_isKind 2 = .ok (.iconst 3, 1) := by decide +kernel
theorem dX1_isKind_3 : decode cX1_isKind 3 = .ok (.invokestatic 41, 3) := by decide +kernel
theorem dX1_isKind_6 : decode cX1_isKind 6 = .ok (.ireturn, 1) := by decide +kernel
set_option maxRecDepth 20000 in
theorem ggX1_isColour_X1_isIn : GoodIn wsX1_isColour wsX1_isIn := goodIn_r _ [4] (by decide +kernel) (by decide +kernel)
set_option maxRecDepth 20000 in
theorem gX1_isColour_X1_isIn : GoodIn wsX1_isColour (va_wsS RX1 41 yX1_isIn wsX1_isIn) := goodIn_app (goodIn_of _ (by decide +kernel)) ggX1_isColour_X1_isIn
theorem dX1_isColour_0 : decode cX1_isColour 0 = .ok (.iload_n 0, 1) := by decide +kernel
theorem dX1_isColour_1 : decode cX1_isColour 1 = .ok (.iconst 0, 1) := by decide +kernel
theorem dX1_isColour_2 : decode cX1_isColour 2 = .ok (.iconst 5, 1) := by decide +kernel
theorem dX1_isColour_3 : decode cX1_isColour 3 = .ok (.invokestatic 41, 3) := by decide +kernel
theorem dX1_isColour_6 : decode cX1_isColour 6 = .ok (.ireturn, 1) := by decide +kernel
set_option maxRecDepth 20000 in
theorem ggX1_isCell_X1_isSkin : GoodIn wsX1_isCell wsX1_isSkin := goodIn_r _ [5, 6, 7, 8, 4, 9, 10, 11, 12, 13, 14, 15, 16, 17, 18, 19, 20, 21] (by decide +kernel) (by decide +kernel)
set_option maxRecDepth 20000 in
theorem gX1_isCell_X1_isSkin : GoodIn wsX1_isCell (wsV RX1 45 RX1 yX1_isSkin wsX1_isSkin) := goodIn_app (goodIn_of _ (by decide +kernel)) ggX1_isCell_X1_isSkin
set_option maxRecDepth 20000 in
theorem ggX1_isCell_X1_isIn : GoodIn wsX1_isCell wsX1_isIn := goodIn_r _ [9] (by decide +kernel) (by decide +kernel)
set_option maxRecDepth 20000 in
theorem gX1_isCell_X1_isIn : GoodIn wsX1_isCell (va_wsS RX1 41 yX1_isIn wsX1_isIn) := goodIn_app (goodIn_of _ (by decide +kernel)) ggX1_isCell_X1_isIn
theorem dX1_isCell_0 : decode cX1_isCell 0 = .ok (.aload_n 0, 1) := by decide +kernel
theorem dX1_isCell_1 : decode cX1_isCell 1 = .ok (.iload_n 1, 1) := by decide +kernel
theorem dX1_isCell_2 : decode cX1_isCell 2 = .ok (.invokevirtual 45, 3) := by decide +kernel
theorem dX1_isCell_5 : decode cX1_isCell 5 = .ok (.ifCond .eq 27, 3) := by decide +kernel
theorem dX1_isCell_8 : decode cX1_isCell 8 = .ok (.iload_n 2, 1) := by decide +kernel
theorem dX1_isCell_9 : decode cX1_isCell 9 = .ok (.iconst 0, 1) := by decide +kernel
theorem dX1_isCell_10 : decode cX1_isCell 10 = .ok (.bipush 11, 2) := by decide +kernel
theorem dX1_isCell_12 : decode cX1_isCell 12 = .ok (.invokestatic 41, 3) := by decide +kernel
theorem dX1_isCell_15 : decode cX1_isCell 15 = .ok (.ifCond .eq 17, 3) := by decide +kernel
theorem dX1_isCell_18 : decode cX1_isCell 18 = .ok (.iload_n 3, 1) := by decide +kernel
theorem dX1_isCell_19 : decode cX1_isCell 19 = .ok (.iconst 0, 1) := by decide +kernel
theorem dX1_isCell_20 : decode cX1_isCell 20 = .ok (.bipush 7, 2) := by decide +kernel
theorem dX1_isCell_22 : decode cX1_isCell 22 = .ok (.invokestatic 41, 3) := by decide +kernel
theorem dX1_isCell_25 : decode cX1_isCell 25 = .ok (.ifCond .eq 7, 3) := by decide +kernel
theorem dX1_isCell_28 : decode cX1_isCell 28 = .ok (.iconst 1, 1) := by decide +kernel
theorem dX1_isCell_29 : decode cX1_isCell 29 = .ok (.goto 4, 3) := by decide +kernel
theorem dX1_isCell_32 : decode cX1_isCell 32 = .ok (.iconst 0, 1) := by decide +kernel
theorem dX1_isCell_33 : decode cX1_isCell 33 = .ok (.ireturn, 1) := by decide +kernel
set_option maxRecDepth 20000 in
theorem ggX1_lay_X1_isColour : GoodIn wsX1_lay wsX1_isColour := goodIn_r _ [7, 8, 9, 6, 10] (by decide +kernel) (by decide +kernel)
set_option maxRecDepth 20000 in
theorem gX1_lay_X1_isColour : GoodIn wsX1_lay (va_wsS RX1 49 yX1_isColour wsX1_isColour) := goodIn_app (goodIn_of _ (by decide +kernel)) ggX1_lay_X1_isColour
set_option maxRecDepth 20000 in
theorem ggX1_lay_X1_no : GoodIn wsX1_lay wsX1_no := goodIn_r _ [14, 1, 15, 16, 17, 18, 19, 20, 21, 22, 23, 24, 25, 26] (by decide +kernel) (by decide +kernel)
set_option maxRecDepth 20000 in
theorem gX1_lay_X1_no : GoodIn wsX1_lay (wsV RX1 52 RX1 yX1_no wsX1_no) := goodIn_app (goodIn_of _ (by decide +kernel)) ggX1_lay_X1_no
theorem dX1_lay_0 : decode cX1_lay 0 = .ok (.aload_n 0, 1) := by decide +kernel
theorem dX1_lay_1 : decode cX1_lay 1 = .ok (.iconst 0, 1) := by decide +kernel
theorem dX1_lay_2 : decode cX1_lay 2 = .ok (.putfield 34, 3) := by decide +kernel
theorem dX1_lay_5 : decode cX1_lay 5 = .ok (.iload_n 1, 1) := by decide +kernel
theorem dX1_lay_6 : decode cX1_lay 6 = .ok (.invokestatic 49, 3) := by decide +kernel
theorem dX1_lay_9 : decode cX1_lay 9 = .ok (.ifCond .ne 9, 3) := by decide +kernel
theorem dX1_lay_12 : decode cX1_lay 12 = .ok (.aload_n 0, 1) := by decide +kernel
theorem dX1_lay_13 : decode cX1_lay 13 = .ok (.iconst 1, 1) := by decide +kernel
theorem dX1_lay_14 : decode cX1_lay 14 = .ok (.invokevirtual 52, 3) := by decide +kernel
theorem dX1_lay_17 : decode cX1_lay 17 = .ok (.ireturn, 1) := by decide +kernel
theorem dX1_lay_18 : decode cX1_lay 18 = .ok (.aload_n 0, 1) := by decide +kernel
theorem dX1_lay_19 : decode cX1_lay 19 = .ok (.getfield 38, 3) := by decide +kernel
theorem dX1_lay_22 : decode cX1_lay 22 = .ok (.bipush 10, 2) := by decide +kernel
theorem dX1_lay_24 : decode cX1_lay 24 = .ok (.if_icmp .ne 9, 3) := by decide +kernel
theorem dX1_lay_27 : decode cX1_lay 27 = .ok (.aload_n 0, 1) := by decide +kernel
theorem dX1_lay_28 : decode cX1_lay 28 = .ok (.iconst 2, 1) := by decide +kernel
theorem dX1_lay_29 : decode cX1_lay 29 = .ok (.invokevirtual 52, 3) := by decide +kernel
theorem dX1_lay_32 : decode cX1_lay 32 = .ok (.ireturn, 1) := by decide +kernel
theorem dX1_lay_33 : decode cX1_lay 33 = .ok (.aload_n 0, 1) := by decide +kernel
theorem dX1_lay_34 : decode cX1_lay 34 = .ok (.getfield 9, 3) := by decide +kernel
theorem dX1_lay_37 : decode cX1_lay 37 = .ok (.aload_n 0, 1) := by decide +kernel
theorem dX1_lay_38 : decode cX1_lay 38 = .ok (.getfield 38, 3) := by decide +kernel
theorem dX1_lay_41 : decode cX1_lay 41 = .ok (.iload_n 1, 1) := by decide +kernel
theorem dX1_lay_42 : decode cX1_lay 42 = .ok (.iastore, 1) := by decide +kernel
theorem dX1_lay_43 : decode cX1_lay 43 = .ok (.aload_n 0, 1) := by decide +kernel
theorem dX1_lay_44 : decode cX1_lay 44 = .ok (.dup, 1) := by decide +kernel
theorem dX1_lay_45 : decode cX1_lay 45 = .ok (.getfield 38, 3) := by decide +kernel
theorem dX1_lay_48 : decode cX1_lay 48 = .ok (.iconst 1, 1) := by decide +kernel
theorem dX1_lay_49 : decode cX1_lay 49 = .ok (.iadd, 1) := by decide +kernel
theorem dX1_lay_50 : decode cX1_lay 50 = .ok (.putfield 38, 3) := by decide +kernel
theorem dX1_lay_53 : decode cX1_lay 53 = .ok (.aload_n 0, 1) := by decide +kernel
theorem dX1_lay_54 : decode cX1_lay 54 = .ok (.getfield 38, 3) := by decide +kernel
theorem dX1_lay_57 : decode cX1_lay 57 = .ok (.iconst 1, 1) := by decide +kernel
theorem dX1_lay_58 : decode cX1_lay 58 = .ok (.isub, 1) := by decide +kernel
theorem dX1_lay_59 : decode cX1_lay 59 = .ok (.ireturn, 1) := by decide +kernel
theorem dX1_many_0 : decode cX1_many 0 = .ok (.iconst 0, 1) := by decide +kernel
theorem dX1_many_1 : decode cX1_many 1 = .ok (.istore 5, 2) := by decide +kernel
theorem dX1_many_3 : decode cX1_many 3 = .ok (.iconst 0, 1) := by decide +kernel
theorem dX1_many_4 : decode cX1_many 4 = .ok (.istore 6, 2) := by decide +kernel
theorem dX1_many_6 : decode cX1_many 6 = .ok (.iload 6, 2) := by decide +kernel
theorem dX1_many_8 : decode cX1_many 8 = .ok (.iload_n 2, 1) := by decide +kernel
theorem dX1_many_9 : decode cX1_many 9 = .ok (.iload_n 3, 1) := by decide +kernel
theorem dX1_many_10 : decode cX1_many 10 = .ok (.imul, 1) := by decide +kernel
theorem dX1_many_11 : decode cX1_many 11 = .ok (.if_icmp .ge 40, 3) := by decide +kernel
theorem dX1_many_14 : decode cX1_many 14 = .ok (.iload 5, 2) := by decide +kernel
theorem dX1_many_16 : decode cX1_many 16 = .ok (.aload_n 0, 1) := by decide +kernel
theorem dX1_many_17 : decode cX1_many 17 = .ok (.iload_n 1, 1) := by decide +kernel
theorem dX1_many_18 : decode cX1_many 18 = .ok (.iload 6, 2) := by decide +kernel
theorem dX1_many_20 : decode cX1_many 20 = .ok (.iload_n 2, 1) := by decide +kernel
theorem dX1_many_21 : decode cX1_many 21 = .ok (.idiv, 1) := by decide +kernel
theorem dX1_many_22 : decode cX1_many 22 = .ok (.bipush 12, 2) := by decide +kernel
theorem dX1_many_24 : decode cX1_many 24 = .ok (.imul, 1) := by decide +kernel
theorem dX1_many_25 : decode cX1_many 25 = .ok (.iadd, 1) := by decide +kernel
theorem dX1_many_26 : decode cX1_many 26 = .ok (.iload 6, 2) := by decide +kernel
theorem dX1_many_28 : decode cX1_many 28 = .ok (.iload_n 2, 1) := by decide +kernel
theorem dX1_many_29 : decode cX1_many 29 = .ok (.irem, 1) := by decide +kernel
theorem dX1_many_30 : decode cX1_many 30 = .ok (.iadd, 1) := by decide +kernel
theorem dX1_many_31 : decode cX1_many 31 = .ok (.iaload, 1) := by decide +kernel
theorem dX1_many_32 : decode cX1_many 32 = .ok (.iload 4, 2) := by decide +kernel
theorem dX1_many_34 : decode cX1_many 34 = .ok (.if_icmp .ne 7, 3) := by decide +kernel
theorem dX1_many_37 : decode cX1_many 37 = .ok (.iconst 1, 1) := by decide +kernel
theorem dX1_many_38 : decode cX1_many 38 = .ok (.goto 4, 3) := by decide +kernel
theorem dX1_many_41 : decode cX1_many 41 = .ok (.iconst 0, 1) := by decide +kernel
theorem dX1_many_42 : decode cX1_many 42 = .ok (.iadd, 1) := by decide +kernel
theorem dX1_many_43 : decode cX1_many 43 = .ok (.istore 5, 2) := by decide +kernel
theorem dX1_many_45 : decode cX1_many 45 = .ok (.iinc 6 1, 3) := by decide +kernel
theorem dX1_many_48 : decode cX1_many 48 = .ok (.goto (-42), 3) := by decide +kernel
theorem dX1_many_51 : decode cX1_many 51 = .ok (.iload 5, 2) := by decide +kernel
theorem dX1_many_53 : decode cX1_many 53 = .ok (.ireturn, 1) := by decide +kernel
theorem dX1_fill_0 : decode cX1_fill 0 = .ok (.iconst 0, 1) := by decide +kernel
theorem dX1_fill_1 : decode cX1_fill 1 = .ok (.istore 5, 2) := by decide +kernel
theorem dX1_fill_3 : decode cX1_fill 3 = .ok (.iload 5, 2) := by decide +kernel
theorem dX1_fill_5 : decode cX1_fill 5 = .ok (.iload_n 2, 1) := by decide +kernel
theorem dX1_fill_6 : decode cX1_fill 6 = .ok (.iload_n 3, 1) := by decide +kernel
theorem dX1_fill_7 : decode cX1_fill 7 = .ok (.imul, 1) := by decide +kernel
theorem dX1_fill_8 : decode cX1_fill 8 = .ok (.if_icmp .ge 27, 3) := by decide +kernel
theorem dX1_fill_11 : decode cX1_fill 11 = .ok (.aload_n 0, 1) := by decide +kernel
theorem dX1_fill_12 : decode cX1_fill 12 = .ok (.iload_n 1, 1) := by decide +kernel
theorem dX1_fill_13 : decode cX1_fill 13 = .ok (.iload 5, 2) := by decide +kernel
theorem dX1_fill_15 : decode cX1_fill 15 = .ok (.iload_n 2, 1) := by decide +kernel
theorem dX1_fill_16 : decode cX1_fill 16 = .ok (.idiv, 1) := by decide +kernel
theorem dX1_fill_17 : decode cX1_fill 17 = .ok (.bipush 12, 2) := by decide +kernel
theorem dX1_fill_19 : decode cX1_fill 19 = .ok (.imul, 1) := by decide +kernel
theorem dX1_fill_20 : decode cX1_fill 20 = .ok (.iadd, 1) := by decide +kernel
theorem dX1_fill_21 : decode cX1_fill 21 = .ok (.iload 5, 2) := by decide +kernel
theorem dX1_fill_23 : decode cX1_fill 23 = .ok (.iload_n 2, 1) := by decide +kernel
theorem dX1_fill_24 : decode cX1_fill 24 = .ok (.irem, 1) := by decide +kernel
theorem dX1_fill_25 : decode cX1_fill 25 = .ok (.iadd, 1) := by decide +kernel
theorem dX1_fill_26 : decode cX1_fill 26 = .ok (.iload 4, 2) := by decide +kernel
theorem dX1_fill_28 : decode cX1_fill 28 = .ok (.iastore, 1) := by decide +kernel
theorem dX1_fill_29 : decode cX1_fill 29 = .ok (.iinc 5 1, 3) := by decide +kernel
theorem dX1_fill_32 : decode cX1_fill 32 = .ok (.goto (-29), 3) := by decide +kernel
theorem dX1_fill_35 : decode cX1_fill 35 = .ok (.return_, 1) := by decide +kernel
set_option maxRecDepth 20000 in
theorem ggX1_mark_X1_isCell : GoodIn wsX1_mark wsX1_isCell := goodIn_r _ [7, 8, 9, 10, 6, 11, 12, 13, 14, 15, 26, 27, 28, 29, 30, 31, 32, 33, 34, 35, 36, 37] (by decide +kernel) (by decide +kernel)
set_option maxRecDepth 20000 in
theorem gX1_mark_X1_isCell : GoodIn wsX1_mark (wsV RX1 56 RX1 yX1_isCell wsX1_isCell) := goodIn_app (goodIn_of _ (by decide +kernel)) ggX1_mark_X1_isCell
set_option maxRecDepth 20000 in
theorem ggX1_mark_X1_no : GoodIn wsX1_mark wsX1_no := goodIn_r _ [19, 1, 26, 27, 28, 29, 30, 31, 32, 33, 34, 35, 36, 37] (by decide +kernel) (by decide +kernel)
set_option maxRecDepth 20000 in
theorem gX1_mark_X1_no : GoodIn wsX1_mark (wsV RX1 52 RX1 yX1_no wsX1_no) := goodIn_app (goodIn_of _ (by decide +kernel)) ggX1_mark_X1_no
set_option maxRecDepth 20000 in
theorem ggX1_mark_X1_isIn : GoodIn wsX1_mark wsX1_isIn := goodIn_r _ [15] (by decide +kernel) (by decide +kernel)
set_option maxRecDepth 20000 in
theorem gX1_mark_X1_isIn : GoodIn wsX1_mark (va_wsS RX1 41 yX1_isIn wsX1_isIn) := goodIn_app (goodIn_of _ (by decide +kernel)) ggX1_mark_X1_isIn
set_option maxRecDepth 20000 in
theorem ggX1_mark_X1_many : GoodIn wsX1_mark wsX1_many := goodIn_r _ [22] (by decide +kernel) (by decide +kernel)
set_option maxRecDepth 20000 in
theorem gX1_mark_X1_many : GoodIn wsX1_mark (va_wsS RX1 59 yX1_many wsX1_many) := goodIn_app (goodIn_of _ (by decide +kernel)) ggX1_mark_X1_many
set_option maxRecDepth 20000 in
theorem ggX1_mark_X1_fill : GoodIn wsX1_mark wsX1_fill := goodIn_r _ [25] (by decide +kernel) (by decide +kernel)
set_option maxRecDepth 20000 in
theorem gX1_mark_X1_fill : GoodIn wsX1_mark (va_wsS RX1 63 yX1_fill wsX1_fill) := goodIn_app (goodIn_of _ (by decide +kernel)) ggX1_mark_X1_fill
theorem dX1_mark_0 : decode cX1_mark 0 = .ok (.aload_n 0, 1) := by decide +kernel
theorem dX1_mark_1 : decode cX1_mark 1 = .ok (.iconst 0, 1) := by decide +kernel
theorem dX1_mark_2 : decode cX1_mark 2 = .ok (.putfield 34, 3) := by decide +kernel
theorem dX1_mark_5 : decode cX1_mark 5 = .ok (.aload_n 0, 1) := by decide +kernel
theorem dX1_mark_6 : decode cX1_mark 6 = .ok (.iload_n 1, 1) := by decide +kernel
theorem dX1_mark_7 : decode cX1_mark 7 = .ok (.iload_n 2, 1) := by decide +kernel
theorem dX1_mark_8 : decode cX1_mark 8 = .ok (.iload_n 3, 1) := by decide +kernel
theorem dX1_mark_9 : decode cX1_mark 9 = .ok (.invokevirtual 56, 3) := by decide +kernel
theorem dX1_mark_12 : decode cX1_mark 12 = .ok (.ifCond .ne 9, 3) := by decide +kernel
theorem dX1_mark_15 : decode cX1_mark 15 = .ok (.aload_n 0, 1) := by decide +kernel
theorem dX1_mark_16 : decode cX1_mark 16 = .ok (.iconst 1, 1) := by decide +kernel
theorem dX1_mark_17 : decode cX1_mark 17 = .ok (.invokevirtual 52, 3) := by decide +kernel
theorem dX1_mark_20 : decode cX1_mark 20 = .ok (.ireturn, 1) := by decide +kernel
theorem dX1_mark_21 : decode cX1_mark 21 = .ok (.iload 4, 2) := by decide +kernel
theorem dX1_mark_23 : decode cX1_mark 23 = .ok (.iconst 1, 1) := by decide +kernel
theorem dX1_mark_24 : decode cX1_mark 24 = .ok (.bipush 12, 2) := by decide +kernel
theorem dX1_mark_26 : decode cX1_mark 26 = .ok (.iload_n 2, 1) := by decide +kernel
theorem dX1_mark_27 : decode cX1_mark 27 = .ok (.isub, 1) := by decide +kernel
theorem dX1_mark_28 : decode cX1_mark 28 = .ok (.invokestatic 41, 3) := by decide +kernel
theorem dX1_mark_31 : decode cX1_mark 31 = .ok (.ifCond .eq 26, 3) := by decide +kernel
theorem dX1_mark_34 : decode cX1_mark 34 = .ok (.iload 5, 2) := by decide +kernel
theorem dX1_mark_36 : decode cX1_mark 36 = .ok (.iconst 1, 1) := by decide +kernel
theorem dX1_mark_37 : decode cX1_mark 37 = .ok (.bipush 8, 2) := by decide +kernel
theorem dX1_mark_39 : decode cX1_mark 39 = .ok (.iload_n 3, 1) := by decide +kernel
theorem dX1_mark_40 : decode cX1_mark 40 = .ok (.isub, 1) := by decide +kernel
theorem dX1_mark_41 : decode cX1_mark 41 = .ok (.invokestatic 41, 3) := by decide +kernel
theorem dX1_mark_44 : decode cX1_mark 44 = .ok (.ifCond .eq 13, 3) := by decide +kernel
theorem dX1_mark_47 : decode cX1_mark 47 = .ok (.iload 6, 2) := by decide +kernel
theorem dX1_mark_49 : decode cX1_mark 49 = .ok (.iconst 0, 1) := by decide +kernel
theorem dX1_mark_50 : decode cX1_mark 50 = .ok (.iconst 2, 1) := by decide +kernel
theorem dX1_mark_51 : decode cX1_mark 51 = .ok (.invokestatic 41, 3) := by decide +kernel
theorem dX1_mark_54 : decode cX1_mark 54 = .ok (.ifCond .ne 9, 3) := by decide +kernel
theorem dX1_mark_57 : decode cX1_mark 57 = .ok (.aload_n 0, 1) := by decide +kernel
theorem dX1_mark_58 : decode cX1_mark 58 = .ok (.iconst 2, 1) := by decide +kernel
theorem dX1_mark_59 : decode cX1_mark 59 = .ok (.invokevirtual 52, 3) := by decide +kernel
theorem dX1_mark_62 : decode cX1_mark 62 = .ok (.ireturn, 1) := by decide +kernel
theorem dX1_mark_63 : decode cX1_mark 63 = .ok (.bipush 96, 2) := by decide +kernel
theorem dX1_mark_65 : decode cX1_mark 65 = .ok (.iload_n 1, 1) := by decide +kernel
theorem dX1_mark_66 : decode cX1_mark 66 = .ok (.imul, 1) := by decide +kernel
theorem dX1_mark_67 : decode cX1_mark 67 = .ok (.bipush 12, 2) := by decide +kernel
theorem dX1_mark_69 : decode cX1_mark 69 = .ok (.iload_n 3, 1) := by decide +kernel
theorem dX1_mark_70 : decode cX1_mark 70 = .ok (.imul, 1) := by decide +kernel
theorem dX1_mark_71 : decode cX1_mark 71 = .ok (.iadd, 1) := by decide +kernel
theorem dX1_mark_72 : decode cX1_mark 72 = .ok (.iload_n 2, 1) := by decide +kernel
theorem dX1_mark_73 : decode cX1_mark 73 = .ok (.iadd, 1) := by decide +kernel
theorem dX1_mark_74 : decode cX1_mark 74 = .ok (.istore 7, 2) := by decide +kernel
theorem dX1_mark_76 : decode cX1_mark 76 = .ok (.aload_n 0, 1) := by decide +kernel
theorem dX1_mark_77 : decode cX1_mark 77 = .ok (.getfield 13, 3) := by decide +kernel
theorem dX1_mark_80 : decode cX1_mark 80 = .ok (.iload 7, 2) := by decide +kernel
theorem dX1_mark_82 : decode cX1_mark 82 = .ok (.iload 4, 2) := by decide +kernel
theorem dX1_mark_84 : decode cX1_mark 84 = .ok (.iload 5, 2) := by decide +kernel
theorem dX1_mark_86 : decode cX1_mark 86 = .ok (.iconst 3, 1) := by decide +kernel
theorem dX1_mark_87 : decode cX1_mark 87 = .ok (.invokestatic 59, 3) := by decide +kernel
theorem dX1_mark_90 : decode cX1_mark 90 = .ok (.ifCond .le 9, 3) := by decide +kernel
theorem dX1_mark_93 : decode cX1_mark 93 = .ok (.aload_n 0, 1) := by decide +kernel
theorem dX1_mark_94 : decode cX1_mark 94 = .ok (.iconst 3, 1) := by decide +kernel
theorem dX1_mark_95 : decode cX1_mark 95 = .ok (.invokevirtual 52, 3) := by decide +kernel
theorem dX1_mark_98 : decode cX1_mark 98 = .ok (.ireturn, 1) := by decide +kernel
theorem dX1_mark_99 : decode cX1_mark 99 = .ok (.aload_n 0, 1) := by decide +kernel
theorem dX1_mark_100 : decode cX1_mark 100 = .ok (.getfield 13, 3) := by decide +kernel
theorem dX1_mark_103 : decode cX1_mark 103 = .ok (.iload 7, 2) := by decide +kernel
theorem dX1_mark_105 : decode cX1_mark 105 = .ok (.iload 4, 2) := by decide +kernel
theorem dX1_mark_107 : decode cX1_mark 107 = .ok (.iload 5, 2) := by decide +kernel
theorem dX1_mark_109 : decode cX1_mark 109 = .ok (.iload 6, 2) := by decide +kernel
theorem dX1_mark_111 : decode cX1_mark 111 = .ok (.invokestatic 59, 3) := by decide +kernel
theorem dX1_mark_114 : decode cX1_mark 114 = .ok (.istore 8, 2) := by decide +kernel
theorem dX1_mark_116 : decode cX1_mark 116 = .ok (.aload_n 0, 1) := by decide +kernel
theorem dX1_mark_117 : decode cX1_mark 117 = .ok (.getfield 13, 3) := by decide +kernel
theorem dX1_mark_120 : decode cX1_mark 120 = .ok (.iload 7, 2) := by decide +kernel
theorem dX1_mark_122 : decode cX1_mark 122 = .ok (.iload 4, 2) := by decide +kernel
theorem dX1_mark_124 : decode cX1_mark 124 = .ok (.iload 5, 2) := by decide +kernel
theorem dX1_mark_126 : decode cX1_mark 126 = .ok (.iload 6, 2) := by decide +kernel
theorem dX1_mark_128 : decode cX1_mark 128 = .ok (.invokestatic 63, 3) := by decide +kernel
theorem dX1_mark_131 : decode cX1_mark 131 = .ok (.iload 4, 2) := by decide +kernel
theorem dX1_mark_133 : decode cX1_mark 133 = .ok (.iload 5, 2) := by decide +kernel
theorem dX1_mark_135 : decode cX1_mark 135 = .ok (.imul, 1) := by decide +kernel
theorem dX1_mark_136 : decode cX1_mark 136 = .ok (.iload 8, 2) := by decide +kernel
theorem dX1_mark_138 : decode cX1_mark 138 = .ok (.isub, 1) := by decide +kernel
theorem dX1_mark_139 : decode cX1_mark 139 = .ok (.ireturn, 1) := by decide +kernel
set_option maxRecDepth 20000 in
theorem ggX1_cell_X1_isCell : GoodIn wsX1_cell wsX1_isCell := goodIn_r _ [7, 8, 9, 10, 6, 11, 12, 13, 14, 15, 20, 21, 22, 23, 24, 25, 26, 27, 28, 29, 30, 31] (by decide +kernel) (by decide +kernel)
set_option maxRecDepth 20000 in
theorem gX1_cell_X1_isCell : GoodIn wsX1_cell (wsV RX1 56 RX1 yX1_isCell wsX1_isCell) := goodIn_app (goodIn_of _ (by decide +kernel)) ggX1_cell_X1_isCell
set_option maxRecDepth 20000 in
theorem ggX1_cell_X1_no : GoodIn wsX1_cell wsX1_no := goodIn_r _ [19, 1, 20, 21, 22, 23, 24, 25, 26, 27, 28, 29, 30, 31] (by decide +kernel) (by decide +kernel)
set_option maxRecDepth 20000 in
theorem gX1_cell_X1_no : GoodIn wsX1_cell (wsV RX1 52 RX1 yX1_no wsX1_no) := goodIn_app (goodIn_of _ (by decide +kernel)) ggX1_cell_X1_no
theorem dX1_cell_0 : decode cX1_cell 0 = .ok (.aload_n 0, 1) := by decide +kernel
theorem dX1_cell_1 : decode cX1_cell 1 = .ok (.iconst 0, 1) := by decide +kernel
theorem dX1_cell_2 : decode cX1_cell 2 = .ok (.putfield 34, 3) := by decide +kernel
theorem dX1_cell_5 : decode cX1_cell 5 = .ok (.aload_n 0, 1) := by decide +kernel
theorem dX1_cell_6 : decode cX1_cell 6 = .ok (.iload_n 1, 1) := by decide +kernel
theorem dX1_cell_7 : decode cX1_cell 7 = .ok (.iload_n 2, 1) := by decide +kernel
theorem dX1_cell_8 : decode cX1_cell 8 = .ok (.iload_n 3, 1) := by decide +kernel
theorem dX1_cell_9 : decode cX1_cell 9 = .ok (.invokevirtual 56, 3) := by decide +kernel
theorem dX1_cell_12 : decode cX1_cell 12 = .ok (.ifCond .eq 22, 3) := by decide +kernel
theorem dX1_cell_15 : decode cX1_cell 15 = .ok (.aload_n 0, 1) := by decide +kernel
theorem dX1_cell_16 : decode cX1_cell 16 = .ok (.getfield 13, 3) := by decide +kernel
theorem dX1_cell_19 : decode cX1_cell 19 = .ok (.bipush 96, 2) := by decide +kernel
theorem dX1_cell_21 : decode cX1_cell 21 = .ok (.iload_n 1, 1) := by decide +kernel
theorem dX1_cell_22 : decode cX1_cell 22 = .ok (.imul, 1) := by decide +kernel
theorem dX1_cell_23 : decode cX1_cell 23 = .ok (.bipush 12, 2) := by decide +kernel
theorem dX1_cell_25 : decode cX1_cell 25 = .ok (.iload_n 3, 1) := by decide +kernel
theorem dX1_cell_26 : decode cX1_cell 26 = .ok (.imul, 1) := by decide +kernel
theorem dX1_cell_27 : decode cX1_cell 27 = .ok (.iadd, 1) := by decide +kernel
theorem dX1_cell_28 : decode cX1_cell 28 = .ok (.iload_n 2, 1) := by decide +kernel
theorem dX1_cell_29 : decode cX1_cell 29 = .ok (.iadd, 1) := by decide +kernel
theorem dX1_cell_30 : decode cX1_cell 30 = .ok (.iaload, 1) := by decide +kernel
theorem dX1_cell_31 : decode cX1_cell 31 = .ok (.goto 8, 3) := by decide +kernel
theorem dX1_cell_34 : decode cX1_cell 34 = .ok (.aload_n 0, 1) := by decide +kernel
theorem dX1_cell_35 : decode cX1_cell 35 = .ok (.iconst 1, 1) := by decide +kernel
theorem dX1_cell_36 : decode cX1_cell 36 = .ok (.invokevirtual 52, 3) := by decide +kernel
theorem dX1_cell_39 : decode cX1_cell 39 = .ok (.ireturn, 1) := by decide +kernel
theorem dX1_piecesOf_0 : decode cX1_piecesOf 0 = .ok (.iconst 0, 1) := by decide +kernel
theorem dX1_piecesOf_1 : decode cX1_piecesOf 1 = .ok (.istore_n 2, 1) := by decide +kernel
theorem dX1_piecesOf_2 : decode cX1_piecesOf 2 = .ok (.iconst 0, 1) := by decide +kernel
theorem dX1_piecesOf_3 : decode cX1_piecesOf 3 = .ok (.istore_n 3, 1) := by decide +kernel
theorem dX1_piecesOf_4 : decode cX1_piecesOf 4 = .ok (.iload_n 3, 1) := by decide +kernel
theorem dX1_piecesOf_5 : decode cX1_piecesOf 5 = .ok (.aload_n 0, 1) := by decide +kernel
theorem dX1_piecesOf_6 : decode cX1_piecesOf 6 = .ok (.getfield 67, 3) := by decide +kernel
theorem dX1_piecesOf_9 : decode cX1_piecesOf 9 = .ok (.if_icmp .ge 27, 3) := by decide +kernel
theorem dX1_piecesOf_12 : decode cX1_piecesOf 12 = .ok (.iload_n 2, 1) := by decide +kernel
theorem dX1_piecesOf_13 : decode cX1_piecesOf 13 = .ok (.aload_n 0, 1) := by decide +kernel
theorem dX1_piecesOf_14 : decode cX1_piecesOf 14 = .ok (.getfield 16, 3) := by decide +kernel
theorem dX1_piecesOf_17 : decode cX1_piecesOf 17 = .ok (.iload_n 3, 1) := by decide +kernel
theorem dX1_piecesOf_18 : decode cX1_piecesOf 18 = .ok (.iaload, 1) := by decide +kernel
theorem dX1_piecesOf_19 : decode cX1_piecesOf 19 = .ok (.iload_n 1, 1) := by decide +kernel
theorem dX1_piecesOf_20 : decode cX1_piecesOf 20 = .ok (.if_icmp .ne 7, 3) := by decide +kernel
theorem dX1_piecesOf_23 : decode cX1_piecesOf 23 = .ok (.iconst 1, 1) := by decide +kernel
theorem dX1_piecesOf_24 : decode cX1_piecesOf 24 = .ok (.goto 4, 3) := by decide +kernel
theorem dX1_piecesOf_27 : decode cX1_piecesOf 27 = .ok (.iconst 0, 1) := by decide +kernel
theorem dX1_piecesOf_28 : decode cX1_piecesOf 28 = .ok (.iadd, 1) := by decide +kernel
theorem dX1_piecesOf_29 : decode cX1_piecesOf 29 = .ok (.istore_n 2, 1) := by decide +kernel
theorem dX1_piecesOf_30 : decode cX1_piecesOf 30 = .ok (.iinc 3 1, 3) := by decide +kernel
theorem dX1_piecesOf_33 : decode cX1_piecesOf 33 = .ok (.goto (-29), 3) := by decide +kernel
theorem dX1_piecesOf_36 : decode cX1_piecesOf 36 = .ok (.iload_n 2, 1) := by decide +kernel
theorem dX1_piecesOf_37 : decode cX1_piecesOf 37 = .ok (.ireturn, 1) := by decide +kernel
set_option maxRecDepth 20000 in
theorem ggX1_skinTold_X1_piecesOf : GoodIn wsX1_skinTold wsX1_piecesOf := goodIn_r _ [7, 8, 9, 13, 14, 15, 16, 17, 18, 19, 20, 21, 22, 23, 24] (by decide +kernel) (by decide +kernel)
set_option maxRecDepth 20000 in
theorem gX1_skinTold_X1_piecesOf : GoodIn wsX1_skinTold (wsV RX1 70 RX1 yX1_piecesOf wsX1_piecesOf) := goodIn_app (goodIn_of _ (by decide +kernel)) ggX1_skinTold_X1_piecesOf
set_option maxRecDepth 20000 in
theorem ggX1_skinTold_X1_many : GoodIn wsX1_skinTold wsX1_many := goodIn_r _ [12] (by decide +kernel) (by decide +kernel)
set_option maxRecDepth 20000 in
theorem gX1_skinTold_X1_many : GoodIn wsX1_skinTold (va_wsS RX1 59 yX1_many wsX1_many) := goodIn_app (goodIn_of _ (by decide +kernel)) ggX1_skinTold_X1_many
theorem dX1_skinTold_0 : decode cX1_skinTold 0 = .ok (.iload_n 2, 1) := by decide +kernel
theorem dX1_skinTold_1 : decode cX1_skinTold 1 = .ok (.ifCond .ne 12, 3) := by decide +kernel
theorem dX1_skinTold_4 : decode cX1_skinTold 4 = .ok (.aload_n 0, 1) := by decide +kernel
theorem dX1_skinTold_5 : decode cX1_skinTold 5 = .ok (.getfield 9, 3) := by decide +kernel
theorem dX1_skinTold_8 : decode cX1_skinTold 8 = .ok (.iload_n 1, 1) := by decide +kernel
theorem dX1_skinTold_9 : decode cX1_skinTold 9 = .ok (.iaload, 1) := by decide +kernel
theorem dX1_skinTold_10 : decode cX1_skinTold 10 = .ok (.goto 34, 3) := by decide +kernel
theorem dX1_skinTold_13 : decode cX1_skinTold 13 = .ok (.iload_n 2, 1) := by decide +kernel
theorem dX1_skinTold_14 : decode cX1_skinTold 14 = .ok (.iconst 5, 1) := by decide +kernel
theorem dX1_skinTold_15 : decode cX1_skinTold 15 = .ok (.if_icmp .ne 11, 3) := by decide +kernel
theorem dX1_skinTold_18 : decode cX1_skinTold 18 = .ok (.aload_n 0, 1) := by decide +kernel
theorem dX1_skinTold_19 : decode cX1_skinTold 19 = .ok (.iload_n 1, 1) := by decide +kernel
theorem dX1_skinTold_20 : decode cX1_skinTold 20 = .ok (.invokevirtual 70, 3) := by decide +kernel
theorem dX1_skinTold_23 : decode cX1_skinTold 23 = .ok (.goto 21, 3) := by decide +kernel
theorem dX1_skinTold_26 : decode cX1_skinTold 26 = .ok (.aload_n 0, 1) := by decide +kernel
theorem dX1_skinTold_27 : decode cX1_skinTold 27 = .ok (.getfield 13, 3) := by decide +kernel
theorem dX1_skinTold_30 : decode cX1_skinTold 30 = .ok (.bipush 96, 2) := by decide +kernel
theorem dX1_skinTold_32 : decode cX1_skinTold 32 = .ok (.iload_n 1, 1) := by decide +kernel
theorem dX1_skinTold_33 : decode cX1_skinTold 33 = .ok (.imul, 1) := by decide +kernel
theorem dX1_skinTold_34 : decode cX1_skinTold 34 = .ok (.bipush 12, 2) := by decide +kernel
theorem dX1_skinTold_36 : decode cX1_skinTold 36 = .ok (.bipush 8, 2) := by decide +kernel
theorem dX1_skinTold_38 : decode cX1_skinTold 38 = .ok (.iload_n 2, 1) := by decide +kernel
theorem dX1_skinTold_39 : decode cX1_skinTold 39 = .ok (.iconst 1, 1) := by decide +kernel
theorem dX1_skinTold_40 : decode cX1_skinTold 40 = .ok (.isub, 1) := by decide +kernel
theorem dX1_skinTold_41 : decode cX1_skinTold 41 = .ok (.invokestatic 59, 3) := by decide +kernel
theorem dX1_skinTold_44 : decode cX1_skinTold 44 = .ok (.ireturn, 1) := by decide +kernel
set_option maxRecDepth 20000 in
theorem ggX1_skin_X1_isSkin : GoodIn wsX1_skin wsX1_isSkin := goodIn_r _ [6, 7, 8, 9, 5, 10, 30, 31, 32, 33, 34, 35, 36, 37, 38, 39, 40, 41] (by decide +kernel) (by decide +kernel)
set_option maxRecDepth 20000 in
theorem gX1_skin_X1_isSkin : GoodIn wsX1_skin (wsV RX1 45 RX1 yX1_isSkin wsX1_isSkin) := goodIn_app (goodIn_of _ (by decide +kernel)) ggX1_skin_X1_isSkin
set_option maxRecDepth 20000 in
theorem ggX1_skin_X1_isIn : GoodIn wsX1_skin wsX1_isIn := goodIn_r _ [10] (by decide +kernel) (by decide +kernel)
set_option maxRecDepth 20000 in
theorem gX1_skin_X1_isIn : GoodIn wsX1_skin (va_wsS RX1 41 yX1_isIn wsX1_isIn) := goodIn_app (goodIn_of _ (by decide +kernel)) ggX1_skin_X1_isIn
set_option maxRecDepth 20000 in
theorem ggX1_skin_X1_skinTold : GoodIn wsX1_skin wsX1_skinTold := goodIn_r _ [14, 15, 16, 17, 18, 19, 5, 20, 21, 22, 23, 24, 25, 30, 31, 32, 33, 34, 35, 36, 37, 38, 39, 40, 41] (by decide +kernel) (by decide +kernel)
set_option maxRecDepth 20000 in
theorem gX1_skin_X1_skinTold : GoodIn wsX1_skin (wsV RX1 73 RX1 yX1_skinTold wsX1_skinTold) := goodIn_app (goodIn_of _ (by decide +kernel)) ggX1_skin_X1_skinTold
set_option maxRecDepth 20000 in
theorem ggX1_skin_X1_no : GoodIn wsX1_skin wsX1_no := goodIn_r _ [29, 1, 30, 31, 32, 33, 34, 35, 36, 37, 38, 39, 40, 41] (by decide +kernel) (by decide +kernel)
set_option maxRecDepth 20000 in
theorem gX1_skin_X1_no : GoodIn wsX1_skin (wsV RX1 52 RX1 yX1_no wsX1_no) := goodIn_app (goodIn_of _ (by decide +kernel)) ggX1_skin_X1_no
theorem dX1_skin_0 : decode cX1_skin 0 = .ok (.aload_n 0, 1) := by decide +kernel
theorem dX1_skin_1 : decode cX1_skin 1 = .ok (.iconst 0, 1) := by decide +kernel
theorem dX1_skin_2 : decode cX1_skin 2 = .ok (.putfield 34, 3) := by decide +kernel
theorem dX1_skin_5 : decode cX1_skin 5 = .ok (.aload_n 0, 1) := by decide +kernel
theorem dX1_skin_6 : decode cX1_skin 6 = .ok (.iload_n 1, 1) := by decide +kernel
theorem dX1_skin_7 : decode cX1_skin 7 = .ok (.invokevirtual 45, 3) := by decide +kernel
theorem dX1_skin_10 : decode cX1_skin 10 = .ok (.ifCond .eq 21, 3) := by decide +kernel
theorem dX1_skin_13 : decode cX1_skin 13 = .ok (.iload_n 2, 1) := by decide +kernel
theorem dX1_skin_14 : decode cX1_skin 14 = .ok (.iconst 0, 1) := by decide +kernel
theorem dX1_skin_15 : decode cX1_skin 15 = .ok (.iconst 5, 1) := by decide +kernel
theorem dX1_skin_16 : decode cX1_skin 16 = .ok (.invokestatic 41, 3) := by decide +kernel
theorem dX1_skin_19 : decode cX1_skin 19 = .ok (.ifCond .eq 12, 3) := by decide +kernel
theorem dX1_skin_22 : decode cX1_skin 22 = .ok (.aload_n 0, 1) := by decide +kernel
theorem dX1_skin_23 : decode cX1_skin 23 = .ok (.iload_n 1, 1) := by decide +kernel
theorem dX1_skin_24 : decode cX1_skin 24 = .ok (.iload_n 2, 1) := by decide +kernel
theorem dX1_skin_25 : decode cX1_skin 25 = .ok (.invokevirtual 73, 3) := by decide +kernel
theorem dX1_skin_28 : decode cX1_skin 28 = .ok (.goto 8, 3) := by decide +kernel
theorem dX1_skin_31 : decode cX1_skin 31 = .ok (.aload_n 0, 1) := by decide +kernel
theorem dX1_skin_32 : decode cX1_skin 32 = .ok (.iconst 1, 1) := by decide +kernel
theorem dX1_skin_33 : decode cX1_skin 33 = .ok (.invokevirtual 52, 3) := by decide +kernel
theorem dX1_skin_36 : decode cX1_skin 36 = .ok (.ireturn, 1) := by decide +kernel
theorem dX1_wideOf_0 : decode cX1_wideOf 0 = .ok (.iload_n 1, 1) := by decide +kernel
theorem dX1_wideOf_1 : decode cX1_wideOf 1 = .ok (.ifCond .eq 11, 3) := by decide +kernel
theorem dX1_wideOf_4 : decode cX1_wideOf 4 = .ok (.getstatic 77, 3) := by decide +kernel
theorem dX1_wideOf_7 : decode cX1_wideOf 7 = .ok (.iload_n 0, 1) := by decide +kernel
theorem dX1_wideOf_8 : decode cX1_wideOf 8 = .ok (.iaload, 1) := by decide +kernel
theorem dX1_wideOf_9 : decode cX1_wideOf 9 = .ok (.goto 8, 3) := by decide +kernel
theorem dX1_wideOf_12 : decode cX1_wideOf 12 = .ok (.getstatic 80, 3) := by decide +kernel
theorem dX1_wideOf_15 : decode cX1_wideOf 15 = .ok (.iload_n 0, 1) := by decide +kernel
theorem dX1_wideOf_16 : decode cX1_wideOf 16 = .ok (.iaload, 1) := by decide +kernel
theorem dX1_wideOf_17 : decode cX1_wideOf 17 = .ok (.ireturn, 1) := by decide +kernel
theorem dX1_highOf_0 : decode cX1_highOf 0 = .ok (.iload_n 1, 1) := by decide +kernel
theorem dX1_highOf_1 : decode cX1_highOf 1 = .ok (.ifCond .eq 11, 3) := by decide +kernel
theorem dX1_highOf_4 : decode cX1_highOf 4 = .ok (.getstatic 80, 3) := by decide +kernel
theorem dX1_highOf_7 : decode cX1_highOf 7 = .ok (.iload_n 0, 1) := by decide +kernel
theorem dX1_highOf_8 : decode cX1_highOf 8 = .ok (.iaload, 1) := by decide +kernel
theorem dX1_highOf_9 : decode cX1_highOf 9 = .ok (.goto 8, 3) := by decide +kernel
theorem dX1_highOf_12 : decode cX1_highOf 12 = .ok (.getstatic 77, 3) := by decide +kernel
theorem dX1_highOf_15 : decode cX1_highOf 15 = .ok (.iload_n 0, 1) := by decide +kernel
theorem dX1_highOf_16 : decode cX1_highOf 16 = .ok (.iaload, 1) := by decide +kernel
theorem dX1_highOf_17 : decode cX1_highOf 17 = .ok (.ireturn, 1) := by decide +kernel
set_option maxRecDepth 20000 in
theorem ggX1_can_X1_wideOf : GoodIn wsX1_can wsX1_wideOf := goodIn_r _ [4, 5, 6] (by decide +kernel) (by decide +kernel)
set_option maxRecDepth 20000 in
theorem gX1_can_X1_wideOf : GoodIn wsX1_can (va_wsS RX1 83 yX1_wideOf wsX1_wideOf) := goodIn_app (goodIn_of _ (by decide +kernel)) ggX1_can_X1_wideOf
set_option maxRecDepth 20000 in
theorem ggX1_can_X1_highOf : GoodIn wsX1_can wsX1_highOf := goodIn_r _ [9, 6, 5] (by decide +kernel) (by decide +kernel)
set_option maxRecDepth 20000 in
theorem gX1_can_X1_highOf : GoodIn wsX1_can (va_wsS RX1 87 yX1_highOf wsX1_highOf) := goodIn_app (goodIn_of _ (by decide +kernel)) ggX1_can_X1_highOf
set_option maxRecDepth 20000 in
theorem ggX1_can_X1_many : GoodIn wsX1_can wsX1_many := goodIn_r _ [12] (by decide +kernel) (by decide +kernel)
set_option maxRecDepth 20000 in
theorem gX1_can_X1_many : GoodIn wsX1_can (va_wsS RX1 59 yX1_many wsX1_many) := goodIn_app (goodIn_of _ (by decide +kernel)) ggX1_can_X1_many
theorem dX1_can_0 : decode cX1_can 0 = .ok (.iload_n 2, 1) := by decide +kernel
theorem dX1_can_1 : decode cX1_can 1 = .ok (.iload_n 3, 1) := by decide +kernel
theorem dX1_can_2 : decode cX1_can 2 = .ok (.invokestatic 83, 3) := by decide +kernel
theorem dX1_can_5 : decode cX1_can 5 = .ok (.istore 5, 2) := by decide +kernel
theorem dX1_can_7 : decode cX1_can 7 = .ok (.iload_n 2, 1) := by decide +kernel
theorem dX1_can_8 : decode cX1_can 8 = .ok (.iload_n 3, 1) := by decide +kernel
theorem dX1_can_9 : decode cX1_can 9 = .ok (.invokestatic 87, 3) := by decide +kernel
theorem dX1_can_12 : decode cX1_can 12 = .ok (.istore 6, 2) := by decide +kernel
theorem dX1_can_14 : decode cX1_can 14 = .ok (.iload 4, 2) := by decide +kernel
theorem dX1_can_16 : decode cX1_can 16 = .ok (.bipush 12, 2) := by decide +kernel
theorem dX1_can_18 : decode cX1_can 18 = .ok (.irem, 1) := by decide +kernel
theorem dX1_can_19 : decode cX1_can 19 = .ok (.iload 5, 2) := by decide +kernel
theorem dX1_can_21 : decode cX1_can 21 = .ok (.iadd, 1) := by decide +kernel
theorem dX1_can_22 : decode cX1_can 22 = .ok (.bipush 12, 2) := by decide +kernel
theorem dX1_can_24 : decode cX1_can 24 = .ok (.if_icmp .gt 16, 3) := by decide +kernel
theorem dX1_can_27 : decode cX1_can 27 = .ok (.iload 4, 2) := by decide +kernel
theorem dX1_can_29 : decode cX1_can 29 = .ok (.bipush 12, 2) := by decide +kernel
theorem dX1_can_31 : decode cX1_can 31 = .ok (.idiv, 1) := by decide +kernel
theorem dX1_can_32 : decode cX1_can 32 = .ok (.iload 6, 2) := by decide +kernel
theorem dX1_can_34 : decode cX1_can 34 = .ok (.iadd, 1) := by decide +kernel
theorem dX1_can_35 : decode cX1_can 35 = .ok (.bipush 8, 2) := by decide +kernel
theorem dX1_can_37 : decode cX1_can 37 = .ok (.if_icmp .le 5, 3) := by decide +kernel
theorem dX1_can_40 : decode cX1_can 40 = .ok (.iconst 0, 1) := by decide +kernel
theorem dX1_can_41 : decode cX1_can 41 = .ok (.ireturn, 1) := by decide +kernel
theorem dX1_can_42 : decode cX1_can 42 = .ok (.iload_n 1, 1) := by decide +kernel
theorem dX1_can_43 : decode cX1_can 43 = .ok (.iload 4, 2) := by decide +kernel
theorem dX1_can_45 : decode cX1_can 45 = .ok (.iadd, 1) := by decide +kernel
theorem dX1_can_46 : decode cX1_can 46 = .ok (.istore 7, 2) := by decide +kernel
theorem dX1_can_48 : decode cX1_can 48 = .ok (.aload_n 0, 1) := by decide +kernel
theorem dX1_can_49 : decode cX1_can 49 = .ok (.iload 7, 2) := by decide +kernel
theorem dX1_can_51 : decode cX1_can 51 = .ok (.iload 5, 2) := by decide +kernel
theorem dX1_can_53 : decode cX1_can 53 = .ok (.iload 6, 2) := by decide +kernel
theorem dX1_can_55 : decode cX1_can 55 = .ok (.iconst 1, 1) := by decide +kernel
theorem dX1_can_56 : decode cX1_can 56 = .ok (.invokestatic 59, 3) := by decide +kernel
theorem dX1_can_59 : decode cX1_can 59 = .ok (.istore 8, 2) := by decide +kernel
theorem dX1_can_61 : decode cX1_can 61 = .ok (.aload_n 0, 1) := by decide +kernel
theorem dX1_can_62 : decode cX1_can 62 = .ok (.iload 7, 2) := by decide +kernel
theorem dX1_can_64 : decode cX1_can 64 = .ok (.iload 5, 2) := by decide +kernel
theorem dX1_can_66 : decode cX1_can 66 = .ok (.iload 6, 2) := by decide +kernel
theorem dX1_can_68 : decode cX1_can 68 = .ok (.iconst 0, 1) := by decide +kernel
theorem dX1_can_69 : decode cX1_can 69 = .ok (.invokestatic 59, 3) := by decide +kernel
theorem dX1_can_72 : decode cX1_can 72 = .ok (.iload 8, 2) := by decide +kernel
theorem dX1_can_74 : decode cX1_can 74 = .ok (.iadd, 1) := by decide +kernel
theorem dX1_can_75 : decode cX1_can 75 = .ok (.iload 5, 2) := by decide +kernel
theorem dX1_can_77 : decode cX1_can 77 = .ok (.iload 6, 2) := by decide +kernel
theorem dX1_can_79 : decode cX1_can 79 = .ok (.imul, 1) := by decide +kernel
theorem dX1_can_80 : decode cX1_can 80 = .ok (.if_icmp .ge 5, 3) := by decide +kernel
theorem dX1_can_83 : decode cX1_can 83 = .ok (.iconst 0, 1) := by decide +kernel
theorem dX1_can_84 : decode cX1_can 84 = .ok (.ireturn, 1) := by decide +kernel
theorem dX1_can_85 : decode cX1_can 85 = .ok (.iload_n 2, 1) := by decide +kernel
theorem dX1_can_86 : decode cX1_can 86 = .ok (.iconst 3, 1) := by decide +kernel
theorem dX1_can_87 : decode cX1_can 87 = .ok (.if_icmp .eq 17, 3) := by decide +kernel
theorem dX1_can_90 : decode cX1_can 90 = .ok (.iload 8, 2) := by decide +kernel
theorem dX1_can_92 : decode cX1_can 92 = .ok (.iload_n 2, 1) := by decide +kernel
theorem dX1_can_93 : decode cX1_can 93 = .ok (.ifCond .ne 7, 3) := by decide +kernel
theorem dX1_can_96 : decode cX1_can 96 = .ok (.iconst 0, 1) := by decide +kernel
theorem dX1_can_97 : decode cX1_can 97 = .ok (.goto 4, 3) := by decide +kernel
theorem dX1_can_100 : decode cX1_can 100 = .ok (.iconst 1, 1) := by decide +kernel
theorem dX1_can_101 : decode cX1_can 101 = .ok (.if_icmp .gt 7, 3) := by decide +kernel
theorem dX1_can_104 : decode cX1_can 104 = .ok (.iconst 1, 1) := by decide +kernel
theorem dX1_can_105 : decode cX1_can 105 = .ok (.goto 4, 3) := by decide +kernel
theorem dX1_can_108 : decode cX1_can 108 = .ok (.iconst 0, 1) := by decide +kernel
theorem dX1_can_109 : decode cX1_can 109 = .ok (.ireturn, 1) := by decide +kernel
set_option maxRecDepth 20000 in
theorem ggX1_first_X1_can : GoodIn wsX1_first wsX1_can := goodIn_r _ [4, 5, 6, 3, 7, 8, 9, 10, 11, 12, 13, 14, 15] (by decide +kernel) (by decide +kernel)
set_option maxRecDepth 20000 in
theorem gX1_first_X1_can : GoodIn wsX1_first (va_wsS RX1 90 yX1_can wsX1_can) := goodIn_app (goodIn_of _ (by decide +kernel)) ggX1_first_X1_can
theorem dX1_first_0 : decode cX1_first 0 = .ok (.iconst 0, 1) := by decide +kernel
theorem dX1_first_1 : decode cX1_first 1 = .ok (.istore 4, 2) := by decide +kernel
theorem dX1_first_3 : decode cX1_first 3 = .ok (.iload 4, 2) := by decide +kernel
theorem dX1_first_5 : decode cX1_first 5 = .ok (.bipush 96, 2) := by decide +kernel
theorem dX1_first_7 : decode cX1_first 7 = .ok (.if_icmp .ge 24, 3) := by decide +kernel
theorem dX1_first_10 : decode cX1_first 10 = .ok (.aload_n 0, 1) := by decide +kernel
theorem dX1_first_11 : decode cX1_first 11 = .ok (.iload_n 1, 1) := by decide +kernel
theorem dX1_first_12 : decode cX1_first 12 = .ok (.iload_n 2, 1) := by decide +kernel
theorem dX1_first_13 : decode cX1_first 13 = .ok (.iload_n 3, 1) := by decide +kernel
theorem dX1_first_14 : decode cX1_first 14 = .ok (.iload 4, 2) := by decide +kernel
theorem dX1_first_16 : decode cX1_first 16 = .ok (.invokestatic 90, 3) := by decide +kernel
theorem dX1_first_19 : decode cX1_first 19 = .ok (.ifCond .eq 6, 3) := by decide +kernel
theorem dX1_first_22 : decode cX1_first 22 = .ok (.iload 4, 2) := by decide +kernel
theorem dX1_first_24 : decode cX1_first 24 = .ok (.ireturn, 1) := by decide +kernel
theorem dX1_first_25 : decode cX1_first 25 = .ok (.iinc 4 1, 3) := by decide +kernel
theorem dX1_first_28 : decode cX1_first 28 = .ok (.goto (-25), 3) := by decide +kernel
theorem dX1_first_31 : decode cX1_first 31 = .ok (.iconst (-1), 1) := by decide +kernel
theorem dX1_first_32 : decode cX1_first 32 = .ok (.ireturn, 1) := by decide +kernel
set_option maxRecDepth 20000 in
theorem ggX1_cut_X1_isCell : GoodIn wsX1_cut wsX1_isCell := goodIn_r _ [12, 13, 14, 15, 11, 16, 17, 18, 19, 20, 45, 46, 47, 48, 49, 50, 51, 52, 53, 54, 55, 56] (by decide +kernel) (by decide +kernel)
set_option maxRecDepth 20000 in
theorem gX1_cut_X1_isCell : GoodIn wsX1_cut (wsV RX1 56 RX1 yX1_isCell wsX1_isCell) := goodIn_app (goodIn_of _ (by decide +kernel)) ggX1_cut_X1_isCell
set_option maxRecDepth 20000 in
theorem ggX1_cut_X1_no : GoodIn wsX1_cut wsX1_no := goodIn_r _ [24, 1, 45, 46, 47, 48, 49, 50, 51, 52, 53, 54, 55, 56] (by decide +kernel) (by decide +kernel)
set_option maxRecDepth 20000 in
theorem gX1_cut_X1_no : GoodIn wsX1_cut (wsV RX1 52 RX1 yX1_no wsX1_no) := goodIn_app (goodIn_of _ (by decide +kernel)) ggX1_cut_X1_no
set_option maxRecDepth 20000 in
theorem ggX1_cut_X1_isKind : GoodIn wsX1_cut wsX1_isKind := goodIn_r _ [27, 18, 19, 11, 20] (by decide +kernel) (by decide +kernel)
set_option maxRecDepth 20000 in
theorem gX1_cut_X1_isKind : GoodIn wsX1_cut (va_wsS RX1 94 yX1_isKind wsX1_isKind) := goodIn_app (goodIn_of _ (by decide +kernel)) ggX1_cut_X1_isKind
set_option maxRecDepth 20000 in
theorem ggX1_cut_X1_can : GoodIn wsX1_cut wsX1_can := goodIn_r _ [30, 31, 32, 11, 33, 34, 35, 36, 37, 38, 39, 40, 41] (by decide +kernel) (by decide +kernel)
set_option maxRecDepth 20000 in
theorem gX1_cut_X1_can : GoodIn wsX1_cut (va_wsS RX1 90 yX1_can wsX1_can) := goodIn_app (goodIn_of _ (by decide +kernel)) ggX1_cut_X1_can
set_option maxRecDepth 20000 in
theorem ggX1_cut_X1_wideOf : GoodIn wsX1_cut wsX1_wideOf := goodIn_r _ [33, 34, 35] (by decide +kernel) (by decide +kernel)
set_option maxRecDepth 20000 in
theorem gX1_cut_X1_wideOf : GoodIn wsX1_cut (va_wsS RX1 83 yX1_wideOf wsX1_wideOf) := goodIn_app (goodIn_of _ (by decide +kernel)) ggX1_cut_X1_wideOf
set_option maxRecDepth 20000 in
theorem ggX1_cut_X1_highOf : GoodIn wsX1_cut wsX1_highOf := goodIn_r _ [38, 35, 34] (by decide +kernel) (by decide +kernel)
set_option maxRecDepth 20000 in
theorem gX1_cut_X1_highOf : GoodIn wsX1_cut (va_wsS RX1 87 yX1_highOf wsX1_highOf) := goodIn_app (goodIn_of _ (by decide +kernel)) ggX1_cut_X1_highOf
set_option maxRecDepth 20000 in
theorem ggX1_cut_X1_many : GoodIn wsX1_cut wsX1_many := goodIn_r _ [41] (by decide +kernel) (by decide +kernel)
set_option maxRecDepth 20000 in
theorem gX1_cut_X1_many : GoodIn wsX1_cut (va_wsS RX1 59 yX1_many wsX1_many) := goodIn_app (goodIn_of _ (by decide +kernel)) ggX1_cut_X1_many
set_option maxRecDepth 20000 in
theorem ggX1_cut_X1_fill : GoodIn wsX1_cut wsX1_fill := goodIn_r _ [44] (by decide +kernel) (by decide +kernel)
set_option maxRecDepth 20000 in
theorem gX1_cut_X1_fill : GoodIn wsX1_cut (va_wsS RX1 63 yX1_fill wsX1_fill) := goodIn_app (goodIn_of _ (by decide +kernel)) ggX1_cut_X1_fill
theorem dX1_cut_0 : decode cX1_cut 0 = .ok (.aload_n 0, 1) := by decide +kernel
theorem dX1_cut_1 : decode cX1_cut 1 = .ok (.iconst 0, 1) := by decide +kernel
theorem dX1_cut_2 : decode cX1_cut 2 = .ok (.putfield 34, 3) := by decide +kernel
theorem dX1_cut_5 : decode cX1_cut 5 = .ok (.aload_n 0, 1) := by decide +kernel
theorem dX1_cut_6 : decode cX1_cut 6 = .ok (.iload_n 1, 1) := by decide +kernel
theorem dX1_cut_7 : decode cX1_cut 7 = .ok (.iload 4, 2) := by decide +kernel
theorem dX1_cut_9 : decode cX1_cut 9 = .ok (.iload 5, 2) := by decide +kernel
theorem dX1_cut_11 : decode cX1_cut 11 = .ok (.invokevirtual 56, 3) := by decide +kernel
theorem dX1_cut_14 : decode cX1_cut 14 = .ok (.ifCond .ne 9, 3) := by decide +kernel
theorem dX1_cut_17 : decode cX1_cut 17 = .ok (.aload_n 0, 1) := by decide +kernel
theorem dX1_cut_18 : decode cX1_cut 18 = .ok (.iconst 1, 1) := by decide +kernel
theorem dX1_cut_19 : decode cX1_cut 19 = .ok (.invokevirtual 52, 3) := by decide +kernel
theorem dX1_cut_22 : decode cX1_cut 22 = .ok (.ireturn, 1) := by decide +kernel
theorem dX1_cut_23 : decode cX1_cut 23 = .ok (.iload_n 2, 1) := by decide +kernel
theorem dX1_cut_24 : decode cX1_cut 24 = .ok (.invokestatic 94, 3) := by decide +kernel
theorem dX1_cut_27 : decode cX1_cut 27 = .ok (.ifCond .ne 9, 3) := by decide +kernel
theorem dX1_cut_30 : decode cX1_cut 30 = .ok (.aload_n 0, 1) := by decide +kernel
theorem dX1_cut_31 : decode cX1_cut 31 = .ok (.iconst 2, 1) := by decide +kernel
theorem dX1_cut_32 : decode cX1_cut 32 = .ok (.invokevirtual 52, 3) := by decide +kernel
theorem dX1_cut_35 : decode cX1_cut 35 = .ok (.ireturn, 1) := by decide +kernel
theorem dX1_cut_36 : decode cX1_cut 36 = .ok (.bipush 12, 2) := by decide +kernel
theorem dX1_cut_38 : decode cX1_cut 38 = .ok (.iload 5, 2) := by decide +kernel
theorem dX1_cut_40 : decode cX1_cut 40 = .ok (.imul, 1) := by decide +kernel
theorem dX1_cut_41 : decode cX1_cut 41 = .ok (.iload 4, 2) := by decide +kernel
theorem dX1_cut_43 : decode cX1_cut 43 = .ok (.iadd, 1) := by decide +kernel
theorem dX1_cut_44 : decode cX1_cut 44 = .ok (.istore 6, 2) := by decide +kernel
theorem dX1_cut_46 : decode cX1_cut 46 = .ok (.aload_n 0, 1) := by decide +kernel
theorem dX1_cut_47 : decode cX1_cut 47 = .ok (.getfield 67, 3) := by decide +kernel
theorem dX1_cut_50 : decode cX1_cut 50 = .ok (.sipush 150, 3) := by decide +kernel
theorem dX1_cut_53 : decode cX1_cut 53 = .ok (.if_icmp .eq 21, 3) := by decide +kernel
theorem dX1_cut_56 : decode cX1_cut 56 = .ok (.aload_n 0, 1) := by decide +kernel
theorem dX1_cut_57 : decode cX1_cut 57 = .ok (.getfield 13, 3) := by decide +kernel
theorem dX1_cut_60 : decode cX1_cut 60 = .ok (.bipush 96, 2) := by decide +kernel
theorem dX1_cut_62 : decode cX1_cut 62 = .ok (.iload_n 1, 1) := by decide +kernel
theorem dX1_cut_63 : decode cX1_cut 63 = .ok (.imul, 1) := by decide +kernel
theorem dX1_cut_64 : decode cX1_cut 64 = .ok (.iload_n 2, 1) := by decide +kernel
theorem dX1_cut_65 : decode cX1_cut 65 = .ok (.iload_n 3, 1) := by decide +kernel
theorem dX1_cut_66 : decode cX1_cut 66 = .ok (.iload 6, 2) := by decide +kernel
theorem dX1_cut_68 : decode cX1_cut 68 = .ok (.invokestatic 90, 3) := by decide +kernel
theorem dX1_cut_71 : decode cX1_cut 71 = .ok (.ifCond .ne 9, 3) := by decide +kernel
theorem dX1_cut_74 : decode cX1_cut 74 = .ok (.aload_n 0, 1) := by decide +kernel
theorem dX1_cut_75 : decode cX1_cut 75 = .ok (.iconst 3, 1) := by decide +kernel
theorem dX1_cut_76 : decode cX1_cut 76 = .ok (.invokevirtual 52, 3) := by decide +kernel
theorem dX1_cut_79 : decode cX1_cut 79 = .ok (.ireturn, 1) := by decide +kernel
theorem dX1_cut_80 : decode cX1_cut 80 = .ok (.bipush 96, 2) := by decide +kernel
theorem dX1_cut_82 : decode cX1_cut 82 = .ok (.iload_n 1, 1) := by decide +kernel
theorem dX1_cut_83 : decode cX1_cut 83 = .ok (.imul, 1) := by decide +kernel
theorem dX1_cut_84 : decode cX1_cut 84 = .ok (.iload 6, 2) := by decide +kernel
theorem dX1_cut_86 : decode cX1_cut 86 = .ok (.iadd, 1) := by decide +kernel
theorem dX1_cut_87 : decode cX1_cut 87 = .ok (.istore 7, 2) := by decide +kernel
theorem dX1_cut_89 : decode cX1_cut 89 = .ok (.aload_n 0, 1) := by decide +kernel
theorem dX1_cut_90 : decode cX1_cut 90 = .ok (.getfield 16, 3) := by decide +kernel
theorem dX1_cut_93 : decode cX1_cut 93 = .ok (.aload_n 0, 1) := by decide +kernel
theorem dX1_cut_94 : decode cX1_cut 94 = .ok (.getfield 67, 3) := by decide +kernel
theorem dX1_cut_97 : decode cX1_cut 97 = .ok (.iload_n 1, 1) := by decide +kernel
theorem dX1_cut_98 : decode cX1_cut 98 = .ok (.iastore, 1) := by decide +kernel
theorem dX1_cut_99 : decode cX1_cut 99 = .ok (.aload_n 0, 1) := by decide +kernel
theorem dX1_cut_100 : decode cX1_cut 100 = .ok (.getfield 19, 3) := by decide +kernel
theorem dX1_cut_103 : decode cX1_cut 103 = .ok (.aload_n 0, 1) := by decide +kernel
theorem dX1_cut_104 : decode cX1_cut 104 = .ok (.getfield 67, 3) := by decide +kernel
theorem dX1_cut_107 : decode cX1_cut 107 = .ok (.iload_n 2, 1) := by decide +kernel
theorem dX1_cut_108 : decode cX1_cut 108 = .ok (.iastore, 1) := by decide +kernel
theorem dX1_cut_109 : decode cX1_cut 109 = .ok (.aload_n 0, 1) := by decide +kernel
theorem dX1_cut_110 : decode cX1_cut 110 = .ok (.getfield 22, 3) := by decide +kernel
theorem dX1_cut_113 : decode cX1_cut 113 = .ok (.aload_n 0, 1) := by decide +kernel
theorem dX1_cut_114 : decode cX1_cut 114 = .ok (.getfield 67, 3) := by decide +kernel
theorem dX1_cut_117 : decode cX1_cut 117 = .ok (.iconst (-1), 1) := by decide +kernel
theorem dX1_cut_118 : decode cX1_cut 118 = .ok (.iastore, 1) := by decide +kernel
theorem dX1_cut_119 : decode cX1_cut 119 = .ok (.aload_n 0, 1) := by decide +kernel
theorem dX1_cut_120 : decode cX1_cut 120 = .ok (.getfield 25, 3) := by decide +kernel
theorem dX1_cut_123 : decode cX1_cut 123 = .ok (.aload_n 0, 1) := by decide +kernel
theorem dX1_cut_124 : decode cX1_cut 124 = .ok (.getfield 67, 3) := by decide +kernel
theorem dX1_cut_127 : decode cX1_cut 127 = .ok (.aload_n 0, 1) := by decide +kernel
theorem dX1_cut_128 : decode cX1_cut 128 = .ok (.getfield 13, 3) := by decide +kernel
theorem dX1_cut_131 : decode cX1_cut 131 = .ok (.iload 7, 2) := by decide +kernel
theorem dX1_cut_133 : decode cX1_cut 133 = .ok (.iload_n 2, 1) := by decide +kernel
theorem dX1_cut_134 : decode cX1_cut 134 = .ok (.iload_n 3, 1) := by decide +kernel
theorem dX1_cut_135 : decode cX1_cut 135 = .ok (.invokestatic 83, 3) := by decide +kernel
theorem dX1_cut_138 : decode cX1_cut 138 = .ok (.iload_n 2, 1) := by decide +kernel
theorem dX1_cut_139 : decode cX1_cut 139 = .ok (.iload_n 3, 1) := by decide +kernel
theorem dX1_cut_140 : decode cX1_cut 140 = .ok (.invokestatic 87, 3) := by decide +kernel
theorem dX1_cut_143 : decode cX1_cut 143 = .ok (.iconst 1, 1) := by decide +kernel
theorem dX1_cut_144 : decode cX1_cut 144 = .ok (.invokestatic 59, 3) := by decide +kernel
theorem dX1_cut_147 : decode cX1_cut 147 = .ok (.iastore, 1) := by decide +kernel
theorem dX1_cut_148 : decode cX1_cut 148 = .ok (.aload_n 0, 1) := by decide +kernel
theorem dX1_cut_149 : decode cX1_cut 149 = .ok (.getfield 13, 3) := by decide +kernel
theorem dX1_cut_152 : decode cX1_cut 152 = .ok (.iload 7, 2) := by decide +kernel
theorem dX1_cut_154 : decode cX1_cut 154 = .ok (.iload_n 2, 1) := by decide +kernel
theorem dX1_cut_155 : decode cX1_cut 155 = .ok (.iload_n 3, 1) := by decide +kernel
theorem dX1_cut_156 : decode cX1_cut 156 = .ok (.invokestatic 83, 3) := by decide +kernel
theorem dX1_cut_159 : decode cX1_cut 159 = .ok (.iload_n 2, 1) := by decide +kernel
theorem dX1_cut_160 : decode cX1_cut 160 = .ok (.iload_n 3, 1) := by decide +kernel
theorem dX1_cut_161 : decode cX1_cut 161 = .ok (.invokestatic 87, 3) := by decide +kernel
theorem dX1_cut_164 : decode cX1_cut 164 = .ok (.iconst 3, 1) := by decide +kernel
theorem dX1_cut_165 : decode cX1_cut 165 = .ok (.invokestatic 63, 3) := by decide +kernel
theorem dX1_cut_168 : decode cX1_cut 168 = .ok (.aload_n 0, 1) := by decide +kernel
theorem dX1_cut_169 : decode cX1_cut 169 = .ok (.dup, 1) := by decide +kernel
theorem dX1_cut_170 : decode cX1_cut 170 = .ok (.getfield 67, 3) := by decide +kernel
theorem dX1_cut_173 : decode cX1_cut 173 = .ok (.iconst 1, 1) := by decide +kernel
theorem dX1_cut_174 : decode cX1_cut 174 = .ok (.iadd, 1) := by decide +kernel
theorem dX1_cut_175 : decode cX1_cut 175 = .ok (.putfield 67, 3) := by decide +kernel
theorem dX1_cut_178 : decode cX1_cut 178 = .ok (.aload_n 0, 1) := by decide +kernel
theorem dX1_cut_179 : decode cX1_cut 179 = .ok (.getfield 67, 3) := by decide +kernel
theorem dX1_cut_182 : decode cX1_cut 182 = .ok (.iconst 1, 1) := by decide +kernel
theorem dX1_cut_183 : decode cX1_cut 183 = .ok (.isub, 1) := by decide +kernel
theorem dX1_cut_184 : decode cX1_cut 184 = .ok (.ireturn, 1) := by decide +kernel
set_option maxRecDepth 20000 in
theorem ggX1_place_X1_isSkin : GoodIn wsX1_place wsX1_isSkin := goodIn_r _ [7, 8, 9, 10, 6, 11, 36, 37, 38, 39, 40, 41, 42, 43, 44, 45, 46, 47] (by decide +kernel) (by decide +kernel)
set_option maxRecDepth 20000 in
theorem gX1_place_X1_isSkin : GoodIn wsX1_place (wsV RX1 45 RX1 yX1_isSkin wsX1_isSkin) := goodIn_app (goodIn_of _ (by decide +kernel)) ggX1_place_X1_isSkin
set_option maxRecDepth 20000 in
theorem ggX1_place_X1_no : GoodIn wsX1_place wsX1_no := goodIn_r _ [15, 1, 36, 37, 38, 39, 40, 41, 42, 43, 44, 45, 46, 47] (by decide +kernel) (by decide +kernel)
set_option maxRecDepth 20000 in
theorem gX1_place_X1_no : GoodIn wsX1_place (wsV RX1 52 RX1 yX1_no wsX1_no) := goodIn_app (goodIn_of _ (by decide +kernel)) ggX1_place_X1_no
set_option maxRecDepth 20000 in
theorem ggX1_place_X1_isKind : GoodIn wsX1_place wsX1_isKind := goodIn_r _ [18, 9, 10, 6, 11] (by decide +kernel) (by decide +kernel)
set_option maxRecDepth 20000 in
theorem gX1_place_X1_isKind : GoodIn wsX1_place (va_wsS RX1 94 yX1_isKind wsX1_isKind) := goodIn_app (goodIn_of _ (by decide +kernel)) ggX1_place_X1_isKind
set_option maxRecDepth 20000 in
theorem ggX1_place_X1_first : GoodIn wsX1_place wsX1_first := goodIn_r _ [21, 22, 23, 6, 24, 25, 26, 27, 28, 29, 30, 31, 32, 33, 34, 35] (by decide +kernel) (by decide +kernel)
set_option maxRecDepth 20000 in
theorem gX1_place_X1_first : GoodIn wsX1_place (va_wsS RX1 97 yX1_first wsX1_first) := goodIn_app (goodIn_of _ (by decide +kernel)) ggX1_place_X1_first
theorem dX1_place_0 : decode cX1_place 0 = .ok (.aload_n 0, 1) := by decide +kernel
theorem dX1_place_1 : decode cX1_place 1 = .ok (.iconst 0, 1) := by decide +kernel
theorem dX1_place_2 : decode cX1_place 2 = .ok (.putfield 34, 3) := by decide +kernel
theorem dX1_place_5 : decode cX1_place 5 = .ok (.aload_n 0, 1) := by decide +kernel
theorem dX1_place_6 : decode cX1_place 6 = .ok (.iload_n 1, 1) := by decide +kernel
theorem dX1_place_7 : decode cX1_place 7 = .ok (.invokevirtual 45, 3) := by decide +kernel
theorem dX1_place_10 : decode cX1_place 10 = .ok (.ifCond .ne 9, 3) := by decide +kernel
theorem dX1_place_13 : decode cX1_place 13 = .ok (.aload_n 0, 1) := by decide +kernel
theorem dX1_place_14 : decode cX1_place 14 = .ok (.iconst 1, 1) := by decide +kernel
theorem dX1_place_15 : decode cX1_place 15 = .ok (.invokevirtual 52, 3) := by decide +kernel
theorem dX1_place_18 : decode cX1_place 18 = .ok (.ireturn, 1) := by decide +kernel
theorem dX1_place_19 : decode cX1_place 19 = .ok (.iload_n 2, 1) := by decide +kernel
theorem dX1_place_20 : decode cX1_place 20 = .ok (.invokestatic 94, 3) := by decide +kernel
theorem dX1_place_23 : decode cX1_place 23 = .ok (.ifCond .eq 19, 3) := by decide +kernel
theorem dX1_place_26 : decode cX1_place 26 = .ok (.aload_n 0, 1) := by decide +kernel
theorem dX1_place_27 : decode cX1_place 27 = .ok (.getfield 13, 3) := by decide +kernel
theorem dX1_place_30 : decode cX1_place 30 = .ok (.bipush 96, 2) := by decide +kernel
theorem dX1_place_32 : decode cX1_place 32 = .ok (.iload_n 1, 1) := by decide +kernel
theorem dX1_place_33 : decode cX1_place 33 = .ok (.imul, 1) := by decide +kernel
theorem dX1_place_34 : decode cX1_place 34 = .ok (.iload_n 2, 1) := by decide +kernel
theorem dX1_place_35 : decode cX1_place 35 = .ok (.iload_n 3, 1) := by decide +kernel
theorem dX1_place_36 : decode cX1_place 36 = .ok (.invokestatic 97, 3) := by decide +kernel
theorem dX1_place_39 : decode cX1_place 39 = .ok (.goto 8, 3) := by decide +kernel
theorem dX1_place_42 : decode cX1_place 42 = .ok (.aload_n 0, 1) := by decide +kernel
theorem dX1_place_43 : decode cX1_place 43 = .ok (.iconst 2, 1) := by decide +kernel
theorem dX1_place_44 : decode cX1_place 44 = .ok (.invokevirtual 52, 3) := by decide +kernel
theorem dX1_place_47 : decode cX1_place 47 = .ok (.ireturn, 1) := by decide +kernel
theorem dX1_pieceTold_0 : decode cX1_pieceTold 0 = .ok (.iload_n 2, 1) := by decide +kernel
theorem dX1_pieceTold_1 : decode cX1_pieceTold 1 = .ok (.ifCond .ne 12, 3) := by decide +kernel
theorem dX1_pieceTold_4 : decode cX1_pieceTold 4 = .ok (.aload_n 0, 1) := by decide +kernel
theorem dX1_pieceTold_5 : decode cX1_pieceTold 5 = .ok (.getfield 16, 3) := by decide +kernel
theorem dX1_pieceTold_8 : decode cX1_pieceTold 8 = .ok (.iload_n 1, 1) := by decide +kernel
theorem dX1_pieceTold_9 : decode cX1_pieceTold 9 = .ok (.iaload, 1) := by decide +kernel
theorem dX1_pieceTold_10 : decode cX1_pieceTold 10 = .ok (.goto 37, 3) := by decide +kernel
theorem dX1_pieceTold_13 : decode cX1_pieceTold 13 = .ok (.iload_n 2, 1) := by decide +kernel
theorem dX1_pieceTold_14 : decode cX1_pieceTold 14 = .ok (.iconst 1, 1) := by decide +kernel
theorem dX1_pieceTold_15 : decode cX1_pieceTold 15 = .ok (.if_icmp .ne 12, 3) := by decide +kernel
theorem dX1_pieceTold_18 : decode cX1_pieceTold 18 = .ok (.aload_n 0, 1) := by decide +kernel
theorem dX1_pieceTold_19 : decode cX1_pieceTold 19 = .ok (.getfield 19, 3) := by decide +kernel
theorem dX1_pieceTold_22 : decode cX1_pieceTold 22 = .ok (.iload_n 1, 1) := by decide +kernel
theorem dX1_pieceTold_23 : decode cX1_pieceTold 23 = .ok (.iaload, 1) := by decide +kernel
theorem dX1_pieceTold_24 : decode cX1_pieceTold 24 = .ok (.goto 23, 3) := by decide +kernel
theorem dX1_pieceTold_27 : decode cX1_pieceTold 27 = .ok (.iload_n 2, 1) := by decide +kernel
theorem dX1_pieceTold_28 : decode cX1_pieceTold 28 = .ok (.iconst 2, 1) := by decide +kernel
theorem dX1_pieceTold_29 : decode cX1_pieceTold 29 = .ok (.if_icmp .ne 12, 3) := by decide +kernel
theorem dX1_pieceTold_32 : decode cX1_pieceTold 32 = .ok (.aload_n 0, 1) := by decide +kernel
theorem dX1_pieceTold_33 : decode cX1_pieceTold 33 = .ok (.getfield 22, 3) := by decide +kernel
theorem dX1_pieceTold_36 : decode cX1_pieceTold 36 = .ok (.iload_n 1, 1) := by decide +kernel
theorem dX1_pieceTold_37 : decode cX1_pieceTold 37 = .ok (.iaload, 1) := by decide +kernel
theorem dX1_pieceTold_38 : decode cX1_pieceTold 38 = .ok (.goto 9, 3) := by decide +kernel
theorem dX1_pieceTold_41 : decode cX1_pieceTold 41 = .ok (.aload_n 0, 1) := by decide +kernel
theorem dX1_pieceTold_42 : decode cX1_pieceTold 42 = .ok (.getfield 25, 3) := by decide +kernel
theorem dX1_pieceTold_45 : decode cX1_pieceTold 45 = .ok (.iload_n 1, 1) := by decide +kernel
theorem dX1_pieceTold_46 : decode cX1_pieceTold 46 = .ok (.iaload, 1) := by decide +kernel
theorem dX1_pieceTold_47 : decode cX1_pieceTold 47 = .ok (.ireturn, 1) := by decide +kernel
set_option maxRecDepth 20000 in
theorem ggX1_piece_X1_isIn : GoodIn wsX1_piece wsX1_isIn := goodIn_r _ [6] (by decide +kernel) (by decide +kernel)
set_option maxRecDepth 20000 in
theorem gX1_piece_X1_isIn : GoodIn wsX1_piece (va_wsS RX1 41 yX1_isIn wsX1_isIn) := goodIn_app (goodIn_of _ (by decide +kernel)) ggX1_piece_X1_isIn
set_option maxRecDepth 20000 in
theorem ggX1_piece_X1_pieceTold : GoodIn wsX1_piece wsX1_pieceTold := goodIn_r _ [10, 11, 12, 13, 14, 19, 20, 21, 22, 23, 24, 25, 26, 27, 28, 29, 30] (by decide +kernel) (by decide +kernel)
set_option maxRecDepth 20000 in
theorem gX1_piece_X1_pieceTold : GoodIn wsX1_piece (wsV RX1 101 RX1 yX1_pieceTold wsX1_pieceTold) := goodIn_app (goodIn_of _ (by decide +kernel)) ggX1_piece_X1_pieceTold
set_option maxRecDepth 20000 in
theorem ggX1_piece_X1_no : GoodIn wsX1_piece wsX1_no := goodIn_r _ [18, 1, 19, 20, 21, 22, 23, 24, 25, 26, 27, 28, 29, 30] (by decide +kernel) (by decide +kernel)
set_option maxRecDepth 20000 in
theorem gX1_piece_X1_no : GoodIn wsX1_piece (wsV RX1 52 RX1 yX1_no wsX1_no) := goodIn_app (goodIn_of _ (by decide +kernel)) ggX1_piece_X1_no
theorem dX1_piece_0 : decode cX1_piece 0 = .ok (.aload_n 0, 1) := by decide +kernel
theorem dX1_piece_1 : decode cX1_piece 1 = .ok (.iconst 0, 1) := by decide +kernel
theorem dX1_piece_2 : decode cX1_piece 2 = .ok (.putfield 34, 3) := by decide +kernel
theorem dX1_piece_5 : decode cX1_piece 5 = .ok (.iload_n 1, 1) := by decide +kernel
theorem dX1_piece_6 : decode cX1_piece 6 = .ok (.iconst 0, 1) := by decide +kernel
theorem dX1_piece_7 : decode cX1_piece 7 = .ok (.aload_n 0, 1) := by decide +kernel
theorem dX1_piece_8 : decode cX1_piece 8 = .ok (.getfield 67, 3) := by decide +kernel
theorem dX1_piece_11 : decode cX1_piece 11 = .ok (.iconst 1, 1) := by decide +kernel
theorem dX1_piece_12 : decode cX1_piece 12 = .ok (.isub, 1) := by decide +kernel
theorem dX1_piece_13 : decode cX1_piece 13 = .ok (.invokestatic 41, 3) := by decide +kernel
theorem dX1_piece_16 : decode cX1_piece 16 = .ok (.ifCond .eq 21, 3) := by decide +kernel
theorem dX1_piece_19 : decode cX1_piece 19 = .ok (.iload_n 2, 1) := by decide +kernel
theorem dX1_piece_20 : decode cX1_piece 20 = .ok (.iconst 0, 1) := by decide +kernel
theorem dX1_piece_21 : decode cX1_piece 21 = .ok (.iconst 3, 1) := by decide +kernel
theorem dX1_piece_22 : decode cX1_piece 22 = .ok (.invokestatic 41, 3) := by decide +kernel
theorem dX1_piece_25 : decode cX1_piece 25 = .ok (.ifCond .eq 12, 3) := by decide +kernel
theorem dX1_piece_28 : decode cX1_piece 28 = .ok (.aload_n 0, 1) := by decide +kernel
theorem dX1_piece_29 : decode cX1_piece 29 = .ok (.iload_n 1, 1) := by decide +kernel
theorem dX1_piece_30 : decode cX1_piece 30 = .ok (.iload_n 2, 1) := by decide +kernel
theorem dX1_piece_31 : decode cX1_piece 31 = .ok (.invokevirtual 101, 3) := by decide +kernel
theorem dX1_piece_34 : decode cX1_piece 34 = .ok (.goto 8, 3) := by decide +kernel
theorem dX1_piece_37 : decode cX1_piece 37 = .ok (.aload_n 0, 1) := by decide +kernel
theorem dX1_piece_38 : decode cX1_piece 38 = .ok (.iconst 1, 1) := by decide +kernel
theorem dX1_piece_39 : decode cX1_piece 39 = .ok (.invokevirtual 52, 3) := by decide +kernel
theorem dX1_piece_42 : decode cX1_piece 42 = .ok (.ireturn, 1) := by decide +kernel
theorem dX1_isFree_0 : decode cX1_isFree 0 = .ok (.aload_n 0, 1) := by decide +kernel
theorem dX1_isFree_1 : decode cX1_isFree 1 = .ok (.getfield 22, 3) := by decide +kernel
theorem dX1_isFree_4 : decode cX1_isFree 4 = .ok (.iload_n 1, 1) := by decide +kernel
theorem dX1_isFree_5 : decode cX1_isFree 5 = .ok (.iaload, 1) := by decide +kernel
theorem dX1_isFree_6 : decode cX1_isFree 6 = .ok (.iconst (-1), 1) := by decide +kernel
theorem dX1_isFree_7 : decode cX1_isFree 7 = .ok (.if_icmp .ne 32, 3) := by decide +kernel
theorem dX1_isFree_10 : decode cX1_isFree 10 = .ok (.aload_n 0, 1) := by decide +kernel
theorem dX1_isFree_11 : decode cX1_isFree 11 = .ok (.getfield 19, 3) := by decide +kernel
theorem dX1_isFree_14 : decode cX1_isFree 14 = .ok (.iload_n 1, 1) := by decide +kernel
theorem dX1_isFree_15 : decode cX1_isFree 15 = .ok (.iaload, 1) := by decide +kernel
theorem dX1_isFree_16 : decode cX1_isFree 16 = .ok (.iload_n 3, 1) := by decide +kernel
theorem dX1_isFree_17 : decode cX1_isFree 17 = .ok (.if_icmp .ne 22, 3) := by decide +kernel
theorem dX1_isFree_20 : decode cX1_isFree 20 = .ok (.aload_n 0, 1) := by decide +kernel
theorem dX1_isFree_21 : decode cX1_isFree 21 = .ok (.getfield 9, 3) := by decide +kernel
theorem dX1_isFree_24 : decode cX1_isFree 24 = .ok (.aload_n 0, 1) := by decide +kernel
theorem dX1_isFree_25 : decode cX1_isFree 25 = .ok (.getfield 16, 3) := by decide +kernel
theorem dX1_isFree_28 : decode cX1_isFree 28 = .ok (.iload_n 1, 1) := by decide +kernel
theorem dX1_isFree_29 : decode cX1_isFree 29 = .ok (.iaload, 1) := by decide +kernel
theorem dX1_isFree_30 : decode cX1_isFree 30 = .ok (.iaload, 1) := by decide +kernel
theorem dX1_isFree_31 : decode cX1_isFree 31 = .ok (.iload_n 2, 1) := by decide +kernel
theorem dX1_isFree_32 : decode cX1_isFree 32 = .ok (.if_icmp .ne 7, 3) := by decide +kernel
theorem dX1_isFree_35 : decode cX1_isFree 35 = .ok (.iconst 1, 1) := by decide +kernel
theorem dX1_isFree_36 : decode cX1_isFree 36 = .ok (.goto 4, 3) := by decide +kernel
theorem dX1_isFree_39 : decode cX1_isFree 39 = .ok (.iconst 0, 1) := by decide +kernel
theorem dX1_isFree_40 : decode cX1_isFree 40 = .ok (.ireturn, 1) := by decide +kernel
set_option maxRecDepth 20000 in
theorem ggX1_free_X1_isFree : GoodIn wsX1_free wsX1_isFree := goodIn_r _ [6, 7, 8, 9, 10, 11, 12, 13, 14, 15, 16, 17, 18, 19, 20, 21, 22] (by decide +kernel) (by decide +kernel)
set_option maxRecDepth 20000 in
theorem gX1_free_X1_isFree : GoodIn wsX1_free (wsV RX1 104 RX1 yX1_isFree wsX1_isFree) := goodIn_app (goodIn_of _ (by decide +kernel)) ggX1_free_X1_isFree
theorem dX1_free_0 : decode cX1_free 0 = .ok (.iconst 0, 1) := by decide +kernel
theorem dX1_free_1 : decode cX1_free 1 = .ok (.istore_n 3, 1) := by decide +kernel
theorem dX1_free_2 : decode cX1_free 2 = .ok (.iconst 0, 1) := by decide +kernel
theorem dX1_free_3 : decode cX1_free 3 = .ok (.istore 4, 2) := by decide +kernel
theorem dX1_free_5 : decode cX1_free 5 = .ok (.iload 4, 2) := by decide +kernel
theorem dX1_free_7 : decode cX1_free 7 = .ok (.aload_n 0, 1) := by decide +kernel
theorem dX1_free_8 : decode cX1_free 8 = .ok (.getfield 67, 3) := by decide +kernel
theorem dX1_free_11 : decode cX1_free 11 = .ok (.if_icmp .ge 28, 3) := by decide +kernel
theorem dX1_free_14 : decode cX1_free 14 = .ok (.iload_n 3, 1) := by decide +kernel
theorem dX1_free_15 : decode cX1_free 15 = .ok (.aload_n 0, 1) := by decide +kernel
theorem dX1_free_16 : decode cX1_free 16 = .ok (.iload 4, 2) := by decide +kernel
theorem dX1_free_18 : decode cX1_free 18 = .ok (.iload_n 1, 1) := by decide +kernel
theorem dX1_free_19 : decode cX1_free 19 = .ok (.iload_n 2, 1) := by decide +kernel
theorem dX1_free_20 : decode cX1_free 20 = .ok (.invokevirtual 104, 3) := by decide +kernel
theorem dX1_free_23 : decode cX1_free 23 = .ok (.ifCond .eq 7, 3) := by decide +kernel
theorem dX1_free_26 : decode cX1_free 26 = .ok (.iconst 1, 1) := by decide +kernel
theorem dX1_free_27 : decode cX1_free 27 = .ok (.goto 4, 3) := by decide +kernel
theorem dX1_free_30 : decode cX1_free 30 = .ok (.iconst 0, 1) := by decide +kernel
theorem dX1_free_31 : decode cX1_free 31 = .ok (.iadd, 1) := by decide +kernel
theorem dX1_free_32 : decode cX1_free 32 = .ok (.istore_n 3, 1) := by decide +kernel
theorem dX1_free_33 : decode cX1_free 33 = .ok (.iinc 4 1, 3) := by decide +kernel
theorem dX1_free_36 : decode cX1_free 36 = .ok (.goto (-31), 3) := by decide +kernel
theorem dX1_free_39 : decode cX1_free 39 = .ok (.iload_n 3, 1) := by decide +kernel
theorem dX1_free_40 : decode cX1_free 40 = .ok (.ireturn, 1) := by decide +kernel
set_option maxRecDepth 20000 in
theorem ggX1_tranks_X1_isFree : GoodIn wsX1_tranks wsX1_isFree := goodIn_r _ [8, 9, 10, 3, 2, 11, 12, 13, 14, 15, 16, 17, 18, 19, 20, 21, 22] (by decide +kernel) (by decide +kernel)
set_option maxRecDepth 20000 in
theorem gX1_tranks_X1_isFree : GoodIn wsX1_tranks (wsV RX1 104 RX1 yX1_isFree wsX1_isFree) := goodIn_app (goodIn_of _ (by decide +kernel)) ggX1_tranks_X1_isFree
theorem dX1_tranks_0 : decode cX1_tranks 0 = .ok (.iconst 0, 1) := by decide +kernel
theorem dX1_tranks_1 : decode cX1_tranks 1 = .ok (.istore_n 2, 1) := by decide +kernel
theorem dX1_tranks_2 : decode cX1_tranks 2 = .ok (.iconst 0, 1) := by decide +kernel
theorem dX1_tranks_3 : decode cX1_tranks 3 = .ok (.istore_n 3, 1) := by decide +kernel
theorem dX1_tranks_4 : decode cX1_tranks 4 = .ok (.iload_n 3, 1) := by decide +kernel
theorem dX1_tranks_5 : decode cX1_tranks 5 = .ok (.aload_n 0, 1) := by decide +kernel
theorem dX1_tranks_6 : decode cX1_tranks 6 = .ok (.getfield 67, 3) := by decide +kernel
theorem dX1_tranks_9 : decode cX1_tranks 9 = .ok (.if_icmp .ge 42, 3) := by decide +kernel
theorem dX1_tranks_12 : decode cX1_tranks 12 = .ok (.iload_n 2, 1) := by decide +kernel
theorem dX1_tranks_13 : decode cX1_tranks 13 = .ok (.aload_n 0, 1) := by decide +kernel
theorem dX1_tranks_14 : decode cX1_tranks 14 = .ok (.getfield 16, 3) := by decide +kernel
theorem dX1_tranks_17 : decode cX1_tranks 17 = .ok (.iload_n 3, 1) := by decide +kernel
theorem dX1_tranks_18 : decode cX1_tranks 18 = .ok (.iaload, 1) := by decide +kernel
theorem dX1_tranks_19 : decode cX1_tranks 19 = .ok (.iload_n 1, 1) := by decide +kernel
theorem dX1_tranks_20 : decode cX1_tranks 20 = .ok (.if_icmp .ne 22, 3) := by decide +kernel
theorem dX1_tranks_23 : decode cX1_tranks 23 = .ok (.aload_n 0, 1) := by decide +kernel
theorem dX1_tranks_24 : decode cX1_tranks 24 = .ok (.iload_n 3, 1) := by decide +kernel
theorem dX1_tranks_25 : decode cX1_tranks 25 = .ok (.aload_n 0, 1) := by decide +kernel
theorem dX1_tranks_26 : decode cX1_tranks 26 = .ok (.getfield 9, 3) := by decide +kernel
theorem dX1_tranks_29 : decode cX1_tranks 29 = .ok (.iload_n 1, 1) := by decide +kernel
theorem dX1_tranks_30 : decode cX1_tranks 30 = .ok (.iaload, 1) := by decide +kernel
theorem dX1_tranks_31 : decode cX1_tranks 31 = .ok (.iconst 0, 1) := by decide +kernel
theorem dX1_tranks_32 : decode cX1_tranks 32 = .ok (.invokevirtual 104, 3) := by decide +kernel
theorem dX1_tranks_35 : decode cX1_tranks 35 = .ok (.ifCond .eq 7, 3) := by decide +kernel
theorem dX1_tranks_38 : decode cX1_tranks 38 = .ok (.iconst 1, 1) := by decide +kernel
theorem dX1_tranks_39 : decode cX1_tranks 39 = .ok (.goto 4, 3) := by decide +kernel
theorem dX1_tranks_42 : decode cX1_tranks 42 = .ok (.iconst 0, 1) := by decide +kernel
theorem dX1_tranks_43 : decode cX1_tranks 43 = .ok (.iadd, 1) := by decide +kernel
theorem dX1_tranks_44 : decode cX1_tranks 44 = .ok (.istore_n 2, 1) := by decide +kernel
theorem dX1_tranks_45 : decode cX1_tranks 45 = .ok (.iinc 3 1, 3) := by decide +kernel
theorem dX1_tranks_48 : decode cX1_tranks 48 = .ok (.goto (-44), 3) := by decide +kernel
theorem dX1_tranks_51 : decode cX1_tranks 51 = .ok (.iload_n 2, 1) := by decide +kernel
theorem dX1_tranks_52 : decode cX1_tranks 52 = .ok (.ireturn, 1) := by decide +kernel
set_option maxRecDepth 20000 in
theorem ggX1_trankSkin_X1_tranks : GoodIn wsX1_trankSkin wsX1_tranks := goodIn_r _ [7, 8, 9, 2, 10, 11, 12, 6, 13, 14, 15, 16, 17, 18, 19, 20, 21, 22, 23, 24, 25, 26, 27] (by decide +kernel) (by decide +kernel)
set_option maxRecDepth 20000 in
theorem gX1_trankSkin_X1_tranks : GoodIn wsX1_trankSkin (wsV RX1 107 RX1 yX1_tranks wsX1_tranks) := goodIn_app (goodIn_of _ (by decide +kernel)) ggX1_trankSkin_X1_tranks
theorem dX1_trankSkin_0 : decode cX1_trankSkin 0 = .ok (.iconst 0, 1) := by decide +kernel
theorem dX1_trankSkin_1 : decode cX1_trankSkin 1 = .ok (.istore_n 2, 1) := by decide +kernel
theorem dX1_trankSkin_2 : decode cX1_trankSkin 2 = .ok (.iload_n 2, 1) := by decide +kernel
theorem dX1_trankSkin_3 : decode cX1_trankSkin 3 = .ok (.aload_n 0, 1) := by decide +kernel
theorem dX1_trankSkin_4 : decode cX1_trankSkin 4 = .ok (.getfield 38, 3) := by decide +kernel
theorem dX1_trankSkin_7 : decode cX1_trankSkin 7 = .ok (.if_icmp .ge 30, 3) := by decide +kernel
theorem dX1_trankSkin_10 : decode cX1_trankSkin 10 = .ok (.aload_n 0, 1) := by decide +kernel
theorem dX1_trankSkin_11 : decode cX1_trankSkin 11 = .ok (.getfield 9, 3) := by decide +kernel
theorem dX1_trankSkin_14 : decode cX1_trankSkin 14 = .ok (.iload_n 2, 1) := by decide +kernel
theorem dX1_trankSkin_15 : decode cX1_trankSkin 15 = .ok (.iaload, 1) := by decide +kernel
theorem dX1_trankSkin_16 : decode cX1_trankSkin 16 = .ok (.iload_n 1, 1) := by decide +kernel
theorem dX1_trankSkin_17 : decode cX1_trankSkin 17 = .ok (.if_icmp .ne 14, 3) := by decide +kernel
theorem dX1_trankSkin_20 : decode cX1_trankSkin 20 = .ok (.aload_n 0, 1) := by decide +kernel
theorem dX1_trankSkin_21 : decode cX1_trankSkin 21 = .ok (.iload_n 2, 1) := by decide +kernel
theorem dX1_trankSkin_22 : decode cX1_trankSkin 22 = .ok (.invokevirtual 107, 3) := by decide +kernel
theorem dX1_trankSkin_25 : decode cX1_trankSkin 25 = .ok (.iconst 1, 1) := by decide +kernel
theorem dX1_trankSkin_26 : decode cX1_trankSkin 26 = .ok (.if_icmp .le 5, 3) := by decide +kernel
theorem dX1_trankSkin_29 : decode cX1_trankSkin 29 = .ok (.iload_n 2, 1) := by decide +kernel
theorem dX1_trankSkin_30 : decode cX1_trankSkin 30 = .ok (.ireturn, 1) := by decide +kernel
theorem dX1_trankSkin_31 : decode cX1_trankSkin 31 = .ok (.iinc 2 1, 3) := by decide +kernel
theorem dX1_trankSkin_34 : decode cX1_trankSkin 34 = .ok (.goto (-32), 3) := by decide +kernel
theorem dX1_trankSkin_37 : decode cX1_trankSkin 37 = .ok (.iconst (-1), 1) := by decide +kernel
theorem dX1_trankSkin_38 : decode cX1_trankSkin 38 = .ok (.ireturn, 1) := by decide +kernel
set_option maxRecDepth 20000 in
theorem ggX1_canSew_X1_trankSkin : GoodIn wsX1_canSew wsX1_trankSkin := goodIn_r _ [6, 7, 8, 9, 10, 11, 5, 12, 13, 14, 15, 16, 17, 18, 19, 20, 25, 26, 27, 28, 29, 30, 31, 32, 33, 34, 35, 36] (by decide +kernel) (by decide +kernel)
set_option maxRecDepth 20000 in
theorem gX1_canSew_X1_trankSkin : GoodIn wsX1_canSew (wsV RX1 110 RX1 yX1_trankSkin wsX1_trankSkin) := goodIn_app (goodIn_of _ (by decide +kernel)) ggX1_canSew_X1_trankSkin
set_option maxRecDepth 20000 in
theorem ggX1_canSew_X1_free : GoodIn wsX1_canSew wsX1_free := goodIn_r _ [24, 13, 15, 16, 17, 5, 18, 19, 20, 8, 14, 25, 26, 27, 28, 29, 30, 31, 32, 33, 34, 35, 36] (by decide +kernel) (by decide +kernel)
set_option maxRecDepth 20000 in
theorem gX1_canSew_X1_free : GoodIn wsX1_canSew (wsV RX1 113 RX1 yX1_free wsX1_free) := goodIn_app (goodIn_of _ (by decide +kernel)) ggX1_canSew_X1_free
theorem dX1_canSew_0 : decode cX1_canSew 0 = .ok (.aload_n 0, 1) := by decide +kernel
theorem dX1_canSew_1 : decode cX1_canSew 1 = .ok (.iload_n 1, 1) := by decide +kernel
theorem dX1_canSew_2 : decode cX1_canSew 2 = .ok (.invokevirtual 110, 3) := by decide +kernel
theorem dX1_canSew_5 : decode cX1_canSew 5 = .ok (.iconst (-1), 1) := by decide +kernel
theorem dX1_canSew_6 : decode cX1_canSew 6 = .ok (.if_icmp .eq 7, 3) := by decide +kernel
theorem dX1_canSew_9 : decode cX1_canSew 9 = .ok (.iconst 1, 1) := by decide +kernel
theorem dX1_canSew_10 : decode cX1_canSew 10 = .ok (.goto 4, 3) := by decide +kernel
theorem dX1_canSew_13 : decode cX1_canSew 13 = .ok (.iconst 0, 1) := by decide +kernel
theorem dX1_canSew_14 : decode cX1_canSew 14 = .ok (.istore_n 2, 1) := by decide +kernel
theorem dX1_canSew_15 : decode cX1_canSew 15 = .ok (.iconst 1, 1) := by decide +kernel
theorem dX1_canSew_16 : decode cX1_canSew 16 = .ok (.istore_n 3, 1) := by decide +kernel
theorem dX1_canSew_17 : decode cX1_canSew 17 = .ok (.iload_n 3, 1) := by decide +kernel
theorem dX1_canSew_18 : decode cX1_canSew 18 = .ok (.iconst 4, 1) := by decide +kernel
theorem dX1_canSew_19 : decode cX1_canSew 19 = .ok (.if_icmp .ge 31, 3) := by decide +kernel
theorem dX1_canSew_22 : decode cX1_canSew 22 = .ok (.iload_n 2, 1) := by decide +kernel
theorem dX1_canSew_23 : decode cX1_canSew 23 = .ok (.aload_n 0, 1) := by decide +kernel
theorem dX1_canSew_24 : decode cX1_canSew 24 = .ok (.iload_n 1, 1) := by decide +kernel
theorem dX1_canSew_25 : decode cX1_canSew 25 = .ok (.iload_n 3, 1) := by decide +kernel
theorem dX1_canSew_26 : decode cX1_canSew 26 = .ok (.invokevirtual 113, 3) := by decide +kernel
theorem dX1_canSew_29 : decode cX1_canSew 29 = .ok (.getstatic 116, 3) := by decide +kernel
theorem dX1_canSew_32 : decode cX1_canSew 32 = .ok (.iload_n 3, 1) := by decide +kernel
theorem dX1_canSew_33 : decode cX1_canSew 33 = .ok (.iaload, 1) := by decide +kernel
theorem dX1_canSew_34 : decode cX1_canSew 34 = .ok (.if_icmp .lt 7, 3) := by decide +kernel
theorem dX1_canSew_37 : decode cX1_canSew 37 = .ok (.iconst 1, 1) := by decide +kernel
theorem dX1_canSew_38 : decode cX1_canSew 38 = .ok (.goto 4, 3) := by decide +kernel
theorem dX1_canSew_41 : decode cX1_canSew 41 = .ok (.iconst 0, 1) := by decide +kernel
theorem dX1_canSew_42 : decode cX1_canSew 42 = .ok (.iand, 1) := by decide +kernel
theorem dX1_canSew_43 : decode cX1_canSew 43 = .ok (.istore_n 2, 1) := by decide +kernel
theorem dX1_canSew_44 : decode cX1_canSew 44 = .ok (.iinc 3 1, 3) := by decide +kernel
theorem dX1_canSew_47 : decode cX1_canSew 47 = .ok (.goto (-30), 3) := by decide +kernel
theorem dX1_canSew_50 : decode cX1_canSew 50 = .ok (.iload_n 2, 1) := by decide +kernel
theorem dX1_canSew_51 : decode cX1_canSew 51 = .ok (.ireturn, 1) := by decide +kernel
set_option maxRecDepth 20000 in
theorem ggX1_take_X1_isFree : GoodIn wsX1_take wsX1_isFree := goodIn_r _ [10, 4, 11, 12, 3, 13, 14, 15, 16, 17, 18, 19, 20, 21, 22, 23, 24] (by decide +kernel) (by decide +kernel)
set_option maxRecDepth 20000 in
theorem gX1_take_X1_isFree : GoodIn wsX1_take (wsV RX1 104 RX1 yX1_isFree wsX1_isFree) := goodIn_app (goodIn_of _ (by decide +kernel)) ggX1_take_X1_isFree
theorem dX1_take_0 : decode cX1_take 0 = .ok (.getstatic 116, 3) := by decide +kernel
theorem dX1_take_3 : decode cX1_take 3 = .ok (.iload_n 2, 1) := by decide +kernel
theorem dX1_take_4 : decode cX1_take 4 = .ok (.iaload, 1) := by decide +kernel
theorem dX1_take_5 : decode cX1_take 5 = .ok (.istore 4, 2) := by decide +kernel
theorem dX1_take_7 : decode cX1_take 7 = .ok (.iconst 0, 1) := by decide +kernel
theorem dX1_take_8 : decode cX1_take 8 = .ok (.istore 5, 2) := by decide +kernel
theorem dX1_take_10 : decode cX1_take 10 = .ok (.iload 5, 2) := by decide +kernel
theorem dX1_take_12 : decode cX1_take 12 = .ok (.aload_n 0, 1) := by decide +kernel
theorem dX1_take_13 : decode cX1_take 13 = .ok (.getfield 67, 3) := by decide +kernel
theorem dX1_take_16 : decode cX1_take 16 = .ok (.if_icmp .ge 58, 3) := by decide +kernel
theorem dX1_take_19 : decode cX1_take 19 = .ok (.iload 4, 2) := by decide +kernel
theorem dX1_take_21 : decode cX1_take 21 = .ok (.ifCond .le 53, 3) := by decide +kernel
theorem dX1_take_24 : decode cX1_take 24 = .ok (.aload_n 0, 1) := by decide +kernel
theorem dX1_take_25 : decode cX1_take 25 = .ok (.iload 5, 2) := by decide +kernel
theorem dX1_take_27 : decode cX1_take 27 = .ok (.iload_n 1, 1) := by decide +kernel
theorem dX1_take_28 : decode cX1_take 28 = .ok (.iload_n 2, 1) := by decide +kernel
theorem dX1_take_29 : decode cX1_take 29 = .ok (.invokevirtual 104, 3) := by decide +kernel
theorem dX1_take_32 : decode cX1_take 32 = .ok (.ifCond .eq 36, 3) := by decide +kernel
theorem dX1_take_35 : decode cX1_take 35 = .ok (.iload_n 3, 1) := by decide +kernel
theorem dX1_take_36 : decode cX1_take 36 = .ok (.iconst (-1), 1) := by decide +kernel
theorem dX1_take_37 : decode cX1_take 37 = .ok (.if_icmp .eq 17, 3) := by decide +kernel
theorem dX1_take_40 : decode cX1_take 40 = .ok (.aload_n 0, 1) := by decide +kernel
theorem dX1_take_41 : decode cX1_take 41 = .ok (.getfield 16, 3) := by decide +kernel
theorem dX1_take_44 : decode cX1_take 44 = .ok (.iload 5, 2) := by decide +kernel
theorem dX1_take_46 : decode cX1_take 46 = .ok (.iaload, 1) := by decide +kernel
theorem dX1_take_47 : decode cX1_take 47 = .ok (.iload_n 3, 1) := by decide +kernel
theorem dX1_take_48 : decode cX1_take 48 = .ok (.if_icmp .eq 6, 3) := by decide +kernel
theorem dX1_take_51 : decode cX1_take 51 = .ok (.goto 17, 3) := by decide +kernel
theorem dX1_take_54 : decode cX1_take 54 = .ok (.aload_n 0, 1) := by decide +kernel
theorem dX1_take_55 : decode cX1_take 55 = .ok (.getfield 22, 3) := by decide +kernel
theorem dX1_take_58 : decode cX1_take 58 = .ok (.iload 5, 2) := by decide +kernel
theorem dX1_take_60 : decode cX1_take 60 = .ok (.aload_n 0, 1) := by decide +kernel
theorem dX1_take_61 : decode cX1_take 61 = .ok (.getfield 119, 3) := by decide +kernel
theorem dX1_take_64 : decode cX1_take 64 = .ok (.iastore, 1) := by decide +kernel
theorem dX1_take_65 : decode cX1_take 65 = .ok (.iinc 4 (-1), 3) := by decide +kernel
theorem dX1_take_68 : decode cX1_take 68 = .ok (.iinc 5 1, 3) := by decide +kernel
theorem dX1_take_71 : decode cX1_take 71 = .ok (.goto (-61), 3) := by decide +kernel
theorem dX1_take_74 : decode cX1_take 74 = .ok (.return_, 1) := by decide +kernel
set_option maxRecDepth 20000 in
theorem ggX1_sew_X1_isColour : GoodIn wsX1_sew wsX1_isColour := goodIn_r _ [16, 17, 18, 15, 19] (by decide +kernel) (by decide +kernel)
set_option maxRecDepth 20000 in
theorem gX1_sew_X1_isColour : GoodIn wsX1_sew (va_wsS RX1 49 yX1_isColour wsX1_isColour) := goodIn_app (goodIn_of _ (by decide +kernel)) ggX1_sew_X1_isColour
set_option maxRecDepth 20000 in
theorem ggX1_sew_X1_no : GoodIn wsX1_sew wsX1_no := goodIn_r _ [23, 1, 59, 60, 61, 62, 63, 64, 65, 66, 67, 68, 69, 70] (by decide +kernel) (by decide +kernel)
set_option maxRecDepth 20000 in
theorem gX1_sew_X1_no : GoodIn wsX1_sew (wsV RX1 52 RX1 yX1_no wsX1_no) := goodIn_app (goodIn_of _ (by decide +kernel)) ggX1_sew_X1_no
set_option maxRecDepth 20000 in
theorem ggX1_sew_X1_canSew : GoodIn wsX1_sew wsX1_canSew := goodIn_r _ [27, 28, 29, 30, 31, 15, 32, 33, 34, 35, 36, 37, 38, 3, 5, 39, 40, 41, 42, 4, 43, 44, 45, 46, 47, 59, 60, 61, 62, 63, 64, 65, 66, 67, 68, 69, 70] (by decide +kernel) (by decide +kernel)
set_option maxRecDepth 20000 in
theorem gX1_sew_X1_canSew : GoodIn wsX1_sew (wsV RX1 122 RX1 yX1_canSew wsX1_canSew) := goodIn_app (goodIn_of _ (by decide +kernel)) ggX1_sew_X1_canSew
set_option maxRecDepth 20000 in
theorem ggX1_sew_X1_trankSkin : GoodIn wsX1_sew wsX1_trankSkin := goodIn_r _ [32, 33, 34, 35, 36, 37, 15, 38, 3, 5, 39, 40, 41, 42, 4, 43, 59, 60, 61, 62, 63, 64, 65, 66, 67, 68, 69, 70] (by decide +kernel) (by decide +kernel)
set_option maxRecDepth 20000 in
theorem gX1_sew_X1_trankSkin : GoodIn wsX1_sew (wsV RX1 110 RX1 yX1_trankSkin wsX1_trankSkin) := goodIn_app (goodIn_of _ (by decide +kernel)) ggX1_sew_X1_trankSkin
set_option maxRecDepth 20000 in
theorem ggX1_sew_X1_take : GoodIn wsX1_sew wsX1_take := goodIn_r _ [51, 28, 3, 5, 4, 2, 39, 40, 41, 15, 42, 43, 34, 59, 60, 61, 62, 63, 64, 65, 66, 67, 68, 69, 70] (by decide +kernel) (by decide +kernel)
set_option maxRecDepth 20000 in
theorem gX1_sew_X1_take : GoodIn wsX1_sew (wsV RX1 125 RX1 yX1_take wsX1_take) := goodIn_app (goodIn_of _ (by decide +kernel)) ggX1_sew_X1_take
set_option maxRecDepth 20000 in
theorem ggX1_sew_J6_bitCount_0f7a4 : GoodIn wsX1_sew wsJ6_bitCount_0f7a4 := goodIn_r _ [55, 56, 57, 58] (by decide +kernel) (by decide +kernel)
set_option maxRecDepth 20000 in
theorem gX1_sew_J6_bitCount_0f7a4 : GoodIn wsX1_sew (va_wsS RX1 129 yJ6_bitCount_0f7a4 wsJ6_bitCount_0f7a4) := goodIn_app (goodIn_of _ (by decide +kernel)) ggX1_sew_J6_bitCount_0f7a4
theorem dX1_sew_0 : decode cX1_sew 0 = .ok (.aload_n 0, 1) := by decide +kernel
theorem dX1_sew_1 : decode cX1_sew 1 = .ok (.iconst 0, 1) := by decide +kernel
theorem dX1_sew_2 : decode cX1_sew 2 = .ok (.putfield 34, 3) := by decide +kernel
theorem dX1_sew_5 : decode cX1_sew 5 = .ok (.iload_n 1, 1) := by decide +kernel
theorem dX1_sew_6 : decode cX1_sew 6 = .ok (.invokestatic 49, 3) := by decide +kernel
theorem dX1_sew_9 : decode cX1_sew 9 = .ok (.ifCond .ne 9, 3) := by decide +kernel
theorem dX1_sew_12 : decode cX1_sew 12 = .ok (.aload_n 0, 1) := by decide +kernel
theorem dX1_sew_13 : decode cX1_sew 13 = .ok (.iconst 1, 1) := by decide +kernel
theorem dX1_sew_14 : decode cX1_sew 14 = .ok (.invokevirtual 52, 3) := by decide +kernel
theorem dX1_sew_17 : decode cX1_sew 17 = .ok (.ireturn, 1) := by decide +kernel
theorem dX1_sew_18 : decode cX1_sew 18 = .ok (.aload_n 0, 1) := by decide +kernel
theorem dX1_sew_19 : decode cX1_sew 19 = .ok (.getfield 119, 3) := by decide +kernel
theorem dX1_sew_22 : decode cX1_sew 22 = .ok (.bipush 20, 2) := by decide +kernel
theorem dX1_sew_24 : decode cX1_sew 24 = .ok (.if_icmp .eq 11, 3) := by decide +kernel
theorem dX1_sew_27 : decode cX1_sew 27 = .ok (.aload_n 0, 1) := by decide +kernel
theorem dX1_sew_28 : decode cX1_sew 28 = .ok (.iload_n 1, 1) := by decide +kernel
theorem dX1_sew_29 : decode cX1_sew 29 = .ok (.invokevirtual 122, 3) := by decide +kernel
theorem dX1_sew_32 : decode cX1_sew 32 = .ok (.ifCond .ne 9, 3) := by decide +kernel
theorem dX1_sew_35 : decode cX1_sew 35 = .ok (.aload_n 0, 1) := by decide +kernel
theorem dX1_sew_36 : decode cX1_sew 36 = .ok (.iconst 2, 1) := by decide +kernel
theorem dX1_sew_37 : decode cX1_sew 37 = .ok (.invokevirtual 52, 3) := by decide +kernel
theorem dX1_sew_40 : decode cX1_sew 40 = .ok (.ireturn, 1) := by decide +kernel
theorem dX1_sew_41 : decode cX1_sew 41 = .ok (.aload_n 0, 1) := by decide +kernel
theorem dX1_sew_42 : decode cX1_sew 42 = .ok (.iload_n 1, 1) := by decide +kernel
theorem dX1_sew_43 : decode cX1_sew 43 = .ok (.invokevirtual 110, 3) := by decide +kernel
theorem dX1_sew_46 : decode cX1_sew 46 = .ok (.istore_n 2, 1) := by decide +kernel
theorem dX1_sew_47 : decode cX1_sew 47 = .ok (.iconst 0, 1) := by decide +kernel
theorem dX1_sew_48 : decode cX1_sew 48 = .ok (.istore_n 3, 1) := by decide +kernel
theorem dX1_sew_49 : decode cX1_sew 49 = .ok (.iload_n 3, 1) := by decide +kernel
theorem dX1_sew_50 : decode cX1_sew 50 = .ok (.iconst 4, 1) := by decide +kernel
theorem dX1_sew_51 : decode cX1_sew 51 = .ok (.if_icmp .ge 24, 3) := by decide +kernel
theorem dX1_sew_54 : decode cX1_sew 54 = .ok (.aload_n 0, 1) := by decide +kernel
theorem dX1_sew_55 : decode cX1_sew 55 = .ok (.iload_n 1, 1) := by decide +kernel
theorem dX1_sew_56 : decode cX1_sew 56 = .ok (.iload_n 3, 1) := by decide +kernel
theorem dX1_sew_57 : decode cX1_sew 57 = .ok (.iload_n 3, 1) := by decide +kernel
theorem dX1_sew_58 : decode cX1_sew 58 = .ok (.ifCond .ne 7, 3) := by decide +kernel
theorem dX1_sew_61 : decode cX1_sew 61 = .ok (.iload_n 2, 1) := by decide +kernel
theorem dX1_sew_62 : decode cX1_sew 62 = .ok (.goto 4, 3) := by decide +kernel
theorem dX1_sew_65 : decode cX1_sew 65 = .ok (.iconst (-1), 1) := by decide +kernel
theorem dX1_sew_66 : decode cX1_sew 66 = .ok (.invokevirtual 125, 3) := by decide +kernel
theorem dX1_sew_69 : decode cX1_sew 69 = .ok (.iinc 3 1, 3) := by decide +kernel
theorem dX1_sew_72 : decode cX1_sew 72 = .ok (.goto (-23), 3) := by decide +kernel
theorem dX1_sew_75 : decode cX1_sew 75 = .ok (.iconst 0, 1) := by decide +kernel
theorem dX1_sew_76 : decode cX1_sew 76 = .ok (.istore_n 3, 1) := by decide +kernel
theorem dX1_sew_77 : decode cX1_sew 77 = .ok (.iconst 0, 1) := by decide +kernel
theorem dX1_sew_78 : decode cX1_sew 78 = .ok (.istore 4, 2) := by decide +kernel
theorem dX1_sew_80 : decode cX1_sew 80 = .ok (.iconst 0, 1) := by decide +kernel
theorem dX1_sew_81 : decode cX1_sew 81 = .ok (.istore 5, 2) := by decide +kernel
theorem dX1_sew_83 : decode cX1_sew 83 = .ok (.iload 5, 2) := by decide +kernel
theorem dX1_sew_85 : decode cX1_sew 85 = .ok (.aload_n 0, 1) := by decide +kernel
theorem dX1_sew_86 : decode cX1_sew 86 = .ok (.getfield 67, 3) := by decide +kernel
theorem dX1_sew_89 : decode cX1_sew 89 = .ok (.if_icmp .ge 50, 3) := by decide +kernel
theorem dX1_sew_92 : decode cX1_sew 92 = .ok (.aload_n 0, 1) := by decide +kernel
theorem dX1_sew_93 : decode cX1_sew 93 = .ok (.getfield 22, 3) := by decide +kernel
theorem dX1_sew_96 : decode cX1_sew 96 = .ok (.iload 5, 2) := by decide +kernel
theorem dX1_sew_98 : decode cX1_sew 98 = .ok (.iaload, 1) := by decide +kernel
theorem dX1_sew_99 : decode cX1_sew 99 = .ok (.aload_n 0, 1) := by decide +kernel
theorem dX1_sew_100 : decode cX1_sew 100 = .ok (.getfield 119, 3) := by decide +kernel
theorem dX1_sew_103 : decode cX1_sew 103 = .ok (.if_icmp .eq 6, 3) := by decide +kernel
theorem dX1_sew_106 : decode cX1_sew 106 = .ok (.goto 27, 3) := by decide +kernel
theorem dX1_sew_109 : decode cX1_sew 109 = .ok (.iload_n 3, 1) := by decide +kernel
theorem dX1_sew_110 : decode cX1_sew 110 = .ok (.iconst 1, 1) := by decide +kernel
theorem dX1_sew_111 : decode cX1_sew 111 = .ok (.aload_n 0, 1) := by decide +kernel
theorem dX1_sew_112 : decode cX1_sew 112 = .ok (.getfield 16, 3) := by decide +kernel
theorem dX1_sew_115 : decode cX1_sew 115 = .ok (.iload 5, 2) := by decide +kernel
theorem dX1_sew_117 : decode cX1_sew 117 = .ok (.iaload, 1) := by decide +kernel
theorem dX1_sew_118 : decode cX1_sew 118 = .ok (.ishl, 1) := by decide +kernel
theorem dX1_sew_119 : decode cX1_sew 119 = .ok (.ior, 1) := by decide +kernel
theorem dX1_sew_120 : decode cX1_sew 120 = .ok (.istore_n 3, 1) := by decide +kernel
theorem dX1_sew_121 : decode cX1_sew 121 = .ok (.iload 4, 2) := by decide +kernel
theorem dX1_sew_123 : decode cX1_sew 123 = .ok (.aload_n 0, 1) := by decide +kernel
theorem dX1_sew_124 : decode cX1_sew 124 = .ok (.getfield 25, 3) := by decide +kernel
theorem dX1_sew_127 : decode cX1_sew 127 = .ok (.iload 5, 2) := by decide +kernel
theorem dX1_sew_129 : decode cX1_sew 129 = .ok (.iaload, 1) := by decide +kernel
theorem dX1_sew_130 : decode cX1_sew 130 = .ok (.iadd, 1) := by decide +kernel
theorem dX1_sew_131 : decode cX1_sew 131 = .ok (.istore 4, 2) := by decide +kernel
theorem dX1_sew_133 : decode cX1_sew 133 = .ok (.iinc 5 1, 3) := by decide +kernel
theorem dX1_sew_136 : decode cX1_sew 136 = .ok (.goto (-53), 3) := by decide +kernel
theorem dX1_sew_139 : decode cX1_sew 139 = .ok (.iconst 5, 1) := by decide +kernel
theorem dX1_sew_140 : decode cX1_sew 140 = .ok (.newarray .int, 2) := by decide +kernel
theorem dX1_sew_142 : decode cX1_sew 142 = .ok (.dup, 1) := by decide +kernel
theorem dX1_sew_143 : decode cX1_sew 143 = .ok (.iconst 0, 1) := by decide +kernel
theorem dX1_sew_144 : decode cX1_sew 144 = .ok (.iload_n 1, 1) := by decide +kernel
theorem dX1_sew_145 : decode cX1_sew 145 = .ok (.iastore, 1) := by decide +kernel
theorem dX1_sew_146 : decode cX1_sew 146 = .ok (.dup, 1) := by decide +kernel
theorem dX1_sew_147 : decode cX1_sew 147 = .ok (.iconst 1, 1) := by decide +kernel
theorem dX1_sew_148 : decode cX1_sew 148 = .ok (.iload_n 2, 1) := by decide +kernel
theorem dX1_sew_149 : decode cX1_sew 149 = .ok (.iastore, 1) := by decide +kernel
theorem dX1_sew_150 : decode cX1_sew 150 = .ok (.dup, 1) := by decide +kernel
theorem dX1_sew_151 : decode cX1_sew 151 = .ok (.iconst 2, 1) := by decide +kernel
theorem dX1_sew_152 : decode cX1_sew 152 = .ok (.iload_n 3, 1) := by decide +kernel
theorem dX1_sew_153 : decode cX1_sew 153 = .ok (.invokestatic 129, 3) := by decide +kernel
theorem dX1_sew_156 : decode cX1_sew 156 = .ok (.iastore, 1) := by decide +kernel
theorem dX1_sew_157 : decode cX1_sew 157 = .ok (.dup, 1) := by decide +kernel
theorem dX1_sew_158 : decode cX1_sew 158 = .ok (.iconst 3, 1) := by decide +kernel
theorem dX1_sew_159 : decode cX1_sew 159 = .ok (.iload 4, 2) := by decide +kernel
theorem dX1_sew_161 : decode cX1_sew 161 = .ok (.iastore, 1) := by decide +kernel
theorem dX1_sew_162 : decode cX1_sew 162 = .ok (.dup, 1) := by decide +kernel
theorem dX1_sew_163 : decode cX1_sew 163 = .ok (.iconst 4, 1) := by decide +kernel
theorem dX1_sew_164 : decode cX1_sew 164 = .ok (.iconst 0, 1) := by decide +kernel
theorem dX1_sew_165 : decode cX1_sew 165 = .ok (.iastore, 1) := by decide +kernel
theorem dX1_sew_166 : decode cX1_sew 166 = .ok (.astore 5, 2) := by decide +kernel
theorem dX1_sew_168 : decode cX1_sew 168 = .ok (.aload 5, 2) := by decide +kernel
theorem dX1_sew_170 : decode cX1_sew 170 = .ok (.iconst 0, 1) := by decide +kernel
theorem dX1_sew_171 : decode cX1_sew 171 = .ok (.aload_n 0, 1) := by decide +kernel
theorem dX1_sew_172 : decode cX1_sew 172 = .ok (.getfield 28, 3) := by decide +kernel
theorem dX1_sew_175 : decode cX1_sew 175 = .ok (.iconst 5, 1) := by decide +kernel
theorem dX1_sew_176 : decode cX1_sew 176 = .ok (.aload_n 0, 1) := by decide +kernel
theorem dX1_sew_177 : decode cX1_sew 177 = .ok (.getfield 119, 3) := by decide +kernel
theorem dX1_sew_180 : decode cX1_sew 180 = .ok (.imul, 1) := by decide +kernel
theorem dX1_sew_181 : decode cX1_sew 181 = .ok (.iconst 5, 1) := by decide +kernel
theorem dX1_sew_182 : decode cX1_sew 182 = .ok (.invokestatic 134, 3) := by decide +kernel
theorem dX1_sew_185 : decode cX1_sew 185 = .ok (.aload_n 0, 1) := by decide +kernel
theorem dX1_sew_186 : decode cX1_sew 186 = .ok (.dup, 1) := by decide +kernel
theorem dX1_sew_187 : decode cX1_sew 187 = .ok (.getfield 119, 3) := by decide +kernel
theorem dX1_sew_190 : decode cX1_sew 190 = .ok (.iconst 1, 1) := by decide +kernel
theorem dX1_sew_191 : decode cX1_sew 191 = .ok (.iadd, 1) := by decide +kernel
theorem dX1_sew_192 : decode cX1_sew 192 = .ok (.putfield 119, 3) := by decide +kernel
theorem dX1_sew_195 : decode cX1_sew 195 = .ok (.aload_n 0, 1) := by decide +kernel
theorem dX1_sew_196 : decode cX1_sew 196 = .ok (.getfield 119, 3) := by decide +kernel
theorem dX1_sew_199 : decode cX1_sew 199 = .ok (.iconst 1, 1) := by decide +kernel
theorem dX1_sew_200 : decode cX1_sew 200 = .ok (.isub, 1) := by decide +kernel
theorem dX1_sew_201 : decode cX1_sew 201 = .ok (.ireturn, 1) := by decide +kernel
set_option maxRecDepth 20000 in
theorem ggX1_rip_X1_isIn : GoodIn wsX1_rip wsX1_isIn := goodIn_r _ [10] (by decide +kernel) (by decide +kernel)
set_option maxRecDepth 20000 in
theorem gX1_rip_X1_isIn : GoodIn wsX1_rip (va_wsS RX1 41 yX1_isIn wsX1_isIn) := goodIn_app (goodIn_of _ (by decide +kernel)) ggX1_rip_X1_isIn
set_option maxRecDepth 20000 in
theorem ggX1_rip_X1_no : GoodIn wsX1_rip wsX1_no := goodIn_r _ [14, 1, 15, 16, 17, 18, 19, 20, 21, 22, 23, 24, 25, 26] (by decide +kernel) (by decide +kernel)
set_option maxRecDepth 20000 in
theorem gX1_rip_X1_no : GoodIn wsX1_rip (wsV RX1 52 RX1 yX1_no wsX1_no) := goodIn_app (goodIn_of _ (by decide +kernel)) ggX1_rip_X1_no
theorem dX1_rip_0 : decode cX1_rip 0 = .ok (.aload_n 0, 1) := by decide +kernel
theorem dX1_rip_1 : decode cX1_rip 1 = .ok (.iconst 0, 1) := by decide +kernel
theorem dX1_rip_2 : decode cX1_rip 2 = .ok (.putfield 34, 3) := by decide +kernel
theorem dX1_rip_5 : decode cX1_rip 5 = .ok (.iload_n 1, 1) := by decide +kernel
theorem dX1_rip_6 : decode cX1_rip 6 = .ok (.iconst 0, 1) := by decide +kernel
theorem dX1_rip_7 : decode cX1_rip 7 = .ok (.aload_n 0, 1) := by decide +kernel
theorem dX1_rip_8 : decode cX1_rip 8 = .ok (.getfield 119, 3) := by decide +kernel
theorem dX1_rip_11 : decode cX1_rip 11 = .ok (.iconst 1, 1) := by decide +kernel
theorem dX1_rip_12 : decode cX1_rip 12 = .ok (.isub, 1) := by decide +kernel
theorem dX1_rip_13 : decode cX1_rip 13 = .ok (.invokestatic 41, 3) := by decide +kernel
theorem dX1_rip_16 : decode cX1_rip 16 = .ok (.ifCond .ne 9, 3) := by decide +kernel
theorem dX1_rip_19 : decode cX1_rip 19 = .ok (.aload_n 0, 1) := by decide +kernel
theorem dX1_rip_20 : decode cX1_rip 20 = .ok (.iconst 1, 1) := by decide +kernel
theorem dX1_rip_21 : decode cX1_rip 21 = .ok (.invokevirtual 52, 3) := by decide +kernel
theorem dX1_rip_24 : decode cX1_rip 24 = .ok (.ireturn, 1) := by decide +kernel
theorem dX1_rip_25 : decode cX1_rip 25 = .ok (.aload_n 0, 1) := by decide +kernel
theorem dX1_rip_26 : decode cX1_rip 26 = .ok (.getfield 28, 3) := by decide +kernel
theorem dX1_rip_29 : decode cX1_rip 29 = .ok (.iconst 5, 1) := by decide +kernel
theorem dX1_rip_30 : decode cX1_rip 30 = .ok (.iload_n 1, 1) := by decide +kernel
theorem dX1_rip_31 : decode cX1_rip 31 = .ok (.imul, 1) := by decide +kernel
theorem dX1_rip_32 : decode cX1_rip 32 = .ok (.iconst 4, 1) := by decide +kernel
theorem dX1_rip_33 : decode cX1_rip 33 = .ok (.iadd, 1) := by decide +kernel
theorem dX1_rip_34 : decode cX1_rip 34 = .ok (.iaload, 1) := by decide +kernel
theorem dX1_rip_35 : decode cX1_rip 35 = .ok (.iconst 1, 1) := by decide +kernel
theorem dX1_rip_36 : decode cX1_rip 36 = .ok (.if_icmp .ne 9, 3) := by decide +kernel
theorem dX1_rip_39 : decode cX1_rip 39 = .ok (.aload_n 0, 1) := by decide +kernel
theorem dX1_rip_40 : decode cX1_rip 40 = .ok (.iconst 2, 1) := by decide +kernel
theorem dX1_rip_41 : decode cX1_rip 41 = .ok (.invokevirtual 52, 3) := by decide +kernel
theorem dX1_rip_44 : decode cX1_rip 44 = .ok (.ireturn, 1) := by decide +kernel
theorem dX1_rip_45 : decode cX1_rip 45 = .ok (.aload_n 0, 1) := by decide +kernel
theorem dX1_rip_46 : decode cX1_rip 46 = .ok (.getfield 28, 3) := by decide +kernel
theorem dX1_rip_49 : decode cX1_rip 49 = .ok (.iconst 5, 1) := by decide +kernel
theorem dX1_rip_50 : decode cX1_rip 50 = .ok (.iload_n 1, 1) := by decide +kernel
theorem dX1_rip_51 : decode cX1_rip 51 = .ok (.imul, 1) := by decide +kernel
theorem dX1_rip_52 : decode cX1_rip 52 = .ok (.iconst 4, 1) := by decide +kernel
theorem dX1_rip_53 : decode cX1_rip 53 = .ok (.iadd, 1) := by decide +kernel
theorem dX1_rip_54 : decode cX1_rip 54 = .ok (.iconst 1, 1) := by decide +kernel
theorem dX1_rip_55 : decode cX1_rip 55 = .ok (.iastore, 1) := by decide +kernel
theorem dX1_rip_56 : decode cX1_rip 56 = .ok (.iconst 0, 1) := by decide +kernel
theorem dX1_rip_57 : decode cX1_rip 57 = .ok (.istore_n 2, 1) := by decide +kernel
theorem dX1_rip_58 : decode cX1_rip 58 = .ok (.iconst 0, 1) := by decide +kernel
theorem dX1_rip_59 : decode cX1_rip 59 = .ok (.istore_n 3, 1) := by decide +kernel
theorem dX1_rip_60 : decode cX1_rip 60 = .ok (.iload_n 3, 1) := by decide +kernel
theorem dX1_rip_61 : decode cX1_rip 61 = .ok (.aload_n 0, 1) := by decide +kernel
theorem dX1_rip_62 : decode cX1_rip 62 = .ok (.getfield 67, 3) := by decide +kernel
theorem dX1_rip_65 : decode cX1_rip 65 = .ok (.if_icmp .ge 62, 3) := by decide +kernel
theorem dX1_rip_68 : decode cX1_rip 68 = .ok (.aload_n 0, 1) := by decide +kernel
theorem dX1_rip_69 : decode cX1_rip 69 = .ok (.getfield 22, 3) := by decide +kernel
theorem dX1_rip_72 : decode cX1_rip 72 = .ok (.iload_n 3, 1) := by decide +kernel
theorem dX1_rip_73 : decode cX1_rip 73 = .ok (.iaload, 1) := by decide +kernel
theorem dX1_rip_74 : decode cX1_rip 74 = .ok (.iload_n 1, 1) := by decide +kernel
theorem dX1_rip_75 : decode cX1_rip 75 = .ok (.if_icmp .eq 6, 3) := by decide +kernel
theorem dX1_rip_78 : decode cX1_rip 78 = .ok (.goto 43, 3) := by decide +kernel
theorem dX1_rip_81 : decode cX1_rip 81 = .ok (.aload_n 0, 1) := by decide +kernel
theorem dX1_rip_82 : decode cX1_rip 82 = .ok (.getfield 22, 3) := by decide +kernel
theorem dX1_rip_85 : decode cX1_rip 85 = .ok (.iload_n 3, 1) := by decide +kernel
theorem dX1_rip_86 : decode cX1_rip 86 = .ok (.aload_n 0, 1) := by decide +kernel
theorem dX1_rip_87 : decode cX1_rip 87 = .ok (.getfield 19, 3) := by decide +kernel
theorem dX1_rip_90 : decode cX1_rip 90 = .ok (.iload_n 3, 1) := by decide +kernel
theorem dX1_rip_91 : decode cX1_rip 91 = .ok (.iaload, 1) := by decide +kernel
theorem dX1_rip_92 : decode cX1_rip 92 = .ok (.iconst 2, 1) := by decide +kernel
theorem dX1_rip_93 : decode cX1_rip 93 = .ok (.if_icmp .ne 8, 3) := by decide +kernel
theorem dX1_rip_96 : decode cX1_rip 96 = .ok (.bipush (-2), 2) := by decide +kernel
theorem dX1_rip_98 : decode cX1_rip 98 = .ok (.goto 4, 3) := by decide +kernel
theorem dX1_rip_101 : decode cX1_rip 101 = .ok (.iconst (-1), 1) := by decide +kernel
theorem dX1_rip_102 : decode cX1_rip 102 = .ok (.iastore, 1) := by decide +kernel
theorem dX1_rip_103 : decode cX1_rip 103 = .ok (.iload_n 2, 1) := by decide +kernel
theorem dX1_rip_104 : decode cX1_rip 104 = .ok (.aload_n 0, 1) := by decide +kernel
theorem dX1_rip_105 : decode cX1_rip 105 = .ok (.getfield 19, 3) := by decide +kernel
theorem dX1_rip_108 : decode cX1_rip 108 = .ok (.iload_n 3, 1) := by decide +kernel
theorem dX1_rip_109 : decode cX1_rip 109 = .ok (.iaload, 1) := by decide +kernel
theorem dX1_rip_110 : decode cX1_rip 110 = .ok (.iconst 2, 1) := by decide +kernel
theorem dX1_rip_111 : decode cX1_rip 111 = .ok (.if_icmp .ne 7, 3) := by decide +kernel
theorem dX1_rip_114 : decode cX1_rip 114 = .ok (.iconst 0, 1) := by decide +kernel
theorem dX1_rip_115 : decode cX1_rip 115 = .ok (.goto 4, 3) := by decide +kernel
theorem dX1_rip_118 : decode cX1_rip 118 = .ok (.iconst 1, 1) := by decide +kernel
theorem dX1_rip_119 : decode cX1_rip 119 = .ok (.iadd, 1) := by decide +kernel
theorem dX1_rip_120 : decode cX1_rip 120 = .ok (.istore_n 2, 1) := by decide +kernel
theorem dX1_rip_121 : decode cX1_rip 121 = .ok (.iinc 3 1, 3) := by decide +kernel
theorem dX1_rip_124 : decode cX1_rip 124 = .ok (.goto (-64), 3) := by decide +kernel
theorem dX1_rip_127 : decode cX1_rip 127 = .ok (.iload_n 2, 1) := by decide +kernel
theorem dX1_rip_128 : decode cX1_rip 128 = .ok (.ireturn, 1) := by decide +kernel
set_option maxRecDepth 20000 in
theorem ggX1_pair_X1_isIn : GoodIn wsX1_pair wsX1_isIn := goodIn_r _ [7] (by decide +kernel) (by decide +kernel)
set_option maxRecDepth 20000 in
theorem gX1_pair_X1_isIn : GoodIn wsX1_pair (va_wsS RX1 41 yX1_isIn wsX1_isIn) := goodIn_app (goodIn_of _ (by decide +kernel)) ggX1_pair_X1_isIn
set_option maxRecDepth 20000 in
theorem ggX1_pair_X1_no : GoodIn wsX1_pair wsX1_no := goodIn_r _ [11, 1, 12, 13, 14, 15, 16, 17, 18, 19, 20, 21, 22, 23] (by decide +kernel) (by decide +kernel)
set_option maxRecDepth 20000 in
theorem gX1_pair_X1_no : GoodIn wsX1_pair (wsV RX1 52 RX1 yX1_no wsX1_no) := goodIn_app (goodIn_of _ (by decide +kernel)) ggX1_pair_X1_no
theorem dX1_pair_0 : decode cX1_pair 0 = .ok (.aload_n 0, 1) := by decide +kernel
theorem dX1_pair_1 : decode cX1_pair 1 = .ok (.iconst 0, 1) := by decide +kernel
theorem dX1_pair_2 : decode cX1_pair 2 = .ok (.putfield 34, 3) := by decide +kernel
theorem dX1_pair_5 : decode cX1_pair 5 = .ok (.iload_n 1, 1) := by decide +kernel
theorem dX1_pair_6 : decode cX1_pair 6 = .ok (.iconst 0, 1) := by decide +kernel
theorem dX1_pair_7 : decode cX1_pair 7 = .ok (.aload_n 0, 1) := by decide +kernel
theorem dX1_pair_8 : decode cX1_pair 8 = .ok (.getfield 119, 3) := by decide +kernel
theorem dX1_pair_11 : decode cX1_pair 11 = .ok (.iconst 1, 1) := by decide +kernel
theorem dX1_pair_12 : decode cX1_pair 12 = .ok (.isub, 1) := by decide +kernel
theorem dX1_pair_13 : decode cX1_pair 13 = .ok (.invokestatic 41, 3) := by decide +kernel
theorem dX1_pair_16 : decode cX1_pair 16 = .ok (.ifCond .eq 25, 3) := by decide +kernel
theorem dX1_pair_19 : decode cX1_pair 19 = .ok (.iload_n 2, 1) := by decide +kernel
theorem dX1_pair_20 : decode cX1_pair 20 = .ok (.iconst 0, 1) := by decide +kernel
theorem dX1_pair_21 : decode cX1_pair 21 = .ok (.iconst 4, 1) := by decide +kernel
theorem dX1_pair_22 : decode cX1_pair 22 = .ok (.invokestatic 41, 3) := by decide +kernel
theorem dX1_pair_25 : decode cX1_pair 25 = .ok (.ifCond .eq 16, 3) := by decide +kernel
theorem dX1_pair_28 : decode cX1_pair 28 = .ok (.aload_n 0, 1) := by decide +kernel
theorem dX1_pair_29 : decode cX1_pair 29 = .ok (.getfield 28, 3) := by decide +kernel
theorem dX1_pair_32 : decode cX1_pair 32 = .ok (.iconst 5, 1) := by decide +kernel
theorem dX1_pair_33 : decode cX1_pair 33 = .ok (.iload_n 1, 1) := by decide +kernel
theorem dX1_pair_34 : decode cX1_pair 34 = .ok (.imul, 1) := by decide +kernel
theorem dX1_pair_35 : decode cX1_pair 35 = .ok (.iload_n 2, 1) := by decide +kernel
theorem dX1_pair_36 : decode cX1_pair 36 = .ok (.iadd, 1) := by decide +kernel
theorem dX1_pair_37 : decode cX1_pair 37 = .ok (.iaload, 1) := by decide +kernel
theorem dX1_pair_38 : decode cX1_pair 38 = .ok (.goto 8, 3) := by decide +kernel
theorem dX1_pair_41 : decode cX1_pair 41 = .ok (.aload_n 0, 1) := by decide +kernel
theorem dX1_pair_42 : decode cX1_pair 42 = .ok (.iconst 1, 1) := by decide +kernel
theorem dX1_pair_43 : decode cX1_pair 43 = .ok (.invokevirtual 52, 3) := by decide +kernel
theorem dX1_pair_46 : decode cX1_pair 46 = .ok (.ireturn, 1) := by decide +kernel
theorem dX1_counted_0 : decode cX1_counted 0 = .ok (.iconst 3, 1) := by decide +kernel
theorem dX1_counted_1 : decode cX1_counted 1 = .ok (.newarray .int, 2) := by decide +kernel
theorem dX1_counted_3 : decode cX1_counted 3 = .ok (.astore_n 2, 1) := by decide +kernel
theorem dX1_counted_4 : decode cX1_counted 4 = .ok (.iconst 0, 1) := by decide +kernel
theorem dX1_counted_5 : decode cX1_counted 5 = .ok (.istore_n 3, 1) := by decide +kernel
theorem dX1_counted_6 : decode cX1_counted 6 = .ok (.iconst 0, 1) := by decide +kernel
theorem dX1_counted_7 : decode cX1_counted 7 = .ok (.istore 4, 2) := by decide +kernel
theorem dX1_counted_9 : decode cX1_counted 9 = .ok (.iload 4, 2) := by decide +kernel
theorem dX1_counted_11 : decode cX1_counted 11 = .ok (.aload_n 0, 1) := by decide +kernel
theorem dX1_counted_12 : decode cX1_counted 12 = .ok (.getfield 67, 3) := by decide +kernel
theorem dX1_counted_15 : decode cX1_counted 15 = .ok (.if_icmp .ge 47, 3) := by decide +kernel
theorem dX1_counted_18 : decode cX1_counted 18 = .ok (.aload_n 2, 1) := by decide +kernel
theorem dX1_counted_19 : decode cX1_counted 19 = .ok (.aload_n 0, 1) := by decide +kernel
theorem dX1_counted_20 : decode cX1_counted 20 = .ok (.getfield 22, 3) := by decide +kernel
theorem dX1_counted_23 : decode cX1_counted 23 = .ok (.iload 4, 2) := by decide +kernel
theorem dX1_counted_25 : decode cX1_counted 25 = .ok (.iaload, 1) := by decide +kernel
theorem dX1_counted_26 : decode cX1_counted 26 = .ok (.iconst (-1), 1) := by decide +kernel
theorem dX1_counted_27 : decode cX1_counted 27 = .ok (.if_icmp .ne 7, 3) := by decide +kernel
theorem dX1_counted_30 : decode cX1_counted 30 = .ok (.iconst 0, 1) := by decide +kernel
theorem dX1_counted_31 : decode cX1_counted 31 = .ok (.goto 20, 3) := by decide +kernel
theorem dX1_counted_34 : decode cX1_counted 34 = .ok (.aload_n 0, 1) := by decide +kernel
theorem dX1_counted_35 : decode cX1_counted 35 = .ok (.getfield 22, 3) := by decide +kernel
theorem dX1_counted_38 : decode cX1_counted 38 = .ok (.iload 4, 2) := by decide +kernel
theorem dX1_counted_40 : decode cX1_counted 40 = .ok (.iaload, 1) := by decide +kernel
theorem dX1_counted_41 : decode cX1_counted 41 = .ok (.bipush (-2), 2) := by decide +kernel
theorem dX1_counted_43 : decode cX1_counted 43 = .ok (.if_icmp .ne 7, 3) := by decide +kernel
theorem dX1_counted_46 : decode cX1_counted 46 = .ok (.iconst 2, 1) := by decide +kernel
theorem dX1_counted_47 : decode cX1_counted 47 = .ok (.goto 4, 3) := by decide +kernel
theorem dX1_counted_50 : decode cX1_counted 50 = .ok (.iconst 1, 1) := by decide +kernel
theorem dX1_counted_51 : decode cX1_counted 51 = .ok (.dup2, 1) := by decide +kernel
theorem dX1_counted_52 : decode cX1_counted 52 = .ok (.iaload, 1) := by decide +kernel
theorem dX1_counted_53 : decode cX1_counted 53 = .ok (.iconst 1, 1) := by decide +kernel
theorem dX1_counted_54 : decode cX1_counted 54 = .ok (.iadd, 1) := by decide +kernel
theorem dX1_counted_55 : decode cX1_counted 55 = .ok (.iastore, 1) := by decide +kernel
theorem dX1_counted_56 : decode cX1_counted 56 = .ok (.iinc 4 1, 3) := by decide +kernel
theorem dX1_counted_59 : decode cX1_counted 59 = .ok (.goto (-50), 3) := by decide +kernel
theorem dX1_counted_62 : decode cX1_counted 62 = .ok (.iconst 0, 1) := by decide +kernel
theorem dX1_counted_63 : decode cX1_counted 63 = .ok (.istore 4, 2) := by decide +kernel
theorem dX1_counted_65 : decode cX1_counted 65 = .ok (.iload 4, 2) := by decide +kernel
theorem dX1_counted_67 : decode cX1_counted 67 = .ok (.aload_n 0, 1) := by decide +kernel
theorem dX1_counted_68 : decode cX1_counted 68 = .ok (.getfield 119, 3) := by decide +kernel
theorem dX1_counted_71 : decode cX1_counted 71 = .ok (.if_icmp .ge 25, 3) := by decide +kernel
theorem dX1_counted_74 : decode cX1_counted 74 = .ok (.iload_n 3, 1) := by decide +kernel
theorem dX1_counted_75 : decode cX1_counted 75 = .ok (.iconst 1, 1) := by decide +kernel
theorem dX1_counted_76 : decode cX1_counted 76 = .ok (.aload_n 0, 1) := by decide +kernel
theorem dX1_counted_77 : decode cX1_counted 77 = .ok (.getfield 28, 3) := by decide +kernel
theorem dX1_counted_80 : decode cX1_counted 80 = .ok (.iconst 5, 1) := by decide +kernel
theorem dX1_counted_81 : decode cX1_counted 81 = .ok (.iload 4, 2) := by decide +kernel
theorem dX1_counted_83 : decode cX1_counted 83 = .ok (.imul, 1) := by decide +kernel
theorem dX1_counted_84 : decode cX1_counted 84 = .ok (.iconst 4, 1) := by decide +kernel
theorem dX1_counted_85 : decode cX1_counted 85 = .ok (.iadd, 1) := by decide +kernel
theorem dX1_counted_86 : decode cX1_counted 86 = .ok (.iaload, 1) := by decide +kernel
theorem dX1_counted_87 : decode cX1_counted 87 = .ok (.isub, 1) := by decide +kernel
theorem dX1_counted_88 : decode cX1_counted 88 = .ok (.iadd, 1) := by decide +kernel
theorem dX1_counted_89 : decode cX1_counted 89 = .ok (.istore_n 3, 1) := by decide +kernel
theorem dX1_counted_90 : decode cX1_counted 90 = .ok (.iinc 4 1, 3) := by decide +kernel
theorem dX1_counted_93 : decode cX1_counted 93 = .ok (.goto (-28), 3) := by decide +kernel
theorem dX1_counted_96 : decode cX1_counted 96 = .ok (.bipush 7, 2) := by decide +kernel
theorem dX1_counted_98 : decode cX1_counted 98 = .ok (.newarray .int, 2) := by decide +kernel
theorem dX1_counted_100 : decode cX1_counted 100 = .ok (.dup, 1) := by decide +kernel
theorem dX1_counted_101 : decode cX1_counted 101 = .ok (.iconst 0, 1) := by decide +kernel
theorem dX1_counted_102 : decode cX1_counted 102 = .ok (.aload_n 0, 1) := by decide +kernel
theorem dX1_counted_103 : decode cX1_counted 103 = .ok (.getfield 38, 3) := by decide +kernel
theorem dX1_counted_106 : decode cX1_counted 106 = .ok (.iastore, 1) := by decide +kernel
theorem dX1_counted_107 : decode cX1_counted 107 = .ok (.dup, 1) := by decide +kernel
theorem dX1_counted_108 : decode cX1_counted 108 = .ok (.iconst 1, 1) := by decide +kernel
theorem dX1_counted_109 : decode cX1_counted 109 = .ok (.aload_n 0, 1) := by decide +kernel
theorem dX1_counted_110 : decode cX1_counted 110 = .ok (.getfield 67, 3) := by decide +kernel
theorem dX1_counted_113 : decode cX1_counted 113 = .ok (.iastore, 1) := by decide +kernel
theorem dX1_counted_114 : decode cX1_counted 114 = .ok (.dup, 1) := by decide +kernel
theorem dX1_counted_115 : decode cX1_counted 115 = .ok (.iconst 2, 1) := by decide +kernel
theorem dX1_counted_116 : decode cX1_counted 116 = .ok (.aload_n 2, 1) := by decide +kernel
theorem dX1_counted_117 : decode cX1_counted 117 = .ok (.iconst 0, 1) := by decide +kernel
theorem dX1_counted_118 : decode cX1_counted 118 = .ok (.iaload, 1) := by decide +kernel
theorem dX1_counted_119 : decode cX1_counted 119 = .ok (.iastore, 1) := by decide +kernel
theorem dX1_counted_120 : decode cX1_counted 120 = .ok (.dup, 1) := by decide +kernel
theorem dX1_counted_121 : decode cX1_counted 121 = .ok (.iconst 3, 1) := by decide +kernel
theorem dX1_counted_122 : decode cX1_counted 122 = .ok (.aload_n 2, 1) := by decide +kernel
theorem dX1_counted_123 : decode cX1_counted 123 = .ok (.iconst 1, 1) := by decide +kernel
theorem dX1_counted_124 : decode cX1_counted 124 = .ok (.iaload, 1) := by decide +kernel
theorem dX1_counted_125 : decode cX1_counted 125 = .ok (.iastore, 1) := by decide +kernel
theorem dX1_counted_126 : decode cX1_counted 126 = .ok (.dup, 1) := by decide +kernel
theorem dX1_counted_127 : decode cX1_counted 127 = .ok (.iconst 4, 1) := by decide +kernel
theorem dX1_counted_128 : decode cX1_counted 128 = .ok (.aload_n 2, 1) := by decide +kernel
theorem dX1_counted_129 : decode cX1_counted 129 = .ok (.iconst 2, 1) := by decide +kernel
theorem dX1_counted_130 : decode cX1_counted 130 = .ok (.iaload, 1) := by decide +kernel
theorem dX1_counted_131 : decode cX1_counted 131 = .ok (.iastore, 1) := by decide +kernel
theorem dX1_counted_132 : decode cX1_counted 132 = .ok (.dup, 1) := by decide +kernel
theorem dX1_counted_133 : decode cX1_counted 133 = .ok (.iconst 5, 1) := by decide +kernel
theorem dX1_counted_134 : decode cX1_counted 134 = .ok (.aload_n 0, 1) := by decide +kernel
theorem dX1_counted_135 : decode cX1_counted 135 = .ok (.getfield 119, 3) := by decide +kernel
theorem dX1_counted_138 : decode cX1_counted 138 = .ok (.iastore, 1) := by decide +kernel
theorem dX1_counted_139 : decode cX1_counted 139 = .ok (.dup, 1) := by decide +kernel
theorem dX1_counted_140 : decode cX1_counted 140 = .ok (.bipush 6, 2) := by decide +kernel
theorem dX1_counted_142 : decode cX1_counted 142 = .ok (.iload_n 3, 1) := by decide +kernel
theorem dX1_counted_143 : decode cX1_counted 143 = .ok (.iastore, 1) := by decide +kernel
theorem dX1_counted_144 : decode cX1_counted 144 = .ok (.astore 4, 2) := by decide +kernel
theorem dX1_counted_146 : decode cX1_counted 146 = .ok (.aload 4, 2) := by decide +kernel
theorem dX1_counted_148 : decode cX1_counted 148 = .ok (.iload_n 1, 1) := by decide +kernel
theorem dX1_counted_149 : decode cX1_counted 149 = .ok (.iaload, 1) := by decide +kernel
theorem dX1_counted_150 : decode cX1_counted 150 = .ok (.ireturn, 1) := by decide +kernel
set_option maxRecDepth 20000 in
theorem ggX1_count_X1_isIn : GoodIn wsX1_count wsX1_isIn := goodIn_r _ [5] (by decide +kernel) (by decide +kernel)
set_option maxRecDepth 20000 in
theorem gX1_count_X1_isIn : GoodIn wsX1_count (va_wsS RX1 41 yX1_isIn wsX1_isIn) := goodIn_app (goodIn_of _ (by decide +kernel)) ggX1_count_X1_isIn
set_option maxRecDepth 20000 in
theorem ggX1_count_X1_counted : GoodIn wsX1_count wsX1_counted := goodIn_r _ [9, 10, 11, 12, 13, 14, 15, 20, 21, 22, 23, 24, 25, 26, 27, 28, 29, 30, 31] (by decide +kernel) (by decide +kernel)
set_option maxRecDepth 20000 in
theorem gX1_count_X1_counted : GoodIn wsX1_count (wsV RX1 140 RX1 yX1_counted wsX1_counted) := goodIn_app (goodIn_of _ (by decide +kernel)) ggX1_count_X1_counted
set_option maxRecDepth 20000 in
theorem ggX1_count_X1_no : GoodIn wsX1_count wsX1_no := goodIn_r _ [19, 1, 20, 21, 22, 23, 24, 25, 26, 27, 28, 29, 30, 31] (by decide +kernel) (by decide +kernel)
set_option maxRecDepth 20000 in
theorem gX1_count_X1_no : GoodIn wsX1_count (wsV RX1 52 RX1 yX1_no wsX1_no) := goodIn_app (goodIn_of _ (by decide +kernel)) ggX1_count_X1_no
theorem dX1_count_0 : decode cX1_count 0 = .ok (.aload_n 0, 1) := by decide +kernel
theorem dX1_count_1 : decode cX1_count 1 = .ok (.iconst 0, 1) := by decide +kernel
theorem dX1_count_2 : decode cX1_count 2 = .ok (.putfield 34, 3) := by decide +kernel
theorem dX1_count_5 : decode cX1_count 5 = .ok (.iload_n 1, 1) := by decide +kernel
theorem dX1_count_6 : decode cX1_count 6 = .ok (.iconst 0, 1) := by decide +kernel
theorem dX1_count_7 : decode cX1_count 7 = .ok (.bipush 6, 2) := by decide +kernel
theorem dX1_count_9 : decode cX1_count 9 = .ok (.invokestatic 41, 3) := by decide +kernel
theorem dX1_count_12 : decode cX1_count 12 = .ok (.ifCond .eq 11, 3) := by decide +kernel
theorem dX1_count_15 : decode cX1_count 15 = .ok (.aload_n 0, 1) := by decide +kernel
theorem dX1_count_16 : decode cX1_count 16 = .ok (.iload_n 1, 1) := by decide +kernel
theorem dX1_count_17 : decode cX1_count 17 = .ok (.invokevirtual 140, 3) := by decide +kernel
theorem dX1_count_20 : decode cX1_count 20 = .ok (.goto 8, 3) := by decide +kernel
theorem dX1_count_23 : decode cX1_count 23 = .ok (.aload_n 0, 1) := by decide +kernel
theorem dX1_count_24 : decode cX1_count 24 = .ok (.iconst 1, 1) := by decide +kernel
theorem dX1_count_25 : decode cX1_count 25 = .ok (.invokevirtual 52, 3) := by decide +kernel
theorem dX1_count_28 : decode cX1_count 28 = .ok (.ireturn, 1) := by decide +kernel
set_option maxRecDepth 20000 in
theorem ggX1_given_X1_first : GoodIn wsX1_given wsX1_first := goodIn_r _ [10, 11, 12, 9, 13, 14, 15, 16, 17, 18, 19, 20, 21, 22, 23, 24] (by decide +kernel) (by decide +kernel)
set_option maxRecDepth 20000 in
theorem gX1_given_X1_first : GoodIn wsX1_given (va_wsS RX1 97 yX1_first wsX1_first) := goodIn_app (goodIn_of _ (by decide +kernel)) ggX1_given_X1_first
set_option maxRecDepth 20000 in
theorem ggX1_given_X1_wideOf : GoodIn wsX1_given wsX1_wideOf := goodIn_r _ [16, 17, 18] (by decide +kernel) (by decide +kernel)
set_option maxRecDepth 20000 in
theorem gX1_given_X1_wideOf : GoodIn wsX1_given (va_wsS RX1 83 yX1_wideOf wsX1_wideOf) := goodIn_app (goodIn_of _ (by decide +kernel)) ggX1_given_X1_wideOf
set_option maxRecDepth 20000 in
theorem ggX1_given_X1_highOf : GoodIn wsX1_given wsX1_highOf := goodIn_r _ [21, 18, 17] (by decide +kernel) (by decide +kernel)
set_option maxRecDepth 20000 in
theorem gX1_given_X1_highOf : GoodIn wsX1_given (va_wsS RX1 87 yX1_highOf wsX1_highOf) := goodIn_app (goodIn_of _ (by decide +kernel)) ggX1_given_X1_highOf
set_option maxRecDepth 20000 in
theorem ggX1_given_X1_fill : GoodIn wsX1_given wsX1_fill := goodIn_r _ [27] (by decide +kernel) (by decide +kernel)
set_option maxRecDepth 20000 in
theorem gX1_given_X1_fill : GoodIn wsX1_given (va_wsS RX1 63 yX1_fill wsX1_fill) := goodIn_app (goodIn_of _ (by decide +kernel)) ggX1_given_X1_fill
theorem dX1_given_0 : decode cX1_given 0 = .ok (.aload_n 0, 1) := by decide +kernel
theorem dX1_given_1 : decode cX1_given 1 = .ok (.getfield 13, 3) := by decide +kernel
theorem dX1_given_4 : decode cX1_given 4 = .ok (.bipush 96, 2) := by decide +kernel
theorem dX1_given_6 : decode cX1_given 6 = .ok (.iload_n 1, 1) := by decide +kernel
theorem dX1_given_7 : decode cX1_given 7 = .ok (.imul, 1) := by decide +kernel
theorem dX1_given_8 : decode cX1_given 8 = .ok (.aload_n 0, 1) := by decide +kernel
theorem dX1_given_9 : decode cX1_given 9 = .ok (.getfield 31, 3) := by decide +kernel
theorem dX1_given_12 : decode cX1_given 12 = .ok (.iconst 0, 1) := by decide +kernel
theorem dX1_given_13 : decode cX1_given 13 = .ok (.bipush 96, 2) := by decide +kernel
theorem dX1_given_15 : decode cX1_given 15 = .ok (.invokestatic 134, 3) := by decide +kernel
theorem dX1_given_18 : decode cX1_given 18 = .ok (.iconst 0, 1) := by decide +kernel
theorem dX1_given_19 : decode cX1_given 19 = .ok (.istore 4, 2) := by decide +kernel
theorem dX1_given_21 : decode cX1_given 21 = .ok (.aload_n 0, 1) := by decide +kernel
theorem dX1_given_22 : decode cX1_given 22 = .ok (.getfield 31, 3) := by decide +kernel
theorem dX1_given_25 : decode cX1_given 25 = .ok (.iconst 0, 1) := by decide +kernel
theorem dX1_given_26 : decode cX1_given 26 = .ok (.iload_n 2, 1) := by decide +kernel
theorem dX1_given_27 : decode cX1_given 27 = .ok (.iload_n 3, 1) := by decide +kernel
theorem dX1_given_28 : decode cX1_given 28 = .ok (.invokestatic 97, 3) := by decide +kernel
theorem dX1_given_31 : decode cX1_given 31 = .ok (.istore 5, 2) := by decide +kernel
theorem dX1_given_33 : decode cX1_given 33 = .ok (.iload 5, 2) := by decide +kernel
theorem dX1_given_35 : decode cX1_given 35 = .ok (.iconst (-1), 1) := by decide +kernel
theorem dX1_given_36 : decode cX1_given 36 = .ok (.if_icmp .eq 41, 3) := by decide +kernel
theorem dX1_given_39 : decode cX1_given 39 = .ok (.aload_n 0, 1) := by decide +kernel
theorem dX1_given_40 : decode cX1_given 40 = .ok (.getfield 31, 3) := by decide +kernel
theorem dX1_given_43 : decode cX1_given 43 = .ok (.iload 5, 2) := by decide +kernel
theorem dX1_given_45 : decode cX1_given 45 = .ok (.iload_n 2, 1) := by decide +kernel
theorem dX1_given_46 : decode cX1_given 46 = .ok (.iload_n 3, 1) := by decide +kernel
theorem dX1_given_47 : decode cX1_given 47 = .ok (.invokestatic 83, 3) := by decide +kernel
theorem dX1_given_50 : decode cX1_given 50 = .ok (.iload_n 2, 1) := by decide +kernel
theorem dX1_given_51 : decode cX1_given 51 = .ok (.iload_n 3, 1) := by decide +kernel
theorem dX1_given_52 : decode cX1_given 52 = .ok (.invokestatic 87, 3) := by decide +kernel
theorem dX1_given_55 : decode cX1_given 55 = .ok (.iconst 3, 1) := by decide +kernel
theorem dX1_given_56 : decode cX1_given 56 = .ok (.invokestatic 63, 3) := by decide +kernel
theorem dX1_given_59 : decode cX1_given 59 = .ok (.iinc 4 1, 3) := by decide +kernel
theorem dX1_given_62 : decode cX1_given 62 = .ok (.aload_n 0, 1) := by decide +kernel
theorem dX1_given_63 : decode cX1_given 63 = .ok (.getfield 31, 3) := by decide +kernel
theorem dX1_given_66 : decode cX1_given 66 = .ok (.iconst 0, 1) := by decide +kernel
theorem dX1_given_67 : decode cX1_given 67 = .ok (.iload_n 2, 1) := by decide +kernel
theorem dX1_given_68 : decode cX1_given 68 = .ok (.iload_n 3, 1) := by decide +kernel
theorem dX1_given_69 : decode cX1_given 69 = .ok (.invokestatic 97, 3) := by decide +kernel
theorem dX1_given_72 : decode cX1_given 72 = .ok (.istore 5, 2) := by decide +kernel
theorem dX1_given_74 : decode cX1_given 74 = .ok (.goto (-41), 3) := by decide +kernel
theorem dX1_given_77 : decode cX1_given 77 = .ok (.iload 4, 2) := by decide +kernel
theorem dX1_given_79 : decode cX1_given 79 = .ok (.ireturn, 1) := by decide +kernel
set_option maxRecDepth 20000 in
theorem ggX1_gives_X1_isSkin : GoodIn wsX1_gives wsX1_isSkin := goodIn_r _ [6, 7, 8, 9, 5, 10, 48, 49, 50, 51, 52, 53, 54, 55, 56, 57, 58, 59] (by decide +kernel) (by decide +kernel)
set_option maxRecDepth 20000 in
theorem gX1_gives_X1_isSkin : GoodIn wsX1_gives (wsV RX1 45 RX1 yX1_isSkin wsX1_isSkin) := goodIn_app (goodIn_of _ (by decide +kernel)) ggX1_gives_X1_isSkin
set_option maxRecDepth 20000 in
theorem ggX1_gives_X1_no : GoodIn wsX1_gives wsX1_no := goodIn_r _ [14, 1, 48, 49, 50, 51, 52, 53, 54, 55, 56, 57, 58, 59] (by decide +kernel) (by decide +kernel)
set_option maxRecDepth 20000 in
theorem gX1_gives_X1_no : GoodIn wsX1_gives (wsV RX1 52 RX1 yX1_no wsX1_no) := goodIn_app (goodIn_of _ (by decide +kernel)) ggX1_gives_X1_no
set_option maxRecDepth 20000 in
theorem ggX1_gives_X1_isKind : GoodIn wsX1_gives wsX1_isKind := goodIn_r _ [17, 8, 9, 5, 10] (by decide +kernel) (by decide +kernel)
set_option maxRecDepth 20000 in
theorem gX1_gives_X1_isKind : GoodIn wsX1_gives (va_wsS RX1 94 yX1_isKind wsX1_isKind) := goodIn_app (goodIn_of _ (by decide +kernel)) ggX1_gives_X1_isKind
set_option maxRecDepth 20000 in
theorem ggX1_gives_X1_given : GoodIn wsX1_gives wsX1_given := goodIn_r _ [21, 22, 23, 24, 25, 26, 27, 28, 29, 5, 30, 31, 32, 33, 34, 35, 36, 37, 38, 39, 40, 41, 42, 43, 44, 45, 46, 47, 48, 49, 50, 51, 52, 53, 54, 55, 56, 57, 58, 59] (by decide +kernel) (by decide +kernel)
set_option maxRecDepth 20000 in
theorem gX1_gives_X1_given : GoodIn wsX1_gives (wsV RX1 143 RX1 yX1_given wsX1_given) := goodIn_app (goodIn_of _ (by decide +kernel)) ggX1_gives_X1_given
theorem dX1_gives_0 : decode cX1_gives 0 = .ok (.aload_n 0, 1) := by decide +kernel
theorem dX1_gives_1 : decode cX1_gives 1 = .ok (.iconst 0, 1) := by decide +kernel
theorem dX1_gives_2 : decode cX1_gives 2 = .ok (.putfield 34, 3) := by decide +kernel
theorem dX1_gives_5 : decode cX1_gives 5 = .ok (.aload_n 0, 1) := by decide +kernel
theorem dX1_gives_6 : decode cX1_gives 6 = .ok (.iload_n 1, 1) := by decide +kernel
theorem dX1_gives_7 : decode cX1_gives 7 = .ok (.invokevirtual 45, 3) := by decide +kernel
theorem dX1_gives_10 : decode cX1_gives 10 = .ok (.ifCond .ne 9, 3) := by decide +kernel
theorem dX1_gives_13 : decode cX1_gives 13 = .ok (.aload_n 0, 1) := by decide +kernel
theorem dX1_gives_14 : decode cX1_gives 14 = .ok (.iconst 1, 1) := by decide +kernel
theorem dX1_gives_15 : decode cX1_gives 15 = .ok (.invokevirtual 52, 3) := by decide +kernel
theorem dX1_gives_18 : decode cX1_gives 18 = .ok (.ireturn, 1) := by decide +kernel
theorem dX1_gives_19 : decode cX1_gives 19 = .ok (.iload_n 2, 1) := by decide +kernel
theorem dX1_gives_20 : decode cX1_gives 20 = .ok (.invokestatic 94, 3) := by decide +kernel
theorem dX1_gives_23 : decode cX1_gives 23 = .ok (.ifCond .eq 13, 3) := by decide +kernel
theorem dX1_gives_26 : decode cX1_gives 26 = .ok (.aload_n 0, 1) := by decide +kernel
theorem dX1_gives_27 : decode cX1_gives 27 = .ok (.iload_n 1, 1) := by decide +kernel
theorem dX1_gives_28 : decode cX1_gives 28 = .ok (.iload_n 2, 1) := by decide +kernel
theorem dX1_gives_29 : decode cX1_gives 29 = .ok (.iload_n 3, 1) := by decide +kernel
theorem dX1_gives_30 : decode cX1_gives 30 = .ok (.invokevirtual 143, 3) := by decide +kernel
theorem dX1_gives_33 : decode cX1_gives 33 = .ok (.goto 8, 3) := by decide +kernel
theorem dX1_gives_36 : decode cX1_gives 36 = .ok (.aload_n 0, 1) := by decide +kernel
theorem dX1_gives_37 : decode cX1_gives 37 = .ok (.iconst 2, 1) := by decide +kernel
theorem dX1_gives_38 : decode cX1_gives 38 = .ok (.invokevirtual 52, 3) := by decide +kernel
theorem dX1_gives_41 : decode cX1_gives 41 = .ok (.ireturn, 1) := by decide +kernel
set_option maxRecDepth 20000 in
theorem ggX1_best_X1_isKind : GoodIn wsX1_best wsX1_isKind := goodIn_r _ [6, 7, 8, 5, 9] (by decide +kernel) (by decide +kernel)
set_option maxRecDepth 20000 in
theorem gX1_best_X1_isKind : GoodIn wsX1_best (va_wsS RX1 94 yX1_isKind wsX1_isKind) := goodIn_app (goodIn_of _ (by decide +kernel)) ggX1_best_X1_isKind
set_option maxRecDepth 20000 in
theorem ggX1_best_X1_no : GoodIn wsX1_best wsX1_no := goodIn_r _ [13, 1, 44, 45, 46, 47, 48, 49, 50, 51, 52, 53, 54, 55] (by decide +kernel) (by decide +kernel)
set_option maxRecDepth 20000 in
theorem gX1_best_X1_no : GoodIn wsX1_best (wsV RX1 52 RX1 yX1_no wsX1_no) := goodIn_app (goodIn_of _ (by decide +kernel)) ggX1_best_X1_no
set_option maxRecDepth 20000 in
theorem ggX1_best_X1_given : GoodIn wsX1_best wsX1_given := goodIn_r _ [17, 18, 19, 20, 21, 22, 23, 24, 25, 5, 26, 27, 28, 29, 30, 31, 32, 33, 34, 35, 36, 37, 38, 39, 40, 41, 42, 43, 44, 45, 46, 47, 48, 49, 50, 51, 52, 53, 54, 55] (by decide +kernel) (by decide +kernel)
set_option maxRecDepth 20000 in
theorem gX1_best_X1_given : GoodIn wsX1_best (wsV RX1 143 RX1 yX1_given wsX1_given) := goodIn_app (goodIn_of _ (by decide +kernel)) ggX1_best_X1_given
theorem dX1_best_0 : decode cX1_best 0 = .ok (.aload_n 0, 1) := by decide +kernel
theorem dX1_best_1 : decode cX1_best 1 = .ok (.iconst 0, 1) := by decide +kernel
theorem dX1_best_2 : decode cX1_best 2 = .ok (.putfield 34, 3) := by decide +kernel
theorem dX1_best_5 : decode cX1_best 5 = .ok (.iload_n 1, 1) := by decide +kernel
theorem dX1_best_6 : decode cX1_best 6 = .ok (.invokestatic 94, 3) := by decide +kernel
theorem dX1_best_9 : decode cX1_best 9 = .ok (.ifCond .ne 9, 3) := by decide +kernel
theorem dX1_best_12 : decode cX1_best 12 = .ok (.aload_n 0, 1) := by decide +kernel
theorem dX1_best_13 : decode cX1_best 13 = .ok (.iconst 1, 1) := by decide +kernel
theorem dX1_best_14 : decode cX1_best 14 = .ok (.invokevirtual 52, 3) := by decide +kernel
theorem dX1_best_17 : decode cX1_best 17 = .ok (.ireturn, 1) := by decide +kernel
theorem dX1_best_18 : decode cX1_best 18 = .ok (.iconst (-1), 1) := by decide +kernel
theorem dX1_best_19 : decode cX1_best 19 = .ok (.istore_n 3, 1) := by decide +kernel
theorem dX1_best_20 : decode cX1_best 20 = .ok (.iconst 0, 1) := by decide +kernel
theorem dX1_best_21 : decode cX1_best 21 = .ok (.istore 4, 2) := by decide +kernel
theorem dX1_best_23 : decode cX1_best 23 = .ok (.iconst 0, 1) := by decide +kernel
theorem dX1_best_24 : decode cX1_best 24 = .ok (.istore 5, 2) := by decide +kernel
theorem dX1_best_26 : decode cX1_best 26 = .ok (.iload 5, 2) := by decide +kernel
theorem dX1_best_28 : decode cX1_best 28 = .ok (.aload_n 0, 1) := by decide +kernel
theorem dX1_best_29 : decode cX1_best 29 = .ok (.getfield 38, 3) := by decide +kernel
theorem dX1_best_32 : decode cX1_best 32 = .ok (.if_icmp .ge 36, 3) := by decide +kernel
theorem dX1_best_35 : decode cX1_best 35 = .ok (.aload_n 0, 1) := by decide +kernel
theorem dX1_best_36 : decode cX1_best 36 = .ok (.iload 5, 2) := by decide +kernel
theorem dX1_best_38 : decode cX1_best 38 = .ok (.iload_n 1, 1) := by decide +kernel
theorem dX1_best_39 : decode cX1_best 39 = .ok (.iload_n 2, 1) := by decide +kernel
theorem dX1_best_40 : decode cX1_best 40 = .ok (.invokevirtual 143, 3) := by decide +kernel
theorem dX1_best_43 : decode cX1_best 43 = .ok (.istore 6, 2) := by decide +kernel
theorem dX1_best_45 : decode cX1_best 45 = .ok (.iload 6, 2) := by decide +kernel
theorem dX1_best_47 : decode cX1_best 47 = .ok (.iload 4, 2) := by decide +kernel
theorem dX1_best_49 : decode cX1_best 49 = .ok (.if_icmp .gt 6, 3) := by decide +kernel
theorem dX1_best_52 : decode cX1_best 52 = .ok (.goto 10, 3) := by decide +kernel
theorem dX1_best_55 : decode cX1_best 55 = .ok (.iload 6, 2) := by decide +kernel
theorem dX1_best_57 : decode cX1_best 57 = .ok (.istore 4, 2) := by decide +kernel
theorem dX1_best_59 : decode cX1_best 59 = .ok (.iload 5, 2) := by decide +kernel
theorem dX1_best_61 : decode cX1_best 61 = .ok (.istore_n 3, 1) := by decide +kernel
theorem dX1_best_62 : decode cX1_best 62 = .ok (.iinc 5 1, 3) := by decide +kernel
theorem dX1_best_65 : decode cX1_best 65 = .ok (.goto (-39), 3) := by decide +kernel
theorem dX1_best_68 : decode cX1_best 68 = .ok (.iload_n 3, 1) := by decide +kernel
theorem dX1_best_69 : decode cX1_best 69 = .ok (.ireturn, 1) := by decide +kernel
set_option maxRecDepth 20000 in
theorem ggX1_lacks_X1_isColour : GoodIn wsX1_lacks wsX1_isColour := goodIn_r _ [12, 13, 14, 11, 15] (by decide +kernel) (by decide +kernel)
set_option maxRecDepth 20000 in
theorem gX1_lacks_X1_isColour : GoodIn wsX1_lacks (va_wsS RX1 49 yX1_isColour wsX1_isColour) := goodIn_app (goodIn_of _ (by decide +kernel)) ggX1_lacks_X1_isColour
set_option maxRecDepth 20000 in
theorem ggX1_lacks_X1_isKind : GoodIn wsX1_lacks wsX1_isKind := goodIn_r _ [18, 13, 14, 11, 15] (by decide +kernel) (by decide +kernel)
set_option maxRecDepth 20000 in
theorem gX1_lacks_X1_isKind : GoodIn wsX1_lacks (va_wsS RX1 94 yX1_isKind wsX1_isKind) := goodIn_app (goodIn_of _ (by decide +kernel)) ggX1_lacks_X1_isKind
set_option maxRecDepth 20000 in
theorem ggX1_lacks_X1_no : GoodIn wsX1_lacks wsX1_no := goodIn_r _ [22, 1, 39, 40, 41, 42, 43, 44, 45, 46, 47, 48, 49, 50] (by decide +kernel) (by decide +kernel)
set_option maxRecDepth 20000 in
theorem gX1_lacks_X1_no : GoodIn wsX1_lacks (wsV RX1 52 RX1 yX1_no wsX1_no) := goodIn_app (goodIn_of _ (by decide +kernel)) ggX1_lacks_X1_no
set_option maxRecDepth 20000 in
theorem ggX1_lacks_X1_free : GoodIn wsX1_lacks wsX1_free := goodIn_r _ [26, 27, 28, 29, 30, 11, 31, 32, 33, 3, 34, 39, 40, 41, 42, 43, 44, 45, 46, 47, 48, 49, 50] (by decide +kernel) (by decide +kernel)
set_option maxRecDepth 20000 in
theorem gX1_lacks_X1_free : GoodIn wsX1_lacks (wsV RX1 113 RX1 yX1_free wsX1_free) := goodIn_app (goodIn_of _ (by decide +kernel)) ggX1_lacks_X1_free
set_option maxRecDepth 20000 in
theorem ggX1_lacks_X1_tranks : GoodIn wsX1_lacks wsX1_tranks := goodIn_r _ [38, 27, 34, 3, 28, 29, 30, 11, 31, 32, 33, 39, 40, 41, 42, 43, 44, 45, 46, 47, 48, 49, 50] (by decide +kernel) (by decide +kernel)
set_option maxRecDepth 20000 in
theorem gX1_lacks_X1_tranks : GoodIn wsX1_lacks (wsV RX1 107 RX1 yX1_tranks wsX1_tranks) := goodIn_app (goodIn_of _ (by decide +kernel)) ggX1_lacks_X1_tranks
theorem dX1_lacks_0 : decode cX1_lacks 0 = .ok (.aload_n 0, 1) := by decide +kernel
theorem dX1_lacks_1 : decode cX1_lacks 1 = .ok (.iconst 0, 1) := by decide +kernel
theorem dX1_lacks_2 : decode cX1_lacks 2 = .ok (.putfield 34, 3) := by decide +kernel
theorem dX1_lacks_5 : decode cX1_lacks 5 = .ok (.iload_n 1, 1) := by decide +kernel
theorem dX1_lacks_6 : decode cX1_lacks 6 = .ok (.invokestatic 49, 3) := by decide +kernel
theorem dX1_lacks_9 : decode cX1_lacks 9 = .ok (.ifCond .eq 10, 3) := by decide +kernel
theorem dX1_lacks_12 : decode cX1_lacks 12 = .ok (.iload_n 2, 1) := by decide +kernel
theorem dX1_lacks_13 : decode cX1_lacks 13 = .ok (.invokestatic 94, 3) := by decide +kernel
theorem dX1_lacks_16 : decode cX1_lacks 16 = .ok (.ifCond .ne 9, 3) := by decide +kernel
theorem dX1_lacks_19 : decode cX1_lacks 19 = .ok (.aload_n 0, 1) := by decide +kernel
theorem dX1_lacks_20 : decode cX1_lacks 20 = .ok (.iconst 1, 1) := by decide +kernel
theorem dX1_lacks_21 : decode cX1_lacks 21 = .ok (.invokevirtual 52, 3) := by decide +kernel
theorem dX1_lacks_24 : decode cX1_lacks 24 = .ok (.ireturn, 1) := by decide +kernel
theorem dX1_lacks_25 : decode cX1_lacks 25 = .ok (.iload_n 2, 1) := by decide +kernel
theorem dX1_lacks_26 : decode cX1_lacks 26 = .ok (.ifCond .ne 7, 3) := by decide +kernel
theorem dX1_lacks_29 : decode cX1_lacks 29 = .ok (.iconst 0, 1) := by decide +kernel
theorem dX1_lacks_30 : decode cX1_lacks 30 = .ok (.goto 9, 3) := by decide +kernel
theorem dX1_lacks_33 : decode cX1_lacks 33 = .ok (.aload_n 0, 1) := by decide +kernel
theorem dX1_lacks_34 : decode cX1_lacks 34 = .ok (.iload_n 1, 1) := by decide +kernel
theorem dX1_lacks_35 : decode cX1_lacks 35 = .ok (.iload_n 2, 1) := by decide +kernel
theorem dX1_lacks_36 : decode cX1_lacks 36 = .ok (.invokevirtual 113, 3) := by decide +kernel
theorem dX1_lacks_39 : decode cX1_lacks 39 = .ok (.istore_n 3, 1) := by decide +kernel
theorem dX1_lacks_40 : decode cX1_lacks 40 = .ok (.iconst 0, 1) := by decide +kernel
theorem dX1_lacks_41 : decode cX1_lacks 41 = .ok (.istore 4, 2) := by decide +kernel
theorem dX1_lacks_43 : decode cX1_lacks 43 = .ok (.iload 4, 2) := by decide +kernel
theorem dX1_lacks_45 : decode cX1_lacks 45 = .ok (.aload_n 0, 1) := by decide +kernel
theorem dX1_lacks_46 : decode cX1_lacks 46 = .ok (.getfield 38, 3) := by decide +kernel
theorem dX1_lacks_49 : decode cX1_lacks 49 = .ok (.if_icmp .ge 35, 3) := by decide +kernel
theorem dX1_lacks_52 : decode cX1_lacks 52 = .ok (.iload_n 2, 1) := by decide +kernel
theorem dX1_lacks_53 : decode cX1_lacks 53 = .ok (.ifCond .ne 31, 3) := by decide +kernel
theorem dX1_lacks_56 : decode cX1_lacks 56 = .ok (.aload_n 0, 1) := by decide +kernel
theorem dX1_lacks_57 : decode cX1_lacks 57 = .ok (.getfield 9, 3) := by decide +kernel
theorem dX1_lacks_60 : decode cX1_lacks 60 = .ok (.iload 4, 2) := by decide +kernel
theorem dX1_lacks_62 : decode cX1_lacks 62 = .ok (.iaload, 1) := by decide +kernel
theorem dX1_lacks_63 : decode cX1_lacks 63 = .ok (.iload_n 1, 1) := by decide +kernel
theorem dX1_lacks_64 : decode cX1_lacks 64 = .ok (.if_icmp .ne 14, 3) := by decide +kernel
theorem dX1_lacks_67 : decode cX1_lacks 67 = .ok (.iload_n 3, 1) := by decide +kernel
theorem dX1_lacks_68 : decode cX1_lacks 68 = .ok (.aload_n 0, 1) := by decide +kernel
theorem dX1_lacks_69 : decode cX1_lacks 69 = .ok (.iload 4, 2) := by decide +kernel
theorem dX1_lacks_71 : decode cX1_lacks 71 = .ok (.invokevirtual 107, 3) := by decide +kernel
theorem dX1_lacks_74 : decode cX1_lacks 74 = .ok (.invokestatic 147, 3) := by decide +kernel
theorem dX1_lacks_77 : decode cX1_lacks 77 = .ok (.istore_n 3, 1) := by decide +kernel
theorem dX1_lacks_78 : decode cX1_lacks 78 = .ok (.iinc 4 1, 3) := by decide +kernel
theorem dX1_lacks_81 : decode cX1_lacks 81 = .ok (.goto (-38), 3) := by decide +kernel
theorem dX1_lacks_84 : decode cX1_lacks 84 = .ok (.iconst 0, 1) := by decide +kernel
theorem dX1_lacks_85 : decode cX1_lacks 85 = .ok (.getstatic 116, 3) := by decide +kernel
theorem dX1_lacks_88 : decode cX1_lacks 88 = .ok (.iload_n 2, 1) := by decide +kernel
theorem dX1_lacks_89 : decode cX1_lacks 89 = .ok (.iaload, 1) := by decide +kernel
theorem dX1_lacks_90 : decode cX1_lacks 90 = .ok (.iload_n 3, 1) := by decide +kernel
theorem dX1_lacks_91 : decode cX1_lacks 91 = .ok (.isub, 1) := by decide +kernel
theorem dX1_lacks_92 : decode cX1_lacks 92 = .ok (.invokestatic 147, 3) := by decide +kernel
theorem dX1_lacks_95 : decode cX1_lacks 95 = .ok (.ireturn, 1) := by decide +kernel
set_option maxRecDepth 20000 in
theorem ggX1_pairs_X1_isColour : GoodIn wsX1_pairs wsX1_isColour := goodIn_r _ [12, 13, 14, 11, 15] (by decide +kernel) (by decide +kernel)
set_option maxRecDepth 20000 in
theorem gX1_pairs_X1_isColour : GoodIn wsX1_pairs (va_wsS RX1 49 yX1_isColour wsX1_isColour) := goodIn_app (goodIn_of _ (by decide +kernel)) ggX1_pairs_X1_isColour
set_option maxRecDepth 20000 in
theorem ggX1_pairs_X1_no : GoodIn wsX1_pairs wsX1_no := goodIn_r _ [19, 1, 36, 37, 38, 39, 40, 41, 42, 43, 44, 45, 46, 47] (by decide +kernel) (by decide +kernel)
set_option maxRecDepth 20000 in
theorem gX1_pairs_X1_no : GoodIn wsX1_pairs (wsV RX1 52 RX1 yX1_no wsX1_no) := goodIn_app (goodIn_of _ (by decide +kernel)) ggX1_pairs_X1_no
set_option maxRecDepth 20000 in
theorem ggX1_pairs_X1_tranks : GoodIn wsX1_pairs wsX1_tranks := goodIn_r _ [23, 24, 25, 3, 26, 27, 28, 11, 29, 30, 31, 36, 37, 38, 39, 40, 41, 42, 43, 44, 45, 46, 47] (by decide +kernel) (by decide +kernel)
set_option maxRecDepth 20000 in
theorem gX1_pairs_X1_tranks : GoodIn wsX1_pairs (wsV RX1 107 RX1 yX1_tranks wsX1_tranks) := goodIn_app (goodIn_of _ (by decide +kernel)) ggX1_pairs_X1_tranks
set_option maxRecDepth 20000 in
theorem ggX1_pairs_X1_free : GoodIn wsX1_pairs wsX1_free := goodIn_r _ [35, 24, 26, 27, 28, 11, 29, 30, 31, 3, 25, 36, 37, 38, 39, 40, 41, 42, 43, 44, 45, 46, 47] (by decide +kernel) (by decide +kernel)
set_option maxRecDepth 20000 in
theorem gX1_pairs_X1_free : GoodIn wsX1_pairs (wsV RX1 113 RX1 yX1_free wsX1_free) := goodIn_app (goodIn_of _ (by decide +kernel)) ggX1_pairs_X1_free
theorem dX1_pairs_0 : decode cX1_pairs 0 = .ok (.aload_n 0, 1) := by decide +kernel
theorem dX1_pairs_1 : decode cX1_pairs 1 = .ok (.iconst 0, 1) := by decide +kernel
theorem dX1_pairs_2 : decode cX1_pairs 2 = .ok (.putfield 34, 3) := by decide +kernel
theorem dX1_pairs_5 : decode cX1_pairs 5 = .ok (.iload_n 1, 1) := by decide +kernel
theorem dX1_pairs_6 : decode cX1_pairs 6 = .ok (.invokestatic 49, 3) := by decide +kernel
theorem dX1_pairs_9 : decode cX1_pairs 9 = .ok (.ifCond .ne 9, 3) := by decide +kernel
theorem dX1_pairs_12 : decode cX1_pairs 12 = .ok (.aload_n 0, 1) := by decide +kernel
theorem dX1_pairs_13 : decode cX1_pairs 13 = .ok (.iconst 1, 1) := by decide +kernel
theorem dX1_pairs_14 : decode cX1_pairs 14 = .ok (.invokevirtual 52, 3) := by decide +kernel
theorem dX1_pairs_17 : decode cX1_pairs 17 = .ok (.ireturn, 1) := by decide +kernel
theorem dX1_pairs_18 : decode cX1_pairs 18 = .ok (.iconst 0, 1) := by decide +kernel
theorem dX1_pairs_19 : decode cX1_pairs 19 = .ok (.istore_n 2, 1) := by decide +kernel
theorem dX1_pairs_20 : decode cX1_pairs 20 = .ok (.iconst 0, 1) := by decide +kernel
theorem dX1_pairs_21 : decode cX1_pairs 21 = .ok (.istore_n 3, 1) := by decide +kernel
theorem dX1_pairs_22 : decode cX1_pairs 22 = .ok (.iload_n 3, 1) := by decide +kernel
theorem dX1_pairs_23 : decode cX1_pairs 23 = .ok (.aload_n 0, 1) := by decide +kernel
theorem dX1_pairs_24 : decode cX1_pairs 24 = .ok (.getfield 38, 3) := by decide +kernel
theorem dX1_pairs_27 : decode cX1_pairs 27 = .ok (.if_icmp .ge 33, 3) := by decide +kernel
theorem dX1_pairs_30 : decode cX1_pairs 30 = .ok (.iload_n 2, 1) := by decide +kernel
theorem dX1_pairs_31 : decode cX1_pairs 31 = .ok (.aload_n 0, 1) := by decide +kernel
theorem dX1_pairs_32 : decode cX1_pairs 32 = .ok (.getfield 9, 3) := by decide +kernel
theorem dX1_pairs_35 : decode cX1_pairs 35 = .ok (.iload_n 3, 1) := by decide +kernel
theorem dX1_pairs_36 : decode cX1_pairs 36 = .ok (.iaload, 1) := by decide +kernel
theorem dX1_pairs_37 : decode cX1_pairs 37 = .ok (.iload_n 1, 1) := by decide +kernel
theorem dX1_pairs_38 : decode cX1_pairs 38 = .ok (.if_icmp .ne 13, 3) := by decide +kernel
theorem dX1_pairs_41 : decode cX1_pairs 41 = .ok (.aload_n 0, 1) := by decide +kernel
theorem dX1_pairs_42 : decode cX1_pairs 42 = .ok (.iload_n 3, 1) := by decide +kernel
theorem dX1_pairs_43 : decode cX1_pairs 43 = .ok (.invokevirtual 107, 3) := by decide +kernel
theorem dX1_pairs_46 : decode cX1_pairs 46 = .ok (.iconst 2, 1) := by decide +kernel
theorem dX1_pairs_47 : decode cX1_pairs 47 = .ok (.idiv, 1) := by decide +kernel
theorem dX1_pairs_48 : decode cX1_pairs 48 = .ok (.goto 4, 3) := by decide +kernel
theorem dX1_pairs_51 : decode cX1_pairs 51 = .ok (.iconst 0, 1) := by decide +kernel
theorem dX1_pairs_52 : decode cX1_pairs 52 = .ok (.iadd, 1) := by decide +kernel
theorem dX1_pairs_53 : decode cX1_pairs 53 = .ok (.istore_n 2, 1) := by decide +kernel
theorem dX1_pairs_54 : decode cX1_pairs 54 = .ok (.iinc 3 1, 3) := by decide +kernel
theorem dX1_pairs_57 : decode cX1_pairs 57 = .ok (.goto (-35), 3) := by decide +kernel
theorem dX1_pairs_60 : decode cX1_pairs 60 = .ok (.iconst 1, 1) := by decide +kernel
theorem dX1_pairs_61 : decode cX1_pairs 61 = .ok (.istore_n 3, 1) := by decide +kernel
theorem dX1_pairs_62 : decode cX1_pairs 62 = .ok (.iload_n 3, 1) := by decide +kernel
theorem dX1_pairs_63 : decode cX1_pairs 63 = .ok (.iconst 4, 1) := by decide +kernel
theorem dX1_pairs_64 : decode cX1_pairs 64 = .ok (.if_icmp .ge 26, 3) := by decide +kernel
theorem dX1_pairs_67 : decode cX1_pairs 67 = .ok (.iload_n 2, 1) := by decide +kernel
theorem dX1_pairs_68 : decode cX1_pairs 68 = .ok (.aload_n 0, 1) := by decide +kernel
theorem dX1_pairs_69 : decode cX1_pairs 69 = .ok (.iload_n 1, 1) := by decide +kernel
theorem dX1_pairs_70 : decode cX1_pairs 70 = .ok (.iload_n 3, 1) := by decide +kernel
theorem dX1_pairs_71 : decode cX1_pairs 71 = .ok (.invokevirtual 113, 3) := by decide +kernel
theorem dX1_pairs_74 : decode cX1_pairs 74 = .ok (.getstatic 116, 3) := by decide +kernel
theorem dX1_pairs_77 : decode cX1_pairs 77 = .ok (.iload_n 3, 1) := by decide +kernel
theorem dX1_pairs_78 : decode cX1_pairs 78 = .ok (.iaload, 1) := by decide +kernel
theorem dX1_pairs_79 : decode cX1_pairs 79 = .ok (.idiv, 1) := by decide +kernel
theorem dX1_pairs_80 : decode cX1_pairs 80 = .ok (.invokestatic 152, 3) := by decide +kernel
theorem dX1_pairs_83 : decode cX1_pairs 83 = .ok (.istore_n 2, 1) := by decide +kernel
theorem dX1_pairs_84 : decode cX1_pairs 84 = .ok (.iinc 3 1, 3) := by decide +kernel
theorem dX1_pairs_87 : decode cX1_pairs 87 = .ok (.goto (-25), 3) := by decide +kernel
theorem dX1_pairs_90 : decode cX1_pairs 90 = .ok (.iload_n 2, 1) := by decide +kernel
theorem dX1_pairs_91 : decode cX1_pairs 91 = .ok (.ireturn, 1) := by decide +kernel
set_option maxRecDepth 20000 in
theorem ggX1_share_X1_many : GoodIn wsX1_share wsX1_many := goodIn_r _ [7] (by decide +kernel) (by decide +kernel)
set_option maxRecDepth 20000 in
theorem gX1_share_X1_many : GoodIn wsX1_share (va_wsS RX1 59 yX1_many wsX1_many) := goodIn_app (goodIn_of _ (by decide +kernel)) ggX1_share_X1_many
theorem dX1_share_0 : decode cX1_share 0 = .ok (.aload_n 0, 1) := by decide +kernel
theorem dX1_share_1 : decode cX1_share 1 = .ok (.iconst 0, 1) := by decide +kernel
theorem dX1_share_2 : decode cX1_share 2 = .ok (.putfield 34, 3) := by decide +kernel
theorem dX1_share_5 : decode cX1_share 5 = .ok (.iconst 0, 1) := by decide +kernel
theorem dX1_share_6 : decode cX1_share 6 = .ok (.istore_n 1, 1) := by decide +kernel
theorem dX1_share_7 : decode cX1_share 7 = .ok (.iconst 0, 1) := by decide +kernel
theorem dX1_share_8 : decode cX1_share 8 = .ok (.istore_n 2, 1) := by decide +kernel
theorem dX1_share_9 : decode cX1_share 9 = .ok (.iconst 0, 1) := by decide +kernel
theorem dX1_share_10 : decode cX1_share 10 = .ok (.istore_n 3, 1) := by decide +kernel
theorem dX1_share_11 : decode cX1_share 11 = .ok (.iload_n 3, 1) := by decide +kernel
theorem dX1_share_12 : decode cX1_share 12 = .ok (.aload_n 0, 1) := by decide +kernel
theorem dX1_share_13 : decode cX1_share 13 = .ok (.getfield 38, 3) := by decide +kernel
theorem dX1_share_16 : decode cX1_share 16 = .ok (.if_icmp .ge 50, 3) := by decide +kernel
theorem dX1_share_19 : decode cX1_share 19 = .ok (.iload_n 1, 1) := by decide +kernel
theorem dX1_share_20 : decode cX1_share 20 = .ok (.aload_n 0, 1) := by decide +kernel
theorem dX1_share_21 : decode cX1_share 21 = .ok (.getfield 13, 3) := by decide +kernel
theorem dX1_share_24 : decode cX1_share 24 = .ok (.bipush 96, 2) := by decide +kernel
theorem dX1_share_26 : decode cX1_share 26 = .ok (.iload_n 3, 1) := by decide +kernel
theorem dX1_share_27 : decode cX1_share 27 = .ok (.imul, 1) := by decide +kernel
theorem dX1_share_28 : decode cX1_share 28 = .ok (.bipush 12, 2) := by decide +kernel
theorem dX1_share_30 : decode cX1_share 30 = .ok (.bipush 8, 2) := by decide +kernel
theorem dX1_share_32 : decode cX1_share 32 = .ok (.iconst 3, 1) := by decide +kernel
theorem dX1_share_33 : decode cX1_share 33 = .ok (.invokestatic 59, 3) := by decide +kernel
theorem dX1_share_36 : decode cX1_share 36 = .ok (.iadd, 1) := by decide +kernel
theorem dX1_share_37 : decode cX1_share 37 = .ok (.istore_n 1, 1) := by decide +kernel
theorem dX1_share_38 : decode cX1_share 38 = .ok (.iload_n 2, 1) := by decide +kernel
theorem dX1_share_39 : decode cX1_share 39 = .ok (.bipush 96, 2) := by decide +kernel
theorem dX1_share_41 : decode cX1_share 41 = .ok (.aload_n 0, 1) := by decide +kernel
theorem dX1_share_42 : decode cX1_share 42 = .ok (.getfield 13, 3) := by decide +kernel
theorem dX1_share_45 : decode cX1_share 45 = .ok (.bipush 96, 2) := by decide +kernel
theorem dX1_share_47 : decode cX1_share 47 = .ok (.iload_n 3, 1) := by decide +kernel
theorem dX1_share_48 : decode cX1_share 48 = .ok (.imul, 1) := by decide +kernel
theorem dX1_share_49 : decode cX1_share 49 = .ok (.bipush 12, 2) := by decide +kernel
theorem dX1_share_51 : decode cX1_share 51 = .ok (.bipush 8, 2) := by decide +kernel
theorem dX1_share_53 : decode cX1_share 53 = .ok (.iconst 2, 1) := by decide +kernel
theorem dX1_share_54 : decode cX1_share 54 = .ok (.invokestatic 59, 3) := by decide +kernel
theorem dX1_share_57 : decode cX1_share 57 = .ok (.isub, 1) := by decide +kernel
theorem dX1_share_58 : decode cX1_share 58 = .ok (.iadd, 1) := by decide +kernel
theorem dX1_share_59 : decode cX1_share 59 = .ok (.istore_n 2, 1) := by decide +kernel
theorem dX1_share_60 : decode cX1_share 60 = .ok (.iinc 3 1, 3) := by decide +kernel
theorem dX1_share_63 : decode cX1_share 63 = .ok (.goto (-52), 3) := by decide +kernel
theorem dX1_share_66 : decode cX1_share 66 = .ok (.iload_n 2, 1) := by decide +kernel
theorem dX1_share_67 : decode cX1_share 67 = .ok (.ifCond .ne 7, 3) := by decide +kernel
theorem dX1_share_70 : decode cX1_share 70 = .ok (.dconst 0, 1) := by decide +kernel
theorem dX1_share_71 : decode cX1_share 71 = .ok (.goto 8, 3) := by decide +kernel
theorem dX1_share_74 : decode cX1_share 74 = .ok (.iload_n 1, 1) := by decide +kernel
theorem dX1_share_75 : decode cX1_share 75 = .ok (.i2d, 1) := by decide +kernel
theorem dX1_share_76 : decode cX1_share 76 = .ok (.iload_n 2, 1) := by decide +kernel
theorem dX1_share_77 : decode cX1_share 77 = .ok (.i2d, 1) := by decide +kernel
theorem dX1_share_78 : decode cX1_share 78 = .ok (.ddiv, 1) := by decide +kernel
theorem dX1_share_79 : decode cX1_share 79 = .ok (.dreturn, 1) := by decide +kernel
set_option maxRecDepth 20000 in
theorem ggX1_digest_X1_counted : GoodIn wsX1_digest wsX1_counted := goodIn_r _ [13, 14, 6, 15, 7, 8, 4, 35, 36, 37, 38, 39, 40, 41, 42, 43, 44, 45, 46] (by decide +kernel) (by decide +kernel)
set_option maxRecDepth 20000 in
theorem gX1_digest_X1_counted : GoodIn wsX1_digest (wsV RX1 140 RX1 yX1_counted wsX1_counted) := goodIn_app (goodIn_of _ (by decide +kernel)) ggX1_digest_X1_counted
set_option maxRecDepth 20000 in
theorem ggX1_digest_X1_skinTold : GoodIn wsX1_digest wsX1_skinTold := goodIn_r _ [19, 20, 5, 21, 22, 23, 12, 24, 6, 25, 26, 27, 28, 35, 36, 37, 38, 39, 40, 41, 42, 43, 44, 45, 46] (by decide +kernel) (by decide +kernel)
set_option maxRecDepth 20000 in
theorem gX1_digest_X1_skinTold : GoodIn wsX1_digest (wsV RX1 73 RX1 yX1_skinTold wsX1_skinTold) := goodIn_app (goodIn_of _ (by decide +kernel)) ggX1_digest_X1_skinTold
set_option maxRecDepth 20000 in
theorem ggX1_digest_X1_pieceTold : GoodIn wsX1_digest wsX1_pieceTold := goodIn_r _ [32, 25, 33, 15, 34, 35, 36, 37, 38, 39, 40, 41, 42, 43, 44, 45, 46] (by decide +kernel) (by decide +kernel)
set_option maxRecDepth 20000 in
theorem gX1_digest_X1_pieceTold : GoodIn wsX1_digest (wsV RX1 101 RX1 yX1_pieceTold wsX1_pieceTold) := goodIn_app (goodIn_of _ (by decide +kernel)) ggX1_digest_X1_pieceTold
theorem dX1_digest_0 : decode cX1_digest 0 = .ok (.aload_n 0, 1) := by decide +kernel
theorem dX1_digest_1 : decode cX1_digest 1 = .ok (.iconst 0, 1) := by decide +kernel
theorem dX1_digest_2 : decode cX1_digest 2 = .ok (.putfield 34, 3) := by decide +kernel
theorem dX1_digest_5 : decode cX1_digest 5 = .ok (.ldc2_w 155, 3) := by decide +kernel
theorem dX1_digest_8 : decode cX1_digest 8 = .ok (.lstore_n 1, 1) := by decide +kernel
theorem dX1_digest_9 : decode cX1_digest 9 = .ok (.iconst 0, 1) := by decide +kernel
theorem dX1_digest_10 : decode cX1_digest 10 = .ok (.istore_n 3, 1) := by decide +kernel
theorem dX1_digest_11 : decode cX1_digest 11 = .ok (.iload_n 3, 1) := by decide +kernel
theorem dX1_digest_12 : decode cX1_digest 12 = .ok (.bipush 6, 2) := by decide +kernel
theorem dX1_digest_14 : decode cX1_digest 14 = .ok (.if_icmp .gt 22, 3) := by decide +kernel
theorem dX1_digest_17 : decode cX1_digest 17 = .ok (.lload_n 1, 1) := by decide +kernel
theorem dX1_digest_18 : decode cX1_digest 18 = .ok (.ldc2_w 157, 3) := by decide +kernel
theorem dX1_digest_21 : decode cX1_digest 21 = .ok (.lmul, 1) := by decide +kernel
theorem dX1_digest_22 : decode cX1_digest 22 = .ok (.aload_n 0, 1) := by decide +kernel
theorem dX1_digest_23 : decode cX1_digest 23 = .ok (.iload_n 3, 1) := by decide +kernel
theorem dX1_digest_24 : decode cX1_digest 24 = .ok (.invokevirtual 140, 3) := by decide +kernel
theorem dX1_digest_27 : decode cX1_digest 27 = .ok (.i2l, 1) := by decide +kernel
theorem dX1_digest_28 : decode cX1_digest 28 = .ok (.ladd, 1) := by decide +kernel
theorem dX1_digest_29 : decode cX1_digest 29 = .ok (.lstore_n 1, 1) := by decide +kernel
theorem dX1_digest_30 : decode cX1_digest 30 = .ok (.iinc 3 1, 3) := by decide +kernel
theorem dX1_digest_33 : decode cX1_digest 33 = .ok (.goto (-22), 3) := by decide +kernel
theorem dX1_digest_36 : decode cX1_digest 36 = .ok (.iconst 0, 1) := by decide +kernel
theorem dX1_digest_37 : decode cX1_digest 37 = .ok (.istore_n 3, 1) := by decide +kernel
theorem dX1_digest_38 : decode cX1_digest 38 = .ok (.iload_n 3, 1) := by decide +kernel
theorem dX1_digest_39 : decode cX1_digest 39 = .ok (.aload_n 0, 1) := by decide +kernel
theorem dX1_digest_40 : decode cX1_digest 40 = .ok (.getfield 38, 3) := by decide +kernel
theorem dX1_digest_43 : decode cX1_digest 43 = .ok (.if_icmp .ge 75, 3) := by decide +kernel
theorem dX1_digest_46 : decode cX1_digest 46 = .ok (.iconst 0, 1) := by decide +kernel
theorem dX1_digest_47 : decode cX1_digest 47 = .ok (.istore 4, 2) := by decide +kernel
theorem dX1_digest_49 : decode cX1_digest 49 = .ok (.iload 4, 2) := by decide +kernel
theorem dX1_digest_51 : decode cX1_digest 51 = .ok (.iconst 5, 1) := by decide +kernel
theorem dX1_digest_52 : decode cX1_digest 52 = .ok (.if_icmp .gt 24, 3) := by decide +kernel
theorem dX1_digest_55 : decode cX1_digest 55 = .ok (.lload_n 1, 1) := by decide +kernel
theorem dX1_digest_56 : decode cX1_digest 56 = .ok (.ldc2_w 157, 3) := by decide +kernel
theorem dX1_digest_59 : decode cX1_digest 59 = .ok (.lmul, 1) := by decide +kernel
theorem dX1_digest_60 : decode cX1_digest 60 = .ok (.aload_n 0, 1) := by decide +kernel
theorem dX1_digest_61 : decode cX1_digest 61 = .ok (.iload_n 3, 1) := by decide +kernel
theorem dX1_digest_62 : decode cX1_digest 62 = .ok (.iload 4, 2) := by decide +kernel
theorem dX1_digest_64 : decode cX1_digest 64 = .ok (.invokevirtual 73, 3) := by decide +kernel
theorem dX1_digest_67 : decode cX1_digest 67 = .ok (.i2l, 1) := by decide +kernel
theorem dX1_digest_68 : decode cX1_digest 68 = .ok (.ladd, 1) := by decide +kernel
theorem dX1_digest_69 : decode cX1_digest 69 = .ok (.lstore_n 1, 1) := by decide +kernel
theorem dX1_digest_70 : decode cX1_digest 70 = .ok (.iinc 4 1, 3) := by decide +kernel
theorem dX1_digest_73 : decode cX1_digest 73 = .ok (.goto (-24), 3) := by decide +kernel
theorem dX1_digest_76 : decode cX1_digest 76 = .ok (.iconst 0, 1) := by decide +kernel
theorem dX1_digest_77 : decode cX1_digest 77 = .ok (.istore 4, 2) := by decide +kernel
theorem dX1_digest_79 : decode cX1_digest 79 = .ok (.iload 4, 2) := by decide +kernel
theorem dX1_digest_81 : decode cX1_digest 81 = .ok (.bipush 96, 2) := by decide +kernel
theorem dX1_digest_83 : decode cX1_digest 83 = .ok (.if_icmp .ge 29, 3) := by decide +kernel
theorem dX1_digest_86 : decode cX1_digest 86 = .ok (.lload_n 1, 1) := by decide +kernel
theorem dX1_digest_87 : decode cX1_digest 87 = .ok (.ldc2_w 157, 3) := by decide +kernel
theorem dX1_digest_90 : decode cX1_digest 90 = .ok (.lmul, 1) := by decide +kernel
theorem dX1_digest_91 : decode cX1_digest 91 = .ok (.aload_n 0, 1) := by decide +kernel
theorem dX1_digest_92 : decode cX1_digest 92 = .ok (.getfield 13, 3) := by decide +kernel
theorem dX1_digest_95 : decode cX1_digest 95 = .ok (.bipush 96, 2) := by decide +kernel
theorem dX1_digest_97 : decode cX1_digest 97 = .ok (.iload_n 3, 1) := by decide +kernel
theorem dX1_digest_98 : decode cX1_digest 98 = .ok (.imul, 1) := by decide +kernel
theorem dX1_digest_99 : decode cX1_digest 99 = .ok (.iload 4, 2) := by decide +kernel
theorem dX1_digest_101 : decode cX1_digest 101 = .ok (.iadd, 1) := by decide +kernel
theorem dX1_digest_102 : decode cX1_digest 102 = .ok (.iaload, 1) := by decide +kernel
theorem dX1_digest_103 : decode cX1_digest 103 = .ok (.i2l, 1) := by decide +kernel
theorem dX1_digest_104 : decode cX1_digest 104 = .ok (.ladd, 1) := by decide +kernel
theorem dX1_digest_105 : decode cX1_digest 105 = .ok (.lstore_n 1, 1) := by decide +kernel
theorem dX1_digest_106 : decode cX1_digest 106 = .ok (.iinc 4 1, 3) := by decide +kernel
theorem dX1_digest_109 : decode cX1_digest 109 = .ok (.goto (-30), 3) := by decide +kernel
theorem dX1_digest_112 : decode cX1_digest 112 = .ok (.iinc 3 1, 3) := by decide +kernel
theorem dX1_digest_115 : decode cX1_digest 115 = .ok (.goto (-77), 3) := by decide +kernel
theorem dX1_digest_118 : decode cX1_digest 118 = .ok (.iconst 0, 1) := by decide +kernel
theorem dX1_digest_119 : decode cX1_digest 119 = .ok (.istore_n 3, 1) := by decide +kernel
theorem dX1_digest_120 : decode cX1_digest 120 = .ok (.iload_n 3, 1) := by decide +kernel
theorem dX1_digest_121 : decode cX1_digest 121 = .ok (.aload_n 0, 1) := by decide +kernel
theorem dX1_digest_122 : decode cX1_digest 122 = .ok (.getfield 67, 3) := by decide +kernel
theorem dX1_digest_125 : decode cX1_digest 125 = .ok (.if_icmp .ge 39, 3) := by decide +kernel
theorem dX1_digest_128 : decode cX1_digest 128 = .ok (.iconst 0, 1) := by decide +kernel
theorem dX1_digest_129 : decode cX1_digest 129 = .ok (.istore 4, 2) := by decide +kernel
theorem dX1_digest_131 : decode cX1_digest 131 = .ok (.iload 4, 2) := by decide +kernel
theorem dX1_digest_133 : decode cX1_digest 133 = .ok (.iconst 3, 1) := by decide +kernel
theorem dX1_digest_134 : decode cX1_digest 134 = .ok (.if_icmp .gt 24, 3) := by decide +kernel
theorem dX1_digest_137 : decode cX1_digest 137 = .ok (.lload_n 1, 1) := by decide +kernel
theorem dX1_digest_138 : decode cX1_digest 138 = .ok (.ldc2_w 157, 3) := by decide +kernel
theorem dX1_digest_141 : decode cX1_digest 141 = .ok (.lmul, 1) := by decide +kernel
theorem dX1_digest_142 : decode cX1_digest 142 = .ok (.aload_n 0, 1) := by decide +kernel
theorem dX1_digest_143 : decode cX1_digest 143 = .ok (.iload_n 3, 1) := by decide +kernel
theorem dX1_digest_144 : decode cX1_digest 144 = .ok (.iload 4, 2) := by decide +kernel
theorem dX1_digest_146 : decode cX1_digest 146 = .ok (.invokevirtual 101, 3) := by decide +kernel
theorem dX1_digest_149 : decode cX1_digest 149 = .ok (.i2l, 1) := by decide +kernel
theorem dX1_digest_150 : decode cX1_digest 150 = .ok (.ladd, 1) := by decide +kernel
theorem dX1_digest_151 : decode cX1_digest 151 = .ok (.lstore_n 1, 1) := by decide +kernel
theorem dX1_digest_152 : decode cX1_digest 152 = .ok (.iinc 4 1, 3) := by decide +kernel
theorem dX1_digest_155 : decode cX1_digest 155 = .ok (.goto (-24), 3) := by decide +kernel
theorem dX1_digest_158 : decode cX1_digest 158 = .ok (.iinc 3 1, 3) := by decide +kernel
theorem dX1_digest_161 : decode cX1_digest 161 = .ok (.goto (-41), 3) := by decide +kernel
theorem dX1_digest_164 : decode cX1_digest 164 = .ok (.iconst 0, 1) := by decide +kernel
theorem dX1_digest_165 : decode cX1_digest 165 = .ok (.istore_n 3, 1) := by decide +kernel
theorem dX1_digest_166 : decode cX1_digest 166 = .ok (.iload_n 3, 1) := by decide +kernel
theorem dX1_digest_167 : decode cX1_digest 167 = .ok (.iconst 5, 1) := by decide +kernel
theorem dX1_digest_168 : decode cX1_digest 168 = .ok (.aload_n 0, 1) := by decide +kernel
theorem dX1_digest_169 : decode cX1_digest 169 = .ok (.getfield 119, 3) := by decide +kernel
theorem dX1_digest_172 : decode cX1_digest 172 = .ok (.imul, 1) := by decide +kernel
theorem dX1_digest_173 : decode cX1_digest 173 = .ok (.if_icmp .ge 23, 3) := by decide +kernel
theorem dX1_digest_176 : decode cX1_digest 176 = .ok (.lload_n 1, 1) := by decide +kernel
theorem dX1_digest_177 : decode cX1_digest 177 = .ok (.ldc2_w 157, 3) := by decide +kernel
theorem dX1_digest_180 : decode cX1_digest 180 = .ok (.lmul, 1) := by decide +kernel
theorem dX1_digest_181 : decode cX1_digest 181 = .ok (.aload_n 0, 1) := by decide +kernel
theorem dX1_digest_182 : decode cX1_digest 182 = .ok (.getfield 28, 3) := by decide +kernel
theorem dX1_digest_185 : decode cX1_digest 185 = .ok (.iload_n 3, 1) := by decide +kernel
theorem dX1_digest_186 : decode cX1_digest 186 = .ok (.iaload, 1) := by decide +kernel
theorem dX1_digest_187 : decode cX1_digest 187 = .ok (.i2l, 1) := by decide +kernel
theorem dX1_digest_188 : decode cX1_digest 188 = .ok (.ladd, 1) := by decide +kernel
theorem dX1_digest_189 : decode cX1_digest 189 = .ok (.lstore_n 1, 1) := by decide +kernel
theorem dX1_digest_190 : decode cX1_digest 190 = .ok (.iinc 3 1, 3) := by decide +kernel
theorem dX1_digest_193 : decode cX1_digest 193 = .ok (.goto (-27), 3) := by decide +kernel
theorem dX1_digest_196 : decode cX1_digest 196 = .ok (.lload_n 1, 1) := by decide +kernel
theorem dX1_digest_197 : decode cX1_digest 197 = .ok (.lreturn, 1) := by decide +kernel
