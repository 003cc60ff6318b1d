theorem dX0_init_0 : decode cX0_init 0 = .ok (.aload_n 0, 1) := by decide +kernel
theorem dX0_init_1 : decode cX0_init 1 = .ok (.invokespecial 3, 3) := by decide +kernel
theorem dX0_init_4 : decode cX0_init 4 = .ok (.aload_n 0, 1) := by decide +kernel
theorem dX0_init_5 : decode cX0_init 5 = .ok (.bipush 10, 2) := by decide +kernel
theorem dX0_init_7 : decode cX0_init 7 = .ok (.newarray .int, 2) := by decide +kernel
theorem dX0_init_9 : decode cX0_init 9 = .ok (.putfield 9, 3) := by decide +kernel
theorem dX0_init_12 : decode cX0_init 12 = .ok (.aload_n 0, 1) := by decide +kernel
theorem dX0_init_13 : decode cX0_init 13 = .ok (.bipush 10, 2) := by decide +kernel
theorem dX0_init_15 : decode cX0_init 15 = .ok (.newarray .int, 2) := by decide +kernel
theorem dX0_init_17 : decode cX0_init 17 = .ok (.putfield 13, 3) := by decide +kernel
theorem dX0_init_20 : decode cX0_init 20 = .ok (.aload_n 0, 1) := by decide +kernel
theorem dX0_init_21 : decode cX0_init 21 = .ok (.bipush 10, 2) := by decide +kernel
theorem dX0_init_23 : decode cX0_init 23 = .ok (.bipush 96, 2) := by decide +kernel
theorem dX0_init_25 : decode cX0_init 25 = .ok (.multianewarray 16 2, 4) := by decide +kernel
theorem dX0_init_29 : decode cX0_init 29 = .ok (.putfield 18, 3) := by decide +kernel
theorem dX0_init_32 : decode cX0_init 32 = .ok (.aload_n 0, 1) := by decide +kernel
theorem dX0_init_33 : decode cX0_init 33 = .ok (.sipush 150, 3) := by decide +kernel
theorem dX0_init_36 : decode cX0_init 36 = .ok (.newarray .int, 2) := by decide +kernel
theorem dX0_init_38 : decode cX0_init 38 = .ok (.putfield 21, 3) := by decide +kernel
theorem dX0_init_41 : decode cX0_init 41 = .ok (.aload_n 0, 1) := by decide +kernel
theorem dX0_init_42 : decode cX0_init 42 = .ok (.sipush 150, 3) := by decide +kernel
theorem dX0_init_45 : decode cX0_init 45 = .ok (.newarray .int, 2) := by decide +kernel
theorem dX0_init_47 : decode cX0_init 47 = .ok (.putfield 24, 3) := by decide +kernel
theorem dX0_init_50 : decode cX0_init 50 = .ok (.aload_n 0, 1) := by decide +kernel
theorem dX0_init_51 : decode cX0_init 51 = .ok (.sipush 150, 3) := by decide +kernel
theorem dX0_init_54 : decode cX0_init 54 = .ok (.newarray .int, 2) := by decide +kernel
theorem dX0_init_56 : decode cX0_init 56 = .ok (.putfield 27, 3) := by decide +kernel
theorem dX0_init_59 : decode cX0_init 59 = .ok (.aload_n 0, 1) := by decide +kernel
theorem dX0_init_60 : decode cX0_init 60 = .ok (.sipush 150, 3) := by decide +kernel
theorem dX0_init_63 : decode cX0_init 63 = .ok (.newarray .int, 2) := by decide +kernel
theorem dX0_init_65 : decode cX0_init 65 = .ok (.putfield 30, 3) := by decide +kernel
theorem dX0_init_68 : decode cX0_init 68 = .ok (.aload_n 0, 1) := by decide +kernel
theorem dX0_init_69 : decode cX0_init 69 = .ok (.bipush 20, 2) := by decide +kernel
theorem dX0_init_71 : decode cX0_init 71 = .ok (.newarray .int, 2) := by decide +kernel
theorem dX0_init_73 : decode cX0_init 73 = .ok (.putfield 33, 3) := by decide +kernel
theorem dX0_init_76 : decode cX0_init 76 = .ok (.aload_n 0, 1) := by decide +kernel
theorem dX0_init_77 : decode cX0_init 77 = .ok (.bipush 20, 2) := by decide +kernel
theorem dX0_init_79 : decode cX0_init 79 = .ok (.newarray .int, 2) := by decide +kernel
theorem dX0_init_81 : decode cX0_init 81 = .ok (.putfield 36, 3) := by decide +kernel
theorem dX0_init_84 : decode cX0_init 84 = .ok (.aload_n 0, 1) := by decide +kernel
theorem dX0_init_85 : decode cX0_init 85 = .ok (.bipush 20, 2) := by decide +kernel
theorem dX0_init_87 : decode cX0_init 87 = .ok (.newarray .int, 2) := by decide +kernel
theorem dX0_init_89 : decode cX0_init 89 = .ok (.putfield 39, 3) := by decide +kernel
theorem dX0_init_92 : decode cX0_init 92 = .ok (.aload_n 0, 1) := by decide +kernel
theorem dX0_init_93 : decode cX0_init 93 = .ok (.bipush 20, 2) := by decide +kernel
theorem dX0_init_95 : decode cX0_init 95 = .ok (.newarray .int, 2) := by decide +kernel
theorem dX0_init_97 : decode cX0_init 97 = .ok (.putfield 42, 3) := by decide +kernel
theorem dX0_init_100 : decode cX0_init 100 = .ok (.aload_n 0, 1) := by decide +kernel
theorem dX0_init_101 : decode cX0_init 101 = .ok (.bipush 20, 2) := by decide +kernel
theorem dX0_init_103 : decode cX0_init 103 = .ok (.newarray .boolean, 2) := by decide +kernel
theorem dX0_init_105 : decode cX0_init 105 = .ok (.putfield 45, 3) := by decide +kernel
theorem dX0_init_108 : decode cX0_init 108 = .ok (.aload_n 0, 1) := by decide +kernel
theorem dX0_init_109 : decode cX0_init 109 = .ok (.bipush 96, 2) := by decide +kernel
theorem dX0_init_111 : decode cX0_init 111 = .ok (.newarray .int, 2) := by decide +kernel
theorem dX0_init_113 : decode cX0_init 113 = .ok (.putfield 49, 3) := by decide +kernel
theorem dX0_init_116 : decode cX0_init 116 = .ok (.return_, 1) := by decide +kernel
theorem dX0_lay_0 : decode cX0_lay 0 = .ok (.iload_n 1, 1) := by decide +kernel
theorem dX0_lay_1 : decode cX0_lay 1 = .ok (.invokestatic 52, 3) := by decide +kernel
theorem dX0_lay_4 : decode cX0_lay 4 = .ok (.aload_n 0, 1) := by decide +kernel
theorem dX0_lay_5 : decode cX0_lay 5 = .ok (.getfield 56, 3) := by decide +kernel
theorem dX0_lay_8 : decode cX0_lay 8 = .ok (.bipush 10, 2) := by decide +kernel
theorem dX0_lay_10 : decode cX0_lay 10 = .ok (.if_icmp .lt 13, 3) := by decide +kernel
theorem dX0_lay_13 : decode cX0_lay 13 = .ok (.new 60, 3) := by decide +kernel
theorem dX0_lay_16 : decode cX0_lay 16 = .ok (.dup, 1) := by decide +kernel
theorem dX0_lay_17 : decode cX0_lay 17 = .ok (.ldc 62, 2) := by decide +kernel
theorem dX0_lay_19 : decode cX0_lay 19 = .ok (.invokespecial 64, 3) := by decide +kernel
theorem dX0_lay_22 : decode cX0_lay 22 = .ok (.athrow, 1) := by decide +kernel
theorem dX0_lay_23 : decode cX0_lay 23 = .ok (.aload_n 0, 1) := by decide +kernel
theorem dX0_lay_24 : decode cX0_lay 24 = .ok (.getfield 9, 3) := by decide +kernel
theorem dX0_lay_27 : decode cX0_lay 27 = .ok (.aload_n 0, 1) := by decide +kernel
theorem dX0_lay_28 : decode cX0_lay 28 = .ok (.getfield 56, 3) := by decide +kernel
theorem dX0_lay_31 : decode cX0_lay 31 = .ok (.iload_n 1, 1) := by decide +kernel
theorem dX0_lay_32 : decode cX0_lay 32 = .ok (.iastore, 1) := by decide +kernel
theorem dX0_lay_33 : decode cX0_lay 33 = .ok (.aload_n 0, 1) := by decide +kernel
theorem dX0_lay_34 : decode cX0_lay 34 = .ok (.dup, 1) := by decide +kernel
theorem dX0_lay_35 : decode cX0_lay 35 = .ok (.getfield 56, 3) := by decide +kernel
theorem dX0_lay_38 : decode cX0_lay 38 = .ok (.iconst 1, 1) := by decide +kernel
theorem dX0_lay_39 : decode cX0_lay 39 = .ok (.iadd, 1) := by decide +kernel
theorem dX0_lay_40 : decode cX0_lay 40 = .ok (.putfield 56, 3) := by decide +kernel
theorem dX0_lay_43 : decode cX0_lay 43 = .ok (.aload_n 0, 1) := by decide +kernel
theorem dX0_lay_44 : decode cX0_lay 44 = .ok (.getfield 56, 3) := by decide +kernel
theorem dX0_lay_47 : decode cX0_lay 47 = .ok (.iconst 1, 1) := by decide +kernel
theorem dX0_lay_48 : decode cX0_lay 48 = .ok (.isub, 1) := by decide +kernel
theorem dX0_lay_49 : decode cX0_lay 49 = .ok (.ireturn, 1) := by decide +kernel
theorem dX0_mark_0 : decode cX0_mark 0 = .ok (.aload_n 0, 1) := by decide +kernel
theorem dX0_mark_1 : decode cX0_mark 1 = .ok (.iload_n 1, 1) := by decide +kernel
theorem dX0_mark_2 : decode cX0_mark 2 = .ok (.invokevirtual 67, 3) := by decide +kernel
theorem dX0_mark_5 : decode cX0_mark 5 = .ok (.iload_n 2, 1) := by decide +kernel
theorem dX0_mark_6 : decode cX0_mark 6 = .ok (.iload_n 3, 1) := by decide +kernel
theorem dX0_mark_7 : decode cX0_mark 7 = .ok (.invokestatic 70, 3) := by decide +kernel
theorem dX0_mark_10 : decode cX0_mark 10 = .ok (.iload 4, 2) := by decide +kernel
theorem dX0_mark_12 : decode cX0_mark 12 = .ok (.iconst 1, 1) := by decide +kernel
theorem dX0_mark_13 : decode cX0_mark 13 = .ok (.if_icmp .lt 27, 3) := by decide +kernel
theorem dX0_mark_16 : decode cX0_mark 16 = .ok (.iload 4, 2) := by decide +kernel
theorem dX0_mark_18 : decode cX0_mark 18 = .ok (.bipush 12, 2) := by decide +kernel
theorem dX0_mark_20 : decode cX0_mark 20 = .ok (.iload_n 2, 1) := by decide +kernel
theorem dX0_mark_21 : decode cX0_mark 21 = .ok (.isub, 1) := by decide +kernel
theorem dX0_mark_22 : decode cX0_mark 22 = .ok (.if_icmp .gt 18, 3) := by decide +kernel
theorem dX0_mark_25 : decode cX0_mark 25 = .ok (.iload 5, 2) := by decide +kernel
theorem dX0_mark_27 : decode cX0_mark 27 = .ok (.iconst 1, 1) := by decide +kernel
theorem dX0_mark_28 : decode cX0_mark 28 = .ok (.if_icmp .lt 12, 3) := by decide +kernel
theorem dX0_mark_31 : decode cX0_mark 31 = .ok (.iload 5, 2) := by decide +kernel
theorem dX0_mark_33 : decode cX0_mark 33 = .ok (.bipush 8, 2) := by decide +kernel
theorem dX0_mark_35 : decode cX0_mark 35 = .ok (.iload_n 3, 1) := by decide +kernel
theorem dX0_mark_36 : decode cX0_mark 36 = .ok (.isub, 1) := by decide +kernel
theorem dX0_mark_37 : decode cX0_mark 37 = .ok (.if_icmp .le 13, 3) := by decide +kernel
theorem dX0_mark_40 : decode cX0_mark 40 = .ok (.new 74, 3) := by decide +kernel
theorem dX0_mark_43 : decode cX0_mark 43 = .ok (.dup, 1) := by decide +kernel
theorem dX0_mark_44 : decode cX0_mark 44 = .ok (.ldc 76, 2) := by decide +kernel
theorem dX0_mark_46 : decode cX0_mark 46 = .ok (.invokespecial 78, 3) := by decide +kernel
theorem dX0_mark_49 : decode cX0_mark 49 = .ok (.athrow, 1) := by decide +kernel
theorem dX0_mark_50 : decode cX0_mark 50 = .ok (.iload 6, 2) := by decide +kernel
theorem dX0_mark_52 : decode cX0_mark 52 = .ok (.ifCond .lt 9, 3) := by decide +kernel
theorem dX0_mark_55 : decode cX0_mark 55 = .ok (.iload 6, 2) := by decide +kernel
theorem dX0_mark_57 : decode cX0_mark 57 = .ok (.iconst 2, 1) := by decide +kernel
theorem dX0_mark_58 : decode cX0_mark 58 = .ok (.if_icmp .le 13, 3) := by decide +kernel
theorem dX0_mark_61 : decode cX0_mark 61 = .ok (.new 74, 3) := by decide +kernel
theorem dX0_mark_64 : decode cX0_mark 64 = .ok (.dup, 1) := by decide +kernel
theorem dX0_mark_65 : decode cX0_mark 65 = .ok (.ldc 79, 2) := by decide +kernel
theorem dX0_mark_67 : decode cX0_mark 67 = .ok (.invokespecial 78, 3) := by decide +kernel
theorem dX0_mark_70 : decode cX0_mark 70 = .ok (.athrow, 1) := by decide +kernel
theorem dX0_mark_71 : decode cX0_mark 71 = .ok (.aload_n 0, 1) := by decide +kernel
theorem dX0_mark_72 : decode cX0_mark 72 = .ok (.getfield 18, 3) := by decide +kernel
theorem dX0_mark_75 : decode cX0_mark 75 = .ok (.iload_n 1, 1) := by decide +kernel
theorem dX0_mark_76 : decode cX0_mark 76 = .ok (.aaload, 1) := by decide +kernel
theorem dX0_mark_77 : decode cX0_mark 77 = .ok (.astore 7, 2) := by decide +kernel
theorem dX0_mark_79 : decode cX0_mark 79 = .ok (.aload 7, 2) := by decide +kernel
theorem dX0_mark_81 : decode cX0_mark 81 = .ok (.iload_n 2, 1) := by decide +kernel
theorem dX0_mark_82 : decode cX0_mark 82 = .ok (.iload_n 3, 1) := by decide +kernel
theorem dX0_mark_83 : decode cX0_mark 83 = .ok (.iload 4, 2) := by decide +kernel
theorem dX0_mark_85 : decode cX0_mark 85 = .ok (.iload 5, 2) := by decide +kernel
theorem dX0_mark_87 : decode cX0_mark 87 = .ok (.iconst 3, 1) := by decide +kernel
theorem dX0_mark_88 : decode cX0_mark 88 = .ok (.invokestatic 81, 3) := by decide +kernel
theorem dX0_mark_91 : decode cX0_mark 91 = .ok (.ifCond .le 13, 3) := by decide +kernel
theorem dX0_mark_94 : decode cX0_mark 94 = .ok (.new 60, 3) := by decide +kernel
theorem dX0_mark_97 : decode cX0_mark 97 = .ok (.dup, 1) := by decide +kernel
theorem dX0_mark_98 : decode cX0_mark 98 = .ok (.ldc 85, 2) := by decide +kernel
theorem dX0_mark_100 : decode cX0_mark 100 = .ok (.invokespecial 64, 3) := by decide +kernel
theorem dX0_mark_103 : decode cX0_mark 103 = .ok (.athrow, 1) := by decide +kernel
theorem dX0_mark_104 : decode cX0_mark 104 = .ok (.aload 7, 2) := by decide +kernel
theorem dX0_mark_106 : decode cX0_mark 106 = .ok (.iload_n 2, 1) := by decide +kernel
theorem dX0_mark_107 : decode cX0_mark 107 = .ok (.iload_n 3, 1) := by decide +kernel
theorem dX0_mark_108 : decode cX0_mark 108 = .ok (.iload 4, 2) := by decide +kernel
theorem dX0_mark_110 : decode cX0_mark 110 = .ok (.iload 5, 2) := by decide +kernel
theorem dX0_mark_112 : decode cX0_mark 112 = .ok (.iload 6, 2) := by decide +kernel
theorem dX0_mark_114 : decode cX0_mark 114 = .ok (.invokestatic 81, 3) := by decide +kernel
theorem dX0_mark_117 : decode cX0_mark 117 = .ok (.istore 8, 2) := by decide +kernel
theorem dX0_mark_119 : decode cX0_mark 119 = .ok (.aload 7, 2) := by decide +kernel
theorem dX0_mark_121 : decode cX0_mark 121 = .ok (.iload_n 2, 1) := by decide +kernel
theorem dX0_mark_122 : decode cX0_mark 122 = .ok (.iload_n 3, 1) := by decide +kernel
theorem dX0_mark_123 : decode cX0_mark 123 = .ok (.iload 4, 2) := by decide +kernel
theorem dX0_mark_125 : decode cX0_mark 125 = .ok (.iload 5, 2) := by decide +kernel
theorem dX0_mark_127 : decode cX0_mark 127 = .ok (.iload 6, 2) := by decide +kernel
theorem dX0_mark_129 : decode cX0_mark 129 = .ok (.invokestatic 87, 3) := by decide +kernel
theorem dX0_mark_132 : decode cX0_mark 132 = .ok (.iload 4, 2) := by decide +kernel
theorem dX0_mark_134 : decode cX0_mark 134 = .ok (.iload 5, 2) := by decide +kernel
theorem dX0_mark_136 : decode cX0_mark 136 = .ok (.imul, 1) := by decide +kernel
theorem dX0_mark_137 : decode cX0_mark 137 = .ok (.iload 8, 2) := by decide +kernel
theorem dX0_mark_139 : decode cX0_mark 139 = .ok (.isub, 1) := by decide +kernel
theorem dX0_mark_140 : decode cX0_mark 140 = .ok (.ireturn, 1) := by decide +kernel
theorem dX0_cell_0 : decode cX0_cell 0 = .ok (.aload_n 0, 1) := by decide +kernel
theorem dX0_cell_1 : decode cX0_cell 1 = .ok (.iload_n 1, 1) := by decide +kernel
theorem dX0_cell_2 : decode cX0_cell 2 = .ok (.invokevirtual 67, 3) := by decide +kernel
theorem dX0_cell_5 : decode cX0_cell 5 = .ok (.iload_n 2, 1) := by decide +kernel
theorem dX0_cell_6 : decode cX0_cell 6 = .ok (.iload_n 3, 1) := by decide +kernel
theorem dX0_cell_7 : decode cX0_cell 7 = .ok (.invokestatic 70, 3) := by decide +kernel
theorem dX0_cell_10 : decode cX0_cell 10 = .ok (.aload_n 0, 1) := by decide +kernel
theorem dX0_cell_11 : decode cX0_cell 11 = .ok (.getfield 18, 3) := by decide +kernel
theorem dX0_cell_14 : decode cX0_cell 14 = .ok (.iload_n 1, 1) := by decide +kernel
theorem dX0_cell_15 : decode cX0_cell 15 = .ok (.aaload, 1) := by decide +kernel
theorem dX0_cell_16 : decode cX0_cell 16 = .ok (.bipush 12, 2) := by decide +kernel
theorem dX0_cell_18 : decode cX0_cell 18 = .ok (.iload_n 3, 1) := by decide +kernel
theorem dX0_cell_19 : decode cX0_cell 19 = .ok (.imul, 1) := by decide +kernel
theorem dX0_cell_20 : decode cX0_cell 20 = .ok (.iload_n 2, 1) := by decide +kernel
theorem dX0_cell_21 : decode cX0_cell 21 = .ok (.iadd, 1) := by decide +kernel
theorem dX0_cell_22 : decode cX0_cell 22 = .ok (.iaload, 1) := by decide +kernel
theorem dX0_cell_23 : decode cX0_cell 23 = .ok (.ireturn, 1) := by decide +kernel
theorem dX0_skin_0 : decode cX0_skin 0 = .ok (.aload_n 0, 1) := by decide +kernel
theorem dX0_skin_1 : decode cX0_skin 1 = .ok (.iload_n 1, 1) := by decide +kernel
theorem dX0_skin_2 : decode cX0_skin 2 = .ok (.invokevirtual 67, 3) := by decide +kernel
theorem dX0_skin_5 : decode cX0_skin 5 = .ok (.iload_n 2, 1) := by decide +kernel
theorem dX0_skin_6 : decode cX0_skin 6 = .ok (.bipush 6, 2) := by decide +kernel
theorem dX0_skin_8 : decode cX0_skin 8 = .ok (.invokestatic 91, 3) := by decide +kernel
theorem dX0_skin_11 : decode cX0_skin 11 = .ok (.aload_n 0, 1) := by decide +kernel
theorem dX0_skin_12 : decode cX0_skin 12 = .ok (.iload_n 1, 1) := by decide +kernel
theorem dX0_skin_13 : decode cX0_skin 13 = .ok (.iload_n 2, 1) := by decide +kernel
theorem dX0_skin_14 : decode cX0_skin 14 = .ok (.invokevirtual 94, 3) := by decide +kernel
theorem dX0_skin_17 : decode cX0_skin 17 = .ok (.ireturn, 1) := by decide +kernel
theorem dX0_cut_0 : decode cX0_cut 0 = .ok (.aload_n 0, 1) := by decide +kernel
theorem dX0_cut_1 : decode cX0_cut 1 = .ok (.iload_n 1, 1) := by decide +kernel
theorem dX0_cut_2 : decode cX0_cut 2 = .ok (.invokevirtual 67, 3) := by decide +kernel
theorem dX0_cut_5 : decode cX0_cut 5 = .ok (.iload 4, 2) := by decide +kernel
theorem dX0_cut_7 : decode cX0_cut 7 = .ok (.iload 5, 2) := by decide +kernel
theorem dX0_cut_9 : decode cX0_cut 9 = .ok (.invokestatic 70, 3) := by decide +kernel
theorem dX0_cut_12 : decode cX0_cut 12 = .ok (.iload_n 2, 1) := by decide +kernel
theorem dX0_cut_13 : decode cX0_cut 13 = .ok (.invokestatic 98, 3) := by decide +kernel
theorem dX0_cut_16 : decode cX0_cut 16 = .ok (.aload_n 0, 1) := by decide +kernel
theorem dX0_cut_17 : decode cX0_cut 17 = .ok (.getfield 18, 3) := by decide +kernel
theorem dX0_cut_20 : decode cX0_cut 20 = .ok (.iload_n 1, 1) := by decide +kernel
theorem dX0_cut_21 : decode cX0_cut 21 = .ok (.aaload, 1) := by decide +kernel
theorem dX0_cut_22 : decode cX0_cut 22 = .ok (.astore 6, 2) := by decide +kernel
theorem dX0_cut_24 : decode cX0_cut 24 = .ok (.aload 6, 2) := by decide +kernel
theorem dX0_cut_26 : decode cX0_cut 26 = .ok (.iload_n 2, 1) := by decide +kernel
theorem dX0_cut_27 : decode cX0_cut 27 = .ok (.iload_n 3, 1) := by decide +kernel
theorem dX0_cut_28 : decode cX0_cut 28 = .ok (.iload 4, 2) := by decide +kernel
theorem dX0_cut_30 : decode cX0_cut 30 = .ok (.iload 5, 2) := by decide +kernel
theorem dX0_cut_32 : decode cX0_cut 32 = .ok (.invokestatic 101, 3) := by decide +kernel
theorem dX0_cut_35 : decode cX0_cut 35 = .ok (.ifCond .ne 13, 3) := by decide +kernel
theorem dX0_cut_38 : decode cX0_cut 38 = .ok (.new 60, 3) := by decide +kernel
theorem dX0_cut_41 : decode cX0_cut 41 = .ok (.dup, 1) := by decide +kernel
theorem dX0_cut_42 : decode cX0_cut 42 = .ok (.ldc 105, 2) := by decide +kernel
theorem dX0_cut_44 : decode cX0_cut 44 = .ok (.invokespecial 64, 3) := by decide +kernel
theorem dX0_cut_47 : decode cX0_cut 47 = .ok (.athrow, 1) := by decide +kernel
theorem dX0_cut_48 : decode cX0_cut 48 = .ok (.aload_n 0, 1) := by decide +kernel
theorem dX0_cut_49 : decode cX0_cut 49 = .ok (.getfield 107, 3) := by decide +kernel
theorem dX0_cut_52 : decode cX0_cut 52 = .ok (.sipush 150, 3) := by decide +kernel
theorem dX0_cut_55 : decode cX0_cut 55 = .ok (.if_icmp .lt 13, 3) := by decide +kernel
theorem dX0_cut_58 : decode cX0_cut 58 = .ok (.new 60, 3) := by decide +kernel
theorem dX0_cut_61 : decode cX0_cut 61 = .ok (.dup, 1) := by decide +kernel
theorem dX0_cut_62 : decode cX0_cut 62 = .ok (.ldc 110, 2) := by decide +kernel
theorem dX0_cut_64 : decode cX0_cut 64 = .ok (.invokespecial 64, 3) := by decide +kernel
theorem dX0_cut_67 : decode cX0_cut 67 = .ok (.athrow, 1) := by decide +kernel
theorem dX0_cut_68 : decode cX0_cut 68 = .ok (.iload_n 2, 1) := by decide +kernel
theorem dX0_cut_69 : decode cX0_cut 69 = .ok (.iload_n 3, 1) := by decide +kernel
theorem dX0_cut_70 : decode cX0_cut 70 = .ok (.invokestatic 112, 3) := by decide +kernel
theorem dX0_cut_73 : decode cX0_cut 73 = .ok (.istore 7, 2) := by decide +kernel
theorem dX0_cut_75 : decode cX0_cut 75 = .ok (.iload_n 2, 1) := by decide +kernel
theorem dX0_cut_76 : decode cX0_cut 76 = .ok (.iload_n 3, 1) := by decide +kernel
theorem dX0_cut_77 : decode cX0_cut 77 = .ok (.invokestatic 116, 3) := by decide +kernel
theorem dX0_cut_80 : decode cX0_cut 80 = .ok (.istore 8, 2) := by decide +kernel
theorem dX0_cut_82 : decode cX0_cut 82 = .ok (.aload_n 0, 1) := by decide +kernel
theorem dX0_cut_83 : decode cX0_cut 83 = .ok (.getfield 21, 3) := by decide +kernel
theorem dX0_cut_86 : decode cX0_cut 86 = .ok (.aload_n 0, 1) := by decide +kernel
theorem dX0_cut_87 : decode cX0_cut 87 = .ok (.getfield 107, 3) := by decide +kernel
theorem dX0_cut_90 : decode cX0_cut 90 = .ok (.iload_n 1, 1) := by decide +kernel
theorem dX0_cut_91 : decode cX0_cut 91 = .ok (.iastore, 1) := by decide +kernel
theorem dX0_cut_92 : decode cX0_cut 92 = .ok (.aload_n 0, 1) := by decide +kernel
theorem dX0_cut_93 : decode cX0_cut 93 = .ok (.getfield 24, 3) := by decide +kernel
theorem dX0_cut_96 : decode cX0_cut 96 = .ok (.aload_n 0, 1) := by decide +kernel
theorem dX0_cut_97 : decode cX0_cut 97 = .ok (.getfield 107, 3) := by decide +kernel
theorem dX0_cut_100 : decode cX0_cut 100 = .ok (.iload_n 2, 1) := by decide +kernel
theorem dX0_cut_101 : decode cX0_cut 101 = .ok (.iastore, 1) := by decide +kernel
theorem dX0_cut_102 : decode cX0_cut 102 = .ok (.aload_n 0, 1) := by decide +kernel
theorem dX0_cut_103 : decode cX0_cut 103 = .ok (.getfield 27, 3) := by decide +kernel
theorem dX0_cut_106 : decode cX0_cut 106 = .ok (.aload_n 0, 1) := by decide +kernel
theorem dX0_cut_107 : decode cX0_cut 107 = .ok (.getfield 107, 3) := by decide +kernel
theorem dX0_cut_110 : decode cX0_cut 110 = .ok (.iconst (-1), 1) := by decide +kernel
theorem dX0_cut_111 : decode cX0_cut 111 = .ok (.iastore, 1) := by decide +kernel
theorem dX0_cut_112 : decode cX0_cut 112 = .ok (.aload_n 0, 1) := by decide +kernel
theorem dX0_cut_113 : decode cX0_cut 113 = .ok (.getfield 30, 3) := by decide +kernel
theorem dX0_cut_116 : decode cX0_cut 116 = .ok (.aload_n 0, 1) := by decide +kernel
theorem dX0_cut_117 : decode cX0_cut 117 = .ok (.getfield 107, 3) := by decide +kernel
theorem dX0_cut_120 : decode cX0_cut 120 = .ok (.aload 6, 2) := by decide +kernel
theorem dX0_cut_122 : decode cX0_cut 122 = .ok (.iload 4, 2) := by decide +kernel
theorem dX0_cut_124 : decode cX0_cut 124 = .ok (.iload 5, 2) := by decide +kernel
theorem dX0_cut_126 : decode cX0_cut 126 = .ok (.iload 7, 2) := by decide +kernel
theorem dX0_cut_128 : decode cX0_cut 128 = .ok (.iload 8, 2) := by decide +kernel
theorem dX0_cut_130 : decode cX0_cut 130 = .ok (.iconst 1, 1) := by decide +kernel
theorem dX0_cut_131 : decode cX0_cut 131 = .ok (.invokestatic 81, 3) := by decide +kernel
theorem dX0_cut_134 : decode cX0_cut 134 = .ok (.iastore, 1) := by decide +kernel
theorem dX0_cut_135 : decode cX0_cut 135 = .ok (.aload 6, 2) := by decide +kernel
theorem dX0_cut_137 : decode cX0_cut 137 = .ok (.iload 4, 2) := by decide +kernel
theorem dX0_cut_139 : decode cX0_cut 139 = .ok (.iload 5, 2) := by decide +kernel
theorem dX0_cut_141 : decode cX0_cut 141 = .ok (.iload 7, 2) := by decide +kernel
theorem dX0_cut_143 : decode cX0_cut 143 = .ok (.iload 8, 2) := by decide +kernel
theorem dX0_cut_145 : decode cX0_cut 145 = .ok (.iconst 3, 1) := by decide +kernel
theorem dX0_cut_146 : decode cX0_cut 146 = .ok (.invokestatic 87, 3) := by decide +kernel
theorem dX0_cut_149 : decode cX0_cut 149 = .ok (.aload_n 0, 1) := by decide +kernel
theorem dX0_cut_150 : decode cX0_cut 150 = .ok (.getfield 13, 3) := by decide +kernel
theorem dX0_cut_153 : decode cX0_cut 153 = .ok (.iload_n 1, 1) := by decide +kernel
theorem dX0_cut_154 : decode cX0_cut 154 = .ok (.dup2, 1) := by decide +kernel
theorem dX0_cut_155 : decode cX0_cut 155 = .ok (.iaload, 1) := by decide +kernel
theorem dX0_cut_156 : decode cX0_cut 156 = .ok (.iconst 1, 1) := by decide +kernel
theorem dX0_cut_157 : decode cX0_cut 157 = .ok (.iadd, 1) := by decide +kernel
theorem dX0_cut_158 : decode cX0_cut 158 = .ok (.iastore, 1) := by decide +kernel
theorem dX0_cut_159 : decode cX0_cut 159 = .ok (.aload_n 0, 1) := by decide +kernel
theorem dX0_cut_160 : decode cX0_cut 160 = .ok (.dup, 1) := by decide +kernel
theorem dX0_cut_161 : decode cX0_cut 161 = .ok (.getfield 107, 3) := by decide +kernel
theorem dX0_cut_164 : decode cX0_cut 164 = .ok (.iconst 1, 1) := by decide +kernel
theorem dX0_cut_165 : decode cX0_cut 165 = .ok (.iadd, 1) := by decide +kernel
theorem dX0_cut_166 : decode cX0_cut 166 = .ok (.putfield 107, 3) := by decide +kernel
theorem dX0_cut_169 : decode cX0_cut 169 = .ok (.aload_n 0, 1) := by decide +kernel
theorem dX0_cut_170 : decode cX0_cut 170 = .ok (.getfield 107, 3) := by decide +kernel
theorem dX0_cut_173 : decode cX0_cut 173 = .ok (.iconst 1, 1) := by decide +kernel
theorem dX0_cut_174 : decode cX0_cut 174 = .ok (.isub, 1) := by decide +kernel
theorem dX0_cut_175 : decode cX0_cut 175 = .ok (.ireturn, 1) := by decide +kernel
theorem dX0_place_0 : decode cX0_place 0 = .ok (.aload_n 0, 1) := by decide +kernel
theorem dX0_place_1 : decode cX0_place 1 = .ok (.iload_n 1, 1) := by decide +kernel
theorem dX0_place_2 : decode cX0_place 2 = .ok (.invokevirtual 67, 3) := by decide +kernel
theorem dX0_place_5 : decode cX0_place 5 = .ok (.iload_n 2, 1) := by decide +kernel
theorem dX0_place_6 : decode cX0_place 6 = .ok (.invokestatic 98, 3) := by decide +kernel
theorem dX0_place_9 : decode cX0_place 9 = .ok (.aload_n 0, 1) := by decide +kernel
theorem dX0_place_10 : decode cX0_place 10 = .ok (.getfield 18, 3) := by decide +kernel
theorem dX0_place_13 : decode cX0_place 13 = .ok (.iload_n 1, 1) := by decide +kernel
theorem dX0_place_14 : decode cX0_place 14 = .ok (.aaload, 1) := by decide +kernel
theorem dX0_place_15 : decode cX0_place 15 = .ok (.iload_n 2, 1) := by decide +kernel
theorem dX0_place_16 : decode cX0_place 16 = .ok (.iload_n 3, 1) := by decide +kernel
theorem dX0_place_17 : decode cX0_place 17 = .ok (.iconst 0, 1) := by decide +kernel
theorem dX0_place_18 : decode cX0_place 18 = .ok (.invokestatic 119, 3) := by decide +kernel
theorem dX0_place_21 : decode cX0_place 21 = .ok (.ireturn, 1) := by decide +kernel
theorem dX0_piece_0 : decode cX0_piece 0 = .ok (.iload_n 1, 1) := by decide +kernel
theorem dX0_piece_1 : decode cX0_piece 1 = .ok (.ifCond .lt 11, 3) := by decide +kernel
theorem dX0_piece_4 : decode cX0_piece 4 = .ok (.iload_n 1, 1) := by decide +kernel
theorem dX0_piece_5 : decode cX0_piece 5 = .ok (.aload_n 0, 1) := by decide +kernel
theorem dX0_piece_6 : decode cX0_piece 6 = .ok (.getfield 107, 3) := by decide +kernel
theorem dX0_piece_9 : decode cX0_piece 9 = .ok (.if_icmp .lt 13, 3) := by decide +kernel
theorem dX0_piece_12 : decode cX0_piece 12 = .ok (.new 123, 3) := by decide +kernel
theorem dX0_piece_15 : decode cX0_piece 15 = .ok (.dup, 1) := by decide +kernel
theorem dX0_piece_16 : decode cX0_piece 16 = .ok (.ldc 125, 2) := by decide +kernel
theorem dX0_piece_18 : decode cX0_piece 18 = .ok (.invokespecial 127, 3) := by decide +kernel
theorem dX0_piece_21 : decode cX0_piece 21 = .ok (.athrow, 1) := by decide +kernel
theorem dX0_piece_22 : decode cX0_piece 22 = .ok (.iload_n 2, 1) := by decide +kernel
theorem dX0_piece_23 : decode cX0_piece 23 = .ok (.iconst 4, 1) := by decide +kernel
theorem dX0_piece_24 : decode cX0_piece 24 = .ok (.invokestatic 91, 3) := by decide +kernel
theorem dX0_piece_27 : decode cX0_piece 27 = .ok (.aload_n 0, 1) := by decide +kernel
theorem dX0_piece_28 : decode cX0_piece 28 = .ok (.iload_n 1, 1) := by decide +kernel
theorem dX0_piece_29 : decode cX0_piece 29 = .ok (.iload_n 2, 1) := by decide +kernel
theorem dX0_piece_30 : decode cX0_piece 30 = .ok (.invokevirtual 128, 3) := by decide +kernel
theorem dX0_piece_33 : decode cX0_piece 33 = .ok (.ireturn, 1) := by decide +kernel
theorem dX0_sew_0 : decode cX0_sew 0 = .ok (.iload_n 1, 1) := by decide +kernel
theorem dX0_sew_1 : decode cX0_sew 1 = .ok (.invokestatic 52, 3) := by decide +kernel
theorem dX0_sew_4 : decode cX0_sew 4 = .ok (.iconst 0, 1) := by decide +kernel
theorem dX0_sew_5 : decode cX0_sew 5 = .ok (.istore_n 2, 1) := by decide +kernel
theorem dX0_sew_6 : decode cX0_sew 6 = .ok (.iload_n 2, 1) := by decide +kernel
theorem dX0_sew_7 : decode cX0_sew 7 = .ok (.iconst 4, 1) := by decide +kernel
theorem dX0_sew_8 : decode cX0_sew 8 = .ok (.if_icmp .ge 28, 3) := by decide +kernel
theorem dX0_sew_11 : decode cX0_sew 11 = .ok (.aload_n 0, 1) := by decide +kernel
theorem dX0_sew_12 : decode cX0_sew 12 = .ok (.iload_n 1, 1) := by decide +kernel
theorem dX0_sew_13 : decode cX0_sew 13 = .ok (.iload_n 2, 1) := by decide +kernel
theorem dX0_sew_14 : decode cX0_sew 14 = .ok (.invokevirtual 131, 3) := by decide +kernel
theorem dX0_sew_17 : decode cX0_sew 17 = .ok (.ifCond .le 13, 3) := by decide +kernel
theorem dX0_sew_20 : decode cX0_sew 20 = .ok (.new 60, 3) := by decide +kernel
theorem dX0_sew_23 : decode cX0_sew 23 = .ok (.dup, 1) := by decide +kernel
theorem dX0_sew_24 : decode cX0_sew 24 = .ok (.ldc 134, 2) := by decide +kernel
theorem dX0_sew_26 : decode cX0_sew 26 = .ok (.invokespecial 64, 3) := by decide +kernel
theorem dX0_sew_29 : decode cX0_sew 29 = .ok (.athrow, 1) := by decide +kernel
theorem dX0_sew_30 : decode cX0_sew 30 = .ok (.iinc 2 1, 3) := by decide +kernel
theorem dX0_sew_33 : decode cX0_sew 33 = .ok (.goto (-27), 3) := by decide +kernel
theorem dX0_sew_36 : decode cX0_sew 36 = .ok (.aload_n 0, 1) := by decide +kernel
theorem dX0_sew_37 : decode cX0_sew 37 = .ok (.getfield 136, 3) := by decide +kernel
theorem dX0_sew_40 : decode cX0_sew 40 = .ok (.bipush 20, 2) := by decide +kernel
theorem dX0_sew_42 : decode cX0_sew 42 = .ok (.if_icmp .lt 13, 3) := by decide +kernel
theorem dX0_sew_45 : decode cX0_sew 45 = .ok (.new 60, 3) := by decide +kernel
theorem dX0_sew_48 : decode cX0_sew 48 = .ok (.dup, 1) := by decide +kernel
theorem dX0_sew_49 : decode cX0_sew 49 = .ok (.ldc 139, 2) := by decide +kernel
theorem dX0_sew_51 : decode cX0_sew 51 = .ok (.invokespecial 64, 3) := by decide +kernel
theorem dX0_sew_54 : decode cX0_sew 54 = .ok (.athrow, 1) := by decide +kernel
theorem dX0_sew_55 : decode cX0_sew 55 = .ok (.aload_n 0, 1) := by decide +kernel
theorem dX0_sew_56 : decode cX0_sew 56 = .ok (.iload_n 1, 1) := by decide +kernel
theorem dX0_sew_57 : decode cX0_sew 57 = .ok (.invokevirtual 141, 3) := by decide +kernel
theorem dX0_sew_60 : decode cX0_sew 60 = .ok (.aload_n 0, 1) := by decide +kernel
theorem dX0_sew_61 : decode cX0_sew 61 = .ok (.getfield 136, 3) := by decide +kernel
theorem dX0_sew_64 : decode cX0_sew 64 = .ok (.iconst 1, 1) := by decide +kernel
theorem dX0_sew_65 : decode cX0_sew 65 = .ok (.isub, 1) := by decide +kernel
theorem dX0_sew_66 : decode cX0_sew 66 = .ok (.ireturn, 1) := by decide +kernel
theorem dX0_rip_0 : decode cX0_rip 0 = .ok (.aload_n 0, 1) := by decide +kernel
theorem dX0_rip_1 : decode cX0_rip 1 = .ok (.iload_n 1, 1) := by decide +kernel
theorem dX0_rip_2 : decode cX0_rip 2 = .ok (.invokevirtual 144, 3) := by decide +kernel
theorem dX0_rip_5 : decode cX0_rip 5 = .ok (.aload_n 0, 1) := by decide +kernel
theorem dX0_rip_6 : decode cX0_rip 6 = .ok (.getfield 45, 3) := by decide +kernel
theorem dX0_rip_9 : decode cX0_rip 9 = .ok (.iload_n 1, 1) := by decide +kernel
theorem dX0_rip_10 : decode cX0_rip 10 = .ok (.baload, 1) := by decide +kernel
theorem dX0_rip_11 : decode cX0_rip 11 = .ok (.ifCond .eq 13, 3) := by decide +kernel
theorem dX0_rip_14 : decode cX0_rip 14 = .ok (.new 60, 3) := by decide +kernel
theorem dX0_rip_17 : decode cX0_rip 17 = .ok (.dup, 1) := by decide +kernel
theorem dX0_rip_18 : decode cX0_rip 18 = .ok (.ldc 147, 2) := by decide +kernel
theorem dX0_rip_20 : decode cX0_rip 20 = .ok (.invokespecial 64, 3) := by decide +kernel
theorem dX0_rip_23 : decode cX0_rip 23 = .ok (.athrow, 1) := by decide +kernel
theorem dX0_rip_24 : decode cX0_rip 24 = .ok (.aload_n 0, 1) := by decide +kernel
theorem dX0_rip_25 : decode cX0_rip 25 = .ok (.getfield 45, 3) := by decide +kernel
theorem dX0_rip_28 : decode cX0_rip 28 = .ok (.iload_n 1, 1) := by decide +kernel
theorem dX0_rip_29 : decode cX0_rip 29 = .ok (.iconst 1, 1) := by decide +kernel
theorem dX0_rip_30 : decode cX0_rip 30 = .ok (.bastore, 1) := by decide +kernel
theorem dX0_rip_31 : decode cX0_rip 31 = .ok (.iconst 0, 1) := by decide +kernel
theorem dX0_rip_32 : decode cX0_rip 32 = .ok (.istore_n 2, 1) := by decide +kernel
theorem dX0_rip_33 : decode cX0_rip 33 = .ok (.iconst 0, 1) := by decide +kernel
theorem dX0_rip_34 : decode cX0_rip 34 = .ok (.istore_n 3, 1) := by decide +kernel
theorem dX0_rip_35 : decode cX0_rip 35 = .ok (.iload_n 3, 1) := by decide +kernel
theorem dX0_rip_36 : decode cX0_rip 36 = .ok (.aload_n 0, 1) := by decide +kernel
theorem dX0_rip_37 : decode cX0_rip 37 = .ok (.getfield 107, 3) := by decide +kernel
theorem dX0_rip_40 : decode cX0_rip 40 = .ok (.if_icmp .ge 66, 3) := by decide +kernel
theorem dX0_rip_43 : decode cX0_rip 43 = .ok (.aload_n 0, 1) := by decide +kernel
theorem dX0_rip_44 : decode cX0_rip 44 = .ok (.getfield 27, 3) := by decide +kernel
theorem dX0_rip_47 : decode cX0_rip 47 = .ok (.iload_n 3, 1) := by decide +kernel
theorem dX0_rip_48 : decode cX0_rip 48 = .ok (.iaload, 1) := by decide +kernel
theorem dX0_rip_49 : decode cX0_rip 49 = .ok (.iload_n 1, 1) := by decide +kernel
theorem dX0_rip_50 : decode cX0_rip 50 = .ok (.if_icmp .ne 50, 3) := by decide +kernel
theorem dX0_rip_53 : decode cX0_rip 53 = .ok (.aload_n 0, 1) := by decide +kernel
theorem dX0_rip_54 : decode cX0_rip 54 = .ok (.getfield 24, 3) := by decide +kernel
theorem dX0_rip_57 : decode cX0_rip 57 = .ok (.iload_n 3, 1) := by decide +kernel
theorem dX0_rip_58 : decode cX0_rip 58 = .ok (.iaload, 1) := by decide +kernel
theorem dX0_rip_59 : decode cX0_rip 59 = .ok (.iconst 2, 1) := by decide +kernel
theorem dX0_rip_60 : decode cX0_rip 60 = .ok (.if_icmp .ne 7, 3) := by decide +kernel
theorem dX0_rip_63 : decode cX0_rip 63 = .ok (.iconst 1, 1) := by decide +kernel
theorem dX0_rip_64 : decode cX0_rip 64 = .ok (.goto 4, 3) := by decide +kernel
theorem dX0_rip_67 : decode cX0_rip 67 = .ok (.iconst 0, 1) := by decide +kernel
theorem dX0_rip_68 : decode cX0_rip 68 = .ok (.istore 4, 2) := by decide +kernel
theorem dX0_rip_70 : decode cX0_rip 70 = .ok (.aload_n 0, 1) := by decide +kernel
theorem dX0_rip_71 : decode cX0_rip 71 = .ok (.getfield 27, 3) := by decide +kernel
theorem dX0_rip_74 : decode cX0_rip 74 = .ok (.iload_n 3, 1) := by decide +kernel
theorem dX0_rip_75 : decode cX0_rip 75 = .ok (.iload 4, 2) := by decide +kernel
theorem dX0_rip_77 : decode cX0_rip 77 = .ok (.ifCond .eq 8, 3) := by decide +kernel
theorem dX0_rip_80 : decode cX0_rip 80 = .ok (.bipush (-2), 2) := by decide +kernel
theorem dX0_rip_82 : decode cX0_rip 82 = .ok (.goto 4, 3) := by decide +kernel
theorem dX0_rip_85 : decode cX0_rip 85 = .ok (.iconst (-1), 1) := by decide +kernel
theorem dX0_rip_86 : decode cX0_rip 86 = .ok (.iastore, 1) := by decide +kernel
theorem dX0_rip_87 : decode cX0_rip 87 = .ok (.iload_n 2, 1) := by decide +kernel
theorem dX0_rip_88 : decode cX0_rip 88 = .ok (.iload 4, 2) := by decide +kernel
theorem dX0_rip_90 : decode cX0_rip 90 = .ok (.ifCond .eq 7, 3) := by decide +kernel
theorem dX0_rip_93 : decode cX0_rip 93 = .ok (.iconst 0, 1) := by decide +kernel
theorem dX0_rip_94 : decode cX0_rip 94 = .ok (.goto 4, 3) := by decide +kernel
theorem dX0_rip_97 : decode cX0_rip 97 = .ok (.iconst 1, 1) := by decide +kernel
theorem dX0_rip_98 : decode cX0_rip 98 = .ok (.iadd, 1) := by decide +kernel
theorem dX0_rip_99 : decode cX0_rip 99 = .ok (.istore_n 2, 1) := by decide +kernel
theorem dX0_rip_100 : decode cX0_rip 100 = .ok (.iinc 3 1, 3) := by decide +kernel
theorem dX0_rip_103 : decode cX0_rip 103 = .ok (.goto (-68), 3) := by decide +kernel
theorem dX0_rip_106 : decode cX0_rip 106 = .ok (.iload_n 2, 1) := by decide +kernel
theorem dX0_rip_107 : decode cX0_rip 107 = .ok (.ireturn, 1) := by decide +kernel
theorem dX0_pair_0 : decode cX0_pair 0 = .ok (.aload_n 0, 1) := by decide +kernel
theorem dX0_pair_1 : decode cX0_pair 1 = .ok (.iload_n 1, 1) := by decide +kernel
theorem dX0_pair_2 : decode cX0_pair 2 = .ok (.invokevirtual 144, 3) := by decide +kernel
theorem dX0_pair_5 : decode cX0_pair 5 = .ok (.iload_n 2, 1) := by decide +kernel
theorem dX0_pair_6 : decode cX0_pair 6 = .ok (.iconst 5, 1) := by decide +kernel
theorem dX0_pair_7 : decode cX0_pair 7 = .ok (.invokestatic 91, 3) := by decide +kernel
theorem dX0_pair_10 : decode cX0_pair 10 = .ok (.aload_n 0, 1) := by decide +kernel
theorem dX0_pair_11 : decode cX0_pair 11 = .ok (.iload_n 1, 1) := by decide +kernel
theorem dX0_pair_12 : decode cX0_pair 12 = .ok (.iload_n 2, 1) := by decide +kernel
theorem dX0_pair_13 : decode cX0_pair 13 = .ok (.invokevirtual 149, 3) := by decide +kernel
theorem dX0_pair_16 : decode cX0_pair 16 = .ok (.ireturn, 1) := by decide +kernel
theorem dX0_count_0 : decode cX0_count 0 = .ok (.iload_n 1, 1) := by decide +kernel
theorem dX0_count_1 : decode cX0_count 1 = .ok (.bipush 7, 2) := by decide +kernel
theorem dX0_count_3 : decode cX0_count 3 = .ok (.invokestatic 91, 3) := by decide +kernel
theorem dX0_count_6 : decode cX0_count 6 = .ok (.aload_n 0, 1) := by decide +kernel
theorem dX0_count_7 : decode cX0_count 7 = .ok (.iload_n 1, 1) := by decide +kernel
theorem dX0_count_8 : decode cX0_count 8 = .ok (.invokevirtual 152, 3) := by decide +kernel
theorem dX0_count_11 : decode cX0_count 11 = .ok (.ireturn, 1) := by decide +kernel
theorem dX0_gives_0 : decode cX0_gives 0 = .ok (.aload_n 0, 1) := by decide +kernel
theorem dX0_gives_1 : decode cX0_gives 1 = .ok (.iload_n 1, 1) := by decide +kernel
theorem dX0_gives_2 : decode cX0_gives 2 = .ok (.invokevirtual 67, 3) := by decide +kernel
theorem dX0_gives_5 : decode cX0_gives 5 = .ok (.iload_n 2, 1) := by decide +kernel
theorem dX0_gives_6 : decode cX0_gives 6 = .ok (.invokestatic 98, 3) := by decide +kernel
theorem dX0_gives_9 : decode cX0_gives 9 = .ok (.aload_n 0, 1) := by decide +kernel
theorem dX0_gives_10 : decode cX0_gives 10 = .ok (.iload_n 1, 1) := by decide +kernel
theorem dX0_gives_11 : decode cX0_gives 11 = .ok (.iload_n 2, 1) := by decide +kernel
theorem dX0_gives_12 : decode cX0_gives 12 = .ok (.iload_n 3, 1) := by decide +kernel
theorem dX0_gives_13 : decode cX0_gives 13 = .ok (.invokevirtual 156, 3) := by decide +kernel
theorem dX0_gives_16 : decode cX0_gives 16 = .ok (.ireturn, 1) := by decide +kernel
theorem dX0_best_0 : decode cX0_best 0 = .ok (.iload_n 1, 1) := by decide +kernel
theorem dX0_best_1 : decode cX0_best 1 = .ok (.invokestatic 98, 3) := by decide +kernel
theorem dX0_best_4 : decode cX0_best 4 = .ok (.iconst (-1), 1) := by decide +kernel
theorem dX0_best_5 : decode cX0_best 5 = .ok (.istore_n 3, 1) := by decide +kernel
theorem dX0_best_6 : decode cX0_best 6 = .ok (.iconst 0, 1) := by decide +kernel
theorem dX0_best_7 : decode cX0_best 7 = .ok (.istore 4, 2) := by decide +kernel
theorem dX0_best_9 : decode cX0_best 9 = .ok (.iconst 0, 1) := by decide +kernel
theorem dX0_best_10 : decode cX0_best 10 = .ok (.istore 5, 2) := by decide +kernel
theorem dX0_best_12 : decode cX0_best 12 = .ok (.iload 5, 2) := by decide +kernel
theorem dX0_best_14 : decode cX0_best 14 = .ok (.aload_n 0, 1) := by decide +kernel
theorem dX0_best_15 : decode cX0_best 15 = .ok (.getfield 56, 3) := by decide +kernel
theorem dX0_best_18 : decode cX0_best 18 = .ok (.if_icmp .ge 33, 3) := by decide +kernel
theorem dX0_best_21 : decode cX0_best 21 = .ok (.aload_n 0, 1) := by decide +kernel
theorem dX0_best_22 : decode cX0_best 22 = .ok (.iload 5, 2) := by decide +kernel
theorem dX0_best_24 : decode cX0_best 24 = .ok (.iload_n 1, 1) := by decide +kernel
theorem dX0_best_25 : decode cX0_best 25 = .ok (.iload_n 2, 1) := by decide +kernel
theorem dX0_best_26 : decode cX0_best 26 = .ok (.invokevirtual 156, 3) := by decide +kernel
theorem dX0_best_29 : decode cX0_best 29 = .ok (.istore 6, 2) := by decide +kernel
theorem dX0_best_31 : decode cX0_best 31 = .ok (.iload 6, 2) := by decide +kernel
theorem dX0_best_33 : decode cX0_best 33 = .ok (.iload 4, 2) := by decide +kernel
theorem dX0_best_35 : decode cX0_best 35 = .ok (.if_icmp .le 10, 3) := by decide +kernel
theorem dX0_best_38 : decode cX0_best 38 = .ok (.iload 6, 2) := by decide +kernel
theorem dX0_best_40 : decode cX0_best 40 = .ok (.istore 4, 2) := by decide +kernel
theorem dX0_best_42 : decode cX0_best 42 = .ok (.iload 5, 2) := by decide +kernel
theorem dX0_best_44 : decode cX0_best 44 = .ok (.istore_n 3, 1) := by decide +kernel
theorem dX0_best_45 : decode cX0_best 45 = .ok (.iinc 5 1, 3) := by decide +kernel
theorem dX0_best_48 : decode cX0_best 48 = .ok (.goto (-36), 3) := by decide +kernel
theorem dX0_best_51 : decode cX0_best 51 = .ok (.iload_n 3, 1) := by decide +kernel
theorem dX0_best_52 : decode cX0_best 52 = .ok (.ireturn, 1) := by decide +kernel
theorem dX0_lacks_0 : decode cX0_lacks 0 = .ok (.iload_n 1, 1) := by decide +kernel
theorem dX0_lacks_1 : decode cX0_lacks 1 = .ok (.invokestatic 52, 3) := by decide +kernel
theorem dX0_lacks_4 : decode cX0_lacks 4 = .ok (.iload_n 2, 1) := by decide +kernel
theorem dX0_lacks_5 : decode cX0_lacks 5 = .ok (.invokestatic 98, 3) := by decide +kernel
theorem dX0_lacks_8 : decode cX0_lacks 8 = .ok (.aload_n 0, 1) := by decide +kernel
theorem dX0_lacks_9 : decode cX0_lacks 9 = .ok (.iload_n 1, 1) := by decide +kernel
theorem dX0_lacks_10 : decode cX0_lacks 10 = .ok (.iload_n 2, 1) := by decide +kernel
theorem dX0_lacks_11 : decode cX0_lacks 11 = .ok (.invokevirtual 131, 3) := by decide +kernel
theorem dX0_lacks_14 : decode cX0_lacks 14 = .ok (.ireturn, 1) := by decide +kernel
theorem dX0_pairs_0 : decode cX0_pairs 0 = .ok (.iload_n 1, 1) := by decide +kernel
theorem dX0_pairs_1 : decode cX0_pairs 1 = .ok (.invokestatic 52, 3) := by decide +kernel
theorem dX0_pairs_4 : decode cX0_pairs 4 = .ok (.aload_n 0, 1) := by decide +kernel
theorem dX0_pairs_5 : decode cX0_pairs 5 = .ok (.iload_n 1, 1) := by decide +kernel
theorem dX0_pairs_6 : decode cX0_pairs 6 = .ok (.invokevirtual 160, 3) := by decide +kernel
theorem dX0_pairs_9 : decode cX0_pairs 9 = .ok (.istore_n 2, 1) := by decide +kernel
theorem dX0_pairs_10 : decode cX0_pairs 10 = .ok (.iconst 1, 1) := by decide +kernel
theorem dX0_pairs_11 : decode cX0_pairs 11 = .ok (.istore_n 3, 1) := by decide +kernel
theorem dX0_pairs_12 : decode cX0_pairs 12 = .ok (.iload_n 3, 1) := by decide +kernel
theorem dX0_pairs_13 : decode cX0_pairs 13 = .ok (.iconst 4, 1) := by decide +kernel
theorem dX0_pairs_14 : decode cX0_pairs 14 = .ok (.if_icmp .ge 24, 3) := by decide +kernel
theorem dX0_pairs_17 : decode cX0_pairs 17 = .ok (.iload_n 2, 1) := by decide +kernel
theorem dX0_pairs_18 : decode cX0_pairs 18 = .ok (.aload_n 0, 1) := by decide +kernel
theorem dX0_pairs_19 : decode cX0_pairs 19 = .ok (.iload_n 1, 1) := by decide +kernel
theorem dX0_pairs_20 : decode cX0_pairs 20 = .ok (.iload_n 3, 1) := by decide +kernel
theorem dX0_pairs_21 : decode cX0_pairs 21 = .ok (.invokevirtual 163, 3) := by decide +kernel
theorem dX0_pairs_24 : decode cX0_pairs 24 = .ok (.iload_n 3, 1) := by decide +kernel
theorem dX0_pairs_25 : decode cX0_pairs 25 = .ok (.invokestatic 166, 3) := by decide +kernel
theorem dX0_pairs_28 : decode cX0_pairs 28 = .ok (.invokestatic 169, 3) := by decide +kernel
theorem dX0_pairs_31 : decode cX0_pairs 31 = .ok (.istore_n 2, 1) := by decide +kernel
theorem dX0_pairs_32 : decode cX0_pairs 32 = .ok (.iinc 3 1, 3) := by decide +kernel
theorem dX0_pairs_35 : decode cX0_pairs 35 = .ok (.goto (-23), 3) := by decide +kernel
theorem dX0_pairs_38 : decode cX0_pairs 38 = .ok (.iload_n 2, 1) := by decide +kernel
theorem dX0_pairs_39 : decode cX0_pairs 39 = .ok (.ireturn, 1) := by decide +kernel
theorem dX0_share_0 : decode cX0_share 0 = .ok (.iconst 0, 1) := by decide +kernel
theorem dX0_share_1 : decode cX0_share 1 = .ok (.istore_n 1, 1) := by decide +kernel
theorem dX0_share_2 : decode cX0_share 2 = .ok (.iconst 0, 1) := by decide +kernel
theorem dX0_share_3 : decode cX0_share 3 = .ok (.istore_n 2, 1) := by decide +kernel
theorem dX0_share_4 : decode cX0_share 4 = .ok (.iconst 0, 1) := by decide +kernel
theorem dX0_share_5 : decode cX0_share 5 = .ok (.istore_n 3, 1) := by decide +kernel
theorem dX0_share_6 : decode cX0_share 6 = .ok (.iload_n 3, 1) := by decide +kernel
theorem dX0_share_7 : decode cX0_share 7 = .ok (.aload_n 0, 1) := by decide +kernel
theorem dX0_share_8 : decode cX0_share 8 = .ok (.getfield 56, 3) := by decide +kernel
theorem dX0_share_11 : decode cX0_share 11 = .ok (.if_icmp .ge 30, 3) := by decide +kernel
theorem dX0_share_14 : decode cX0_share 14 = .ok (.iload_n 1, 1) := by decide +kernel
theorem dX0_share_15 : decode cX0_share 15 = .ok (.aload_n 0, 1) := by decide +kernel
theorem dX0_share_16 : decode cX0_share 16 = .ok (.iload_n 3, 1) := by decide +kernel
theorem dX0_share_17 : decode cX0_share 17 = .ok (.iconst 3, 1) := by decide +kernel
theorem dX0_share_18 : decode cX0_share 18 = .ok (.invokevirtual 174, 3) := by decide +kernel
theorem dX0_share_21 : decode cX0_share 21 = .ok (.iadd, 1) := by decide +kernel
theorem dX0_share_22 : decode cX0_share 22 = .ok (.istore_n 1, 1) := by decide +kernel
theorem dX0_share_23 : decode cX0_share 23 = .ok (.iload_n 2, 1) := by decide +kernel
theorem dX0_share_24 : decode cX0_share 24 = .ok (.bipush 96, 2) := by decide +kernel
theorem dX0_share_26 : decode cX0_share 26 = .ok (.aload_n 0, 1) := by decide +kernel
theorem dX0_share_27 : decode cX0_share 27 = .ok (.iload_n 3, 1) := by decide +kernel
theorem dX0_share_28 : decode cX0_share 28 = .ok (.iconst 2, 1) := by decide +kernel
theorem dX0_share_29 : decode cX0_share 29 = .ok (.invokevirtual 174, 3) := by decide +kernel
theorem dX0_share_32 : decode cX0_share 32 = .ok (.isub, 1) := by decide +kernel
theorem dX0_share_33 : decode cX0_share 33 = .ok (.iadd, 1) := by decide +kernel
theorem dX0_share_34 : decode cX0_share 34 = .ok (.istore_n 2, 1) := by decide +kernel
theorem dX0_share_35 : decode cX0_share 35 = .ok (.iinc 3 1, 3) := by decide +kernel
theorem dX0_share_38 : decode cX0_share 38 = .ok (.goto (-32), 3) := by decide +kernel
theorem dX0_share_41 : decode cX0_share 41 = .ok (.iload_n 2, 1) := by decide +kernel
theorem dX0_share_42 : decode cX0_share 42 = .ok (.ifCond .ne 5, 3) := by decide +kernel
theorem dX0_share_45 : decode cX0_share 45 = .ok (.dconst 0, 1) := by decide +kernel
theorem dX0_share_46 : decode cX0_share 46 = .ok (.dreturn, 1) := by decide +kernel
theorem dX0_share_47 : decode cX0_share 47 = .ok (.iload_n 1, 1) := by decide +kernel
theorem dX0_share_48 : decode cX0_share 48 = .ok (.i2d, 1) := by decide +kernel
theorem dX0_share_49 : decode cX0_share 49 = .ok (.iload_n 2, 1) := by decide +kernel
theorem dX0_share_50 : decode cX0_share 50 = .ok (.i2d, 1) := by decide +kernel
theorem dX0_share_51 : decode cX0_share 51 = .ok (.ddiv, 1) := by decide +kernel
theorem dX0_share_52 : decode cX0_share 52 = .ok (.dreturn, 1) := by decide +kernel
theorem dX0_digest_0 : decode cX0_digest 0 = .ok (.ldc2_w 177, 3) := by decide +kernel
theorem dX0_digest_3 : decode cX0_digest 3 = .ok (.lstore_n 1, 1) := by decide +kernel
theorem dX0_digest_4 : decode cX0_digest 4 = .ok (.iconst 0, 1) := by decide +kernel
theorem dX0_digest_5 : decode cX0_digest 5 = .ok (.istore_n 3, 1) := by decide +kernel
theorem dX0_digest_6 : decode cX0_digest 6 = .ok (.iload_n 3, 1) := by decide +kernel
theorem dX0_digest_7 : decode cX0_digest 7 = .ok (.bipush 7, 2) := by decide +kernel
theorem dX0_digest_9 : decode cX0_digest 9 = .ok (.if_icmp .ge 22, 3) := by decide +kernel
theorem dX0_digest_12 : decode cX0_digest 12 = .ok (.lload_n 1, 1) := by decide +kernel
theorem dX0_digest_13 : decode cX0_digest 13 = .ok (.ldc2_w 179, 3) := by decide +kernel
theorem dX0_digest_16 : decode cX0_digest 16 = .ok (.lmul, 1) := by decide +kernel
theorem dX0_digest_17 : decode cX0_digest 17 = .ok (.aload_n 0, 1) := by decide +kernel
theorem dX0_digest_18 : decode cX0_digest 18 = .ok (.iload_n 3, 1) := by decide +kernel
theorem dX0_digest_19 : decode cX0_digest 19 = .ok (.invokevirtual 152, 3) := by decide +kernel
theorem dX0_digest_22 : decode cX0_digest 22 = .ok (.i2l, 1) := by decide +kernel
theorem dX0_digest_23 : decode cX0_digest 23 = .ok (.ladd, 1) := by decide +kernel
theorem dX0_digest_24 : decode cX0_digest 24 = .ok (.lstore_n 1, 1) := by decide +kernel
theorem dX0_digest_25 : decode cX0_digest 25 = .ok (.iinc 3 1, 3) := by decide +kernel
theorem dX0_digest_28 : decode cX0_digest 28 = .ok (.goto (-22), 3) := by decide +kernel
theorem dX0_digest_31 : decode cX0_digest 31 = .ok (.iconst 0, 1) := by decide +kernel
theorem dX0_digest_32 : decode cX0_digest 32 = .ok (.istore_n 3, 1) := by decide +kernel
theorem dX0_digest_33 : decode cX0_digest 33 = .ok (.iload_n 3, 1) := by decide +kernel
theorem dX0_digest_34 : decode cX0_digest 34 = .ok (.aload_n 0, 1) := by decide +kernel
theorem dX0_digest_35 : decode cX0_digest 35 = .ok (.getfield 56, 3) := by decide +kernel
theorem dX0_digest_38 : decode cX0_digest 38 = .ok (.if_icmp .ge 16, 3) := by decide +kernel
theorem dX0_digest_41 : decode cX0_digest 41 = .ok (.aload_n 0, 1) := by decide +kernel
theorem dX0_digest_42 : decode cX0_digest 42 = .ok (.lload_n 1, 1) := by decide +kernel
theorem dX0_digest_43 : decode cX0_digest 43 = .ok (.iload_n 3, 1) := by decide +kernel
theorem dX0_digest_44 : decode cX0_digest 44 = .ok (.invokevirtual 181, 3) := by decide +kernel
theorem dX0_digest_47 : decode cX0_digest 47 = .ok (.lstore_n 1, 1) := by decide +kernel
theorem dX0_digest_48 : decode cX0_digest 48 = .ok (.iinc 3 1, 3) := by decide +kernel
theorem dX0_digest_51 : decode cX0_digest 51 = .ok (.goto (-18), 3) := by decide +kernel
theorem dX0_digest_54 : decode cX0_digest 54 = .ok (.iconst 0, 1) := by decide +kernel
theorem dX0_digest_55 : decode cX0_digest 55 = .ok (.istore_n 3, 1) := by decide +kernel
theorem dX0_digest_56 : decode cX0_digest 56 = .ok (.iload_n 3, 1) := by decide +kernel
theorem dX0_digest_57 : decode cX0_digest 57 = .ok (.aload_n 0, 1) := by decide +kernel
theorem dX0_digest_58 : decode cX0_digest 58 = .ok (.getfield 107, 3) := by decide +kernel
theorem dX0_digest_61 : decode cX0_digest 61 = .ok (.if_icmp .ge 39, 3) := by decide +kernel
theorem dX0_digest_64 : decode cX0_digest 64 = .ok (.iconst 0, 1) := by decide +kernel
theorem dX0_digest_65 : decode cX0_digest 65 = .ok (.istore 4, 2) := by decide +kernel
theorem dX0_digest_67 : decode cX0_digest 67 = .ok (.iload 4, 2) := by decide +kernel
theorem dX0_digest_69 : decode cX0_digest 69 = .ok (.iconst 4, 1) := by decide +kernel
theorem dX0_digest_70 : decode cX0_digest 70 = .ok (.if_icmp .ge 24, 3) := by decide +kernel
theorem dX0_digest_73 : decode cX0_digest 73 = .ok (.lload_n 1, 1) := by decide +kernel
theorem dX0_digest_74 : decode cX0_digest 74 = .ok (.ldc2_w 179, 3) := by decide +kernel
theorem dX0_digest_77 : decode cX0_digest 77 = .ok (.lmul, 1) := by decide +kernel
theorem dX0_digest_78 : decode cX0_digest 78 = .ok (.aload_n 0, 1) := by decide +kernel
theorem dX0_digest_79 : decode cX0_digest 79 = .ok (.iload_n 3, 1) := by decide +kernel
theorem dX0_digest_80 : decode cX0_digest 80 = .ok (.iload 4, 2) := by decide +kernel
theorem dX0_digest_82 : decode cX0_digest 82 = .ok (.invokevirtual 128, 3) := by decide +kernel
theorem dX0_digest_85 : decode cX0_digest 85 = .ok (.i2l, 1) := by decide +kernel
theorem dX0_digest_86 : decode cX0_digest 86 = .ok (.ladd, 1) := by decide +kernel
theorem dX0_digest_87 : decode cX0_digest 87 = .ok (.lstore_n 1, 1) := by decide +kernel
theorem dX0_digest_88 : decode cX0_digest 88 = .ok (.iinc 4 1, 3) := by decide +kernel
theorem dX0_digest_91 : decode cX0_digest 91 = .ok (.goto (-24), 3) := by decide +kernel
theorem dX0_digest_94 : decode cX0_digest 94 = .ok (.iinc 3 1, 3) := by decide +kernel
theorem dX0_digest_97 : decode cX0_digest 97 = .ok (.goto (-41), 3) := by decide +kernel
theorem dX0_digest_100 : decode cX0_digest 100 = .ok (.iconst 0, 1) := by decide +kernel
theorem dX0_digest_101 : decode cX0_digest 101 = .ok (.istore_n 3, 1) := by decide +kernel
theorem dX0_digest_102 : decode cX0_digest 102 = .ok (.iload_n 3, 1) := by decide +kernel
theorem dX0_digest_103 : decode cX0_digest 103 = .ok (.aload_n 0, 1) := by decide +kernel
theorem dX0_digest_104 : decode cX0_digest 104 = .ok (.getfield 136, 3) := by decide +kernel
theorem dX0_digest_107 : decode cX0_digest 107 = .ok (.if_icmp .ge 39, 3) := by decide +kernel
theorem dX0_digest_110 : decode cX0_digest 110 = .ok (.iconst 0, 1) := by decide +kernel
theorem dX0_digest_111 : decode cX0_digest 111 = .ok (.istore 4, 2) := by decide +kernel
theorem dX0_digest_113 : decode cX0_digest 113 = .ok (.iload 4, 2) := by decide +kernel
theorem dX0_digest_115 : decode cX0_digest 115 = .ok (.iconst 5, 1) := by decide +kernel
theorem dX0_digest_116 : decode cX0_digest 116 = .ok (.if_icmp .ge 24, 3) := by decide +kernel
theorem dX0_digest_119 : decode cX0_digest 119 = .ok (.lload_n 1, 1) := by decide +kernel
theorem dX0_digest_120 : decode cX0_digest 120 = .ok (.ldc2_w 179, 3) := by decide +kernel
theorem dX0_digest_123 : decode cX0_digest 123 = .ok (.lmul, 1) := by decide +kernel
theorem dX0_digest_124 : decode cX0_digest 124 = .ok (.aload_n 0, 1) := by decide +kernel
theorem dX0_digest_125 : decode cX0_digest 125 = .ok (.iload_n 3, 1) := by decide +kernel
theorem dX0_digest_126 : decode cX0_digest 126 = .ok (.iload 4, 2) := by decide +kernel
theorem dX0_digest_128 : decode cX0_digest 128 = .ok (.invokevirtual 149, 3) := by decide +kernel
theorem dX0_digest_131 : decode cX0_digest 131 = .ok (.i2l, 1) := by decide +kernel
theorem dX0_digest_132 : decode cX0_digest 132 = .ok (.ladd, 1) := by decide +kernel
theorem dX0_digest_133 : decode cX0_digest 133 = .ok (.lstore_n 1, 1) := by decide +kernel
theorem dX0_digest_134 : decode cX0_digest 134 = .ok (.iinc 4 1, 3) := by decide +kernel
theorem dX0_digest_137 : decode cX0_digest 137 = .ok (.goto (-24), 3) := by decide +kernel
theorem dX0_digest_140 : decode cX0_digest 140 = .ok (.iinc 3 1, 3) := by decide +kernel
theorem dX0_digest_143 : decode cX0_digest 143 = .ok (.goto (-41), 3) := by decide +kernel
theorem dX0_digest_146 : decode cX0_digest 146 = .ok (.lload_n 1, 1) := by decide +kernel
theorem dX0_digest_147 : decode cX0_digest 147 = .ok (.lreturn, 1) := by decide +kernel
theorem dX0_digestSkin_0 : decode cX0_digestSkin 0 = .ok (.lload_n 1, 1) := by decide +kernel
theorem dX0_digestSkin_1 : decode cX0_digestSkin 1 = .ok (.lstore 4, 2) := by decide +kernel
theorem dX0_digestSkin_3 : decode cX0_digestSkin 3 = .ok (.iconst 0, 1) := by decide +kernel
theorem dX0_digestSkin_4 : decode cX0_digestSkin 4 = .ok (.istore 6, 2) := by decide +kernel
theorem dX0_digestSkin_6 : decode cX0_digestSkin 6 = .ok (.iload 6, 2) := by decide +kernel
theorem dX0_digestSkin_8 : decode cX0_digestSkin 8 = .ok (.bipush 6, 2) := by decide +kernel
theorem dX0_digestSkin_10 : decode cX0_digestSkin 10 = .ok (.if_icmp .ge 26, 3) := by decide +kernel
theorem dX0_digestSkin_13 : decode cX0_digestSkin 13 = .ok (.lload 4, 2) := by decide +kernel
theorem dX0_digestSkin_15 : decode cX0_digestSkin 15 = .ok (.ldc2_w 179, 3) := by decide +kernel
theorem dX0_digestSkin_18 : decode cX0_digestSkin 18 = .ok (.lmul, 1) := by decide +kernel
theorem dX0_digestSkin_19 : decode cX0_digestSkin 19 = .ok (.aload_n 0, 1) := by decide +kernel
theorem dX0_digestSkin_20 : decode cX0_digestSkin 20 = .ok (.iload_n 3, 1) := by decide +kernel
theorem dX0_digestSkin_21 : decode cX0_digestSkin 21 = .ok (.iload 6, 2) := by decide +kernel
theorem dX0_digestSkin_23 : decode cX0_digestSkin 23 = .ok (.invokevirtual 94, 3) := by decide +kernel
theorem dX0_digestSkin_26 : decode cX0_digestSkin 26 = .ok (.i2l, 1) := by decide +kernel
theorem dX0_digestSkin_27 : decode cX0_digestSkin 27 = .ok (.ladd, 1) := by decide +kernel
theorem dX0_digestSkin_28 : decode cX0_digestSkin 28 = .ok (.lstore 4, 2) := by decide +kernel
theorem dX0_digestSkin_30 : decode cX0_digestSkin 30 = .ok (.iinc 6 1, 3) := by decide +kernel
theorem dX0_digestSkin_33 : decode cX0_digestSkin 33 = .ok (.goto (-27), 3) := by decide +kernel
theorem dX0_digestSkin_36 : decode cX0_digestSkin 36 = .ok (.iconst 0, 1) := by decide +kernel
theorem dX0_digestSkin_37 : decode cX0_digestSkin 37 = .ok (.istore 6, 2) := by decide +kernel
theorem dX0_digestSkin_39 : decode cX0_digestSkin 39 = .ok (.iload 6, 2) := by decide +kernel
theorem dX0_digestSkin_41 : decode cX0_digestSkin 41 = .ok (.bipush 96, 2) := by decide +kernel
theorem dX0_digestSkin_43 : decode cX0_digestSkin 43 = .ok (.if_icmp .ge 28, 3) := by decide +kernel
theorem dX0_digestSkin_46 : decode cX0_digestSkin 46 = .ok (.lload 4, 2) := by decide +kernel
theorem dX0_digestSkin_48 : decode cX0_digestSkin 48 = .ok (.ldc2_w 179, 3) := by decide +kernel
theorem dX0_digestSkin_51 : decode cX0_digestSkin 51 = .ok (.lmul, 1) := by decide +kernel
theorem dX0_digestSkin_52 : decode cX0_digestSkin 52 = .ok (.aload_n 0, 1) := by decide +kernel
theorem dX0_digestSkin_53 : decode cX0_digestSkin 53 = .ok (.getfield 18, 3) := by decide +kernel
theorem dX0_digestSkin_56 : decode cX0_digestSkin 56 = .ok (.iload_n 3, 1) := by decide +kernel
theorem dX0_digestSkin_57 : decode cX0_digestSkin 57 = .ok (.aaload, 1) := by decide +kernel
theorem dX0_digestSkin_58 : decode cX0_digestSkin 58 = .ok (.iload 6, 2) := by decide +kernel
theorem dX0_digestSkin_60 : decode cX0_digestSkin 60 = .ok (.iaload, 1) := by decide +kernel
theorem dX0_digestSkin_61 : decode cX0_digestSkin 61 = .ok (.i2l, 1) := by decide +kernel
theorem dX0_digestSkin_62 : decode cX0_digestSkin 62 = .ok (.ladd, 1) := by decide +kernel
theorem dX0_digestSkin_63 : decode cX0_digestSkin 63 = .ok (.lstore 4, 2) := by decide +kernel
theorem dX0_digestSkin_65 : decode cX0_digestSkin 65 = .ok (.iinc 6 1, 3) := by decide +kernel
theorem dX0_digestSkin_68 : decode cX0_digestSkin 68 = .ok (.goto (-29), 3) := by decide +kernel
theorem dX0_digestSkin_71 : decode cX0_digestSkin 71 = .ok (.lload 4, 2) := by decide +kernel
theorem dX0_digestSkin_73 : decode cX0_digestSkin 73 = .ok (.lreturn, 1) := by decide +kernel
theorem dX0_needSkin_0 : decode cX0_needSkin 0 = .ok (.iload_n 1, 1) := by decide +kernel
theorem dX0_needSkin_1 : decode cX0_needSkin 1 = .ok (.ifCond .lt 11, 3) := by decide +kernel
theorem dX0_needSkin_4 : decode cX0_needSkin 4 = .ok (.iload_n 1, 1) := by decide +kernel
theorem dX0_needSkin_5 : decode cX0_needSkin 5 = .ok (.aload_n 0, 1) := by decide +kernel
theorem dX0_needSkin_6 : decode cX0_needSkin 6 = .ok (.getfield 56, 3) := by decide +kernel
theorem dX0_needSkin_9 : decode cX0_needSkin 9 = .ok (.if_icmp .lt 13, 3) := by decide +kernel
theorem dX0_needSkin_12 : decode cX0_needSkin 12 = .ok (.new 123, 3) := by decide +kernel
theorem dX0_needSkin_15 : decode cX0_needSkin 15 = .ok (.dup, 1) := by decide +kernel
theorem dX0_needSkin_16 : decode cX0_needSkin 16 = .ok (.ldc 185, 2) := by decide +kernel
theorem dX0_needSkin_18 : decode cX0_needSkin 18 = .ok (.invokespecial 127, 3) := by decide +kernel
theorem dX0_needSkin_21 : decode cX0_needSkin 21 = .ok (.athrow, 1) := by decide +kernel
theorem dX0_needSkin_22 : decode cX0_needSkin 22 = .ok (.return_, 1) := by decide +kernel
theorem dX0_needPair_0 : decode cX0_needPair 0 = .ok (.iload_n 1, 1) := by decide +kernel
theorem dX0_needPair_1 : decode cX0_needPair 1 = .ok (.ifCond .lt 11, 3) := by decide +kernel
theorem dX0_needPair_4 : decode cX0_needPair 4 = .ok (.iload_n 1, 1) := by decide +kernel
theorem dX0_needPair_5 : decode cX0_needPair 5 = .ok (.aload_n 0, 1) := by decide +kernel
theorem dX0_needPair_6 : decode cX0_needPair 6 = .ok (.getfield 136, 3) := by decide +kernel
theorem dX0_needPair_9 : decode cX0_needPair 9 = .ok (.if_icmp .lt 13, 3) := by decide +kernel
theorem dX0_needPair_12 : decode cX0_needPair 12 = .ok (.new 123, 3) := by decide +kernel
theorem dX0_needPair_15 : decode cX0_needPair 15 = .ok (.dup, 1) := by decide +kernel
theorem dX0_needPair_16 : decode cX0_needPair 16 = .ok (.ldc 187, 2) := by decide +kernel
theorem dX0_needPair_18 : decode cX0_needPair 18 = .ok (.invokespecial 127, 3) := by decide +kernel
theorem dX0_needPair_21 : decode cX0_needPair 21 = .ok (.athrow, 1) := by decide +kernel
theorem dX0_needPair_22 : decode cX0_needPair 22 = .ok (.return_, 1) := by decide +kernel
theorem dX0_needCell_0 : decode cX0_needCell 0 = .ok (.iload_n 0, 1) := by decide +kernel
theorem dX0_needCell_1 : decode cX0_needCell 1 = .ok (.ifCond .lt 19, 3) := by decide +kernel
theorem dX0_needCell_4 : decode cX0_needCell 4 = .ok (.iload_n 0, 1) := by decide +kernel
theorem dX0_needCell_5 : decode cX0_needCell 5 = .ok (.bipush 12, 2) := by decide +kernel
theorem dX0_needCell_7 : decode cX0_needCell 7 = .ok (.if_icmp .ge 13, 3) := by decide +kernel
theorem dX0_needCell_10 : decode cX0_needCell 10 = .ok (.iload_n 1, 1) := by decide +kernel
theorem dX0_needCell_11 : decode cX0_needCell 11 = .ok (.ifCond .lt 9, 3) := by decide +kernel
theorem dX0_needCell_14 : decode cX0_needCell 14 = .ok (.iload_n 1, 1) := by decide +kernel
theorem dX0_needCell_15 : decode cX0_needCell 15 = .ok (.bipush 8, 2) := by decide +kernel
theorem dX0_needCell_17 : decode cX0_needCell 17 = .ok (.if_icmp .lt 13, 3) := by decide +kernel
theorem dX0_needCell_20 : decode cX0_needCell 20 = .ok (.new 123, 3) := by decide +kernel
theorem dX0_needCell_23 : decode cX0_needCell 23 = .ok (.dup, 1) := by decide +kernel
theorem dX0_needCell_24 : decode cX0_needCell 24 = .ok (.ldc 189, 2) := by decide +kernel
theorem dX0_needCell_26 : decode cX0_needCell 26 = .ok (.invokespecial 127, 3) := by decide +kernel
theorem dX0_needCell_29 : decode cX0_needCell 29 = .ok (.athrow, 1) := by decide +kernel
theorem dX0_needCell_30 : decode cX0_needCell 30 = .ok (.return_, 1) := by decide +kernel
theorem dX0_needWhat_0 : decode cX0_needWhat 0 = .ok (.iload_n 0, 1) := by decide +kernel
theorem dX0_needWhat_1 : decode cX0_needWhat 1 = .ok (.ifCond .lt 8, 3) := by decide +kernel
theorem dX0_needWhat_4 : decode cX0_needWhat 4 = .ok (.iload_n 0, 1) := by decide +kernel
theorem dX0_needWhat_5 : decode cX0_needWhat 5 = .ok (.iload_n 1, 1) := by decide +kernel
theorem dX0_needWhat_6 : decode cX0_needWhat 6 = .ok (.if_icmp .lt 13, 3) := by decide +kernel
theorem dX0_needWhat_9 : decode cX0_needWhat 9 = .ok (.new 123, 3) := by decide +kernel
theorem dX0_needWhat_12 : decode cX0_needWhat 12 = .ok (.dup, 1) := by decide +kernel
theorem dX0_needWhat_13 : decode cX0_needWhat 13 = .ok (.ldc 191, 2) := by decide +kernel
theorem dX0_needWhat_15 : decode cX0_needWhat 15 = .ok (.invokespecial 127, 3) := by decide +kernel
theorem dX0_needWhat_18 : decode cX0_needWhat 18 = .ok (.athrow, 1) := by decide +kernel
theorem dX0_needWhat_19 : decode cX0_needWhat 19 = .ok (.return_, 1) := by decide +kernel
theorem dX0_needColour_0 : decode cX0_needColour 0 = .ok (.iload_n 0, 1) := by decide +kernel
theorem dX0_needColour_1 : decode cX0_needColour 1 = .ok (.ifCond .lt 9, 3) := by decide +kernel
theorem dX0_needColour_4 : decode cX0_needColour 4 = .ok (.iload_n 0, 1) := by decide +kernel
theorem dX0_needColour_5 : decode cX0_needColour 5 = .ok (.bipush 6, 2) := by decide +kernel
theorem dX0_needColour_7 : decode cX0_needColour 7 = .ok (.if_icmp .lt 13, 3) := by decide +kernel
theorem dX0_needColour_10 : decode cX0_needColour 10 = .ok (.new 74, 3) := by decide +kernel
theorem dX0_needColour_13 : decode cX0_needColour 13 = .ok (.dup, 1) := by decide +kernel
theorem dX0_needColour_14 : decode cX0_needColour 14 = .ok (.ldc 193, 2) := by decide +kernel
theorem dX0_needColour_16 : decode cX0_needColour 16 = .ok (.invokespecial 78, 3) := by decide +kernel
theorem dX0_needColour_19 : decode cX0_needColour 19 = .ok (.athrow, 1) := by decide +kernel
theorem dX0_needColour_20 : decode cX0_needColour 20 = .ok (.return_, 1) := by decide +kernel
theorem dX0_needKind_0 : decode cX0_needKind 0 = .ok (.iload_n 0, 1) := by decide +kernel
theorem dX0_needKind_1 : decode cX0_needKind 1 = .ok (.ifCond .lt 8, 3) := by decide +kernel
theorem dX0_needKind_4 : decode cX0_needKind 4 = .ok (.iload_n 0, 1) := by decide +kernel
theorem dX0_needKind_5 : decode cX0_needKind 5 = .ok (.iconst 4, 1) := by decide +kernel
theorem dX0_needKind_6 : decode cX0_needKind 6 = .ok (.if_icmp .lt 13, 3) := by decide +kernel
theorem dX0_needKind_9 : decode cX0_needKind 9 = .ok (.new 74, 3) := by decide +kernel
theorem dX0_needKind_12 : decode cX0_needKind 12 = .ok (.dup, 1) := by decide +kernel
theorem dX0_needKind_13 : decode cX0_needKind 13 = .ok (.ldc 195, 2) := by decide +kernel
theorem dX0_needKind_15 : decode cX0_needKind 15 = .ok (.invokespecial 78, 3) := by decide +kernel
theorem dX0_needKind_18 : decode cX0_needKind 18 = .ok (.athrow, 1) := by decide +kernel
theorem dX0_needKind_19 : decode cX0_needKind 19 = .ok (.return_, 1) := by decide +kernel
theorem dX0_tellSkin_0 : decode cX0_tellSkin 0 = .ok (.iload_n 2, 1) := by decide +kernel
theorem dX0_tellSkin_1 : decode cX0_tellSkin 1 = .ok (.tableswitch 70 0 4 #[35, 42, 49, 56, 63], 35) := by decide +kernel
theorem dX0_tellSkin_36 : decode cX0_tellSkin 36 = .ok (.aload_n 0, 1) := by decide +kernel
theorem dX0_tellSkin_37 : decode cX0_tellSkin 37 = .ok (.getfield 9, 3) := by decide +kernel
theorem dX0_tellSkin_40 : decode cX0_tellSkin 40 = .ok (.iload_n 1, 1) := by decide +kernel
theorem dX0_tellSkin_41 : decode cX0_tellSkin 41 = .ok (.iaload, 1) := by decide +kernel
theorem dX0_tellSkin_42 : decode cX0_tellSkin 42 = .ok (.ireturn, 1) := by decide +kernel
theorem dX0_tellSkin_43 : decode cX0_tellSkin 43 = .ok (.aload_n 0, 1) := by decide +kernel
theorem dX0_tellSkin_44 : decode cX0_tellSkin 44 = .ok (.iload_n 1, 1) := by decide +kernel
theorem dX0_tellSkin_45 : decode cX0_tellSkin 45 = .ok (.iconst 0, 1) := by decide +kernel
theorem dX0_tellSkin_46 : decode cX0_tellSkin 46 = .ok (.invokevirtual 174, 3) := by decide +kernel
theorem dX0_tellSkin_49 : decode cX0_tellSkin 49 = .ok (.ireturn, 1) := by decide +kernel
theorem dX0_tellSkin_50 : decode cX0_tellSkin 50 = .ok (.aload_n 0, 1) := by decide +kernel
theorem dX0_tellSkin_51 : decode cX0_tellSkin 51 = .ok (.iload_n 1, 1) := by decide +kernel
theorem dX0_tellSkin_52 : decode cX0_tellSkin 52 = .ok (.iconst 1, 1) := by decide +kernel
theorem dX0_tellSkin_53 : decode cX0_tellSkin 53 = .ok (.invokevirtual 174, 3) := by decide +kernel
theorem dX0_tellSkin_56 : decode cX0_tellSkin 56 = .ok (.ireturn, 1) := by decide +kernel
theorem dX0_tellSkin_57 : decode cX0_tellSkin 57 = .ok (.aload_n 0, 1) := by decide +kernel
theorem dX0_tellSkin_58 : decode cX0_tellSkin 58 = .ok (.iload_n 1, 1) := by decide +kernel
theorem dX0_tellSkin_59 : decode cX0_tellSkin 59 = .ok (.iconst 2, 1) := by decide +kernel
theorem dX0_tellSkin_60 : decode cX0_tellSkin 60 = .ok (.invokevirtual 174, 3) := by decide +kernel
theorem dX0_tellSkin_63 : decode cX0_tellSkin 63 = .ok (.ireturn, 1) := by decide +kernel
theorem dX0_tellSkin_64 : decode cX0_tellSkin 64 = .ok (.aload_n 0, 1) := by decide +kernel
theorem dX0_tellSkin_65 : decode cX0_tellSkin 65 = .ok (.iload_n 1, 1) := by decide +kernel
theorem dX0_tellSkin_66 : decode cX0_tellSkin 66 = .ok (.iconst 3, 1) := by decide +kernel
theorem dX0_tellSkin_67 : decode cX0_tellSkin 67 = .ok (.invokevirtual 174, 3) := by decide +kernel
theorem dX0_tellSkin_70 : decode cX0_tellSkin 70 = .ok (.ireturn, 1) := by decide +kernel
theorem dX0_tellSkin_71 : decode cX0_tellSkin 71 = .ok (.aload_n 0, 1) := by decide +kernel
theorem dX0_tellSkin_72 : decode cX0_tellSkin 72 = .ok (.getfield 13, 3) := by decide +kernel
theorem dX0_tellSkin_75 : decode cX0_tellSkin 75 = .ok (.iload_n 1, 1) := by decide +kernel
theorem dX0_tellSkin_76 : decode cX0_tellSkin 76 = .ok (.iaload, 1) := by decide +kernel
theorem dX0_tellSkin_77 : decode cX0_tellSkin 77 = .ok (.ireturn, 1) := by decide +kernel
theorem dX0_tellPiece_0 : decode cX0_tellPiece 0 = .ok (.iload_n 2, 1) := by decide +kernel
theorem dX0_tellPiece_1 : decode cX0_tellPiece 1 = .ok (.tableswitch 48 0 2 #[27, 34, 41], 27) := by decide +kernel
theorem dX0_tellPiece_28 : decode cX0_tellPiece 28 = .ok (.aload_n 0, 1) := by decide +kernel
theorem dX0_tellPiece_29 : decode cX0_tellPiece 29 = .ok (.getfield 21, 3) := by decide +kernel
theorem dX0_tellPiece_32 : decode cX0_tellPiece 32 = .ok (.iload_n 1, 1) := by decide +kernel
theorem dX0_tellPiece_33 : decode cX0_tellPiece 33 = .ok (.iaload, 1) := by decide +kernel
theorem dX0_tellPiece_34 : decode cX0_tellPiece 34 = .ok (.ireturn, 1) := by decide +kernel
theorem dX0_tellPiece_35 : decode cX0_tellPiece 35 = .ok (.aload_n 0, 1) := by decide +kernel
theorem dX0_tellPiece_36 : decode cX0_tellPiece 36 = .ok (.getfield 24, 3) := by decide +kernel
theorem dX0_tellPiece_39 : decode cX0_tellPiece 39 = .ok (.iload_n 1, 1) := by decide +kernel
theorem dX0_tellPiece_40 : decode cX0_tellPiece 40 = .ok (.iaload, 1) := by decide +kernel
theorem dX0_tellPiece_41 : decode cX0_tellPiece 41 = .ok (.ireturn, 1) := by decide +kernel
theorem dX0_tellPiece_42 : decode cX0_tellPiece 42 = .ok (.aload_n 0, 1) := by decide +kernel
theorem dX0_tellPiece_43 : decode cX0_tellPiece 43 = .ok (.getfield 27, 3) := by decide +kernel
theorem dX0_tellPiece_46 : decode cX0_tellPiece 46 = .ok (.iload_n 1, 1) := by decide +kernel
theorem dX0_tellPiece_47 : decode cX0_tellPiece 47 = .ok (.iaload, 1) := by decide +kernel
theorem dX0_tellPiece_48 : decode cX0_tellPiece 48 = .ok (.ireturn, 1) := by decide +kernel
theorem dX0_tellPiece_49 : decode cX0_tellPiece 49 = .ok (.aload_n 0, 1) := by decide +kernel
theorem dX0_tellPiece_50 : decode cX0_tellPiece 50 = .ok (.getfield 30, 3) := by decide +kernel
theorem dX0_tellPiece_53 : decode cX0_tellPiece 53 = .ok (.iload_n 1, 1) := by decide +kernel
theorem dX0_tellPiece_54 : decode cX0_tellPiece 54 = .ok (.iaload, 1) := by decide +kernel
theorem dX0_tellPiece_55 : decode cX0_tellPiece 55 = .ok (.ireturn, 1) := by decide +kernel
theorem dX0_tellPair_0 : decode cX0_tellPair 0 = .ok (.iload_n 2, 1) := by decide +kernel
theorem dX0_tellPair_1 : decode cX0_tellPair 1 = .ok (.tableswitch 59 0 3 #[31, 38, 45, 52], 31) := by decide +kernel
theorem dX0_tellPair_32 : decode cX0_tellPair 32 = .ok (.aload_n 0, 1) := by decide +kernel
theorem dX0_tellPair_33 : decode cX0_tellPair 33 = .ok (.getfield 33, 3) := by decide +kernel
theorem dX0_tellPair_36 : decode cX0_tellPair 36 = .ok (.iload_n 1, 1) := by decide +kernel
theorem dX0_tellPair_37 : decode cX0_tellPair 37 = .ok (.iaload, 1) := by decide +kernel
theorem dX0_tellPair_38 : decode cX0_tellPair 38 = .ok (.ireturn, 1) := by decide +kernel
theorem dX0_tellPair_39 : decode cX0_tellPair 39 = .ok (.aload_n 0, 1) := by decide +kernel
theorem dX0_tellPair_40 : decode cX0_tellPair 40 = .ok (.getfield 36, 3) := by decide +kernel
theorem dX0_tellPair_43 : decode cX0_tellPair 43 = .ok (.iload_n 1, 1) := by decide +kernel
theorem dX0_tellPair_44 : decode cX0_tellPair 44 = .ok (.iaload, 1) := by decide +kernel
theorem dX0_tellPair_45 : decode cX0_tellPair 45 = .ok (.ireturn, 1) := by decide +kernel
theorem dX0_tellPair_46 : decode cX0_tellPair 46 = .ok (.aload_n 0, 1) := by decide +kernel
theorem dX0_tellPair_47 : decode cX0_tellPair 47 = .ok (.getfield 39, 3) := by decide +kernel
theorem dX0_tellPair_50 : decode cX0_tellPair 50 = .ok (.iload_n 1, 1) := by decide +kernel
theorem dX0_tellPair_51 : decode cX0_tellPair 51 = .ok (.iaload, 1) := by decide +kernel
theorem dX0_tellPair_52 : decode cX0_tellPair 52 = .ok (.ireturn, 1) := by decide +kernel
theorem dX0_tellPair_53 : decode cX0_tellPair 53 = .ok (.aload_n 0, 1) := by decide +kernel
theorem dX0_tellPair_54 : decode cX0_tellPair 54 = .ok (.getfield 42, 3) := by decide +kernel
theorem dX0_tellPair_57 : decode cX0_tellPair 57 = .ok (.iload_n 1, 1) := by decide +kernel
theorem dX0_tellPair_58 : decode cX0_tellPair 58 = .ok (.iaload, 1) := by decide +kernel
theorem dX0_tellPair_59 : decode cX0_tellPair 59 = .ok (.ireturn, 1) := by decide +kernel
theorem dX0_tellPair_60 : decode cX0_tellPair 60 = .ok (.aload_n 0, 1) := by decide +kernel
theorem dX0_tellPair_61 : decode cX0_tellPair 61 = .ok (.getfield 45, 3) := by decide +kernel
theorem dX0_tellPair_64 : decode cX0_tellPair 64 = .ok (.iload_n 1, 1) := by decide +kernel
theorem dX0_tellPair_65 : decode cX0_tellPair 65 = .ok (.baload, 1) := by decide +kernel
theorem dX0_tellPair_66 : decode cX0_tellPair 66 = .ok (.ifCond .eq 7, 3) := by decide +kernel
theorem dX0_tellPair_69 : decode cX0_tellPair 69 = .ok (.iconst 1, 1) := by decide +kernel
theorem dX0_tellPair_70 : decode cX0_tellPair 70 = .ok (.goto 4, 3) := by decide +kernel
theorem dX0_tellPair_73 : decode cX0_tellPair 73 = .ok (.iconst 0, 1) := by decide +kernel
theorem dX0_tellPair_74 : decode cX0_tellPair 74 = .ok (.ireturn, 1) := by decide +kernel
theorem dX0_tellCount_0 : decode cX0_tellCount 0 = .ok (.iload_n 1, 1) := by decide +kernel
theorem dX0_tellCount_1 : decode cX0_tellCount 1 = .ok (.tableswitch 85 0 5 #[39, 44, 49, 55, 73, 80], 39) := by decide +kernel
theorem dX0_tellCount_40 : decode cX0_tellCount 40 = .ok (.aload_n 0, 1) := by decide +kernel
theorem dX0_tellCount_41 : decode cX0_tellCount 41 = .ok (.getfield 56, 3) := by decide +kernel
theorem dX0_tellCount_44 : decode cX0_tellCount 44 = .ok (.ireturn, 1) := by decide +kernel
theorem dX0_tellCount_45 : decode cX0_tellCount 45 = .ok (.aload_n 0, 1) := by decide +kernel
theorem dX0_tellCount_46 : decode cX0_tellCount 46 = .ok (.getfield 107, 3) := by decide +kernel
theorem dX0_tellCount_49 : decode cX0_tellCount 49 = .ok (.ireturn, 1) := by decide +kernel
theorem dX0_tellCount_50 : decode cX0_tellCount 50 = .ok (.aload_n 0, 1) := by decide +kernel
theorem dX0_tellCount_51 : decode cX0_tellCount 51 = .ok (.iconst (-1), 1) := by decide +kernel
theorem dX0_tellCount_52 : decode cX0_tellCount 52 = .ok (.invokevirtual 197, 3) := by decide +kernel
theorem dX0_tellCount_55 : decode cX0_tellCount 55 = .ok (.ireturn, 1) := by decide +kernel
theorem dX0_tellCount_56 : decode cX0_tellCount 56 = .ok (.aload_n 0, 1) := by decide +kernel
theorem dX0_tellCount_57 : decode cX0_tellCount 57 = .ok (.getfield 107, 3) := by decide +kernel
theorem dX0_tellCount_60 : decode cX0_tellCount 60 = .ok (.aload_n 0, 1) := by decide +kernel
theorem dX0_tellCount_61 : decode cX0_tellCount 61 = .ok (.iconst (-1), 1) := by decide +kernel
theorem dX0_tellCount_62 : decode cX0_tellCount 62 = .ok (.invokevirtual 197, 3) := by decide +kernel
theorem dX0_tellCount_65 : decode cX0_tellCount 65 = .ok (.isub, 1) := by decide +kernel
theorem dX0_tellCount_66 : decode cX0_tellCount 66 = .ok (.aload_n 0, 1) := by decide +kernel
theorem dX0_tellCount_67 : decode cX0_tellCount 67 = .ok (.bipush (-2), 2) := by decide +kernel
theorem dX0_tellCount_69 : decode cX0_tellCount 69 = .ok (.invokevirtual 197, 3) := by decide +kernel
theorem dX0_tellCount_72 : decode cX0_tellCount 72 = .ok (.isub, 1) := by decide +kernel
theorem dX0_tellCount_73 : decode cX0_tellCount 73 = .ok (.ireturn, 1) := by decide +kernel
theorem dX0_tellCount_74 : decode cX0_tellCount 74 = .ok (.aload_n 0, 1) := by decide +kernel
theorem dX0_tellCount_75 : decode cX0_tellCount 75 = .ok (.bipush (-2), 2) := by decide +kernel
theorem dX0_tellCount_77 : decode cX0_tellCount 77 = .ok (.invokevirtual 197, 3) := by decide +kernel
theorem dX0_tellCount_80 : decode cX0_tellCount 80 = .ok (.ireturn, 1) := by decide +kernel
theorem dX0_tellCount_81 : decode cX0_tellCount 81 = .ok (.aload_n 0, 1) := by decide +kernel
theorem dX0_tellCount_82 : decode cX0_tellCount 82 = .ok (.getfield 136, 3) := by decide +kernel
theorem dX0_tellCount_85 : decode cX0_tellCount 85 = .ok (.ireturn, 1) := by decide +kernel
theorem dX0_tellCount_86 : decode cX0_tellCount 86 = .ok (.aload_n 0, 1) := by decide +kernel
theorem dX0_tellCount_87 : decode cX0_tellCount 87 = .ok (.invokevirtual 200, 3) := by decide +kernel
theorem dX0_tellCount_90 : decode cX0_tellCount 90 = .ok (.ireturn, 1) := by decide +kernel
theorem dX0_piecesAt_0 : decode cX0_piecesAt 0 = .ok (.iconst 0, 1) := by decide +kernel
theorem dX0_piecesAt_1 : decode cX0_piecesAt 1 = .ok (.istore_n 2, 1) := by decide +kernel
theorem dX0_piecesAt_2 : decode cX0_piecesAt 2 = .ok (.iconst 0, 1) := by decide +kernel
theorem dX0_piecesAt_3 : decode cX0_piecesAt 3 = .ok (.istore_n 3, 1) := by decide +kernel
theorem dX0_piecesAt_4 : decode cX0_piecesAt 4 = .ok (.iload_n 3, 1) := by decide +kernel
theorem dX0_piecesAt_5 : decode cX0_piecesAt 5 = .ok (.aload_n 0, 1) := by decide +kernel
theorem dX0_piecesAt_6 : decode cX0_piecesAt 6 = .ok (.getfield 107, 3) := by decide +kernel
theorem dX0_piecesAt_9 : decode cX0_piecesAt 9 = .ok (.if_icmp .ge 22, 3) := by decide +kernel
theorem dX0_piecesAt_12 : decode cX0_piecesAt 12 = .ok (.aload_n 0, 1) := by decide +kernel
theorem dX0_piecesAt_13 : decode cX0_piecesAt 13 = .ok (.getfield 27, 3) := by decide +kernel
theorem dX0_piecesAt_16 : decode cX0_piecesAt 16 = .ok (.iload_n 3, 1) := by decide +kernel
theorem dX0_piecesAt_17 : decode cX0_piecesAt 17 = .ok (.iaload, 1) := by decide +kernel
theorem dX0_piecesAt_18 : decode cX0_piecesAt 18 = .ok (.iload_n 1, 1) := by decide +kernel
theorem dX0_piecesAt_19 : decode cX0_piecesAt 19 = .ok (.if_icmp .ne 6, 3) := by decide +kernel
theorem dX0_piecesAt_22 : decode cX0_piecesAt 22 = .ok (.iinc 2 1, 3) := by decide +kernel
theorem dX0_piecesAt_25 : decode cX0_piecesAt 25 = .ok (.iinc 3 1, 3) := by decide +kernel
theorem dX0_piecesAt_28 : decode cX0_piecesAt 28 = .ok (.goto (-24), 3) := by decide +kernel
theorem dX0_piecesAt_31 : decode cX0_piecesAt 31 = .ok (.iload_n 2, 1) := by decide +kernel
theorem dX0_piecesAt_32 : decode cX0_piecesAt 32 = .ok (.ireturn, 1) := by decide +kernel
theorem dX0_pairsInUse_0 : decode cX0_pairsInUse 0 = .ok (.iconst 0, 1) := by decide +kernel
theorem dX0_pairsInUse_1 : decode cX0_pairsInUse 1 = .ok (.istore_n 1, 1) := by decide +kernel
theorem dX0_pairsInUse_2 : decode cX0_pairsInUse 2 = .ok (.iconst 0, 1) := by decide +kernel
theorem dX0_pairsInUse_3 : decode cX0_pairsInUse 3 = .ok (.istore_n 2, 1) := by decide +kernel
theorem dX0_pairsInUse_4 : decode cX0_pairsInUse 4 = .ok (.iload_n 2, 1) := by decide +kernel
theorem dX0_pairsInUse_5 : decode cX0_pairsInUse 5 = .ok (.aload_n 0, 1) := by decide +kernel
theorem dX0_pairsInUse_6 : decode cX0_pairsInUse 6 = .ok (.getfield 136, 3) := by decide +kernel
theorem dX0_pairsInUse_9 : decode cX0_pairsInUse 9 = .ok (.if_icmp .ge 21, 3) := by decide +kernel
theorem dX0_pairsInUse_12 : decode cX0_pairsInUse 12 = .ok (.aload_n 0, 1) := by decide +kernel
theorem dX0_pairsInUse_13 : decode cX0_pairsInUse 13 = .ok (.getfield 45, 3) := by decide +kernel
theorem dX0_pairsInUse_16 : decode cX0_pairsInUse 16 = .ok (.iload_n 2, 1) := by decide +kernel
theorem dX0_pairsInUse_17 : decode cX0_pairsInUse 17 = .ok (.baload, 1) := by decide +kernel
theorem dX0_pairsInUse_18 : decode cX0_pairsInUse 18 = .ok (.ifCond .ne 6, 3) := by decide +kernel
theorem dX0_pairsInUse_21 : decode cX0_pairsInUse 21 = .ok (.iinc 1 1, 3) := by decide +kernel
theorem dX0_pairsInUse_24 : decode cX0_pairsInUse 24 = .ok (.iinc 2 1, 3) := by decide +kernel
theorem dX0_pairsInUse_27 : decode cX0_pairsInUse 27 = .ok (.goto (-23), 3) := by decide +kernel
theorem dX0_pairsInUse_30 : decode cX0_pairsInUse 30 = .ok (.iload_n 1, 1) := by decide +kernel
theorem dX0_pairsInUse_31 : decode cX0_pairsInUse 31 = .ok (.ireturn, 1) := by decide +kernel
theorem dX0_tallySkin_0 : decode cX0_tallySkin 0 = .ok (.aload_n 0, 1) := by decide +kernel
theorem dX0_tallySkin_1 : decode cX0_tallySkin 1 = .ok (.getfield 18, 3) := by decide +kernel
theorem dX0_tallySkin_4 : decode cX0_tallySkin 4 = .ok (.iload_n 1, 1) := by decide +kernel
theorem dX0_tallySkin_5 : decode cX0_tallySkin 5 = .ok (.aaload, 1) := by decide +kernel
theorem dX0_tallySkin_6 : decode cX0_tallySkin 6 = .ok (.iconst 0, 1) := by decide +kernel
theorem dX0_tallySkin_7 : decode cX0_tallySkin 7 = .ok (.iconst 0, 1) := by decide +kernel
theorem dX0_tallySkin_8 : decode cX0_tallySkin 8 = .ok (.bipush 12, 2) := by decide +kernel
theorem dX0_tallySkin_10 : decode cX0_tallySkin 10 = .ok (.bipush 8, 2) := by decide +kernel
theorem dX0_tallySkin_12 : decode cX0_tallySkin 12 = .ok (.iload_n 2, 1) := by decide +kernel
theorem dX0_tallySkin_13 : decode cX0_tallySkin 13 = .ok (.invokestatic 81, 3) := by decide +kernel
theorem dX0_tallySkin_16 : decode cX0_tallySkin 16 = .ok (.ireturn, 1) := by decide +kernel
theorem dX0_tally_0 : decode cX0_tally 0 = .ok (.iconst 0, 1) := by decide +kernel
theorem dX0_tally_1 : decode cX0_tally 1 = .ok (.istore 6, 2) := by decide +kernel
theorem dX0_tally_3 : decode cX0_tally 3 = .ok (.iload_n 2, 1) := by decide +kernel
theorem dX0_tally_4 : decode cX0_tally 4 = .ok (.istore 7, 2) := by decide +kernel
theorem dX0_tally_6 : decode cX0_tally 6 = .ok (.iload 7, 2) := by decide +kernel
theorem dX0_tally_8 : decode cX0_tally 8 = .ok (.iload_n 2, 1) := by decide +kernel
theorem dX0_tally_9 : decode cX0_tally 9 = .ok (.iload 4, 2) := by decide +kernel
theorem dX0_tally_11 : decode cX0_tally 11 = .ok (.iadd, 1) := by decide +kernel
theorem dX0_tally_12 : decode cX0_tally 12 = .ok (.if_icmp .ge 44, 3) := by decide +kernel
theorem dX0_tally_15 : decode cX0_tally 15 = .ok (.iload_n 1, 1) := by decide +kernel
theorem dX0_tally_16 : decode cX0_tally 16 = .ok (.istore 8, 2) := by decide +kernel
theorem dX0_tally_18 : decode cX0_tally 18 = .ok (.iload 8, 2) := by decide +kernel
theorem dX0_tally_20 : decode cX0_tally 20 = .ok (.iload_n 1, 1) := by decide +kernel
theorem dX0_tally_21 : decode cX0_tally 21 = .ok (.iload_n 3, 1) := by decide +kernel
theorem dX0_tally_22 : decode cX0_tally 22 = .ok (.iadd, 1) := by decide +kernel
theorem dX0_tally_23 : decode cX0_tally 23 = .ok (.if_icmp .ge 27, 3) := by decide +kernel
theorem dX0_tally_26 : decode cX0_tally 26 = .ok (.aload_n 0, 1) := by decide +kernel
theorem dX0_tally_27 : decode cX0_tally 27 = .ok (.bipush 12, 2) := by decide +kernel
theorem dX0_tally_29 : decode cX0_tally 29 = .ok (.iload 7, 2) := by decide +kernel
theorem dX0_tally_31 : decode cX0_tally 31 = .ok (.imul, 1) := by decide +kernel
theorem dX0_tally_32 : decode cX0_tally 32 = .ok (.iload 8, 2) := by decide +kernel
theorem dX0_tally_34 : decode cX0_tally 34 = .ok (.iadd, 1) := by decide +kernel
theorem dX0_tally_35 : decode cX0_tally 35 = .ok (.iaload, 1) := by decide +kernel
theorem dX0_tally_36 : decode cX0_tally 36 = .ok (.iload 5, 2) := by decide +kernel
theorem dX0_tally_38 : decode cX0_tally 38 = .ok (.if_icmp .ne 6, 3) := by decide +kernel
theorem dX0_tally_41 : decode cX0_tally 41 = .ok (.iinc 6 1, 3) := by decide +kernel
theorem dX0_tally_44 : decode cX0_tally 44 = .ok (.iinc 8 1, 3) := by decide +kernel
theorem dX0_tally_47 : decode cX0_tally 47 = .ok (.goto (-29), 3) := by decide +kernel
theorem dX0_tally_50 : decode cX0_tally 50 = .ok (.iinc 7 1, 3) := by decide +kernel
theorem dX0_tally_53 : decode cX0_tally 53 = .ok (.goto (-47), 3) := by decide +kernel
theorem dX0_tally_56 : decode cX0_tally 56 = .ok (.iload 6, 2) := by decide +kernel
theorem dX0_tally_58 : decode cX0_tally 58 = .ok (.ireturn, 1) := by decide +kernel
theorem dX0_paint_0 : decode cX0_paint 0 = .ok (.iload_n 2, 1) := by decide +kernel
theorem dX0_paint_1 : decode cX0_paint 1 = .ok (.istore 6, 2) := by decide +kernel
theorem dX0_paint_3 : decode cX0_paint 3 = .ok (.iload 6, 2) := by decide +kernel
theorem dX0_paint_5 : decode cX0_paint 5 = .ok (.iload_n 2, 1) := by decide +kernel
theorem dX0_paint_6 : decode cX0_paint 6 = .ok (.iload 4, 2) := by decide +kernel
theorem dX0_paint_8 : decode cX0_paint 8 = .ok (.iadd, 1) := by decide +kernel
theorem dX0_paint_9 : decode cX0_paint 9 = .ok (.if_icmp .ge 38, 3) := by decide +kernel
theorem dX0_paint_12 : decode cX0_paint 12 = .ok (.iload_n 1, 1) := by decide +kernel
theorem dX0_paint_13 : decode cX0_paint 13 = .ok (.istore 7, 2) := by decide +kernel
theorem dX0_paint_15 : decode cX0_paint 15 = .ok (.iload 7, 2) := by decide +kernel
theorem dX0_paint_17 : decode cX0_paint 17 = .ok (.iload_n 1, 1) := by decide +kernel
theorem dX0_paint_18 : decode cX0_paint 18 = .ok (.iload_n 3, 1) := by decide +kernel
theorem dX0_paint_19 : decode cX0_paint 19 = .ok (.iadd, 1) := by decide +kernel
theorem dX0_paint_20 : decode cX0_paint 20 = .ok (.if_icmp .ge 21, 3) := by decide +kernel
theorem dX0_paint_23 : decode cX0_paint 23 = .ok (.aload_n 0, 1) := by decide +kernel
theorem dX0_paint_24 : decode cX0_paint 24 = .ok (.bipush 12, 2) := by decide +kernel
theorem dX0_paint_26 : decode cX0_paint 26 = .ok (.iload 6, 2) := by decide +kernel
theorem dX0_paint_28 : decode cX0_paint 28 = .ok (.imul, 1) := by decide +kernel
theorem dX0_paint_29 : decode cX0_paint 29 = .ok (.iload 7, 2) := by decide +kernel
theorem dX0_paint_31 : decode cX0_paint 31 = .ok (.iadd, 1) := by decide +kernel
theorem dX0_paint_32 : decode cX0_paint 32 = .ok (.iload 5, 2) := by decide +kernel
theorem dX0_paint_34 : decode cX0_paint 34 = .ok (.iastore, 1) := by decide +kernel
theorem dX0_paint_35 : decode cX0_paint 35 = .ok (.iinc 7 1, 3) := by decide +kernel
theorem dX0_paint_38 : decode cX0_paint 38 = .ok (.goto (-23), 3) := by decide +kernel
theorem dX0_paint_41 : decode cX0_paint 41 = .ok (.iinc 6 1, 3) := by decide +kernel
theorem dX0_paint_44 : decode cX0_paint 44 = .ok (.goto (-41), 3) := by decide +kernel
theorem dX0_paint_47 : decode cX0_paint 47 = .ok (.return_, 1) := by decide +kernel
theorem dX0_wideOf_0 : decode cX0_wideOf 0 = .ok (.iload_n 1, 1) := by decide +kernel
theorem dX0_wideOf_1 : decode cX0_wideOf 1 = .ok (.ifCond .eq 11, 3) := by decide +kernel
theorem dX0_wideOf_4 : decode cX0_wideOf 4 = .ok (.getstatic 204, 3) := by decide +kernel
theorem dX0_wideOf_7 : decode cX0_wideOf 7 = .ok (.iload_n 0, 1) := by decide +kernel
theorem dX0_wideOf_8 : decode cX0_wideOf 8 = .ok (.iaload, 1) := by decide +kernel
theorem dX0_wideOf_9 : decode cX0_wideOf 9 = .ok (.goto 8, 3) := by decide +kernel
theorem dX0_wideOf_12 : decode cX0_wideOf 12 = .ok (.getstatic 207, 3) := by decide +kernel
theorem dX0_wideOf_15 : decode cX0_wideOf 15 = .ok (.iload_n 0, 1) := by decide +kernel
theorem dX0_wideOf_16 : decode cX0_wideOf 16 = .ok (.iaload, 1) := by decide +kernel
theorem dX0_wideOf_17 : decode cX0_wideOf 17 = .ok (.ireturn, 1) := by decide +kernel
theorem dX0_highOf_0 : decode cX0_highOf 0 = .ok (.iload_n 1, 1) := by decide +kernel
theorem dX0_highOf_1 : decode cX0_highOf 1 = .ok (.ifCond .eq 11, 3) := by decide +kernel
theorem dX0_highOf_4 : decode cX0_highOf 4 = .ok (.getstatic 207, 3) := by decide +kernel
theorem dX0_highOf_7 : decode cX0_highOf 7 = .ok (.iload_n 0, 1) := by decide +kernel
theorem dX0_highOf_8 : decode cX0_highOf 8 = .ok (.iaload, 1) := by decide +kernel
theorem dX0_highOf_9 : decode cX0_highOf 9 = .ok (.goto 8, 3) := by decide +kernel
theorem dX0_highOf_12 : decode cX0_highOf 12 = .ok (.getstatic 204, 3) := by decide +kernel
theorem dX0_highOf_15 : decode cX0_highOf 15 = .ok (.iload_n 0, 1) := by decide +kernel
theorem dX0_highOf_16 : decode cX0_highOf 16 = .ok (.iaload, 1) := by decide +kernel
theorem dX0_highOf_17 : decode cX0_highOf 17 = .ok (.ireturn, 1) := by decide +kernel
theorem dX0_fits_0 : decode cX0_fits 0 = .ok (.iload_n 1, 1) := by decide +kernel
theorem dX0_fits_1 : decode cX0_fits 1 = .ok (.iload_n 2, 1) := by decide +kernel
theorem dX0_fits_2 : decode cX0_fits 2 = .ok (.invokestatic 112, 3) := by decide +kernel
theorem dX0_fits_5 : decode cX0_fits 5 = .ok (.istore 5, 2) := by decide +kernel
theorem dX0_fits_7 : decode cX0_fits 7 = .ok (.iload_n 1, 1) := by decide +kernel
theorem dX0_fits_8 : decode cX0_fits 8 = .ok (.iload_n 2, 1) := by decide +kernel
theorem dX0_fits_9 : decode cX0_fits 9 = .ok (.invokestatic 116, 3) := by decide +kernel
theorem dX0_fits_12 : decode cX0_fits 12 = .ok (.istore 6, 2) := by decide +kernel
theorem dX0_fits_14 : decode cX0_fits 14 = .ok (.iload 5, 2) := by decide +kernel
theorem dX0_fits_16 : decode cX0_fits 16 = .ok (.bipush 12, 2) := by decide +kernel
theorem dX0_fits_18 : decode cX0_fits 18 = .ok (.iload_n 3, 1) := by decide +kernel
theorem dX0_fits_19 : decode cX0_fits 19 = .ok (.isub, 1) := by decide +kernel
theorem dX0_fits_20 : decode cX0_fits 20 = .ok (.if_icmp .gt 67, 3) := by decide +kernel
theorem dX0_fits_23 : decode cX0_fits 23 = .ok (.iload 6, 2) := by decide +kernel
theorem dX0_fits_25 : decode cX0_fits 25 = .ok (.bipush 8, 2) := by decide +kernel
theorem dX0_fits_27 : decode cX0_fits 27 = .ok (.iload 4, 2) := by decide +kernel
theorem dX0_fits_29 : decode cX0_fits 29 = .ok (.isub, 1) := by decide +kernel
theorem dX0_fits_30 : decode cX0_fits 30 = .ok (.if_icmp .gt 57, 3) := by decide +kernel
theorem dX0_fits_33 : decode cX0_fits 33 = .ok (.aload_n 0, 1) := by decide +kernel
theorem dX0_fits_34 : decode cX0_fits 34 = .ok (.iload_n 3, 1) := by decide +kernel
theorem dX0_fits_35 : decode cX0_fits 35 = .ok (.iload 4, 2) := by decide +kernel
theorem dX0_fits_37 : decode cX0_fits 37 = .ok (.iload 5, 2) := by decide +kernel
theorem dX0_fits_39 : decode cX0_fits 39 = .ok (.iload 6, 2) := by decide +kernel
theorem dX0_fits_41 : decode cX0_fits 41 = .ok (.iconst 2, 1) := by decide +kernel
theorem dX0_fits_42 : decode cX0_fits 42 = .ok (.invokestatic 81, 3) := by decide +kernel
theorem dX0_fits_45 : decode cX0_fits 45 = .ok (.ifCond .ne 42, 3) := by decide +kernel
theorem dX0_fits_48 : decode cX0_fits 48 = .ok (.aload_n 0, 1) := by decide +kernel
theorem dX0_fits_49 : decode cX0_fits 49 = .ok (.iload_n 3, 1) := by decide +kernel
theorem dX0_fits_50 : decode cX0_fits 50 = .ok (.iload 4, 2) := by decide +kernel
theorem dX0_fits_52 : decode cX0_fits 52 = .ok (.iload 5, 2) := by decide +kernel
theorem dX0_fits_54 : decode cX0_fits 54 = .ok (.iload 6, 2) := by decide +kernel
theorem dX0_fits_56 : decode cX0_fits 56 = .ok (.iconst 3, 1) := by decide +kernel
theorem dX0_fits_57 : decode cX0_fits 57 = .ok (.invokestatic 81, 3) := by decide +kernel
theorem dX0_fits_60 : decode cX0_fits 60 = .ok (.ifCond .ne 27, 3) := by decide +kernel
theorem dX0_fits_63 : decode cX0_fits 63 = .ok (.aload_n 0, 1) := by decide +kernel
theorem dX0_fits_64 : decode cX0_fits 64 = .ok (.iload_n 3, 1) := by decide +kernel
theorem dX0_fits_65 : decode cX0_fits 65 = .ok (.iload 4, 2) := by decide +kernel
theorem dX0_fits_67 : decode cX0_fits 67 = .ok (.iload 5, 2) := by decide +kernel
theorem dX0_fits_69 : decode cX0_fits 69 = .ok (.iload 6, 2) := by decide +kernel
theorem dX0_fits_71 : decode cX0_fits 71 = .ok (.iconst 1, 1) := by decide +kernel
theorem dX0_fits_72 : decode cX0_fits 72 = .ok (.invokestatic 81, 3) := by decide +kernel
theorem dX0_fits_75 : decode cX0_fits 75 = .ok (.getstatic 210, 3) := by decide +kernel
theorem dX0_fits_78 : decode cX0_fits 78 = .ok (.iload_n 1, 1) := by decide +kernel
theorem dX0_fits_79 : decode cX0_fits 79 = .ok (.iaload, 1) := by decide +kernel
theorem dX0_fits_80 : decode cX0_fits 80 = .ok (.if_icmp .gt 7, 3) := by decide +kernel
theorem dX0_fits_83 : decode cX0_fits 83 = .ok (.iconst 1, 1) := by decide +kernel
theorem dX0_fits_84 : decode cX0_fits 84 = .ok (.goto 4, 3) := by decide +kernel
theorem dX0_fits_87 : decode cX0_fits 87 = .ok (.iconst 0, 1) := by decide +kernel
theorem dX0_fits_88 : decode cX0_fits 88 = .ok (.ireturn, 1) := by decide +kernel
theorem dX0_firstFit_0 : decode cX0_firstFit 0 = .ok (.iload_n 3, 1) := by decide +kernel
theorem dX0_firstFit_1 : decode cX0_firstFit 1 = .ok (.istore 4, 2) := by decide +kernel
theorem dX0_firstFit_3 : decode cX0_firstFit 3 = .ok (.iload 4, 2) := by decide +kernel
theorem dX0_firstFit_5 : decode cX0_firstFit 5 = .ok (.bipush 96, 2) := by decide +kernel
theorem dX0_firstFit_7 : decode cX0_firstFit 7 = .ok (.if_icmp .ge 31, 3) := by decide +kernel
theorem dX0_firstFit_10 : decode cX0_firstFit 10 = .ok (.aload_n 0, 1) := by decide +kernel
theorem dX0_firstFit_11 : decode cX0_firstFit 11 = .ok (.iload_n 1, 1) := by decide +kernel
theorem dX0_firstFit_12 : decode cX0_firstFit 12 = .ok (.iload_n 2, 1) := by decide +kernel
theorem dX0_firstFit_13 : decode cX0_firstFit 13 = .ok (.iload 4, 2) := by decide +kernel
theorem dX0_firstFit_15 : decode cX0_firstFit 15 = .ok (.bipush 12, 2) := by decide +kernel
theorem dX0_firstFit_17 : decode cX0_firstFit 17 = .ok (.irem, 1) := by decide +kernel
theorem dX0_firstFit_18 : decode cX0_firstFit 18 = .ok (.iload 4, 2) := by decide +kernel
theorem dX0_firstFit_20 : decode cX0_firstFit 20 = .ok (.bipush 12, 2) := by decide +kernel
theorem dX0_firstFit_22 : decode cX0_firstFit 22 = .ok (.idiv, 1) := by decide +kernel
theorem dX0_firstFit_23 : decode cX0_firstFit 23 = .ok (.invokestatic 101, 3) := by decide +kernel
theorem dX0_firstFit_26 : decode cX0_firstFit 26 = .ok (.ifCond .eq 6, 3) := by decide +kernel
theorem dX0_firstFit_29 : decode cX0_firstFit 29 = .ok (.iload 4, 2) := by decide +kernel
theorem dX0_firstFit_31 : decode cX0_firstFit 31 = .ok (.ireturn, 1) := by decide +kernel
theorem dX0_firstFit_32 : decode cX0_firstFit 32 = .ok (.iinc 4 1, 3) := by decide +kernel
theorem dX0_firstFit_35 : decode cX0_firstFit 35 = .ok (.goto (-32), 3) := by decide +kernel
theorem dX0_firstFit_38 : decode cX0_firstFit 38 = .ok (.iconst (-1), 1) := by decide +kernel
theorem dX0_firstFit_39 : decode cX0_firstFit 39 = .ok (.ireturn, 1) := by decide +kernel
theorem dX0_givenBy_0 : decode cX0_givenBy 0 = .ok (.iload_n 2, 1) := by decide +kernel
theorem dX0_givenBy_1 : decode cX0_givenBy 1 = .ok (.iload_n 3, 1) := by decide +kernel
theorem dX0_givenBy_2 : decode cX0_givenBy 2 = .ok (.invokestatic 112, 3) := by decide +kernel
theorem dX0_givenBy_5 : decode cX0_givenBy 5 = .ok (.istore 4, 2) := by decide +kernel
theorem dX0_givenBy_7 : decode cX0_givenBy 7 = .ok (.iload_n 2, 1) := by decide +kernel
theorem dX0_givenBy_8 : decode cX0_givenBy 8 = .ok (.iload_n 3, 1) := by decide +kernel
theorem dX0_givenBy_9 : decode cX0_givenBy 9 = .ok (.invokestatic 116, 3) := by decide +kernel
theorem dX0_givenBy_12 : decode cX0_givenBy 12 = .ok (.istore 5, 2) := by decide +kernel
theorem dX0_givenBy_14 : decode cX0_givenBy 14 = .ok (.aload_n 0, 1) := by decide +kernel
theorem dX0_givenBy_15 : decode cX0_givenBy 15 = .ok (.getfield 18, 3) := by decide +kernel
theorem dX0_givenBy_18 : decode cX0_givenBy 18 = .ok (.iload_n 1, 1) := by decide +kernel
theorem dX0_givenBy_19 : decode cX0_givenBy 19 = .ok (.aaload, 1) := by decide +kernel
theorem dX0_givenBy_20 : decode cX0_givenBy 20 = .ok (.iconst 0, 1) := by decide +kernel
theorem dX0_givenBy_21 : decode cX0_givenBy 21 = .ok (.aload_n 0, 1) := by decide +kernel
theorem dX0_givenBy_22 : decode cX0_givenBy 22 = .ok (.getfield 49, 3) := by decide +kernel
theorem dX0_givenBy_25 : decode cX0_givenBy 25 = .ok (.iconst 0, 1) := by decide +kernel
theorem dX0_givenBy_26 : decode cX0_givenBy 26 = .ok (.bipush 96, 2) := by decide +kernel
theorem dX0_givenBy_28 : decode cX0_givenBy 28 = .ok (.invokestatic 213, 3) := by decide +kernel
theorem dX0_givenBy_31 : decode cX0_givenBy 31 = .ok (.iconst 0, 1) := by decide +kernel
theorem dX0_givenBy_32 : decode cX0_givenBy 32 = .ok (.istore 6, 2) := by decide +kernel
theorem dX0_givenBy_34 : decode cX0_givenBy 34 = .ok (.aload_n 0, 1) := by decide +kernel
theorem dX0_givenBy_35 : decode cX0_givenBy 35 = .ok (.getfield 49, 3) := by decide +kernel
theorem dX0_givenBy_38 : decode cX0_givenBy 38 = .ok (.iload_n 2, 1) := by decide +kernel
theorem dX0_givenBy_39 : decode cX0_givenBy 39 = .ok (.iload_n 3, 1) := by decide +kernel
theorem dX0_givenBy_40 : decode cX0_givenBy 40 = .ok (.iconst 0, 1) := by decide +kernel
theorem dX0_givenBy_41 : decode cX0_givenBy 41 = .ok (.invokestatic 119, 3) := by decide +kernel
theorem dX0_givenBy_44 : decode cX0_givenBy 44 = .ok (.istore 7, 2) := by decide +kernel
theorem dX0_givenBy_46 : decode cX0_givenBy 46 = .ok (.iload 7, 2) := by decide +kernel
theorem dX0_givenBy_48 : decode cX0_givenBy 48 = .ok (.ifCond .lt 53, 3) := by decide +kernel
theorem dX0_givenBy_51 : decode cX0_givenBy 51 = .ok (.iload 6, 2) := by decide +kernel
theorem dX0_givenBy_53 : decode cX0_givenBy 53 = .ok (.bipush 96, 2) := by decide +kernel
theorem dX0_givenBy_55 : decode cX0_givenBy 55 = .ok (.if_icmp .ge 46, 3) := by decide +kernel
theorem dX0_givenBy_58 : decode cX0_givenBy 58 = .ok (.aload_n 0, 1) := by decide +kernel
theorem dX0_givenBy_59 : decode cX0_givenBy 59 = .ok (.getfield 49, 3) := by decide +kernel
theorem dX0_givenBy_62 : decode cX0_givenBy 62 = .ok (.iload 7, 2) := by decide +kernel
theorem dX0_givenBy_64 : decode cX0_givenBy 64 = .ok (.bipush 12, 2) := by decide +kernel
theorem dX0_givenBy_66 : decode cX0_givenBy 66 = .ok (.irem, 1) := by decide +kernel
theorem dX0_givenBy_67 : decode cX0_givenBy 67 = .ok (.iload 7, 2) := by decide +kernel
theorem dX0_givenBy_69 : decode cX0_givenBy 69 = .ok (.bipush 12, 2) := by decide +kernel
theorem dX0_givenBy_71 : decode cX0_givenBy 71 = .ok (.idiv, 1) := by decide +kernel
theorem dX0_givenBy_72 : decode cX0_givenBy 72 = .ok (.iload 4, 2) := by decide +kernel
theorem dX0_givenBy_74 : decode cX0_givenBy 74 = .ok (.iload 5, 2) := by decide +kernel
theorem dX0_givenBy_76 : decode cX0_givenBy 76 = .ok (.iconst 3, 1) := by decide +kernel
theorem dX0_givenBy_77 : decode cX0_givenBy 77 = .ok (.invokestatic 87, 3) := by decide +kernel
theorem dX0_givenBy_80 : decode cX0_givenBy 80 = .ok (.iinc 6 1, 3) := by decide +kernel
theorem dX0_givenBy_83 : decode cX0_givenBy 83 = .ok (.aload_n 0, 1) := by decide +kernel
theorem dX0_givenBy_84 : decode cX0_givenBy 84 = .ok (.getfield 49, 3) := by decide +kernel
theorem dX0_givenBy_87 : decode cX0_givenBy 87 = .ok (.iload_n 2, 1) := by decide +kernel
theorem dX0_givenBy_88 : decode cX0_givenBy 88 = .ok (.iload_n 3, 1) := by decide +kernel
theorem dX0_givenBy_89 : decode cX0_givenBy 89 = .ok (.iload 7, 2) := by decide +kernel
theorem dX0_givenBy_91 : decode cX0_givenBy 91 = .ok (.iconst 1, 1) := by decide +kernel
theorem dX0_givenBy_92 : decode cX0_givenBy 92 = .ok (.iadd, 1) := by decide +kernel
theorem dX0_givenBy_93 : decode cX0_givenBy 93 = .ok (.invokestatic 119, 3) := by decide +kernel
theorem dX0_givenBy_96 : decode cX0_givenBy 96 = .ok (.istore 7, 2) := by decide +kernel
theorem dX0_givenBy_98 : decode cX0_givenBy 98 = .ok (.goto (-52), 3) := by decide +kernel
theorem dX0_givenBy_101 : decode cX0_givenBy 101 = .ok (.iload 6, 2) := by decide +kernel
theorem dX0_givenBy_103 : decode cX0_givenBy 103 = .ok (.ireturn, 1) := by decide +kernel
theorem dX0_isFreeOfColour_0 : decode cX0_isFreeOfColour 0 = .ok (.aload_n 0, 1) := by decide +kernel
theorem dX0_isFreeOfColour_1 : decode cX0_isFreeOfColour 1 = .ok (.getfield 27, 3) := by decide +kernel
theorem dX0_isFreeOfColour_4 : decode cX0_isFreeOfColour 4 = .ok (.iload_n 1, 1) := by decide +kernel
theorem dX0_isFreeOfColour_5 : decode cX0_isFreeOfColour 5 = .ok (.iaload, 1) := by decide +kernel
theorem dX0_isFreeOfColour_6 : decode cX0_isFreeOfColour 6 = .ok (.iconst (-1), 1) := by decide +kernel
theorem dX0_isFreeOfColour_7 : decode cX0_isFreeOfColour 7 = .ok (.if_icmp .ne 32, 3) := by decide +kernel
theorem dX0_isFreeOfColour_10 : decode cX0_isFreeOfColour 10 = .ok (.aload_n 0, 1) := by decide +kernel
theorem dX0_isFreeOfColour_11 : decode cX0_isFreeOfColour 11 = .ok (.getfield 24, 3) := by decide +kernel
theorem dX0_isFreeOfColour_14 : decode cX0_isFreeOfColour 14 = .ok (.iload_n 1, 1) := by decide +kernel
theorem dX0_isFreeOfColour_15 : decode cX0_isFreeOfColour 15 = .ok (.iaload, 1) := by decide +kernel
theorem dX0_isFreeOfColour_16 : decode cX0_isFreeOfColour 16 = .ok (.iload_n 3, 1) := by decide +kernel
theorem dX0_isFreeOfColour_17 : decode cX0_isFreeOfColour 17 = .ok (.if_icmp .ne 22, 3) := by decide +kernel
theorem dX0_isFreeOfColour_20 : decode cX0_isFreeOfColour 20 = .ok (.aload_n 0, 1) := by decide +kernel
theorem dX0_isFreeOfColour_21 : decode cX0_isFreeOfColour 21 = .ok (.getfield 9, 3) := by decide +kernel
theorem dX0_isFreeOfColour_24 : decode cX0_isFreeOfColour 24 = .ok (.aload_n 0, 1) := by decide +kernel
theorem dX0_isFreeOfColour_25 : decode cX0_isFreeOfColour 25 = .ok (.getfield 21, 3) := by decide +kernel
theorem dX0_isFreeOfColour_28 : decode cX0_isFreeOfColour 28 = .ok (.iload_n 1, 1) := by decide +kernel
theorem dX0_isFreeOfColour_29 : decode cX0_isFreeOfColour 29 = .ok (.iaload, 1) := by decide +kernel
theorem dX0_isFreeOfColour_30 : decode cX0_isFreeOfColour 30 = .ok (.iaload, 1) := by decide +kernel
theorem dX0_isFreeOfColour_31 : decode cX0_isFreeOfColour 31 = .ok (.iload_n 2, 1) := by decide +kernel
theorem dX0_isFreeOfColour_32 : decode cX0_isFreeOfColour 32 = .ok (.if_icmp .ne 7, 3) := by decide +kernel
theorem dX0_isFreeOfColour_35 : decode cX0_isFreeOfColour 35 = .ok (.iconst 1, 1) := by decide +kernel
theorem dX0_isFreeOfColour_36 : decode cX0_isFreeOfColour 36 = .ok (.goto 4, 3) := by decide +kernel
theorem dX0_isFreeOfColour_39 : decode cX0_isFreeOfColour 39 = .ok (.iconst 0, 1) := by decide +kernel
theorem dX0_isFreeOfColour_40 : decode cX0_isFreeOfColour 40 = .ok (.ireturn, 1) := by decide +kernel
theorem dX0_freeOfColour_0 : decode cX0_freeOfColour 0 = .ok (.iconst 0, 1) := by decide +kernel
theorem dX0_freeOfColour_1 : decode cX0_freeOfColour 1 = .ok (.istore_n 3, 1) := by decide +kernel
theorem dX0_freeOfColour_2 : decode cX0_freeOfColour 2 = .ok (.iconst 0, 1) := by decide +kernel
theorem dX0_freeOfColour_3 : decode cX0_freeOfColour 3 = .ok (.istore 4, 2) := by decide +kernel
theorem dX0_freeOfColour_5 : decode cX0_freeOfColour 5 = .ok (.iload 4, 2) := by decide +kernel
theorem dX0_freeOfColour_7 : decode cX0_freeOfColour 7 = .ok (.aload_n 0, 1) := by decide +kernel
theorem dX0_freeOfColour_8 : decode cX0_freeOfColour 8 = .ok (.getfield 107, 3) := by decide +kernel
theorem dX0_freeOfColour_11 : decode cX0_freeOfColour 11 = .ok (.if_icmp .ge 23, 3) := by decide +kernel
theorem dX0_freeOfColour_14 : decode cX0_freeOfColour 14 = .ok (.aload_n 0, 1) := by decide +kernel
theorem dX0_freeOfColour_15 : decode cX0_freeOfColour 15 = .ok (.iload 4, 2) := by decide +kernel
theorem dX0_freeOfColour_17 : decode cX0_freeOfColour 17 = .ok (.iload_n 1, 1) := by decide +kernel
theorem dX0_freeOfColour_18 : decode cX0_freeOfColour 18 = .ok (.iload_n 2, 1) := by decide +kernel
theorem dX0_freeOfColour_19 : decode cX0_freeOfColour 19 = .ok (.invokevirtual 219, 3) := by decide +kernel
theorem dX0_freeOfColour_22 : decode cX0_freeOfColour 22 = .ok (.ifCond .eq 6, 3) := by decide +kernel
theorem dX0_freeOfColour_25 : decode cX0_freeOfColour 25 = .ok (.iinc 3 1, 3) := by decide +kernel
theorem dX0_freeOfColour_28 : decode cX0_freeOfColour 28 = .ok (.iinc 4 1, 3) := by decide +kernel
theorem dX0_freeOfColour_31 : decode cX0_freeOfColour 31 = .ok (.goto (-26), 3) := by decide +kernel
theorem dX0_freeOfColour_34 : decode cX0_freeOfColour 34 = .ok (.iload_n 3, 1) := by decide +kernel
theorem dX0_freeOfColour_35 : decode cX0_freeOfColour 35 = .ok (.ireturn, 1) := by decide +kernel
theorem dX0_freeTranks_0 : decode cX0_freeTranks 0 = .ok (.iconst 0, 1) := by decide +kernel
theorem dX0_freeTranks_1 : decode cX0_freeTranks 1 = .ok (.istore_n 2, 1) := by decide +kernel
theorem dX0_freeTranks_2 : decode cX0_freeTranks 2 = .ok (.iconst 0, 1) := by decide +kernel
theorem dX0_freeTranks_3 : decode cX0_freeTranks 3 = .ok (.istore_n 3, 1) := by decide +kernel
theorem dX0_freeTranks_4 : decode cX0_freeTranks 4 = .ok (.iload_n 3, 1) := by decide +kernel
theorem dX0_freeTranks_5 : decode cX0_freeTranks 5 = .ok (.aload_n 0, 1) := by decide +kernel
theorem dX0_freeTranks_6 : decode cX0_freeTranks 6 = .ok (.getfield 107, 3) := by decide +kernel
theorem dX0_freeTranks_9 : decode cX0_freeTranks 9 = .ok (.if_icmp .ge 41, 3) := by decide +kernel
theorem dX0_freeTranks_12 : decode cX0_freeTranks 12 = .ok (.aload_n 0, 1) := by decide +kernel
theorem dX0_freeTranks_13 : decode cX0_freeTranks 13 = .ok (.getfield 27, 3) := by decide +kernel
theorem dX0_freeTranks_16 : decode cX0_freeTranks 16 = .ok (.iload_n 3, 1) := by decide +kernel
theorem dX0_freeTranks_17 : decode cX0_freeTranks 17 = .ok (.iaload, 1) := by decide +kernel
theorem dX0_freeTranks_18 : decode cX0_freeTranks 18 = .ok (.iconst (-1), 1) := by decide +kernel
theorem dX0_freeTranks_19 : decode cX0_freeTranks 19 = .ok (.if_icmp .ne 25, 3) := by decide +kernel
theorem dX0_freeTranks_22 : decode cX0_freeTranks 22 = .ok (.aload_n 0, 1) := by decide +kernel
theorem dX0_freeTranks_23 : decode cX0_freeTranks 23 = .ok (.getfield 24, 3) := by decide +kernel
theorem dX0_freeTranks_26 : decode cX0_freeTranks 26 = .ok (.iload_n 3, 1) := by decide +kernel
theorem dX0_freeTranks_27 : decode cX0_freeTranks 27 = .ok (.iaload, 1) := by decide +kernel
theorem dX0_freeTranks_28 : decode cX0_freeTranks 28 = .ok (.ifCond .ne 16, 3) := by decide +kernel
theorem dX0_freeTranks_31 : decode cX0_freeTranks 31 = .ok (.aload_n 0, 1) := by decide +kernel
theorem dX0_freeTranks_32 : decode cX0_freeTranks 32 = .ok (.getfield 21, 3) := by decide +kernel
theorem dX0_freeTranks_35 : decode cX0_freeTranks 35 = .ok (.iload_n 3, 1) := by decide +kernel
theorem dX0_freeTranks_36 : decode cX0_freeTranks 36 = .ok (.iaload, 1) := by decide +kernel
theorem dX0_freeTranks_37 : decode cX0_freeTranks 37 = .ok (.iload_n 1, 1) := by decide +kernel
theorem dX0_freeTranks_38 : decode cX0_freeTranks 38 = .ok (.if_icmp .ne 6, 3) := by decide +kernel
theorem dX0_freeTranks_41 : decode cX0_freeTranks 41 = .ok (.iinc 2 1, 3) := by decide +kernel
theorem dX0_freeTranks_44 : decode cX0_freeTranks 44 = .ok (.iinc 3 1, 3) := by decide +kernel
theorem dX0_freeTranks_47 : decode cX0_freeTranks 47 = .ok (.goto (-43), 3) := by decide +kernel
theorem dX0_freeTranks_50 : decode cX0_freeTranks 50 = .ok (.iload_n 2, 1) := by decide +kernel
theorem dX0_freeTranks_51 : decode cX0_freeTranks 51 = .ok (.ireturn, 1) := by decide +kernel
theorem dX0_mostTranksOfOneSkin_0 : decode cX0_mostTranksOfOneSkin 0 = .ok (.iconst 0, 1) := by decide +kernel
theorem dX0_mostTranksOfOneSkin_1 : decode cX0_mostTranksOfOneSkin 1 = .ok (.istore_n 2, 1) := by decide +kernel
theorem dX0_mostTranksOfOneSkin_2 : decode cX0_mostTranksOfOneSkin 2 = .ok (.iconst 0, 1) := by decide +kernel
theorem dX0_mostTranksOfOneSkin_3 : decode cX0_mostTranksOfOneSkin 3 = .ok (.istore_n 3, 1) := by decide +kernel
theorem dX0_mostTranksOfOneSkin_4 : decode cX0_mostTranksOfOneSkin 4 = .ok (.iload_n 3, 1) := by decide +kernel
theorem dX0_mostTranksOfOneSkin_5 : decode cX0_mostTranksOfOneSkin 5 = .ok (.aload_n 0, 1) := by decide +kernel
theorem dX0_mostTranksOfOneSkin_6 : decode cX0_mostTranksOfOneSkin 6 = .ok (.getfield 56, 3) := by decide +kernel
theorem dX0_mostTranksOfOneSkin_9 : decode cX0_mostTranksOfOneSkin 9 = .ok (.if_icmp .ge 29, 3) := by decide +kernel
theorem dX0_mostTranksOfOneSkin_12 : decode cX0_mostTranksOfOneSkin 12 = .ok (.aload_n 0, 1) := by decide +kernel
theorem dX0_mostTranksOfOneSkin_13 : decode cX0_mostTranksOfOneSkin 13 = .ok (.getfield 9, 3) := by decide +kernel
theorem dX0_mostTranksOfOneSkin_16 : decode cX0_mostTranksOfOneSkin 16 = .ok (.iload_n 3, 1) := by decide +kernel
theorem dX0_mostTranksOfOneSkin_17 : decode cX0_mostTranksOfOneSkin 17 = .ok (.iaload, 1) := by decide +kernel
theorem dX0_mostTranksOfOneSkin_18 : decode cX0_mostTranksOfOneSkin 18 = .ok (.iload_n 1, 1) := by decide +kernel
theorem dX0_mostTranksOfOneSkin_19 : decode cX0_mostTranksOfOneSkin 19 = .ok (.if_icmp .ne 13, 3) := by decide +kernel
theorem dX0_mostTranksOfOneSkin_22 : decode cX0_mostTranksOfOneSkin 22 = .ok (.iload_n 2, 1) := by decide +kernel
theorem dX0_mostTranksOfOneSkin_23 : decode cX0_mostTranksOfOneSkin 23 = .ok (.aload_n 0, 1) := by decide +kernel
theorem dX0_mostTranksOfOneSkin_24 : decode cX0_mostTranksOfOneSkin 24 = .ok (.iload_n 3, 1) := by decide +kernel
theorem dX0_mostTranksOfOneSkin_25 : decode cX0_mostTranksOfOneSkin 25 = .ok (.invokevirtual 223, 3) := by decide +kernel
theorem dX0_mostTranksOfOneSkin_28 : decode cX0_mostTranksOfOneSkin 28 = .ok (.invokestatic 226, 3) := by decide +kernel
theorem dX0_mostTranksOfOneSkin_31 : decode cX0_mostTranksOfOneSkin 31 = .ok (.istore_n 2, 1) := by decide +kernel
theorem dX0_mostTranksOfOneSkin_32 : decode cX0_mostTranksOfOneSkin 32 = .ok (.iinc 3 1, 3) := by decide +kernel
theorem dX0_mostTranksOfOneSkin_35 : decode cX0_mostTranksOfOneSkin 35 = .ok (.goto (-31), 3) := by decide +kernel
theorem dX0_mostTranksOfOneSkin_38 : decode cX0_mostTranksOfOneSkin 38 = .ok (.iload_n 2, 1) := by decide +kernel
theorem dX0_mostTranksOfOneSkin_39 : decode cX0_mostTranksOfOneSkin 39 = .ok (.ireturn, 1) := by decide +kernel
theorem dX0_pairsFrom_0 : decode cX0_pairsFrom 0 = .ok (.getstatic 229, 3) := by decide +kernel
theorem dX0_pairsFrom_3 : decode cX0_pairsFrom 3 = .ok (.iload_n 1, 1) := by decide +kernel
theorem dX0_pairsFrom_4 : decode cX0_pairsFrom 4 = .ok (.iaload, 1) := by decide +kernel
theorem dX0_pairsFrom_5 : decode cX0_pairsFrom 5 = .ok (.istore_n 2, 1) := by decide +kernel
theorem dX0_pairsFrom_6 : decode cX0_pairsFrom 6 = .ok (.iload_n 2, 1) := by decide +kernel
theorem dX0_pairsFrom_7 : decode cX0_pairsFrom 7 = .ok (.ifCond .le 9, 3) := by decide +kernel
theorem dX0_pairsFrom_10 : decode cX0_pairsFrom 10 = .ok (.iload_n 0, 1) := by decide +kernel
theorem dX0_pairsFrom_11 : decode cX0_pairsFrom 11 = .ok (.iload_n 2, 1) := by decide +kernel
theorem dX0_pairsFrom_12 : decode cX0_pairsFrom 12 = .ok (.idiv, 1) := by decide +kernel
theorem dX0_pairsFrom_13 : decode cX0_pairsFrom 13 = .ok (.goto 4, 3) := by decide +kernel
theorem dX0_pairsFrom_16 : decode cX0_pairsFrom 16 = .ok (.iconst 0, 1) := by decide +kernel
theorem dX0_pairsFrom_17 : decode cX0_pairsFrom 17 = .ok (.ireturn, 1) := by decide +kernel
theorem dX0_trankPairs_0 : decode cX0_trankPairs 0 = .ok (.iconst 0, 1) := by decide +kernel
theorem dX0_trankPairs_1 : decode cX0_trankPairs 1 = .ok (.istore_n 2, 1) := by decide +kernel
theorem dX0_trankPairs_2 : decode cX0_trankPairs 2 = .ok (.iconst 0, 1) := by decide +kernel
theorem dX0_trankPairs_3 : decode cX0_trankPairs 3 = .ok (.istore_n 3, 1) := by decide +kernel
theorem dX0_trankPairs_4 : decode cX0_trankPairs 4 = .ok (.iload_n 3, 1) := by decide +kernel
theorem dX0_trankPairs_5 : decode cX0_trankPairs 5 = .ok (.aload_n 0, 1) := by decide +kernel
theorem dX0_trankPairs_6 : decode cX0_trankPairs 6 = .ok (.getfield 56, 3) := by decide +kernel
theorem dX0_trankPairs_9 : decode cX0_trankPairs 9 = .ok (.if_icmp .ge 31, 3) := by decide +kernel
theorem dX0_trankPairs_12 : decode cX0_trankPairs 12 = .ok (.aload_n 0, 1) := by decide +kernel
theorem dX0_trankPairs_13 : decode cX0_trankPairs 13 = .ok (.getfield 9, 3) := by decide +kernel
theorem dX0_trankPairs_16 : decode cX0_trankPairs 16 = .ok (.iload_n 3, 1) := by decide +kernel
theorem dX0_trankPairs_17 : decode cX0_trankPairs 17 = .ok (.iaload, 1) := by decide +kernel
theorem dX0_trankPairs_18 : decode cX0_trankPairs 18 = .ok (.iload_n 1, 1) := by decide +kernel
theorem dX0_trankPairs_19 : decode cX0_trankPairs 19 = .ok (.if_icmp .ne 15, 3) := by decide +kernel
theorem dX0_trankPairs_22 : decode cX0_trankPairs 22 = .ok (.iload_n 2, 1) := by decide +kernel
theorem dX0_trankPairs_23 : decode cX0_trankPairs 23 = .ok (.aload_n 0, 1) := by decide +kernel
theorem dX0_trankPairs_24 : decode cX0_trankPairs 24 = .ok (.iload_n 3, 1) := by decide +kernel
theorem dX0_trankPairs_25 : decode cX0_trankPairs 25 = .ok (.invokevirtual 223, 3) := by decide +kernel
theorem dX0_trankPairs_28 : decode cX0_trankPairs 28 = .ok (.iconst 0, 1) := by decide +kernel
theorem dX0_trankPairs_29 : decode cX0_trankPairs 29 = .ok (.invokestatic 166, 3) := by decide +kernel
theorem dX0_trankPairs_32 : decode cX0_trankPairs 32 = .ok (.iadd, 1) := by decide +kernel
theorem dX0_trankPairs_33 : decode cX0_trankPairs 33 = .ok (.istore_n 2, 1) := by decide +kernel
theorem dX0_trankPairs_34 : decode cX0_trankPairs 34 = .ok (.iinc 3 1, 3) := by decide +kernel
theorem dX0_trankPairs_37 : decode cX0_trankPairs 37 = .ok (.goto (-33), 3) := by decide +kernel
theorem dX0_trankPairs_40 : decode cX0_trankPairs 40 = .ok (.iload_n 2, 1) := by decide +kernel
theorem dX0_trankPairs_41 : decode cX0_trankPairs 41 = .ok (.ireturn, 1) := by decide +kernel
theorem dX0_lacking_0 : decode cX0_lacking 0 = .ok (.iload_n 2, 1) := by decide +kernel
theorem dX0_lacking_1 : decode cX0_lacking 1 = .ok (.ifCond .ne 11, 3) := by decide +kernel
theorem dX0_lacking_4 : decode cX0_lacking 4 = .ok (.aload_n 0, 1) := by decide +kernel
theorem dX0_lacking_5 : decode cX0_lacking 5 = .ok (.iload_n 1, 1) := by decide +kernel
theorem dX0_lacking_6 : decode cX0_lacking 6 = .ok (.invokevirtual 232, 3) := by decide +kernel
theorem dX0_lacking_9 : decode cX0_lacking 9 = .ok (.goto 9, 3) := by decide +kernel
theorem dX0_lacking_12 : decode cX0_lacking 12 = .ok (.aload_n 0, 1) := by decide +kernel
theorem dX0_lacking_13 : decode cX0_lacking 13 = .ok (.iload_n 1, 1) := by decide +kernel
theorem dX0_lacking_14 : decode cX0_lacking 14 = .ok (.iload_n 2, 1) := by decide +kernel
theorem dX0_lacking_15 : decode cX0_lacking 15 = .ok (.invokevirtual 163, 3) := by decide +kernel
theorem dX0_lacking_18 : decode cX0_lacking 18 = .ok (.istore_n 3, 1) := by decide +kernel
theorem dX0_lacking_19 : decode cX0_lacking 19 = .ok (.iconst 0, 1) := by decide +kernel
theorem dX0_lacking_20 : decode cX0_lacking 20 = .ok (.getstatic 229, 3) := by decide +kernel
theorem dX0_lacking_23 : decode cX0_lacking 23 = .ok (.iload_n 2, 1) := by decide +kernel
theorem dX0_lacking_24 : decode cX0_lacking 24 = .ok (.iaload, 1) := by decide +kernel
theorem dX0_lacking_25 : decode cX0_lacking 25 = .ok (.iload_n 3, 1) := by decide +kernel
theorem dX0_lacking_26 : decode cX0_lacking 26 = .ok (.isub, 1) := by decide +kernel
theorem dX0_lacking_27 : decode cX0_lacking 27 = .ok (.invokestatic 226, 3) := by decide +kernel
theorem dX0_lacking_30 : decode cX0_lacking 30 = .ok (.ireturn, 1) := by decide +kernel
theorem dX0_firstSkinWithTranks_0 : decode cX0_firstSkinWithTranks 0 = .ok (.iconst 0, 1) := by decide +kernel
theorem dX0_firstSkinWithTranks_1 : decode cX0_firstSkinWithTranks 1 = .ok (.istore_n 2, 1) := by decide +kernel
theorem dX0_firstSkinWithTranks_2 : decode cX0_firstSkinWithTranks 2 = .ok (.iload_n 2, 1) := by decide +kernel
theorem dX0_firstSkinWithTranks_3 : decode cX0_firstSkinWithTranks 3 = .ok (.aload_n 0, 1) := by decide +kernel
theorem dX0_firstSkinWithTranks_4 : decode cX0_firstSkinWithTranks 4 = .ok (.getfield 56, 3) := by decide +kernel
theorem dX0_firstSkinWithTranks_7 : decode cX0_firstSkinWithTranks 7 = .ok (.if_icmp .ge 34, 3) := by decide +kernel
theorem dX0_firstSkinWithTranks_10 : decode cX0_firstSkinWithTranks 10 = .ok (.aload_n 0, 1) := by decide +kernel
theorem dX0_firstSkinWithTranks_11 : decode cX0_firstSkinWithTranks 11 = .ok (.getfield 9, 3) := by decide +kernel
theorem dX0_firstSkinWithTranks_14 : decode cX0_firstSkinWithTranks 14 = .ok (.iload_n 2, 1) := by decide +kernel
theorem dX0_firstSkinWithTranks_15 : decode cX0_firstSkinWithTranks 15 = .ok (.iaload, 1) := by decide +kernel
theorem dX0_firstSkinWithTranks_16 : decode cX0_firstSkinWithTranks 16 = .ok (.iload_n 1, 1) := by decide +kernel
theorem dX0_firstSkinWithTranks_17 : decode cX0_firstSkinWithTranks 17 = .ok (.if_icmp .ne 18, 3) := by decide +kernel
theorem dX0_firstSkinWithTranks_20 : decode cX0_firstSkinWithTranks 20 = .ok (.aload_n 0, 1) := by decide +kernel
theorem dX0_firstSkinWithTranks_21 : decode cX0_firstSkinWithTranks 21 = .ok (.iload_n 2, 1) := by decide +kernel
theorem dX0_firstSkinWithTranks_22 : decode cX0_firstSkinWithTranks 22 = .ok (.invokevirtual 223, 3) := by decide +kernel
theorem dX0_firstSkinWithTranks_25 : decode cX0_firstSkinWithTranks 25 = .ok (.getstatic 229, 3) := by decide +kernel
theorem dX0_firstSkinWithTranks_28 : decode cX0_firstSkinWithTranks 28 = .ok (.iconst 0, 1) := by decide +kernel
theorem dX0_firstSkinWithTranks_29 : decode cX0_firstSkinWithTranks 29 = .ok (.iaload, 1) := by decide +kernel
theorem dX0_firstSkinWithTranks_30 : decode cX0_firstSkinWithTranks 30 = .ok (.if_icmp .lt 5, 3) := by decide +kernel
theorem dX0_firstSkinWithTranks_33 : decode cX0_firstSkinWithTranks 33 = .ok (.iload_n 2, 1) := by decide +kernel
theorem dX0_firstSkinWithTranks_34 : decode cX0_firstSkinWithTranks 34 = .ok (.ireturn, 1) := by decide +kernel
theorem dX0_firstSkinWithTranks_35 : decode cX0_firstSkinWithTranks 35 = .ok (.iinc 2 1, 3) := by decide +kernel
theorem dX0_firstSkinWithTranks_38 : decode cX0_firstSkinWithTranks 38 = .ok (.goto (-36), 3) := by decide +kernel
theorem dX0_firstSkinWithTranks_41 : decode cX0_firstSkinWithTranks 41 = .ok (.iconst (-1), 1) := by decide +kernel
theorem dX0_firstSkinWithTranks_42 : decode cX0_firstSkinWithTranks 42 = .ok (.ireturn, 1) := by decide +kernel
theorem dX0_enterPair_0 : decode cX0_enterPair 0 = .ok (.aload_n 0, 1) := by decide +kernel
theorem dX0_enterPair_1 : decode cX0_enterPair 1 = .ok (.iload_n 1, 1) := by decide +kernel
theorem dX0_enterPair_2 : decode cX0_enterPair 2 = .ok (.invokevirtual 235, 3) := by decide +kernel
theorem dX0_enterPair_5 : decode cX0_enterPair 5 = .ok (.istore_n 2, 1) := by decide +kernel
theorem dX0_enterPair_6 : decode cX0_enterPair 6 = .ok (.aload_n 0, 1) := by decide +kernel
theorem dX0_enterPair_7 : decode cX0_enterPair 7 = .ok (.getfield 33, 3) := by decide +kernel
theorem dX0_enterPair_10 : decode cX0_enterPair 10 = .ok (.aload_n 0, 1) := by decide +kernel
theorem dX0_enterPair_11 : decode cX0_enterPair 11 = .ok (.getfield 136, 3) := by decide +kernel
theorem dX0_enterPair_14 : decode cX0_enterPair 14 = .ok (.iload_n 1, 1) := by decide +kernel
theorem dX0_enterPair_15 : decode cX0_enterPair 15 = .ok (.iastore, 1) := by decide +kernel
theorem dX0_enterPair_16 : decode cX0_enterPair 16 = .ok (.aload_n 0, 1) := by decide +kernel
theorem dX0_enterPair_17 : decode cX0_enterPair 17 = .ok (.getfield 36, 3) := by decide +kernel
theorem dX0_enterPair_20 : decode cX0_enterPair 20 = .ok (.aload_n 0, 1) := by decide +kernel
theorem dX0_enterPair_21 : decode cX0_enterPair 21 = .ok (.getfield 136, 3) := by decide +kernel
theorem dX0_enterPair_24 : decode cX0_enterPair 24 = .ok (.iload_n 2, 1) := by decide +kernel
theorem dX0_enterPair_25 : decode cX0_enterPair 25 = .ok (.iastore, 1) := by decide +kernel
theorem dX0_enterPair_26 : decode cX0_enterPair 26 = .ok (.iconst 0, 1) := by decide +kernel
theorem dX0_enterPair_27 : decode cX0_enterPair 27 = .ok (.istore_n 3, 1) := by decide +kernel
theorem dX0_enterPair_28 : decode cX0_enterPair 28 = .ok (.iconst 0, 1) := by decide +kernel
theorem dX0_enterPair_29 : decode cX0_enterPair 29 = .ok (.istore 4, 2) := by decide +kernel
theorem dX0_enterPair_31 : decode cX0_enterPair 31 = .ok (.iload 4, 2) := by decide +kernel
theorem dX0_enterPair_33 : decode cX0_enterPair 33 = .ok (.iconst 4, 1) := by decide +kernel
theorem dX0_enterPair_34 : decode cX0_enterPair 34 = .ok (.if_icmp .ge 125, 3) := by decide +kernel
theorem dX0_enterPair_37 : decode cX0_enterPair 37 = .ok (.getstatic 229, 3) := by decide +kernel
theorem dX0_enterPair_40 : decode cX0_enterPair 40 = .ok (.iload 4, 2) := by decide +kernel
theorem dX0_enterPair_42 : decode cX0_enterPair 42 = .ok (.iaload, 1) := by decide +kernel
theorem dX0_enterPair_43 : decode cX0_enterPair 43 = .ok (.istore 5, 2) := by decide +kernel
theorem dX0_enterPair_45 : decode cX0_enterPair 45 = .ok (.iconst 0, 1) := by decide +kernel
theorem dX0_enterPair_46 : decode cX0_enterPair 46 = .ok (.istore 6, 2) := by decide +kernel
theorem dX0_enterPair_48 : decode cX0_enterPair 48 = .ok (.iload 6, 2) := by decide +kernel
theorem dX0_enterPair_50 : decode cX0_enterPair 50 = .ok (.aload_n 0, 1) := by decide +kernel
theorem dX0_enterPair_51 : decode cX0_enterPair 51 = .ok (.getfield 107, 3) := by decide +kernel
theorem dX0_enterPair_54 : decode cX0_enterPair 54 = .ok (.if_icmp .ge 99, 3) := by decide +kernel
theorem dX0_enterPair_57 : decode cX0_enterPair 57 = .ok (.iload 5, 2) := by decide +kernel
theorem dX0_enterPair_59 : decode cX0_enterPair 59 = .ok (.ifCond .le 94, 3) := by decide +kernel
theorem dX0_enterPair_62 : decode cX0_enterPair 62 = .ok (.iload 4, 2) := by decide +kernel
theorem dX0_enterPair_64 : decode cX0_enterPair 64 = .ok (.ifCond .ne 14, 3) := by decide +kernel
theorem dX0_enterPair_67 : decode cX0_enterPair 67 = .ok (.aload_n 0, 1) := by decide +kernel
theorem dX0_enterPair_68 : decode cX0_enterPair 68 = .ok (.getfield 21, 3) := by decide +kernel
theorem dX0_enterPair_71 : decode cX0_enterPair 71 = .ok (.iload 6, 2) := by decide +kernel
theorem dX0_enterPair_73 : decode cX0_enterPair 73 = .ok (.iaload, 1) := by decide +kernel
theorem dX0_enterPair_74 : decode cX0_enterPair 74 = .ok (.iload_n 2, 1) := by decide +kernel
theorem dX0_enterPair_75 : decode cX0_enterPair 75 = .ok (.if_icmp .ne 7, 3) := by decide +kernel
theorem dX0_enterPair_78 : decode cX0_enterPair 78 = .ok (.iconst 1, 1) := by decide +kernel
theorem dX0_enterPair_79 : decode cX0_enterPair 79 = .ok (.goto 4, 3) := by decide +kernel
theorem dX0_enterPair_82 : decode cX0_enterPair 82 = .ok (.iconst 0, 1) := by decide +kernel
theorem dX0_enterPair_83 : decode cX0_enterPair 83 = .ok (.istore 7, 2) := by decide +kernel
theorem dX0_enterPair_85 : decode cX0_enterPair 85 = .ok (.iload 7, 2) := by decide +kernel
theorem dX0_enterPair_87 : decode cX0_enterPair 87 = .ok (.ifCond .eq 60, 3) := by decide +kernel
theorem dX0_enterPair_90 : decode cX0_enterPair 90 = .ok (.aload_n 0, 1) := by decide +kernel
theorem dX0_enterPair_91 : decode cX0_enterPair 91 = .ok (.iload 6, 2) := by decide +kernel
theorem dX0_enterPair_93 : decode cX0_enterPair 93 = .ok (.iload_n 1, 1) := by decide +kernel
theorem dX0_enterPair_94 : decode cX0_enterPair 94 = .ok (.iload 4, 2) := by decide +kernel
theorem dX0_enterPair_96 : decode cX0_enterPair 96 = .ok (.invokevirtual 219, 3) := by decide +kernel
theorem dX0_enterPair_99 : decode cX0_enterPair 99 = .ok (.ifCond .eq 48, 3) := by decide +kernel
theorem dX0_enterPair_102 : decode cX0_enterPair 102 = .ok (.aload_n 0, 1) := by decide +kernel
theorem dX0_enterPair_103 : decode cX0_enterPair 103 = .ok (.getfield 27, 3) := by decide +kernel
theorem dX0_enterPair_106 : decode cX0_enterPair 106 = .ok (.iload 6, 2) := by decide +kernel
theorem dX0_enterPair_108 : decode cX0_enterPair 108 = .ok (.aload_n 0, 1) := by decide +kernel
theorem dX0_enterPair_109 : decode cX0_enterPair 109 = .ok (.getfield 136, 3) := by decide +kernel
theorem dX0_enterPair_112 : decode cX0_enterPair 112 = .ok (.iastore, 1) := by decide +kernel
theorem dX0_enterPair_113 : decode cX0_enterPair 113 = .ok (.aload_n 0, 1) := by decide +kernel
theorem dX0_enterPair_114 : decode cX0_enterPair 114 = .ok (.getfield 42, 3) := by decide +kernel
theorem dX0_enterPair_117 : decode cX0_enterPair 117 = .ok (.aload_n 0, 1) := by decide +kernel
theorem dX0_enterPair_118 : decode cX0_enterPair 118 = .ok (.getfield 136, 3) := by decide +kernel
theorem dX0_enterPair_121 : decode cX0_enterPair 121 = .ok (.dup2, 1) := by decide +kernel
theorem dX0_enterPair_122 : decode cX0_enterPair 122 = .ok (.iaload, 1) := by decide +kernel
theorem dX0_enterPair_123 : decode cX0_enterPair 123 = .ok (.aload_n 0, 1) := by decide +kernel
theorem dX0_enterPair_124 : decode cX0_enterPair 124 = .ok (.getfield 30, 3) := by decide +kernel
theorem dX0_enterPair_127 : decode cX0_enterPair 127 = .ok (.iload 6, 2) := by decide +kernel
theorem dX0_enterPair_129 : decode cX0_enterPair 129 = .ok (.iaload, 1) := by decide +kernel
theorem dX0_enterPair_130 : decode cX0_enterPair 130 = .ok (.iadd, 1) := by decide +kernel
theorem dX0_enterPair_131 : decode cX0_enterPair 131 = .ok (.iastore, 1) := by decide +kernel
theorem dX0_enterPair_132 : decode cX0_enterPair 132 = .ok (.iload_n 3, 1) := by decide +kernel
theorem dX0_enterPair_133 : decode cX0_enterPair 133 = .ok (.iconst 1, 1) := by decide +kernel
theorem dX0_enterPair_134 : decode cX0_enterPair 134 = .ok (.aload_n 0, 1) := by decide +kernel
theorem dX0_enterPair_135 : decode cX0_enterPair 135 = .ok (.getfield 21, 3) := by decide +kernel
theorem dX0_enterPair_138 : decode cX0_enterPair 138 = .ok (.iload 6, 2) := by decide +kernel
theorem dX0_enterPair_140 : decode cX0_enterPair 140 = .ok (.iaload, 1) := by decide +kernel
theorem dX0_enterPair_141 : decode cX0_enterPair 141 = .ok (.ishl, 1) := by decide +kernel
theorem dX0_enterPair_142 : decode cX0_enterPair 142 = .ok (.ior, 1) := by decide +kernel
theorem dX0_enterPair_143 : decode cX0_enterPair 143 = .ok (.istore_n 3, 1) := by decide +kernel
theorem dX0_enterPair_144 : decode cX0_enterPair 144 = .ok (.iinc 5 (-1), 3) := by decide +kernel
theorem dX0_enterPair_147 : decode cX0_enterPair 147 = .ok (.iinc 6 1, 3) := by decide +kernel
theorem dX0_enterPair_150 : decode cX0_enterPair 150 = .ok (.goto (-102), 3) := by decide +kernel
theorem dX0_enterPair_153 : decode cX0_enterPair 153 = .ok (.iinc 4 1, 3) := by decide +kernel
theorem dX0_enterPair_156 : decode cX0_enterPair 156 = .ok (.goto (-125), 3) := by decide +kernel
theorem dX0_enterPair_159 : decode cX0_enterPair 159 = .ok (.aload_n 0, 1) := by decide +kernel
theorem dX0_enterPair_160 : decode cX0_enterPair 160 = .ok (.getfield 39, 3) := by decide +kernel
theorem dX0_enterPair_163 : decode cX0_enterPair 163 = .ok (.aload_n 0, 1) := by decide +kernel
theorem dX0_enterPair_164 : decode cX0_enterPair 164 = .ok (.getfield 136, 3) := by decide +kernel
theorem dX0_enterPair_167 : decode cX0_enterPair 167 = .ok (.iload_n 3, 1) := by decide +kernel
theorem dX0_enterPair_168 : decode cX0_enterPair 168 = .ok (.invokestatic 238, 3) := by decide +kernel
theorem dX0_enterPair_171 : decode cX0_enterPair 171 = .ok (.iastore, 1) := by decide +kernel
theorem dX0_enterPair_172 : decode cX0_enterPair 172 = .ok (.aload_n 0, 1) := by decide +kernel
theorem dX0_enterPair_173 : decode cX0_enterPair 173 = .ok (.dup, 1) := by decide +kernel
theorem dX0_enterPair_174 : decode cX0_enterPair 174 = .ok (.getfield 136, 3) := by decide +kernel
theorem dX0_enterPair_177 : decode cX0_enterPair 177 = .ok (.iconst 1, 1) := by decide +kernel
theorem dX0_enterPair_178 : decode cX0_enterPair 178 = .ok (.iadd, 1) := by decide +kernel
theorem dX0_enterPair_179 : decode cX0_enterPair 179 = .ok (.putfield 136, 3) := by decide +kernel
theorem dX0_enterPair_182 : decode cX0_enterPair 182 = .ok (.return_, 1) := by decide +kernel
theorem dJ6_bitCount_0f7a4_0 : decode cJ6_bitCount_0f7a4 0 = .ok (.iload_n 0, 1) := by decide +kernel
theorem dJ6_bitCount_0f7a4_1 : decode cJ6_bitCount_0f7a4 1 = .ok (.iload_n 0, 1) := by decide +kernel
theorem dJ6_bitCount_0f7a4_2 : decode cJ6_bitCount_0f7a4 2 = .ok (.iconst 1, 1) := by decide +kernel
theorem dJ6_bitCount_0f7a4_3 : decode cJ6_bitCount_0f7a4 3 = .ok (.iushr, 1) := by decide +kernel
theorem dJ6_bitCount_0f7a4_4 : decode cJ6_bitCount_0f7a4 4 = .ok (.ldc_w 265, 3) := by decide +kernel
theorem dJ6_bitCount_0f7a4_7 : decode cJ6_bitCount_0f7a4 7 = .ok (.iand, 1) := by decide +kernel
theorem dJ6_bitCount_0f7a4_8 : decode cJ6_bitCount_0f7a4 8 = .ok (.isub, 1) := by decide +kernel
theorem dJ6_bitCount_0f7a4_9 : decode cJ6_bitCount_0f7a4 9 = .ok (.istore_n 0, 1) := by decide +kernel
theorem dJ6_bitCount_0f7a4_10 : decode cJ6_bitCount_0f7a4 10 = .ok (.iload_n 0, 1) := by decide +kernel
theorem dJ6_bitCount_0f7a4_11 : decode cJ6_bitCount_0f7a4 11 = .ok (.ldc_w 266, 3) := by decide +kernel
theorem dJ6_bitCount_0f7a4_14 : decode cJ6_bitCount_0f7a4 14 = .ok (.iand, 1) := by decide +kernel
theorem dJ6_bitCount_0f7a4_15 : decode cJ6_bitCount_0f7a4 15 = .ok (.iload_n 0, 1) := by decide +kernel
theorem dJ6_bitCount_0f7a4_16 : decode cJ6_bitCount_0f7a4 16 = .ok (.iconst 2, 1) := by decide +kernel
theorem dJ6_bitCount_0f7a4_17 : decode cJ6_bitCount_0f7a4 17 = .ok (.iushr, 1) := by decide +kernel
theorem dJ6_bitCount_0f7a4_18 : decode cJ6_bitCount_0f7a4 18 = .ok (.ldc_w 266, 3) := by decide +kernel
theorem dJ6_bitCount_0f7a4_21 : decode cJ6_bitCount_0f7a4 21 = .ok (.iand, 1) := by decide +kernel
theorem dJ6_bitCount_0f7a4_22 : decode cJ6_bitCount_0f7a4 22 = .ok (.iadd, 1) := by decide +kernel
theorem dJ6_bitCount_0f7a4_23 : decode cJ6_bitCount_0f7a4 23 = .ok (.istore_n 0, 1) := by decide +kernel
theorem dJ6_bitCount_0f7a4_24 : decode cJ6_bitCount_0f7a4 24 = .ok (.iload_n 0, 1) := by decide +kernel
theorem dJ6_bitCount_0f7a4_25 : decode cJ6_bitCount_0f7a4 25 = .ok (.iload_n 0, 1) := by decide +kernel
theorem dJ6_bitCount_0f7a4_26 : decode cJ6_bitCount_0f7a4 26 = .ok (.iconst 4, 1) := by decide +kernel
theorem dJ6_bitCount_0f7a4_27 : decode cJ6_bitCount_0f7a4 27 = .ok (.iushr, 1) := by decide +kernel
theorem dJ6_bitCount_0f7a4_28 : decode cJ6_bitCount_0f7a4 28 = .ok (.iadd, 1) := by decide +kernel
theorem dJ6_bitCount_0f7a4_29 : decode cJ6_bitCount_0f7a4 29 = .ok (.ldc_w 267, 3) := by decide +kernel
theorem dJ6_bitCount_0f7a4_32 : decode cJ6_bitCount_0f7a4 32 = .ok (.iand, 1) := by decide +kernel
theorem dJ6_bitCount_0f7a4_33 : decode cJ6_bitCount_0f7a4 33 = .ok (.istore_n 0, 1) := by decide +kernel
theorem dJ6_bitCount_0f7a4_34 : decode cJ6_bitCount_0f7a4 34 = .ok (.iload_n 0, 1) := by decide +kernel
theorem dJ6_bitCount_0f7a4_35 : decode cJ6_bitCount_0f7a4 35 = .ok (.iload_n 0, 1) := by decide +kernel
theorem dJ6_bitCount_0f7a4_36 : decode cJ6_bitCount_0f7a4 36 = .ok (.bipush 8, 2) := by decide +kernel
theorem dJ6_bitCount_0f7a4_38 : decode cJ6_bitCount_0f7a4 38 = .ok (.iushr, 1) := by decide +kernel
theorem dJ6_bitCount_0f7a4_39 : decode cJ6_bitCount_0f7a4 39 = .ok (.iadd, 1) := by decide +kernel
theorem dJ6_bitCount_0f7a4_40 : decode cJ6_bitCount_0f7a4 40 = .ok (.istore_n 0, 1) := by decide +kernel
theorem dJ6_bitCount_0f7a4_41 : decode cJ6_bitCount_0f7a4 41 = .ok (.iload_n 0, 1) := by decide +kernel
theorem dJ6_bitCount_0f7a4_42 : decode cJ6_bitCount_0f7a4 42 = .ok (.iload_n 0, 1) := by decide +kernel
theorem dJ6_bitCount_0f7a4_43 : decode cJ6_bitCount_0f7a4 43 = .ok (.bipush 16, 2) := by decide +kernel
theorem dJ6_bitCount_0f7a4_45 : decode cJ6_bitCount_0f7a4 45 = .ok (.iushr, 1) := by decide +kernel
theorem dJ6_bitCount_0f7a4_46 : decode cJ6_bitCount_0f7a4 46 = .ok (.iadd, 1) := by decide +kernel
theorem dJ6_bitCount_0f7a4_47 : decode cJ6_bitCount_0f7a4 47 = .ok (.istore_n 0, 1) := by decide +kernel
theorem dJ6_bitCount_0f7a4_48 : decode cJ6_bitCount_0f7a4 48 = .ok (.iload_n 0, 1) := by decide +kernel
theorem dJ6_bitCount_0f7a4_49 : decode cJ6_bitCount_0f7a4 49 = .ok (.bipush 63, 2) := by decide +kernel
theorem dJ6_bitCount_0f7a4_51 : decode cJ6_bitCount_0f7a4 51 = .ok (.iand, 1) := by decide +kernel
theorem dJ6_bitCount_0f7a4_52 : decode cJ6_bitCount_0f7a4 52 = .ok (.ireturn, 1) := by decide +kernel
theorem dJ9_max_7cf53_0 : decode cJ9_max_7cf53 0 = .ok (.iload_n 0, 1) := by decide +kernel
theorem dJ9_max_7cf53_1 : decode cJ9_max_7cf53 1 = .ok (.iload_n 1, 1) := by decide +kernel
theorem dJ9_max_7cf53_2 : decode cJ9_max_7cf53 2 = .ok (.if_icmp .lt 7, 3) := by decide +kernel
theorem dJ9_max_7cf53_5 : decode cJ9_max_7cf53 5 = .ok (.iload_n 0, 1) := by decide +kernel
theorem dJ9_max_7cf53_6 : decode cJ9_max_7cf53 6 = .ok (.goto 4, 3) := by decide +kernel
theorem dJ9_max_7cf53_9 : decode cJ9_max_7cf53 9 = .ok (.iload_n 1, 1) := by decide +kernel
theorem dJ9_max_7cf53_10 : decode cJ9_max_7cf53 10 = .ok (.ireturn, 1) := by decide +kernel
theorem dJ9_min_7cf53_0 : decode cJ9_min_7cf53 0 = .ok (.iload_n 0, 1) := by decide +kernel
theorem dJ9_min_7cf53_1 : decode cJ9_min_7cf53 1 = .ok (.iload_n 1, 1) := by decide +kernel
theorem dJ9_min_7cf53_2 : decode cJ9_min_7cf53 2 = .ok (.if_icmp .gt 7, 3) := by decide +kernel
theorem dJ9_min_7cf53_5 : decode cJ9_min_7cf53 5 = .ok (.iload_n 0, 1) := by decide +kernel
theorem dJ9_min_7cf53_6 : decode cJ9_min_7cf53 6 = .ok (.goto 4, 3) := by decide +kernel
theorem dJ9_min_7cf53_9 : decode cJ9_min_7cf53 9 = .ok (.iload_n 1, 1) := by decide +kernel
theorem dJ9_min_7cf53_10 : decode cJ9_min_7cf53 10 = .ok (.ireturn, 1) := by decide +kernel
