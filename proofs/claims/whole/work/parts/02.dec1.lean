theorem dX0_init_0 : decode cX0_init 0 = .ok (.aload_n 0, 1) := by decide +kernel
theorem dX0_init_1 : decode cX0_init 1 = .ok (.invokespecial 3, 3) := by decide +kernel
theorem dX0_init_4 : decode cX0_init 4 = .ok (.aload_n 0, 1) := by decide +kernel
theorem dX0_init_5 : decode cX0_init 5 = .ok (.new 9, 3) := by decide +kernel
theorem dX0_init_8 : decode cX0_init 8 = .ok (.dup, 1) := by decide +kernel
theorem dX0_init_9 : decode cX0_init 9 = .ok (.invokespecial 11, 3) := by decide +kernel
theorem dX0_init_12 : decode cX0_init 12 = .ok (.putfield 12, 3) := by decide +kernel
theorem dX0_init_15 : decode cX0_init 15 = .ok (.aload_n 0, 1) := by decide +kernel
theorem dX0_init_16 : decode cX0_init 16 = .ok (.new 18, 3) := by decide +kernel
theorem dX0_init_19 : decode cX0_init 19 = .ok (.dup, 1) := by decide +kernel
theorem dX0_init_20 : decode cX0_init 20 = .ok (.invokespecial 20, 3) := by decide +kernel
theorem dX0_init_23 : decode cX0_init 23 = .ok (.putfield 21, 3) := by decide +kernel
theorem dX0_init_26 : decode cX0_init 26 = .ok (.return_, 1) := by decide +kernel
theorem dX0_pass_0 : decode cX0_pass 0 = .ok (.aload_n 0, 1) := by decide +kernel
theorem dX0_pass_1 : decode cX0_pass 1 = .ok (.iload_n 2, 1) := by decide +kernel
theorem dX0_pass_2 : decode cX0_pass 2 = .ok (.putfield 25, 3) := by decide +kernel
theorem dX0_pass_5 : decode cX0_pass 5 = .ok (.aload_n 0, 1) := by decide +kernel
theorem dX0_pass_6 : decode cX0_pass 6 = .ok (.iconst 0, 1) := by decide +kernel
theorem dX0_pass_7 : decode cX0_pass 7 = .ok (.putfield 29, 3) := by decide +kernel
theorem dX0_pass_10 : decode cX0_pass 10 = .ok (.aload_n 0, 1) := by decide +kernel
theorem dX0_pass_11 : decode cX0_pass 11 = .ok (.iconst 0, 1) := by decide +kernel
theorem dX0_pass_12 : decode cX0_pass 12 = .ok (.putfield 32, 3) := by decide +kernel
theorem dX0_pass_15 : decode cX0_pass 15 = .ok (.iconst 0, 1) := by decide +kernel
theorem dX0_pass_16 : decode cX0_pass 16 = .ok (.istore 5, 2) := by decide +kernel
theorem dX0_pass_18 : decode cX0_pass 18 = .ok (.iload 5, 2) := by decide +kernel
theorem dX0_pass_20 : decode cX0_pass 20 = .ok (.iload_n 1, 1) := by decide +kernel
theorem dX0_pass_21 : decode cX0_pass 21 = .ok (.if_icmp .ge 75, 3) := by decide +kernel
theorem dX0_pass_24 : decode cX0_pass 24 = .ok (.aload_n 0, 1) := by decide +kernel
theorem dX0_pass_25 : decode cX0_pass 25 = .ok (.iload 4, 2) := by decide +kernel
theorem dX0_pass_27 : decode cX0_pass 27 = .ok (.invokevirtual 35, 3) := by decide +kernel
theorem dX0_pass_30 : decode cX0_pass 30 = .ok (.aload_n 0, 1) := by decide +kernel
theorem dX0_pass_31 : decode cX0_pass 31 = .ok (.getfield 21, 3) := by decide +kernel
theorem dX0_pass_34 : decode cX0_pass 34 = .ok (.aload_n 3, 1) := by decide +kernel
theorem dX0_pass_35 : decode cX0_pass 35 = .ok (.aload_n 0, 1) := by decide +kernel
theorem dX0_pass_36 : decode cX0_pass 36 = .ok (.aload_n 3, 1) := by decide +kernel
theorem dX0_pass_37 : decode cX0_pass 37 = .ok (.getfield 39, 3) := by decide +kernel
theorem dX0_pass_40 : decode cX0_pass 40 = .ok (.invokevirtual 44, 3) := by decide +kernel
theorem dX0_pass_43 : decode cX0_pass 43 = .ok (.invokevirtual 48, 3) := by decide +kernel
theorem dX0_pass_46 : decode cX0_pass 46 = .ok (.aload_n 0, 1) := by decide +kernel
theorem dX0_pass_47 : decode cX0_pass 47 = .ok (.getfield 12, 3) := by decide +kernel
theorem dX0_pass_50 : decode cX0_pass 50 = .ok (.iconst 0, 1) := by decide +kernel
theorem dX0_pass_51 : decode cX0_pass 51 = .ok (.invokevirtual 51, 3) := by decide +kernel
theorem dX0_pass_54 : decode cX0_pass 54 = .ok (.aload_n 0, 1) := by decide +kernel
theorem dX0_pass_55 : decode cX0_pass 55 = .ok (.getfield 21, 3) := by decide +kernel
theorem dX0_pass_58 : decode cX0_pass 58 = .ok (.getfield 55, 3) := by decide +kernel
theorem dX0_pass_61 : decode cX0_pass 61 = .ok (.ifCond .eq 13, 3) := by decide +kernel
theorem dX0_pass_64 : decode cX0_pass 64 = .ok (.aload_n 0, 1) := by decide +kernel
theorem dX0_pass_65 : decode cX0_pass 65 = .ok (.dup, 1) := by decide +kernel
theorem dX0_pass_66 : decode cX0_pass 66 = .ok (.getfield 29, 3) := by decide +kernel
theorem dX0_pass_69 : decode cX0_pass 69 = .ok (.iconst 1, 1) := by decide +kernel
theorem dX0_pass_70 : decode cX0_pass 70 = .ok (.iadd, 1) := by decide +kernel
theorem dX0_pass_71 : decode cX0_pass 71 = .ok (.putfield 29, 3) := by decide +kernel
theorem dX0_pass_74 : decode cX0_pass 74 = .ok (.aload_n 0, 1) := by decide +kernel
theorem dX0_pass_75 : decode cX0_pass 75 = .ok (.dup, 1) := by decide +kernel
theorem dX0_pass_76 : decode cX0_pass 76 = .ok (.getfield 32, 3) := by decide +kernel
theorem dX0_pass_79 : decode cX0_pass 79 = .ok (.aload_n 0, 1) := by decide +kernel
theorem dX0_pass_80 : decode cX0_pass 80 = .ok (.getfield 21, 3) := by decide +kernel
theorem dX0_pass_83 : decode cX0_pass 83 = .ok (.getfield 58, 3) := by decide +kernel
theorem dX0_pass_86 : decode cX0_pass 86 = .ok (.iadd, 1) := by decide +kernel
theorem dX0_pass_87 : decode cX0_pass 87 = .ok (.putfield 32, 3) := by decide +kernel
theorem dX0_pass_90 : decode cX0_pass 90 = .ok (.iinc 5 1, 3) := by decide +kernel
theorem dX0_pass_93 : decode cX0_pass 93 = .ok (.goto (-75), 3) := by decide +kernel
theorem dX0_pass_96 : decode cX0_pass 96 = .ok (.return_, 1) := by decide +kernel
theorem dX0_drawLetter_0 : decode cX0_drawLetter 0 = .ok (.aload_n 0, 1) := by decide +kernel
theorem dX0_drawLetter_1 : decode cX0_drawLetter 1 = .ok (.getfield 12, 3) := by decide +kernel
theorem dX0_drawLetter_4 : decode cX0_drawLetter 4 = .ok (.invokevirtual 61, 3) := by decide +kernel
theorem dX0_drawLetter_7 : decode cX0_drawLetter 7 = .ok (.aload_n 0, 1) := by decide +kernel
theorem dX0_drawLetter_8 : decode cX0_drawLetter 8 = .ok (.getfield 12, 3) := by decide +kernel
theorem dX0_drawLetter_11 : decode cX0_drawLetter 11 = .ok (.iload_n 1, 1) := by decide +kernel
theorem dX0_drawLetter_12 : decode cX0_drawLetter 12 = .ok (.putfield 64, 3) := by decide +kernel
theorem dX0_drawLetter_15 : decode cX0_drawLetter 15 = .ok (.iconst 1, 1) := by decide +kernel
theorem dX0_drawLetter_16 : decode cX0_drawLetter 16 = .ok (.aload_n 0, 1) := by decide +kernel
theorem dX0_drawLetter_17 : decode cX0_drawLetter 17 = .ok (.bipush 9, 2) := by decide +kernel
theorem dX0_drawLetter_19 : decode cX0_drawLetter 19 = .ok (.invokevirtual 44, 3) := by decide +kernel
theorem dX0_drawLetter_22 : decode cX0_drawLetter 22 = .ok (.iadd, 1) := by decide +kernel
theorem dX0_drawLetter_23 : decode cX0_drawLetter 23 = .ok (.istore_n 2, 1) := by decide +kernel
theorem dX0_drawLetter_24 : decode cX0_drawLetter 24 = .ok (.iconst 0, 1) := by decide +kernel
theorem dX0_drawLetter_25 : decode cX0_drawLetter 25 = .ok (.istore_n 3, 1) := by decide +kernel
theorem dX0_drawLetter_26 : decode cX0_drawLetter 26 = .ok (.iload_n 3, 1) := by decide +kernel
theorem dX0_drawLetter_27 : decode cX0_drawLetter 27 = .ok (.iload_n 2, 1) := by decide +kernel
theorem dX0_drawLetter_28 : decode cX0_drawLetter 28 = .ok (.if_icmp .ge 22, 3) := by decide +kernel
theorem dX0_drawLetter_31 : decode cX0_drawLetter 31 = .ok (.aload_n 0, 1) := by decide +kernel
theorem dX0_drawLetter_32 : decode cX0_drawLetter 32 = .ok (.getfield 12, 3) := by decide +kernel
theorem dX0_drawLetter_35 : decode cX0_drawLetter 35 = .ok (.aload_n 0, 1) := by decide +kernel
theorem dX0_drawLetter_36 : decode cX0_drawLetter 36 = .ok (.bipush 6, 2) := by decide +kernel
theorem dX0_drawLetter_38 : decode cX0_drawLetter 38 = .ok (.invokevirtual 44, 3) := by decide +kernel
theorem dX0_drawLetter_41 : decode cX0_drawLetter 41 = .ok (.invokevirtual 67, 3) := by decide +kernel
theorem dX0_drawLetter_44 : decode cX0_drawLetter 44 = .ok (.iinc 3 1, 3) := by decide +kernel
theorem dX0_drawLetter_47 : decode cX0_drawLetter 47 = .ok (.goto (-21), 3) := by decide +kernel
theorem dX0_drawLetter_50 : decode cX0_drawLetter 50 = .ok (.return_, 1) := by decide +kernel
theorem dX0_draw_0 : decode cX0_draw 0 = .ok (.aload_n 0, 1) := by decide +kernel
theorem dX0_draw_1 : decode cX0_draw 1 = .ok (.ldc2_w 70, 3) := by decide +kernel
theorem dX0_draw_4 : decode cX0_draw 4 = .ok (.aload_n 0, 1) := by decide +kernel
theorem dX0_draw_5 : decode cX0_draw 5 = .ok (.getfield 25, 3) := by decide +kernel
theorem dX0_draw_8 : decode cX0_draw 8 = .ok (.i2l, 1) := by decide +kernel
theorem dX0_draw_9 : decode cX0_draw 9 = .ok (.lmul, 1) := by decide +kernel
theorem dX0_draw_10 : decode cX0_draw 10 = .ok (.ldc2_w 72, 3) := by decide +kernel
theorem dX0_draw_13 : decode cX0_draw 13 = .ok (.ladd, 1) := by decide +kernel
theorem dX0_draw_14 : decode cX0_draw 14 = .ok (.ldc2_w 74, 3) := by decide +kernel
theorem dX0_draw_17 : decode cX0_draw 17 = .ok (.lrem, 1) := by decide +kernel
theorem dX0_draw_18 : decode cX0_draw 18 = .ok (.l2i, 1) := by decide +kernel
theorem dX0_draw_19 : decode cX0_draw 19 = .ok (.putfield 25, 3) := by decide +kernel
theorem dX0_draw_22 : decode cX0_draw 22 = .ok (.iload_n 1, 1) := by decide +kernel
theorem dX0_draw_23 : decode cX0_draw 23 = .ok (.ifCond .le 15, 3) := by decide +kernel
theorem dX0_draw_26 : decode cX0_draw 26 = .ok (.aload_n 0, 1) := by decide +kernel
theorem dX0_draw_27 : decode cX0_draw 27 = .ok (.getfield 25, 3) := by decide +kernel
theorem dX0_draw_30 : decode cX0_draw 30 = .ok (.ldc 76, 2) := by decide +kernel
theorem dX0_draw_32 : decode cX0_draw 32 = .ok (.idiv, 1) := by decide +kernel
theorem dX0_draw_33 : decode cX0_draw 33 = .ok (.iload_n 1, 1) := by decide +kernel
theorem dX0_draw_34 : decode cX0_draw 34 = .ok (.irem, 1) := by decide +kernel
theorem dX0_draw_35 : decode cX0_draw 35 = .ok (.goto 4, 3) := by decide +kernel
theorem dX0_draw_38 : decode cX0_draw 38 = .ok (.iconst 0, 1) := by decide +kernel
theorem dX0_draw_39 : decode cX0_draw 39 = .ok (.ireturn, 1) := by decide +kernel
theorem dX1_init_0 : decode cX1_init 0 = .ok (.aload_n 0, 1) := by decide +kernel
theorem dX1_init_1 : decode cX1_init 1 = .ok (.invokespecial 3, 3) := by decide +kernel
theorem dX1_init_4 : decode cX1_init 4 = .ok (.aload_n 0, 1) := by decide +kernel
theorem dX1_init_5 : decode cX1_init 5 = .ok (.bipush 22, 2) := by decide +kernel
theorem dX1_init_7 : decode cX1_init 7 = .ok (.newarray .int, 2) := by decide +kernel
theorem dX1_init_9 : decode cX1_init 9 = .ok (.putfield 11, 3) := by decide +kernel
theorem dX1_init_12 : decode cX1_init 12 = .ok (.aload_n 0, 1) := by decide +kernel
theorem dX1_init_13 : decode cX1_init 13 = .ok (.bipush 22, 2) := by decide +kernel
theorem dX1_init_15 : decode cX1_init 15 = .ok (.newarray .int, 2) := by decide +kernel
theorem dX1_init_17 : decode cX1_init 17 = .ok (.putfield 15, 3) := by decide +kernel
theorem dX1_init_20 : decode cX1_init 20 = .ok (.aload_n 0, 1) := by decide +kernel
theorem dX1_init_21 : decode cX1_init 21 = .ok (.new 18, 3) := by decide +kernel
theorem dX1_init_24 : decode cX1_init 24 = .ok (.dup, 1) := by decide +kernel
theorem dX1_init_25 : decode cX1_init 25 = .ok (.invokespecial 20, 3) := by decide +kernel
theorem dX1_init_28 : decode cX1_init 28 = .ok (.putfield 21, 3) := by decide +kernel
theorem dX1_init_31 : decode cX1_init 31 = .ok (.return_, 1) := by decide +kernel
theorem dX1_howMany_0 : decode cX1_howMany 0 = .ok (.aload_n 0, 1) := by decide +kernel
theorem dX1_howMany_1 : decode cX1_howMany 1 = .ok (.getfield 11, 3) := by decide +kernel
theorem dX1_howMany_4 : decode cX1_howMany 4 = .ok (.iconst 0, 1) := by decide +kernel
theorem dX1_howMany_5 : decode cX1_howMany 5 = .ok (.invokestatic 25, 3) := by decide +kernel
theorem dX1_howMany_8 : decode cX1_howMany 8 = .ok (.aload_n 0, 1) := by decide +kernel
theorem dX1_howMany_9 : decode cX1_howMany 9 = .ok (.getfield 21, 3) := by decide +kernel
theorem dX1_howMany_12 : decode cX1_howMany 12 = .ok (.iconst (-1), 1) := by decide +kernel
theorem dX1_howMany_13 : decode cX1_howMany 13 = .ok (.invokevirtual 31, 3) := by decide +kernel
theorem dX1_howMany_16 : decode cX1_howMany 16 = .ok (.aload_n 0, 1) := by decide +kernel
theorem dX1_howMany_17 : decode cX1_howMany 17 = .ok (.getfield 21, 3) := by decide +kernel
theorem dX1_howMany_20 : decode cX1_howMany 20 = .ok (.invokestatic 35, 3) := by decide +kernel
theorem dX1_howMany_23 : decode cX1_howMany 23 = .ok (.istore 5, 2) := by decide +kernel
theorem dX1_howMany_25 : decode cX1_howMany 25 = .ok (.iload 5, 2) := by decide +kernel
theorem dX1_howMany_27 : decode cX1_howMany 27 = .ok (.ifCond .lt 18, 3) := by decide +kernel
theorem dX1_howMany_30 : decode cX1_howMany 30 = .ok (.iload 5, 2) := by decide +kernel
theorem dX1_howMany_32 : decode cX1_howMany 32 = .ok (.bipush 22, 2) := by decide +kernel
theorem dX1_howMany_34 : decode cX1_howMany 34 = .ok (.if_icmp .ge 11, 3) := by decide +kernel
theorem dX1_howMany_37 : decode cX1_howMany 37 = .ok (.aload_n 0, 1) := by decide +kernel
theorem dX1_howMany_38 : decode cX1_howMany 38 = .ok (.getfield 11, 3) := by decide +kernel
theorem dX1_howMany_41 : decode cX1_howMany 41 = .ok (.iload 5, 2) := by decide +kernel
theorem dX1_howMany_43 : decode cX1_howMany 43 = .ok (.iconst 1, 1) := by decide +kernel
theorem dX1_howMany_44 : decode cX1_howMany 44 = .ok (.iastore, 1) := by decide +kernel
theorem dX1_howMany_45 : decode cX1_howMany 45 = .ok (.iload_n 2, 1) := by decide +kernel
theorem dX1_howMany_46 : decode cX1_howMany 46 = .ok (.istore 6, 2) := by decide +kernel
theorem dX1_howMany_48 : decode cX1_howMany 48 = .ok (.iload 6, 2) := by decide +kernel
theorem dX1_howMany_50 : decode cX1_howMany 50 = .ok (.iload_n 3, 1) := by decide +kernel
theorem dX1_howMany_51 : decode cX1_howMany 51 = .ok (.if_icmp .ge 13, 3) := by decide +kernel
theorem dX1_howMany_54 : decode cX1_howMany 54 = .ok (.aload_n 0, 1) := by decide +kernel
theorem dX1_howMany_55 : decode cX1_howMany 55 = .ok (.invokevirtual 39, 3) := by decide +kernel
theorem dX1_howMany_58 : decode cX1_howMany 58 = .ok (.iinc 6 1, 3) := by decide +kernel
theorem dX1_howMany_61 : decode cX1_howMany 61 = .ok (.goto (-13), 3) := by decide +kernel
theorem dX1_howMany_64 : decode cX1_howMany 64 = .ok (.iconst 0, 1) := by decide +kernel
theorem dX1_howMany_65 : decode cX1_howMany 65 = .ok (.istore 6, 2) := by decide +kernel
theorem dX1_howMany_67 : decode cX1_howMany 67 = .ok (.iconst 0, 1) := by decide +kernel
theorem dX1_howMany_68 : decode cX1_howMany 68 = .ok (.istore 7, 2) := by decide +kernel
theorem dX1_howMany_70 : decode cX1_howMany 70 = .ok (.iload 7, 2) := by decide +kernel
theorem dX1_howMany_72 : decode cX1_howMany 72 = .ok (.bipush 22, 2) := by decide +kernel
theorem dX1_howMany_74 : decode cX1_howMany 74 = .ok (.if_icmp .ge 88, 3) := by decide +kernel
theorem dX1_howMany_77 : decode cX1_howMany 77 = .ok (.aload_n 0, 1) := by decide +kernel
theorem dX1_howMany_78 : decode cX1_howMany 78 = .ok (.getfield 11, 3) := by decide +kernel
theorem dX1_howMany_81 : decode cX1_howMany 81 = .ok (.iload 7, 2) := by decide +kernel
theorem dX1_howMany_83 : decode cX1_howMany 83 = .ok (.iaload, 1) := by decide +kernel
theorem dX1_howMany_84 : decode cX1_howMany 84 = .ok (.ifCond .ne 6, 3) := by decide +kernel
theorem dX1_howMany_87 : decode cX1_howMany 87 = .ok (.goto 69, 3) := by decide +kernel
theorem dX1_howMany_90 : decode cX1_howMany 90 = .ok (.aload_n 0, 1) := by decide +kernel
theorem dX1_howMany_91 : decode cX1_howMany 91 = .ok (.iload 7, 2) := by decide +kernel
theorem dX1_howMany_93 : decode cX1_howMany 93 = .ok (.invokevirtual 42, 3) := by decide +kernel
theorem dX1_howMany_96 : decode cX1_howMany 96 = .ok (.aload_n 1, 1) := by decide +kernel
theorem dX1_howMany_97 : decode cX1_howMany 97 = .ok (.getfield 45, 3) := by decide +kernel
theorem dX1_howMany_100 : decode cX1_howMany 100 = .ok (.iload_n 2, 1) := by decide +kernel
theorem dX1_howMany_101 : decode cX1_howMany 101 = .ok (.isub, 1) := by decide +kernel
theorem dX1_howMany_102 : decode cX1_howMany 102 = .ok (.istore 8, 2) := by decide +kernel
theorem dX1_howMany_104 : decode cX1_howMany 104 = .ok (.iload 8, 2) := by decide +kernel
theorem dX1_howMany_106 : decode cX1_howMany 106 = .ok (.aload_n 1, 1) := by decide +kernel
theorem dX1_howMany_107 : decode cX1_howMany 107 = .ok (.getfield 45, 3) := by decide +kernel
theorem dX1_howMany_110 : decode cX1_howMany 110 = .ok (.if_icmp .ge 22, 3) := by decide +kernel
theorem dX1_howMany_113 : decode cX1_howMany 113 = .ok (.aload_n 0, 1) := by decide +kernel
theorem dX1_howMany_114 : decode cX1_howMany 114 = .ok (.getfield 21, 3) := by decide +kernel
theorem dX1_howMany_117 : decode cX1_howMany 117 = .ok (.aload_n 1, 1) := by decide +kernel
theorem dX1_howMany_118 : decode cX1_howMany 118 = .ok (.iload 8, 2) := by decide +kernel
theorem dX1_howMany_120 : decode cX1_howMany 120 = .ok (.invokevirtual 51, 3) := by decide +kernel
theorem dX1_howMany_123 : decode cX1_howMany 123 = .ok (.invokevirtual 55, 3) := by decide +kernel
theorem dX1_howMany_126 : decode cX1_howMany 126 = .ok (.iinc 8 1, 3) := by decide +kernel
theorem dX1_howMany_129 : decode cX1_howMany 129 = .ok (.goto (-25), 3) := by decide +kernel
theorem dX1_howMany_132 : decode cX1_howMany 132 = .ok (.aload_n 0, 1) := by decide +kernel
theorem dX1_howMany_133 : decode cX1_howMany 133 = .ok (.getfield 21, 3) := by decide +kernel
theorem dX1_howMany_136 : decode cX1_howMany 136 = .ok (.getfield 58, 3) := by decide +kernel
theorem dX1_howMany_139 : decode cX1_howMany 139 = .ok (.iload 4, 2) := by decide +kernel
theorem dX1_howMany_141 : decode cX1_howMany 141 = .ok (.if_icmp .ne 15, 3) := by decide +kernel
theorem dX1_howMany_144 : decode cX1_howMany 144 = .ok (.iload 6, 2) := by decide +kernel
theorem dX1_howMany_146 : decode cX1_howMany 146 = .ok (.aload_n 0, 1) := by decide +kernel
theorem dX1_howMany_147 : decode cX1_howMany 147 = .ok (.getfield 11, 3) := by decide +kernel
theorem dX1_howMany_150 : decode cX1_howMany 150 = .ok (.iload 7, 2) := by decide +kernel
theorem dX1_howMany_152 : decode cX1_howMany 152 = .ok (.iaload, 1) := by decide +kernel
theorem dX1_howMany_153 : decode cX1_howMany 153 = .ok (.iadd, 1) := by decide +kernel
theorem dX1_howMany_154 : decode cX1_howMany 154 = .ok (.istore 6, 2) := by decide +kernel
theorem dX1_howMany_156 : decode cX1_howMany 156 = .ok (.iinc 7 1, 3) := by decide +kernel
theorem dX1_howMany_159 : decode cX1_howMany 159 = .ok (.goto (-89), 3) := by decide +kernel
theorem dX1_howMany_162 : decode cX1_howMany 162 = .ok (.iload 6, 2) := by decide +kernel
theorem dX1_howMany_164 : decode cX1_howMany 164 = .ok (.ireturn, 1) := by decide +kernel
theorem dX1_readUnknownWord_0 : decode cX1_readUnknownWord 0 = .ok (.aload_n 0, 1) := by decide +kernel
theorem dX1_readUnknownWord_1 : decode cX1_readUnknownWord 1 = .ok (.getfield 15, 3) := by decide +kernel
theorem dX1_readUnknownWord_4 : decode cX1_readUnknownWord 4 = .ok (.iconst 0, 1) := by decide +kernel
theorem dX1_readUnknownWord_5 : decode cX1_readUnknownWord 5 = .ok (.invokestatic 25, 3) := by decide +kernel
theorem dX1_readUnknownWord_8 : decode cX1_readUnknownWord 8 = .ok (.iconst 0, 1) := by decide +kernel
theorem dX1_readUnknownWord_9 : decode cX1_readUnknownWord 9 = .ok (.istore_n 1, 1) := by decide +kernel
theorem dX1_readUnknownWord_10 : decode cX1_readUnknownWord 10 = .ok (.iload_n 1, 1) := by decide +kernel
theorem dX1_readUnknownWord_11 : decode cX1_readUnknownWord 11 = .ok (.bipush 22, 2) := by decide +kernel
theorem dX1_readUnknownWord_13 : decode cX1_readUnknownWord 13 = .ok (.if_icmp .ge 81, 3) := by decide +kernel
theorem dX1_readUnknownWord_16 : decode cX1_readUnknownWord 16 = .ok (.aload_n 0, 1) := by decide +kernel
theorem dX1_readUnknownWord_17 : decode cX1_readUnknownWord 17 = .ok (.getfield 11, 3) := by decide +kernel
theorem dX1_readUnknownWord_20 : decode cX1_readUnknownWord 20 = .ok (.iload_n 1, 1) := by decide +kernel
theorem dX1_readUnknownWord_21 : decode cX1_readUnknownWord 21 = .ok (.iaload, 1) := by decide +kernel
theorem dX1_readUnknownWord_22 : decode cX1_readUnknownWord 22 = .ok (.ifCond .ne 6, 3) := by decide +kernel
theorem dX1_readUnknownWord_25 : decode cX1_readUnknownWord 25 = .ok (.goto 63, 3) := by decide +kernel
theorem dX1_readUnknownWord_28 : decode cX1_readUnknownWord 28 = .ok (.iconst 0, 1) := by decide +kernel
theorem dX1_readUnknownWord_29 : decode cX1_readUnknownWord 29 = .ok (.istore_n 2, 1) := by decide +kernel
theorem dX1_readUnknownWord_30 : decode cX1_readUnknownWord 30 = .ok (.iload_n 2, 1) := by decide +kernel
theorem dX1_readUnknownWord_31 : decode cX1_readUnknownWord 31 = .ok (.bipush 6, 2) := by decide +kernel
theorem dX1_readUnknownWord_33 : decode cX1_readUnknownWord 33 = .ok (.if_icmp .ge 55, 3) := by decide +kernel
theorem dX1_readUnknownWord_36 : decode cX1_readUnknownWord 36 = .ok (.aload_n 0, 1) := by decide +kernel
theorem dX1_readUnknownWord_37 : decode cX1_readUnknownWord 37 = .ok (.iload_n 1, 1) := by decide +kernel
theorem dX1_readUnknownWord_38 : decode cX1_readUnknownWord 38 = .ok (.invokevirtual 42, 3) := by decide +kernel
theorem dX1_readUnknownWord_41 : decode cX1_readUnknownWord 41 = .ok (.aload_n 0, 1) := by decide +kernel
theorem dX1_readUnknownWord_42 : decode cX1_readUnknownWord 42 = .ok (.getfield 21, 3) := by decide +kernel
theorem dX1_readUnknownWord_45 : decode cX1_readUnknownWord 45 = .ok (.iload_n 2, 1) := by decide +kernel
theorem dX1_readUnknownWord_46 : decode cX1_readUnknownWord 46 = .ok (.invokevirtual 55, 3) := by decide +kernel
theorem dX1_readUnknownWord_49 : decode cX1_readUnknownWord 49 = .ok (.aload_n 0, 1) := by decide +kernel
theorem dX1_readUnknownWord_50 : decode cX1_readUnknownWord 50 = .ok (.getfield 21, 3) := by decide +kernel
theorem dX1_readUnknownWord_53 : decode cX1_readUnknownWord 53 = .ok (.invokestatic 35, 3) := by decide +kernel
theorem dX1_readUnknownWord_56 : decode cX1_readUnknownWord 56 = .ok (.istore_n 3, 1) := by decide +kernel
theorem dX1_readUnknownWord_57 : decode cX1_readUnknownWord 57 = .ok (.iload_n 3, 1) := by decide +kernel
theorem dX1_readUnknownWord_58 : decode cX1_readUnknownWord 58 = .ok (.ifCond .lt 24, 3) := by decide +kernel
theorem dX1_readUnknownWord_61 : decode cX1_readUnknownWord 61 = .ok (.iload_n 3, 1) := by decide +kernel
theorem dX1_readUnknownWord_62 : decode cX1_readUnknownWord 62 = .ok (.bipush 22, 2) := by decide +kernel
theorem dX1_readUnknownWord_64 : decode cX1_readUnknownWord 64 = .ok (.if_icmp .ge 18, 3) := by decide +kernel
theorem dX1_readUnknownWord_67 : decode cX1_readUnknownWord 67 = .ok (.aload_n 0, 1) := by decide +kernel
theorem dX1_readUnknownWord_68 : decode cX1_readUnknownWord 68 = .ok (.getfield 15, 3) := by decide +kernel
theorem dX1_readUnknownWord_71 : decode cX1_readUnknownWord 71 = .ok (.iload_n 3, 1) := by decide +kernel
theorem dX1_readUnknownWord_72 : decode cX1_readUnknownWord 72 = .ok (.dup2, 1) := by decide +kernel
theorem dX1_readUnknownWord_73 : decode cX1_readUnknownWord 73 = .ok (.iaload, 1) := by decide +kernel
theorem dX1_readUnknownWord_74 : decode cX1_readUnknownWord 74 = .ok (.aload_n 0, 1) := by decide +kernel
theorem dX1_readUnknownWord_75 : decode cX1_readUnknownWord 75 = .ok (.getfield 11, 3) := by decide +kernel
theorem dX1_readUnknownWord_78 : decode cX1_readUnknownWord 78 = .ok (.iload_n 1, 1) := by decide +kernel
theorem dX1_readUnknownWord_79 : decode cX1_readUnknownWord 79 = .ok (.iaload, 1) := by decide +kernel
theorem dX1_readUnknownWord_80 : decode cX1_readUnknownWord 80 = .ok (.iadd, 1) := by decide +kernel
theorem dX1_readUnknownWord_81 : decode cX1_readUnknownWord 81 = .ok (.iastore, 1) := by decide +kernel
theorem dX1_readUnknownWord_82 : decode cX1_readUnknownWord 82 = .ok (.iinc 2 1, 3) := by decide +kernel
theorem dX1_readUnknownWord_85 : decode cX1_readUnknownWord 85 = .ok (.goto (-55), 3) := by decide +kernel
theorem dX1_readUnknownWord_88 : decode cX1_readUnknownWord 88 = .ok (.iinc 1 1, 3) := by decide +kernel
theorem dX1_readUnknownWord_91 : decode cX1_readUnknownWord 91 = .ok (.goto (-81), 3) := by decide +kernel
theorem dX1_readUnknownWord_94 : decode cX1_readUnknownWord 94 = .ok (.aload_n 0, 1) := by decide +kernel
theorem dX1_readUnknownWord_95 : decode cX1_readUnknownWord 95 = .ok (.getfield 15, 3) := by decide +kernel
theorem dX1_readUnknownWord_98 : decode cX1_readUnknownWord 98 = .ok (.iconst 0, 1) := by decide +kernel
theorem dX1_readUnknownWord_99 : decode cX1_readUnknownWord 99 = .ok (.aload_n 0, 1) := by decide +kernel
theorem dX1_readUnknownWord_100 : decode cX1_readUnknownWord 100 = .ok (.getfield 11, 3) := by decide +kernel
theorem dX1_readUnknownWord_103 : decode cX1_readUnknownWord 103 = .ok (.iconst 0, 1) := by decide +kernel
theorem dX1_readUnknownWord_104 : decode cX1_readUnknownWord 104 = .ok (.bipush 22, 2) := by decide +kernel
theorem dX1_readUnknownWord_106 : decode cX1_readUnknownWord 106 = .ok (.invokestatic 61, 3) := by decide +kernel
theorem dX1_readUnknownWord_109 : decode cX1_readUnknownWord 109 = .ok (.return_, 1) := by decide +kernel
theorem dX1_beginAt_0 : decode cX1_beginAt 0 = .ok (.aload_n 0, 1) := by decide +kernel
theorem dX1_beginAt_1 : decode cX1_beginAt 1 = .ok (.getfield 21, 3) := by decide +kernel
theorem dX1_beginAt_4 : decode cX1_beginAt 4 = .ok (.iconst (-1), 1) := by decide +kernel
theorem dX1_beginAt_5 : decode cX1_beginAt 5 = .ok (.invokevirtual 31, 3) := by decide +kernel
theorem dX1_beginAt_8 : decode cX1_beginAt 8 = .ok (.aload_n 0, 1) := by decide +kernel
theorem dX1_beginAt_9 : decode cX1_beginAt 9 = .ok (.getfield 21, 3) := by decide +kernel
theorem dX1_beginAt_12 : decode cX1_beginAt 12 = .ok (.iload_n 1, 1) := by decide +kernel
theorem dX1_beginAt_13 : decode cX1_beginAt 13 = .ok (.iconst 2, 1) := by decide +kernel
theorem dX1_beginAt_14 : decode cX1_beginAt 14 = .ok (.idiv, 1) := by decide +kernel
theorem dX1_beginAt_15 : decode cX1_beginAt 15 = .ok (.iconst 5, 1) := by decide +kernel
theorem dX1_beginAt_16 : decode cX1_beginAt 16 = .ok (.isub, 1) := by decide +kernel
theorem dX1_beginAt_17 : decode cX1_beginAt 17 = .ok (.putfield 58, 3) := by decide +kernel
theorem dX1_beginAt_20 : decode cX1_beginAt 20 = .ok (.aload_n 0, 1) := by decide +kernel
theorem dX1_beginAt_21 : decode cX1_beginAt 21 = .ok (.getfield 21, 3) := by decide +kernel
theorem dX1_beginAt_24 : decode cX1_beginAt 24 = .ok (.iload_n 1, 1) := by decide +kernel
theorem dX1_beginAt_25 : decode cX1_beginAt 25 = .ok (.iconst 2, 1) := by decide +kernel
theorem dX1_beginAt_26 : decode cX1_beginAt 26 = .ok (.irem, 1) := by decide +kernel
theorem dX1_beginAt_27 : decode cX1_beginAt 27 = .ok (.iconst 1, 1) := by decide +kernel
theorem dX1_beginAt_28 : decode cX1_beginAt 28 = .ok (.if_icmp .ne 7, 3) := by decide +kernel
theorem dX1_beginAt_31 : decode cX1_beginAt 31 = .ok (.iconst 1, 1) := by decide +kernel
theorem dX1_beginAt_32 : decode cX1_beginAt 32 = .ok (.goto 4, 3) := by decide +kernel
theorem dX1_beginAt_35 : decode cX1_beginAt 35 = .ok (.iconst 0, 1) := by decide +kernel
theorem dX1_beginAt_36 : decode cX1_beginAt 36 = .ok (.putfield 67, 3) := by decide +kernel
theorem dX1_beginAt_39 : decode cX1_beginAt 39 = .ok (.return_, 1) := by decide +kernel
theorem dX1_stateOf_0 : decode cX1_stateOf 0 = .ok (.iconst 2, 1) := by decide +kernel
theorem dX1_stateOf_1 : decode cX1_stateOf 1 = .ok (.aload_n 0, 1) := by decide +kernel
theorem dX1_stateOf_2 : decode cX1_stateOf 2 = .ok (.getfield 58, 3) := by decide +kernel
theorem dX1_stateOf_5 : decode cX1_stateOf 5 = .ok (.iconst 5, 1) := by decide +kernel
theorem dX1_stateOf_6 : decode cX1_stateOf 6 = .ok (.iadd, 1) := by decide +kernel
theorem dX1_stateOf_7 : decode cX1_stateOf 7 = .ok (.imul, 1) := by decide +kernel
theorem dX1_stateOf_8 : decode cX1_stateOf 8 = .ok (.aload_n 0, 1) := by decide +kernel
theorem dX1_stateOf_9 : decode cX1_stateOf 9 = .ok (.getfield 67, 3) := by decide +kernel
theorem dX1_stateOf_12 : decode cX1_stateOf 12 = .ok (.ifCond .eq 7, 3) := by decide +kernel
theorem dX1_stateOf_15 : decode cX1_stateOf 15 = .ok (.iconst 1, 1) := by decide +kernel
theorem dX1_stateOf_16 : decode cX1_stateOf 16 = .ok (.goto 4, 3) := by decide +kernel
theorem dX1_stateOf_19 : decode cX1_stateOf 19 = .ok (.iconst 0, 1) := by decide +kernel
theorem dX1_stateOf_20 : decode cX1_stateOf 20 = .ok (.iadd, 1) := by decide +kernel
theorem dX1_stateOf_21 : decode cX1_stateOf 21 = .ok (.ireturn, 1) := by decide +kernel
theorem dX2_init_0 : decode cX2_init 0 = .ok (.aload_n 0, 1) := by decide +kernel
theorem dX2_init_1 : decode cX2_init 1 = .ok (.invokespecial 1, 3) := by decide +kernel
theorem dX2_init_4 : decode cX2_init 4 = .ok (.aload_n 0, 1) := by decide +kernel
theorem dX2_init_5 : decode cX2_init 5 = .ok (.new 7, 3) := by decide +kernel
theorem dX2_init_8 : decode cX2_init 8 = .ok (.dup, 1) := by decide +kernel
theorem dX2_init_9 : decode cX2_init 9 = .ok (.invokespecial 9, 3) := by decide +kernel
theorem dX2_init_12 : decode cX2_init 12 = .ok (.putfield 10, 3) := by decide +kernel
theorem dX2_init_15 : decode cX2_init 15 = .ok (.aload_n 0, 1) := by decide +kernel
theorem dX2_init_16 : decode cX2_init 16 = .ok (.new 16, 3) := by decide +kernel
theorem dX2_init_19 : decode cX2_init 19 = .ok (.dup, 1) := by decide +kernel
theorem dX2_init_20 : decode cX2_init 20 = .ok (.invokespecial 18, 3) := by decide +kernel
theorem dX2_init_23 : decode cX2_init 23 = .ok (.putfield 19, 3) := by decide +kernel
theorem dX2_init_26 : decode cX2_init 26 = .ok (.return_, 1) := by decide +kernel
theorem dX3_init_0 : decode cX3_init 0 = .ok (.aload_n 0, 1) := by decide +kernel
theorem dX3_init_1 : decode cX3_init 1 = .ok (.invokespecial 3, 3) := by decide +kernel
theorem dX3_init_4 : decode cX3_init 4 = .ok (.aload_n 0, 1) := by decide +kernel
theorem dX3_init_5 : decode cX3_init 5 = .ok (.bipush 9, 2) := by decide +kernel
theorem dX3_init_7 : decode cX3_init 7 = .ok (.newarray .int, 2) := by decide +kernel
theorem dX3_init_9 : decode cX3_init 9 = .ok (.putfield 9, 3) := by decide +kernel
theorem dX3_init_12 : decode cX3_init 12 = .ok (.return_, 1) := by decide +kernel
theorem dX3_has_0 : decode cX3_has 0 = .ok (.iload_n 1, 1) := by decide +kernel
theorem dX3_has_1 : decode cX3_has 1 = .ok (.ifCond .lt 24, 3) := by decide +kernel
theorem dX3_has_4 : decode cX3_has 4 = .ok (.iload_n 1, 1) := by decide +kernel
theorem dX3_has_5 : decode cX3_has 5 = .ok (.aload_n 0, 1) := by decide +kernel
theorem dX3_has_6 : decode cX3_has 6 = .ok (.getfield 15, 3) := by decide +kernel
theorem dX3_has_9 : decode cX3_has 9 = .ok (.if_icmp .ge 16, 3) := by decide +kernel
theorem dX3_has_12 : decode cX3_has 12 = .ok (.iload_n 1, 1) := by decide +kernel
theorem dX3_has_13 : decode cX3_has 13 = .ok (.aload_n 0, 1) := by decide +kernel
theorem dX3_has_14 : decode cX3_has 14 = .ok (.getfield 9, 3) := by decide +kernel
theorem dX3_has_17 : decode cX3_has 17 = .ok (.arraylength, 1) := by decide +kernel
theorem dX3_has_18 : decode cX3_has 18 = .ok (.if_icmp .ge 7, 3) := by decide +kernel
theorem dX3_has_21 : decode cX3_has 21 = .ok (.iconst 1, 1) := by decide +kernel
theorem dX3_has_22 : decode cX3_has 22 = .ok (.goto 4, 3) := by decide +kernel
theorem dX3_has_25 : decode cX3_has 25 = .ok (.iconst 0, 1) := by decide +kernel
theorem dX3_has_26 : decode cX3_has 26 = .ok (.ireturn, 1) := by decide +kernel
theorem dX3_wordAt_0 : decode cX3_wordAt 0 = .ok (.iload_n 1, 1) := by decide +kernel
theorem dX3_wordAt_1 : decode cX3_wordAt 1 = .ok (.ifCond .lt 29, 3) := by decide +kernel
theorem dX3_wordAt_4 : decode cX3_wordAt 4 = .ok (.iload_n 1, 1) := by decide +kernel
theorem dX3_wordAt_5 : decode cX3_wordAt 5 = .ok (.aload_n 0, 1) := by decide +kernel
theorem dX3_wordAt_6 : decode cX3_wordAt 6 = .ok (.getfield 15, 3) := by decide +kernel
theorem dX3_wordAt_9 : decode cX3_wordAt 9 = .ok (.if_icmp .ge 21, 3) := by decide +kernel
theorem dX3_wordAt_12 : decode cX3_wordAt 12 = .ok (.iload_n 1, 1) := by decide +kernel
theorem dX3_wordAt_13 : decode cX3_wordAt 13 = .ok (.aload_n 0, 1) := by decide +kernel
theorem dX3_wordAt_14 : decode cX3_wordAt 14 = .ok (.getfield 9, 3) := by decide +kernel
theorem dX3_wordAt_17 : decode cX3_wordAt 17 = .ok (.arraylength, 1) := by decide +kernel
theorem dX3_wordAt_18 : decode cX3_wordAt 18 = .ok (.if_icmp .ge 12, 3) := by decide +kernel
theorem dX3_wordAt_21 : decode cX3_wordAt 21 = .ok (.aload_n 0, 1) := by decide +kernel
theorem dX3_wordAt_22 : decode cX3_wordAt 22 = .ok (.getfield 9, 3) := by decide +kernel
theorem dX3_wordAt_25 : decode cX3_wordAt 25 = .ok (.iload_n 1, 1) := by decide +kernel
theorem dX3_wordAt_26 : decode cX3_wordAt 26 = .ok (.iaload, 1) := by decide +kernel
theorem dX3_wordAt_27 : decode cX3_wordAt 27 = .ok (.goto 4, 3) := by decide +kernel
theorem dX3_wordAt_30 : decode cX3_wordAt 30 = .ok (.iconst (-1), 1) := by decide +kernel
theorem dX3_wordAt_31 : decode cX3_wordAt 31 = .ok (.ireturn, 1) := by decide +kernel
theorem dX3_put_0 : decode cX3_put 0 = .ok (.aload_n 0, 1) := by decide +kernel
theorem dX3_put_1 : decode cX3_put 1 = .ok (.iload_n 1, 1) := by decide +kernel
theorem dX3_put_2 : decode cX3_put 2 = .ok (.invokevirtual 19, 3) := by decide +kernel
theorem dX3_put_5 : decode cX3_put 5 = .ok (.ifCond .eq 10, 3) := by decide +kernel
theorem dX3_put_8 : decode cX3_put 8 = .ok (.aload_n 0, 1) := by decide +kernel
theorem dX3_put_9 : decode cX3_put 9 = .ok (.getfield 9, 3) := by decide +kernel
theorem dX3_put_12 : decode cX3_put 12 = .ok (.iload_n 1, 1) := by decide +kernel
theorem dX3_put_13 : decode cX3_put 13 = .ok (.iload_n 2, 1) := by decide +kernel
theorem dX3_put_14 : decode cX3_put 14 = .ok (.iastore, 1) := by decide +kernel
theorem dX3_put_15 : decode cX3_put 15 = .ok (.return_, 1) := by decide +kernel
theorem dX3_add_0 : decode cX3_add 0 = .ok (.aload_n 0, 1) := by decide +kernel
theorem dX3_add_1 : decode cX3_add 1 = .ok (.getfield 15, 3) := by decide +kernel
theorem dX3_add_4 : decode cX3_add 4 = .ok (.ifCond .lt 15, 3) := by decide +kernel
theorem dX3_add_7 : decode cX3_add 7 = .ok (.aload_n 0, 1) := by decide +kernel
theorem dX3_add_8 : decode cX3_add 8 = .ok (.getfield 15, 3) := by decide +kernel
theorem dX3_add_11 : decode cX3_add 11 = .ok (.aload_n 0, 1) := by decide +kernel
theorem dX3_add_12 : decode cX3_add 12 = .ok (.getfield 9, 3) := by decide +kernel
theorem dX3_add_15 : decode cX3_add 15 = .ok (.arraylength, 1) := by decide +kernel
theorem dX3_add_16 : decode cX3_add 16 = .ok (.if_icmp .lt 4, 3) := by decide +kernel
theorem dX3_add_19 : decode cX3_add 19 = .ok (.return_, 1) := by decide +kernel
theorem dX3_add_20 : decode cX3_add 20 = .ok (.aload_n 0, 1) := by decide +kernel
theorem dX3_add_21 : decode cX3_add 21 = .ok (.getfield 9, 3) := by decide +kernel
theorem dX3_add_24 : decode cX3_add 24 = .ok (.aload_n 0, 1) := by decide +kernel
theorem dX3_add_25 : decode cX3_add 25 = .ok (.getfield 15, 3) := by decide +kernel
theorem dX3_add_28 : decode cX3_add 28 = .ok (.iload_n 1, 1) := by decide +kernel
theorem dX3_add_29 : decode cX3_add 29 = .ok (.iastore, 1) := by decide +kernel
theorem dX3_add_30 : decode cX3_add 30 = .ok (.aload_n 0, 1) := by decide +kernel
theorem dX3_add_31 : decode cX3_add 31 = .ok (.dup, 1) := by decide +kernel
theorem dX3_add_32 : decode cX3_add 32 = .ok (.getfield 15, 3) := by decide +kernel
theorem dX3_add_35 : decode cX3_add 35 = .ok (.iconst 1, 1) := by decide +kernel
theorem dX3_add_36 : decode cX3_add 36 = .ok (.iadd, 1) := by decide +kernel
theorem dX3_add_37 : decode cX3_add 37 = .ok (.putfield 15, 3) := by decide +kernel
theorem dX3_add_40 : decode cX3_add 40 = .ok (.return_, 1) := by decide +kernel
theorem dX3_clear_0 : decode cX3_clear 0 = .ok (.aload_n 0, 1) := by decide +kernel
theorem dX3_clear_1 : decode cX3_clear 1 = .ok (.iconst 0, 1) := by decide +kernel
theorem dX3_clear_2 : decode cX3_clear 2 = .ok (.putfield 15, 3) := by decide +kernel
theorem dX3_clear_5 : decode cX3_clear 5 = .ok (.aload_n 0, 1) := by decide +kernel
theorem dX3_clear_6 : decode cX3_clear 6 = .ok (.iconst 0, 1) := by decide +kernel
theorem dX3_clear_7 : decode cX3_clear 7 = .ok (.putfield 23, 3) := by decide +kernel
theorem dX3_clear_10 : decode cX3_clear 10 = .ok (.return_, 1) := by decide +kernel
theorem dX3_copy_0 : decode cX3_copy 0 = .ok (.aload_n 0, 1) := by decide +kernel
theorem dX3_copy_1 : decode cX3_copy 1 = .ok (.invokevirtual 26, 3) := by decide +kernel
theorem dX3_copy_4 : decode cX3_copy 4 = .ok (.iconst 0, 1) := by decide +kernel
theorem dX3_copy_5 : decode cX3_copy 5 = .ok (.istore_n 2, 1) := by decide +kernel
theorem dX3_copy_6 : decode cX3_copy 6 = .ok (.iload_n 2, 1) := by decide +kernel
theorem dX3_copy_7 : decode cX3_copy 7 = .ok (.aload_n 1, 1) := by decide +kernel
theorem dX3_copy_8 : decode cX3_copy 8 = .ok (.getfield 15, 3) := by decide +kernel
theorem dX3_copy_11 : decode cX3_copy 11 = .ok (.if_icmp .ge 18, 3) := by decide +kernel
theorem dX3_copy_14 : decode cX3_copy 14 = .ok (.aload_n 0, 1) := by decide +kernel
theorem dX3_copy_15 : decode cX3_copy 15 = .ok (.aload_n 1, 1) := by decide +kernel
theorem dX3_copy_16 : decode cX3_copy 16 = .ok (.iload_n 2, 1) := by decide +kernel
theorem dX3_copy_17 : decode cX3_copy 17 = .ok (.invokevirtual 29, 3) := by decide +kernel
theorem dX3_copy_20 : decode cX3_copy 20 = .ok (.invokevirtual 33, 3) := by decide +kernel
theorem dX3_copy_23 : decode cX3_copy 23 = .ok (.iinc 2 1, 3) := by decide +kernel
theorem dX3_copy_26 : decode cX3_copy 26 = .ok (.goto (-20), 3) := by decide +kernel
theorem dX3_copy_29 : decode cX3_copy 29 = .ok (.aload_n 0, 1) := by decide +kernel
theorem dX3_copy_30 : decode cX3_copy 30 = .ok (.aload_n 1, 1) := by decide +kernel
theorem dX3_copy_31 : decode cX3_copy 31 = .ok (.getfield 23, 3) := by decide +kernel
theorem dX3_copy_34 : decode cX3_copy 34 = .ok (.putfield 23, 3) := by decide +kernel
theorem dX3_copy_37 : decode cX3_copy 37 = .ok (.return_, 1) := by decide +kernel
theorem dX4_init_0 : decode cX4_init 0 = .ok (.aload_n 0, 1) := by decide +kernel
theorem dX4_init_1 : decode cX4_init 1 = .ok (.invokespecial 3, 3) := by decide +kernel
theorem dX4_init_4 : decode cX4_init 4 = .ok (.aload_n 0, 1) := by decide +kernel
theorem dX4_init_5 : decode cX4_init 5 = .ok (.iconst 4, 1) := by decide +kernel
theorem dX4_init_6 : decode cX4_init 6 = .ok (.newarray .int, 2) := by decide +kernel
theorem dX4_init_8 : decode cX4_init 8 = .ok (.putfield 9, 3) := by decide +kernel
theorem dX4_init_11 : decode cX4_init 11 = .ok (.return_, 1) := by decide +kernel
theorem dX4_has_0 : decode cX4_has 0 = .ok (.iload_n 1, 1) := by decide +kernel
theorem dX4_has_1 : decode cX4_has 1 = .ok (.ifCond .lt 24, 3) := by decide +kernel
theorem dX4_has_4 : decode cX4_has 4 = .ok (.iload_n 1, 1) := by decide +kernel
theorem dX4_has_5 : decode cX4_has 5 = .ok (.aload_n 0, 1) := by decide +kernel
theorem dX4_has_6 : decode cX4_has 6 = .ok (.getfield 15, 3) := by decide +kernel
theorem dX4_has_9 : decode cX4_has 9 = .ok (.if_icmp .ge 16, 3) := by decide +kernel
theorem dX4_has_12 : decode cX4_has 12 = .ok (.iload_n 1, 1) := by decide +kernel
theorem dX4_has_13 : decode cX4_has 13 = .ok (.aload_n 0, 1) := by decide +kernel
theorem dX4_has_14 : decode cX4_has 14 = .ok (.getfield 9, 3) := by decide +kernel
theorem dX4_has_17 : decode cX4_has 17 = .ok (.arraylength, 1) := by decide +kernel
theorem dX4_has_18 : decode cX4_has 18 = .ok (.if_icmp .ge 7, 3) := by decide +kernel
theorem dX4_has_21 : decode cX4_has 21 = .ok (.iconst 1, 1) := by decide +kernel
theorem dX4_has_22 : decode cX4_has 22 = .ok (.goto 4, 3) := by decide +kernel
theorem dX4_has_25 : decode cX4_has 25 = .ok (.iconst 0, 1) := by decide +kernel
theorem dX4_has_26 : decode cX4_has 26 = .ok (.ireturn, 1) := by decide +kernel
theorem dX4_kindOf_0 : decode cX4_kindOf 0 = .ok (.aload_n 0, 1) := by decide +kernel
theorem dX4_kindOf_1 : decode cX4_kindOf 1 = .ok (.iload_n 1, 1) := by decide +kernel
theorem dX4_kindOf_2 : decode cX4_kindOf 2 = .ok (.invokevirtual 19, 3) := by decide +kernel
theorem dX4_kindOf_5 : decode cX4_kindOf 5 = .ok (.ifCond .eq 12, 3) := by decide +kernel
theorem dX4_kindOf_8 : decode cX4_kindOf 8 = .ok (.aload_n 0, 1) := by decide +kernel
theorem dX4_kindOf_9 : decode cX4_kindOf 9 = .ok (.getfield 9, 3) := by decide +kernel
theorem dX4_kindOf_12 : decode cX4_kindOf 12 = .ok (.iload_n 1, 1) := by decide +kernel
theorem dX4_kindOf_13 : decode cX4_kindOf 13 = .ok (.iaload, 1) := by decide +kernel
theorem dX4_kindOf_14 : decode cX4_kindOf 14 = .ok (.goto 4, 3) := by decide +kernel
theorem dX4_kindOf_17 : decode cX4_kindOf 17 = .ok (.iconst 0, 1) := by decide +kernel
theorem dX4_kindOf_18 : decode cX4_kindOf 18 = .ok (.ireturn, 1) := by decide +kernel
theorem dX4_add_0 : decode cX4_add 0 = .ok (.aload_n 0, 1) := by decide +kernel
theorem dX4_add_1 : decode cX4_add 1 = .ok (.getfield 15, 3) := by decide +kernel
theorem dX4_add_4 : decode cX4_add 4 = .ok (.ifCond .lt 15, 3) := by decide +kernel
theorem dX4_add_7 : decode cX4_add 7 = .ok (.aload_n 0, 1) := by decide +kernel
theorem dX4_add_8 : decode cX4_add 8 = .ok (.getfield 15, 3) := by decide +kernel
theorem dX4_add_11 : decode cX4_add 11 = .ok (.aload_n 0, 1) := by decide +kernel
theorem dX4_add_12 : decode cX4_add 12 = .ok (.getfield 9, 3) := by decide +kernel
theorem dX4_add_15 : decode cX4_add 15 = .ok (.arraylength, 1) := by decide +kernel
theorem dX4_add_16 : decode cX4_add 16 = .ok (.if_icmp .lt 4, 3) := by decide +kernel
theorem dX4_add_19 : decode cX4_add 19 = .ok (.return_, 1) := by decide +kernel
theorem dX4_add_20 : decode cX4_add 20 = .ok (.aload_n 0, 1) := by decide +kernel
theorem dX4_add_21 : decode cX4_add 21 = .ok (.getfield 9, 3) := by decide +kernel
theorem dX4_add_24 : decode cX4_add 24 = .ok (.aload_n 0, 1) := by decide +kernel
theorem dX4_add_25 : decode cX4_add 25 = .ok (.getfield 15, 3) := by decide +kernel
theorem dX4_add_28 : decode cX4_add 28 = .ok (.iload_n 1, 1) := by decide +kernel
theorem dX4_add_29 : decode cX4_add 29 = .ok (.iastore, 1) := by decide +kernel
theorem dX4_add_30 : decode cX4_add 30 = .ok (.aload_n 0, 1) := by decide +kernel
theorem dX4_add_31 : decode cX4_add 31 = .ok (.dup, 1) := by decide +kernel
theorem dX4_add_32 : decode cX4_add 32 = .ok (.getfield 15, 3) := by decide +kernel
theorem dX4_add_35 : decode cX4_add 35 = .ok (.iconst 1, 1) := by decide +kernel
theorem dX4_add_36 : decode cX4_add 36 = .ok (.iadd, 1) := by decide +kernel
theorem dX4_add_37 : decode cX4_add 37 = .ok (.putfield 15, 3) := by decide +kernel
theorem dX4_add_40 : decode cX4_add 40 = .ok (.return_, 1) := by decide +kernel
theorem dX5_init_0 : decode cX5_init 0 = .ok (.aload_n 0, 1) := by decide +kernel
theorem dX5_init_1 : decode cX5_init 1 = .ok (.invokespecial 3, 3) := by decide +kernel
theorem dX5_init_4 : decode cX5_init 4 = .ok (.aload_n 0, 1) := by decide +kernel
theorem dX5_init_5 : decode cX5_init 5 = .ok (.bipush 12, 2) := by decide +kernel
theorem dX5_init_7 : decode cX5_init 7 = .ok (.newarray .int, 2) := by decide +kernel
theorem dX5_init_9 : decode cX5_init 9 = .ok (.putfield 9, 3) := by decide +kernel
theorem dX5_init_12 : decode cX5_init 12 = .ok (.return_, 1) := by decide +kernel
theorem dX5_add_0 : decode cX5_add 0 = .ok (.aload_n 0, 1) := by decide +kernel
theorem dX5_add_1 : decode cX5_add 1 = .ok (.getfield 15, 3) := by decide +kernel
theorem dX5_add_4 : decode cX5_add 4 = .ok (.ifCond .lt 15, 3) := by decide +kernel
theorem dX5_add_7 : decode cX5_add 7 = .ok (.aload_n 0, 1) := by decide +kernel
theorem dX5_add_8 : decode cX5_add 8 = .ok (.getfield 15, 3) := by decide +kernel
theorem dX5_add_11 : decode cX5_add 11 = .ok (.aload_n 0, 1) := by decide +kernel
theorem dX5_add_12 : decode cX5_add 12 = .ok (.getfield 9, 3) := by decide +kernel
theorem dX5_add_15 : decode cX5_add 15 = .ok (.arraylength, 1) := by decide +kernel
theorem dX5_add_16 : decode cX5_add 16 = .ok (.if_icmp .lt 4, 3) := by decide +kernel
theorem dX5_add_19 : decode cX5_add 19 = .ok (.return_, 1) := by decide +kernel
theorem dX5_add_20 : decode cX5_add 20 = .ok (.aload_n 0, 1) := by decide +kernel
theorem dX5_add_21 : decode cX5_add 21 = .ok (.getfield 9, 3) := by decide +kernel
theorem dX5_add_24 : decode cX5_add 24 = .ok (.aload_n 0, 1) := by decide +kernel
theorem dX5_add_25 : decode cX5_add 25 = .ok (.getfield 15, 3) := by decide +kernel
theorem dX5_add_28 : decode cX5_add 28 = .ok (.iload_n 1, 1) := by decide +kernel
theorem dX5_add_29 : decode cX5_add 29 = .ok (.iastore, 1) := by decide +kernel
theorem dX5_add_30 : decode cX5_add 30 = .ok (.aload_n 0, 1) := by decide +kernel
theorem dX5_add_31 : decode cX5_add 31 = .ok (.dup, 1) := by decide +kernel
theorem dX5_add_32 : decode cX5_add 32 = .ok (.getfield 15, 3) := by decide +kernel
theorem dX5_add_35 : decode cX5_add 35 = .ok (.iconst 1, 1) := by decide +kernel
theorem dX5_add_36 : decode cX5_add 36 = .ok (.iadd, 1) := by decide +kernel
theorem dX5_add_37 : decode cX5_add 37 = .ok (.putfield 15, 3) := by decide +kernel
theorem dX5_add_40 : decode cX5_add 40 = .ok (.return_, 1) := by decide +kernel
theorem dX5_clear_0 : decode cX5_clear 0 = .ok (.aload_n 0, 1) := by decide +kernel
theorem dX5_clear_1 : decode cX5_clear 1 = .ok (.iconst 0, 1) := by decide +kernel
theorem dX5_clear_2 : decode cX5_clear 2 = .ok (.putfield 15, 3) := by decide +kernel
theorem dX5_clear_5 : decode cX5_clear 5 = .ok (.return_, 1) := by decide +kernel
theorem dX5_signAt_0 : decode cX5_signAt 0 = .ok (.iload_n 1, 1) := by decide +kernel
theorem dX5_signAt_1 : decode cX5_signAt 1 = .ok (.ifCond .lt 29, 3) := by decide +kernel
theorem dX5_signAt_4 : decode cX5_signAt 4 = .ok (.iload_n 1, 1) := by decide +kernel
theorem dX5_signAt_5 : decode cX5_signAt 5 = .ok (.aload_n 0, 1) := by decide +kernel
theorem dX5_signAt_6 : decode cX5_signAt 6 = .ok (.getfield 15, 3) := by decide +kernel
theorem dX5_signAt_9 : decode cX5_signAt 9 = .ok (.if_icmp .ge 21, 3) := by decide +kernel
theorem dX5_signAt_12 : decode cX5_signAt 12 = .ok (.iload_n 1, 1) := by decide +kernel
theorem dX5_signAt_13 : decode cX5_signAt 13 = .ok (.aload_n 0, 1) := by decide +kernel
theorem dX5_signAt_14 : decode cX5_signAt 14 = .ok (.getfield 9, 3) := by decide +kernel
theorem dX5_signAt_17 : decode cX5_signAt 17 = .ok (.arraylength, 1) := by decide +kernel
theorem dX5_signAt_18 : decode cX5_signAt 18 = .ok (.if_icmp .ge 12, 3) := by decide +kernel
theorem dX5_signAt_21 : decode cX5_signAt 21 = .ok (.aload_n 0, 1) := by decide +kernel
theorem dX5_signAt_22 : decode cX5_signAt 22 = .ok (.getfield 9, 3) := by decide +kernel
theorem dX5_signAt_25 : decode cX5_signAt 25 = .ok (.iload_n 1, 1) := by decide +kernel
theorem dX5_signAt_26 : decode cX5_signAt 26 = .ok (.iaload, 1) := by decide +kernel
theorem dX5_signAt_27 : decode cX5_signAt 27 = .ok (.goto 4, 3) := by decide +kernel
theorem dX5_signAt_30 : decode cX5_signAt 30 = .ok (.iconst 0, 1) := by decide +kernel
theorem dX5_signAt_31 : decode cX5_signAt 31 = .ok (.ireturn, 1) := by decide +kernel
theorem dX5_firstFault_0 : decode cX5_firstFault 0 = .ok (.iconst (-1), 1) := by decide +kernel
theorem dX5_firstFault_1 : decode cX5_firstFault 1 = .ok (.istore_n 1, 1) := by decide +kernel
theorem dX5_firstFault_2 : decode cX5_firstFault 2 = .ok (.iconst 0, 1) := by decide +kernel
theorem dX5_firstFault_3 : decode cX5_firstFault 3 = .ok (.istore_n 2, 1) := by decide +kernel
theorem dX5_firstFault_4 : decode cX5_firstFault 4 = .ok (.iload_n 2, 1) := by decide +kernel
theorem dX5_firstFault_5 : decode cX5_firstFault 5 = .ok (.aload_n 0, 1) := by decide +kernel
theorem dX5_firstFault_6 : decode cX5_firstFault 6 = .ok (.getfield 15, 3) := by decide +kernel
theorem dX5_firstFault_9 : decode cX5_firstFault 9 = .ok (.if_icmp .ge 34, 3) := by decide +kernel
theorem dX5_firstFault_12 : decode cX5_firstFault 12 = .ok (.aload_n 0, 1) := by decide +kernel
theorem dX5_firstFault_13 : decode cX5_firstFault 13 = .ok (.iload_n 2, 1) := by decide +kernel
theorem dX5_firstFault_14 : decode cX5_firstFault 14 = .ok (.invokevirtual 19, 3) := by decide +kernel
theorem dX5_firstFault_17 : decode cX5_firstFault 17 = .ok (.istore_n 3, 1) := by decide +kernel
theorem dX5_firstFault_18 : decode cX5_firstFault 18 = .ok (.iload_n 3, 1) := by decide +kernel
theorem dX5_firstFault_19 : decode cX5_firstFault 19 = .ok (.iload_n 2, 1) := by decide +kernel
theorem dX5_firstFault_20 : decode cX5_firstFault 20 = .ok (.iload_n 1, 1) := by decide +kernel
theorem dX5_firstFault_21 : decode cX5_firstFault 21 = .ok (.invokestatic 23, 3) := by decide +kernel
theorem dX5_firstFault_24 : decode cX5_firstFault 24 = .ok (.ifCond .ne 5, 3) := by decide +kernel
theorem dX5_firstFault_27 : decode cX5_firstFault 27 = .ok (.iload_n 2, 1) := by decide +kernel
theorem dX5_firstFault_28 : decode cX5_firstFault 28 = .ok (.ireturn, 1) := by decide +kernel
theorem dX5_firstFault_29 : decode cX5_firstFault 29 = .ok (.iload_n 3, 1) := by decide +kernel
theorem dX5_firstFault_30 : decode cX5_firstFault 30 = .ok (.bipush 59, 2) := by decide +kernel
theorem dX5_firstFault_32 : decode cX5_firstFault 32 = .ok (.if_icmp .ne 5, 3) := by decide +kernel
theorem dX5_firstFault_35 : decode cX5_firstFault 35 = .ok (.iload_n 2, 1) := by decide +kernel
theorem dX5_firstFault_36 : decode cX5_firstFault 36 = .ok (.istore_n 1, 1) := by decide +kernel
theorem dX5_firstFault_37 : decode cX5_firstFault 37 = .ok (.iinc 2 1, 3) := by decide +kernel
theorem dX5_firstFault_40 : decode cX5_firstFault 40 = .ok (.goto (-36), 3) := by decide +kernel
theorem dX5_firstFault_43 : decode cX5_firstFault 43 = .ok (.aload_n 0, 1) := by decide +kernel
theorem dX5_firstFault_44 : decode cX5_firstFault 44 = .ok (.getfield 15, 3) := by decide +kernel
theorem dX5_firstFault_47 : decode cX5_firstFault 47 = .ok (.ireturn, 1) := by decide +kernel
theorem dX5_isLetter_0 : decode cX5_isLetter 0 = .ok (.aload_n 0, 1) := by decide +kernel
theorem dX5_isLetter_1 : decode cX5_isLetter 1 = .ok (.getfield 15, 3) := by decide +kernel
theorem dX5_isLetter_4 : decode cX5_isLetter 4 = .ok (.iconst 2, 1) := by decide +kernel
theorem dX5_isLetter_5 : decode cX5_isLetter 5 = .ok (.if_icmp .le 33, 3) := by decide +kernel
theorem dX5_isLetter_8 : decode cX5_isLetter 8 = .ok (.aload_n 0, 1) := by decide +kernel
theorem dX5_isLetter_9 : decode cX5_isLetter 9 = .ok (.aload_n 0, 1) := by decide +kernel
theorem dX5_isLetter_10 : decode cX5_isLetter 10 = .ok (.getfield 15, 3) := by decide +kernel
theorem dX5_isLetter_13 : decode cX5_isLetter 13 = .ok (.iconst 2, 1) := by decide +kernel
theorem dX5_isLetter_14 : decode cX5_isLetter 14 = .ok (.isub, 1) := by decide +kernel
theorem dX5_isLetter_15 : decode cX5_isLetter 15 = .ok (.invokevirtual 19, 3) := by decide +kernel
theorem dX5_isLetter_18 : decode cX5_isLetter 18 = .ok (.bipush 59, 2) := by decide +kernel
theorem dX5_isLetter_20 : decode cX5_isLetter 20 = .ok (.if_icmp .ne 18, 3) := by decide +kernel
theorem dX5_isLetter_23 : decode cX5_isLetter 23 = .ok (.aload_n 0, 1) := by decide +kernel
theorem dX5_isLetter_24 : decode cX5_isLetter 24 = .ok (.invokevirtual 27, 3) := by decide +kernel
theorem dX5_isLetter_27 : decode cX5_isLetter 27 = .ok (.aload_n 0, 1) := by decide +kernel
theorem dX5_isLetter_28 : decode cX5_isLetter 28 = .ok (.getfield 15, 3) := by decide +kernel
theorem dX5_isLetter_31 : decode cX5_isLetter 31 = .ok (.if_icmp .ne 7, 3) := by decide +kernel
theorem dX5_isLetter_34 : decode cX5_isLetter 34 = .ok (.iconst 1, 1) := by decide +kernel
theorem dX5_isLetter_35 : decode cX5_isLetter 35 = .ok (.goto 4, 3) := by decide +kernel
theorem dX5_isLetter_38 : decode cX5_isLetter 38 = .ok (.iconst 0, 1) := by decide +kernel
theorem dX5_isLetter_39 : decode cX5_isLetter 39 = .ok (.ireturn, 1) := by decide +kernel
theorem dX5_copyTo_0 : decode cX5_copyTo 0 = .ok (.aload_n 1, 1) := by decide +kernel
theorem dX5_copyTo_1 : decode cX5_copyTo 1 = .ok (.invokevirtual 31, 3) := by decide +kernel
theorem dX5_copyTo_4 : decode cX5_copyTo 4 = .ok (.iconst 0, 1) := by decide +kernel
theorem dX5_copyTo_5 : decode cX5_copyTo 5 = .ok (.istore_n 2, 1) := by decide +kernel
theorem dX5_copyTo_6 : decode cX5_copyTo 6 = .ok (.iload_n 2, 1) := by decide +kernel
theorem dX5_copyTo_7 : decode cX5_copyTo 7 = .ok (.aload_n 0, 1) := by decide +kernel
theorem dX5_copyTo_8 : decode cX5_copyTo 8 = .ok (.getfield 15, 3) := by decide +kernel
theorem dX5_copyTo_11 : decode cX5_copyTo 11 = .ok (.iconst 2, 1) := by decide +kernel
theorem dX5_copyTo_12 : decode cX5_copyTo 12 = .ok (.isub, 1) := by decide +kernel
theorem dX5_copyTo_13 : decode cX5_copyTo 13 = .ok (.if_icmp .ge 21, 3) := by decide +kernel
theorem dX5_copyTo_16 : decode cX5_copyTo 16 = .ok (.aload_n 1, 1) := by decide +kernel
theorem dX5_copyTo_17 : decode cX5_copyTo 17 = .ok (.aload_n 0, 1) := by decide +kernel
theorem dX5_copyTo_18 : decode cX5_copyTo 18 = .ok (.iload_n 2, 1) := by decide +kernel
theorem dX5_copyTo_19 : decode cX5_copyTo 19 = .ok (.invokevirtual 19, 3) := by decide +kernel
theorem dX5_copyTo_22 : decode cX5_copyTo 22 = .ok (.invokestatic 36, 3) := by decide +kernel
theorem dX5_copyTo_25 : decode cX5_copyTo 25 = .ok (.invokevirtual 39, 3) := by decide +kernel
theorem dX5_copyTo_28 : decode cX5_copyTo 28 = .ok (.iinc 2 1, 3) := by decide +kernel
theorem dX5_copyTo_31 : decode cX5_copyTo 31 = .ok (.goto (-25), 3) := by decide +kernel
theorem dX5_copyTo_34 : decode cX5_copyTo 34 = .ok (.aload_n 1, 1) := by decide +kernel
theorem dX5_copyTo_35 : decode cX5_copyTo 35 = .ok (.aload_n 0, 1) := by decide +kernel
theorem dX5_copyTo_36 : decode cX5_copyTo 36 = .ok (.aload_n 0, 1) := by decide +kernel
theorem dX5_copyTo_37 : decode cX5_copyTo 37 = .ok (.getfield 15, 3) := by decide +kernel
theorem dX5_copyTo_40 : decode cX5_copyTo 40 = .ok (.iconst 1, 1) := by decide +kernel
theorem dX5_copyTo_41 : decode cX5_copyTo 41 = .ok (.isub, 1) := by decide +kernel
theorem dX5_copyTo_42 : decode cX5_copyTo 42 = .ok (.invokevirtual 19, 3) := by decide +kernel
theorem dX5_copyTo_45 : decode cX5_copyTo 45 = .ok (.bipush 48, 2) := by decide +kernel
theorem dX5_copyTo_47 : decode cX5_copyTo 47 = .ok (.isub, 1) := by decide +kernel
theorem dX5_copyTo_48 : decode cX5_copyTo 48 = .ok (.putfield 43, 3) := by decide +kernel
theorem dX5_copyTo_51 : decode cX5_copyTo 51 = .ok (.return_, 1) := by decide +kernel
theorem dX5_fits_0 : decode cX5_fits 0 = .ok (.iload_n 2, 1) := by decide +kernel
theorem dX5_fits_1 : decode cX5_fits 1 = .ok (.iconst (-1), 1) := by decide +kernel
theorem dX5_fits_2 : decode cX5_fits 2 = .ok (.if_icmp .eq 28, 3) := by decide +kernel
theorem dX5_fits_5 : decode cX5_fits 5 = .ok (.iload_n 1, 1) := by decide +kernel
theorem dX5_fits_6 : decode cX5_fits 6 = .ok (.iload_n 2, 1) := by decide +kernel
theorem dX5_fits_7 : decode cX5_fits 7 = .ok (.iconst 1, 1) := by decide +kernel
theorem dX5_fits_8 : decode cX5_fits 8 = .ok (.iadd, 1) := by decide +kernel
theorem dX5_fits_9 : decode cX5_fits 9 = .ok (.if_icmp .ne 19, 3) := by decide +kernel
theorem dX5_fits_12 : decode cX5_fits 12 = .ok (.iload_n 0, 1) := by decide +kernel
theorem dX5_fits_13 : decode cX5_fits 13 = .ok (.bipush 49, 2) := by decide +kernel
theorem dX5_fits_15 : decode cX5_fits 15 = .ok (.if_icmp .lt 13, 3) := by decide +kernel
theorem dX5_fits_18 : decode cX5_fits 18 = .ok (.iload_n 0, 1) := by decide +kernel
theorem dX5_fits_19 : decode cX5_fits 19 = .ok (.bipush 57, 2) := by decide +kernel
theorem dX5_fits_21 : decode cX5_fits 21 = .ok (.if_icmp .gt 7, 3) := by decide +kernel
theorem dX5_fits_24 : decode cX5_fits 24 = .ok (.iconst 1, 1) := by decide +kernel
theorem dX5_fits_25 : decode cX5_fits 25 = .ok (.goto 4, 3) := by decide +kernel
theorem dX5_fits_28 : decode cX5_fits 28 = .ok (.iconst 0, 1) := by decide +kernel
theorem dX5_fits_29 : decode cX5_fits 29 = .ok (.ireturn, 1) := by decide +kernel
theorem dX5_fits_30 : decode cX5_fits 30 = .ok (.iload_n 0, 1) := by decide +kernel
theorem dX5_fits_31 : decode cX5_fits 31 = .ok (.bipush 59, 2) := by decide +kernel
theorem dX5_fits_33 : decode cX5_fits 33 = .ok (.if_icmp .ne 13, 3) := by decide +kernel
theorem dX5_fits_36 : decode cX5_fits 36 = .ok (.iload_n 1, 1) := by decide +kernel
theorem dX5_fits_37 : decode cX5_fits 37 = .ok (.ifCond .le 7, 3) := by decide +kernel
theorem dX5_fits_40 : decode cX5_fits 40 = .ok (.iconst 1, 1) := by decide +kernel
theorem dX5_fits_41 : decode cX5_fits 41 = .ok (.goto 4, 3) := by decide +kernel
theorem dX5_fits_44 : decode cX5_fits 44 = .ok (.iconst 0, 1) := by decide +kernel
theorem dX5_fits_45 : decode cX5_fits 45 = .ok (.ireturn, 1) := by decide +kernel
theorem dX5_fits_46 : decode cX5_fits 46 = .ok (.iload_n 1, 1) := by decide +kernel
theorem dX5_fits_47 : decode cX5_fits 47 = .ok (.bipush 9, 2) := by decide +kernel
theorem dX5_fits_49 : decode cX5_fits 49 = .ok (.if_icmp .ge 15, 3) := by decide +kernel
theorem dX5_fits_52 : decode cX5_fits 52 = .ok (.iload_n 0, 1) := by decide +kernel
theorem dX5_fits_53 : decode cX5_fits 53 = .ok (.invokestatic 36, 3) := by decide +kernel
theorem dX5_fits_56 : decode cX5_fits 56 = .ok (.iconst (-1), 1) := by decide +kernel
theorem dX5_fits_57 : decode cX5_fits 57 = .ok (.if_icmp .eq 7, 3) := by decide +kernel
theorem dX5_fits_60 : decode cX5_fits 60 = .ok (.iconst 1, 1) := by decide +kernel
theorem dX5_fits_61 : decode cX5_fits 61 = .ok (.goto 4, 3) := by decide +kernel
theorem dX5_fits_64 : decode cX5_fits 64 = .ok (.iconst 0, 1) := by decide +kernel
theorem dX5_fits_65 : decode cX5_fits 65 = .ok (.ireturn, 1) := by decide +kernel
theorem dX5_wordOf_0 : decode cX5_wordOf 0 = .ok (.iload_n 0, 1) := by decide +kernel
theorem dX5_wordOf_1 : decode cX5_wordOf 1 = .ok (.lookupswitch 71 #[(46, 69), (100, 67), (110, 61), (116, 63), (117, 65), (121, 59)], 59) := by decide +kernel
theorem dX5_wordOf_60 : decode cX5_wordOf 60 = .ok (.iconst 0, 1) := by decide +kernel
theorem dX5_wordOf_61 : decode cX5_wordOf 61 = .ok (.ireturn, 1) := by decide +kernel
theorem dX5_wordOf_62 : decode cX5_wordOf 62 = .ok (.iconst 1, 1) := by decide +kernel
theorem dX5_wordOf_63 : decode cX5_wordOf 63 = .ok (.ireturn, 1) := by decide +kernel
theorem dX5_wordOf_64 : decode cX5_wordOf 64 = .ok (.iconst 2, 1) := by decide +kernel
theorem dX5_wordOf_65 : decode cX5_wordOf 65 = .ok (.ireturn, 1) := by decide +kernel
theorem dX5_wordOf_66 : decode cX5_wordOf 66 = .ok (.iconst 3, 1) := by decide +kernel
theorem dX5_wordOf_67 : decode cX5_wordOf 67 = .ok (.ireturn, 1) := by decide +kernel
theorem dX5_wordOf_68 : decode cX5_wordOf 68 = .ok (.iconst 4, 1) := by decide +kernel
theorem dX5_wordOf_69 : decode cX5_wordOf 69 = .ok (.ireturn, 1) := by decide +kernel
theorem dX5_wordOf_70 : decode cX5_wordOf 70 = .ok (.iconst 5, 1) := by decide +kernel
theorem dX5_wordOf_71 : decode cX5_wordOf 71 = .ok (.ireturn, 1) := by decide +kernel
theorem dX5_wordOf_72 : decode cX5_wordOf 72 = .ok (.iconst (-1), 1) := by decide +kernel
theorem dX5_wordOf_73 : decode cX5_wordOf 73 = .ok (.ireturn, 1) := by decide +kernel
theorem dX6_init_0 : decode cX6_init 0 = .ok (.aload_n 0, 1) := by decide +kernel
theorem dX6_init_1 : decode cX6_init 1 = .ok (.invokespecial 3, 3) := by decide +kernel
theorem dX6_init_4 : decode cX6_init 4 = .ok (.return_, 1) := by decide +kernel
theorem dX6_begin_0 : decode cX6_begin 0 = .ok (.aload_n 0, 1) := by decide +kernel
theorem dX6_begin_1 : decode cX6_begin 1 = .ok (.iload_n 1, 1) := by decide +kernel
theorem dX6_begin_2 : decode cX6_begin 2 = .ok (.putfield 9, 3) := by decide +kernel
theorem dX6_begin_5 : decode cX6_begin 5 = .ok (.aload_n 0, 1) := by decide +kernel
theorem dX6_begin_6 : decode cX6_begin 6 = .ok (.iconst 0, 1) := by decide +kernel
theorem dX6_begin_7 : decode cX6_begin 7 = .ok (.putfield 15, 3) := by decide +kernel
theorem dX6_begin_10 : decode cX6_begin 10 = .ok (.aload_n 0, 1) := by decide +kernel
theorem dX6_begin_11 : decode cX6_begin 11 = .ok (.iconst 0, 1) := by decide +kernel
theorem dX6_begin_12 : decode cX6_begin 12 = .ok (.putfield 18, 3) := by decide +kernel
theorem dX6_begin_15 : decode cX6_begin 15 = .ok (.aload_n 0, 1) := by decide +kernel
theorem dX6_begin_16 : decode cX6_begin 16 = .ok (.iconst 0, 1) := by decide +kernel
theorem dX6_begin_17 : decode cX6_begin 17 = .ok (.putfield 22, 3) := by decide +kernel
theorem dX6_begin_20 : decode cX6_begin 20 = .ok (.aload_n 0, 1) := by decide +kernel
theorem dX6_begin_21 : decode cX6_begin 21 = .ok (.iconst 0, 1) := by decide +kernel
theorem dX6_begin_22 : decode cX6_begin 22 = .ok (.putfield 25, 3) := by decide +kernel
theorem dX6_begin_25 : decode cX6_begin 25 = .ok (.aload_n 0, 1) := by decide +kernel
theorem dX6_begin_26 : decode cX6_begin 26 = .ok (.iconst 0, 1) := by decide +kernel
theorem dX6_begin_27 : decode cX6_begin 27 = .ok (.putfield 28, 3) := by decide +kernel
theorem dX6_begin_30 : decode cX6_begin 30 = .ok (.return_, 1) := by decide +kernel
theorem dX6_copy_0 : decode cX6_copy 0 = .ok (.aload_n 0, 1) := by decide +kernel
theorem dX6_copy_1 : decode cX6_copy 1 = .ok (.aload_n 1, 1) := by decide +kernel
theorem dX6_copy_2 : decode cX6_copy 2 = .ok (.getfield 9, 3) := by decide +kernel
theorem dX6_copy_5 : decode cX6_copy 5 = .ok (.putfield 9, 3) := by decide +kernel
theorem dX6_copy_8 : decode cX6_copy 8 = .ok (.aload_n 0, 1) := by decide +kernel
theorem dX6_copy_9 : decode cX6_copy 9 = .ok (.aload_n 1, 1) := by decide +kernel
theorem dX6_copy_10 : decode cX6_copy 10 = .ok (.getfield 15, 3) := by decide +kernel
theorem dX6_copy_13 : decode cX6_copy 13 = .ok (.putfield 15, 3) := by decide +kernel
theorem dX6_copy_16 : decode cX6_copy 16 = .ok (.aload_n 0, 1) := by decide +kernel
theorem dX6_copy_17 : decode cX6_copy 17 = .ok (.aload_n 1, 1) := by decide +kernel
theorem dX6_copy_18 : decode cX6_copy 18 = .ok (.getfield 18, 3) := by decide +kernel
theorem dX6_copy_21 : decode cX6_copy 21 = .ok (.putfield 18, 3) := by decide +kernel
theorem dX6_copy_24 : decode cX6_copy 24 = .ok (.aload_n 0, 1) := by decide +kernel
theorem dX6_copy_25 : decode cX6_copy 25 = .ok (.aload_n 1, 1) := by decide +kernel
theorem dX6_copy_26 : decode cX6_copy 26 = .ok (.getfield 22, 3) := by decide +kernel
theorem dX6_copy_29 : decode cX6_copy 29 = .ok (.putfield 22, 3) := by decide +kernel
theorem dX6_copy_32 : decode cX6_copy 32 = .ok (.aload_n 0, 1) := by decide +kernel
theorem dX6_copy_33 : decode cX6_copy 33 = .ok (.aload_n 1, 1) := by decide +kernel
theorem dX6_copy_34 : decode cX6_copy 34 = .ok (.getfield 25, 3) := by decide +kernel
theorem dX6_copy_37 : decode cX6_copy 37 = .ok (.putfield 25, 3) := by decide +kernel
theorem dX6_copy_40 : decode cX6_copy 40 = .ok (.aload_n 0, 1) := by decide +kernel
theorem dX6_copy_41 : decode cX6_copy 41 = .ok (.aload_n 1, 1) := by decide +kernel
theorem dX6_copy_42 : decode cX6_copy 42 = .ok (.getfield 28, 3) := by decide +kernel
theorem dX6_copy_45 : decode cX6_copy 45 = .ok (.putfield 28, 3) := by decide +kernel
theorem dX6_copy_48 : decode cX6_copy 48 = .ok (.return_, 1) := by decide +kernel
theorem dX6_readTo_0 : decode cX6_readTo 0 = .ok (.aload_n 0, 1) := by decide +kernel
theorem dX6_readTo_1 : decode cX6_readTo 1 = .ok (.iload_n 1, 1) := by decide +kernel
theorem dX6_readTo_2 : decode cX6_readTo 2 = .ok (.invokevirtual 31, 3) := by decide +kernel
theorem dX6_readTo_5 : decode cX6_readTo 5 = .ok (.iload_n 1, 1) := by decide +kernel
theorem dX6_readTo_6 : decode cX6_readTo 6 = .ok (.iconst 2, 1) := by decide +kernel
theorem dX6_readTo_7 : decode cX6_readTo 7 = .ok (.if_icmp .ne 16, 3) := by decide +kernel
theorem dX6_readTo_10 : decode cX6_readTo 10 = .ok (.aload_n 0, 1) := by decide +kernel
theorem dX6_readTo_11 : decode cX6_readTo 11 = .ok (.aload_n 2, 1) := by decide +kernel
theorem dX6_readTo_12 : decode cX6_readTo 12 = .ok (.aload_n 2, 1) := by decide +kernel
theorem dX6_readTo_13 : decode cX6_readTo 13 = .ok (.getfield 35, 3) := by decide +kernel
theorem dX6_readTo_16 : decode cX6_readTo 16 = .ok (.iconst 1, 1) := by decide +kernel
theorem dX6_readTo_17 : decode cX6_readTo 17 = .ok (.invokevirtual 40, 3) := by decide +kernel
theorem dX6_readTo_20 : decode cX6_readTo 20 = .ok (.goto 20, 3) := by decide +kernel
theorem dX6_readTo_23 : decode cX6_readTo 23 = .ok (.aload_n 0, 1) := by decide +kernel
theorem dX6_readTo_24 : decode cX6_readTo 24 = .ok (.aload_n 2, 1) := by decide +kernel
theorem dX6_readTo_25 : decode cX6_readTo 25 = .ok (.aload_n 2, 1) := by decide +kernel
theorem dX6_readTo_26 : decode cX6_readTo 26 = .ok (.getfield 35, 3) := by decide +kernel
theorem dX6_readTo_29 : decode cX6_readTo 29 = .ok (.aload_n 2, 1) := by decide +kernel
theorem dX6_readTo_30 : decode cX6_readTo 30 = .ok (.getfield 44, 3) := by decide +kernel
theorem dX6_readTo_33 : decode cX6_readTo 33 = .ok (.invokestatic 47, 3) := by decide +kernel
theorem dX6_readTo_36 : decode cX6_readTo 36 = .ok (.iload_n 3, 1) := by decide +kernel
theorem dX6_readTo_37 : decode cX6_readTo 37 = .ok (.invokevirtual 40, 3) := by decide +kernel
theorem dX6_readTo_40 : decode cX6_readTo 40 = .ok (.return_, 1) := by decide +kernel
theorem dX6_hearSome_0 : decode cX6_hearSome 0 = .ok (.iconst 0, 1) := by decide +kernel
theorem dX6_hearSome_1 : decode cX6_hearSome 1 = .ok (.istore 4, 2) := by decide +kernel
theorem dX6_hearSome_3 : decode cX6_hearSome 3 = .ok (.iload 4, 2) := by decide +kernel
theorem dX6_hearSome_5 : decode cX6_hearSome 5 = .ok (.iload_n 2, 1) := by decide +kernel
theorem dX6_hearSome_6 : decode cX6_hearSome 6 = .ok (.if_icmp .ge 42, 3) := by decide +kernel
theorem dX6_hearSome_9 : decode cX6_hearSome 9 = .ok (.aload_n 0, 1) := by decide +kernel
theorem dX6_hearSome_10 : decode cX6_hearSome 10 = .ok (.getfield 28, 3) := by decide +kernel
theorem dX6_hearSome_13 : decode cX6_hearSome 13 = .ok (.ifCond .ne 35, 3) := by decide +kernel
theorem dX6_hearSome_16 : decode cX6_hearSome 16 = .ok (.aload_n 0, 1) := by decide +kernel
theorem dX6_hearSome_17 : decode cX6_hearSome 17 = .ok (.aload_n 1, 1) := by decide +kernel
theorem dX6_hearSome_18 : decode cX6_hearSome 18 = .ok (.iload_n 3, 1) := by decide +kernel
theorem dX6_hearSome_19 : decode cX6_hearSome 19 = .ok (.ifCond .eq 8, 3) := by decide +kernel
theorem dX6_hearSome_22 : decode cX6_hearSome 22 = .ok (.iload 4, 2) := by decide +kernel
theorem dX6_hearSome_24 : decode cX6_hearSome 24 = .ok (.goto 12, 3) := by decide +kernel
theorem dX6_hearSome_27 : decode cX6_hearSome 27 = .ok (.aload_n 1, 1) := by decide +kernel
theorem dX6_hearSome_28 : decode cX6_hearSome 28 = .ok (.getfield 35, 3) := by decide +kernel
theorem dX6_hearSome_31 : decode cX6_hearSome 31 = .ok (.iconst 1, 1) := by decide +kernel
theorem dX6_hearSome_32 : decode cX6_hearSome 32 = .ok (.isub, 1) := by decide +kernel
theorem dX6_hearSome_33 : decode cX6_hearSome 33 = .ok (.iload 4, 2) := by decide +kernel
theorem dX6_hearSome_35 : decode cX6_hearSome 35 = .ok (.isub, 1) := by decide +kernel
theorem dX6_hearSome_36 : decode cX6_hearSome 36 = .ok (.invokevirtual 53, 3) := by decide +kernel
theorem dX6_hearSome_39 : decode cX6_hearSome 39 = .ok (.invokevirtual 57, 3) := by decide +kernel
theorem dX6_hearSome_42 : decode cX6_hearSome 42 = .ok (.iinc 4 1, 3) := by decide +kernel
theorem dX6_hearSome_45 : decode cX6_hearSome 45 = .ok (.goto (-42), 3) := by decide +kernel
theorem dX6_hearSome_48 : decode cX6_hearSome 48 = .ok (.return_, 1) := by decide +kernel
theorem dX6_hear_0 : decode cX6_hear 0 = .ok (.iload_n 1, 1) := by decide +kernel
theorem dX6_hear_1 : decode cX6_hear 1 = .ok (.tableswitch 154 0 5 #[39, 68, 97, 116, 128, 141], 39) := by decide +kernel
theorem dX6_hear_40 : decode cX6_hear 40 = .ok (.aload_n 0, 1) := by decide +kernel
theorem dX6_hear_41 : decode cX6_hear 41 = .ok (.dup, 1) := by decide +kernel
theorem dX6_hear_42 : decode cX6_hear 42 = .ok (.getfield 15, 3) := by decide +kernel
theorem dX6_hear_45 : decode cX6_hear 45 = .ok (.aload_n 0, 1) := by decide +kernel
theorem dX6_hear_46 : decode cX6_hear 46 = .ok (.getfield 18, 3) := by decide +kernel
theorem dX6_hear_49 : decode cX6_hear 49 = .ok (.ifCond .eq 7, 3) := by decide +kernel
theorem dX6_hear_52 : decode cX6_hear 52 = .ok (.iconst (-1), 1) := by decide +kernel
theorem dX6_hear_53 : decode cX6_hear 53 = .ok (.goto 4, 3) := by decide +kernel
theorem dX6_hear_56 : decode cX6_hear 56 = .ok (.iconst 1, 1) := by decide +kernel
theorem dX6_hear_57 : decode cX6_hear 57 = .ok (.iadd, 1) := by decide +kernel
theorem dX6_hear_58 : decode cX6_hear 58 = .ok (.putfield 15, 3) := by decide +kernel
theorem dX6_hear_61 : decode cX6_hear 61 = .ok (.aload_n 0, 1) := by decide +kernel
theorem dX6_hear_62 : decode cX6_hear 62 = .ok (.iconst 0, 1) := by decide +kernel
theorem dX6_hear_63 : decode cX6_hear 63 = .ok (.putfield 18, 3) := by decide +kernel
theorem dX6_hear_66 : decode cX6_hear 66 = .ok (.goto 89, 3) := by decide +kernel
theorem dX6_hear_69 : decode cX6_hear 69 = .ok (.aload_n 0, 1) := by decide +kernel
theorem dX6_hear_70 : decode cX6_hear 70 = .ok (.dup, 1) := by decide +kernel
theorem dX6_hear_71 : decode cX6_hear 71 = .ok (.getfield 15, 3) := by decide +kernel
theorem dX6_hear_74 : decode cX6_hear 74 = .ok (.aload_n 0, 1) := by decide +kernel
theorem dX6_hear_75 : decode cX6_hear 75 = .ok (.getfield 18, 3) := by decide +kernel
theorem dX6_hear_78 : decode cX6_hear 78 = .ok (.ifCond .eq 7, 3) := by decide +kernel
theorem dX6_hear_81 : decode cX6_hear 81 = .ok (.iconst 1, 1) := by decide +kernel
theorem dX6_hear_82 : decode cX6_hear 82 = .ok (.goto 4, 3) := by decide +kernel
theorem dX6_hear_85 : decode cX6_hear 85 = .ok (.iconst (-1), 1) := by decide +kernel
theorem dX6_hear_86 : decode cX6_hear 86 = .ok (.iadd, 1) := by decide +kernel
theorem dX6_hear_87 : decode cX6_hear 87 = .ok (.putfield 15, 3) := by decide +kernel
theorem dX6_hear_90 : decode cX6_hear 90 = .ok (.aload_n 0, 1) := by decide +kernel
theorem dX6_hear_91 : decode cX6_hear 91 = .ok (.iconst 0, 1) := by decide +kernel
theorem dX6_hear_92 : decode cX6_hear 92 = .ok (.putfield 18, 3) := by decide +kernel
theorem dX6_hear_95 : decode cX6_hear 95 = .ok (.goto 60, 3) := by decide +kernel
theorem dX6_hear_98 : decode cX6_hear 98 = .ok (.aload_n 0, 1) := by decide +kernel
theorem dX6_hear_99 : decode cX6_hear 99 = .ok (.aload_n 0, 1) := by decide +kernel
theorem dX6_hear_100 : decode cX6_hear 100 = .ok (.getfield 18, 3) := by decide +kernel
theorem dX6_hear_103 : decode cX6_hear 103 = .ok (.ifCond .ne 7, 3) := by decide +kernel
theorem dX6_hear_106 : decode cX6_hear 106 = .ok (.iconst 1, 1) := by decide +kernel
theorem dX6_hear_107 : decode cX6_hear 107 = .ok (.goto 4, 3) := by decide +kernel
theorem dX6_hear_110 : decode cX6_hear 110 = .ok (.iconst 0, 1) := by decide +kernel
theorem dX6_hear_111 : decode cX6_hear 111 = .ok (.putfield 18, 3) := by decide +kernel
theorem dX6_hear_114 : decode cX6_hear 114 = .ok (.goto 41, 3) := by decide +kernel
theorem dX6_hear_117 : decode cX6_hear 117 = .ok (.aload_n 0, 1) := by decide +kernel
theorem dX6_hear_118 : decode cX6_hear 118 = .ok (.aload_n 0, 1) := by decide +kernel
theorem dX6_hear_119 : decode cX6_hear 119 = .ok (.getfield 15, 3) := by decide +kernel
theorem dX6_hear_122 : decode cX6_hear 122 = .ok (.ineg, 1) := by decide +kernel
theorem dX6_hear_123 : decode cX6_hear 123 = .ok (.putfield 15, 3) := by decide +kernel
theorem dX6_hear_126 : decode cX6_hear 126 = .ok (.goto 29, 3) := by decide +kernel
theorem dX6_hear_129 : decode cX6_hear 129 = .ok (.aload_n 0, 1) := by decide +kernel
theorem dX6_hear_130 : decode cX6_hear 130 = .ok (.dup, 1) := by decide +kernel
theorem dX6_hear_131 : decode cX6_hear 131 = .ok (.getfield 15, 3) := by decide +kernel
theorem dX6_hear_134 : decode cX6_hear 134 = .ok (.iconst 1, 1) := by decide +kernel
theorem dX6_hear_135 : decode cX6_hear 135 = .ok (.iadd, 1) := by decide +kernel
theorem dX6_hear_136 : decode cX6_hear 136 = .ok (.putfield 15, 3) := by decide +kernel
theorem dX6_hear_139 : decode cX6_hear 139 = .ok (.goto 16, 3) := by decide +kernel
theorem dX6_hear_142 : decode cX6_hear 142 = .ok (.aload_n 0, 1) := by decide +kernel
theorem dX6_hear_143 : decode cX6_hear 143 = .ok (.dup, 1) := by decide +kernel
theorem dX6_hear_144 : decode cX6_hear 144 = .ok (.getfield 22, 3) := by decide +kernel
theorem dX6_hear_147 : decode cX6_hear 147 = .ok (.iconst 1, 1) := by decide +kernel
theorem dX6_hear_148 : decode cX6_hear 148 = .ok (.iadd, 1) := by decide +kernel
theorem dX6_hear_149 : decode cX6_hear 149 = .ok (.putfield 22, 3) := by decide +kernel
theorem dX6_hear_152 : decode cX6_hear 152 = .ok (.goto 3, 3) := by decide +kernel
theorem dX6_hear_155 : decode cX6_hear 155 = .ok (.aload_n 0, 1) := by decide +kernel
theorem dX6_hear_156 : decode cX6_hear 156 = .ok (.dup, 1) := by decide +kernel
theorem dX6_hear_157 : decode cX6_hear 157 = .ok (.getfield 25, 3) := by decide +kernel
theorem dX6_hear_160 : decode cX6_hear 160 = .ok (.iconst 1, 1) := by decide +kernel
theorem dX6_hear_161 : decode cX6_hear 161 = .ok (.iadd, 1) := by decide +kernel
theorem dX6_hear_162 : decode cX6_hear 162 = .ok (.putfield 25, 3) := by decide +kernel
theorem dX6_hear_165 : decode cX6_hear 165 = .ok (.aload_n 0, 1) := by decide +kernel
theorem dX6_hear_166 : decode cX6_hear 166 = .ok (.aload_n 0, 1) := by decide +kernel
theorem dX6_hear_167 : decode cX6_hear 167 = .ok (.iload_n 1, 1) := by decide +kernel
theorem dX6_hear_168 : decode cX6_hear 168 = .ok (.invokevirtual 60, 3) := by decide +kernel
theorem dX6_hear_171 : decode cX6_hear 171 = .ok (.putfield 28, 3) := by decide +kernel
theorem dX6_hear_174 : decode cX6_hear 174 = .ok (.return_, 1) := by decide +kernel
theorem dX6_shutsBehind_0 : decode cX6_shutsBehind 0 = .ok (.aload_n 0, 1) := by decide +kernel
theorem dX6_shutsBehind_1 : decode cX6_shutsBehind 1 = .ok (.getfield 9, 3) := by decide +kernel
theorem dX6_shutsBehind_4 : decode cX6_shutsBehind 4 = .ok (.iconst 2, 1) := by decide +kernel
theorem dX6_shutsBehind_5 : decode cX6_shutsBehind 5 = .ok (.if_icmp .eq 11, 3) := by decide +kernel
theorem dX6_shutsBehind_8 : decode cX6_shutsBehind 8 = .ok (.aload_n 0, 1) := by decide +kernel
theorem dX6_shutsBehind_9 : decode cX6_shutsBehind 9 = .ok (.getfield 9, 3) := by decide +kernel
theorem dX6_shutsBehind_12 : decode cX6_shutsBehind 12 = .ok (.iconst (-1), 1) := by decide +kernel
theorem dX6_shutsBehind_13 : decode cX6_shutsBehind 13 = .ok (.if_icmp .ne 5, 3) := by decide +kernel
theorem dX6_shutsBehind_16 : decode cX6_shutsBehind 16 = .ok (.iconst 0, 1) := by decide +kernel
theorem dX6_shutsBehind_17 : decode cX6_shutsBehind 17 = .ok (.ireturn, 1) := by decide +kernel
theorem dX6_shutsBehind_18 : decode cX6_shutsBehind 18 = .ok (.aload_n 0, 1) := by decide +kernel
theorem dX6_shutsBehind_19 : decode cX6_shutsBehind 19 = .ok (.getfield 15, 3) := by decide +kernel
theorem dX6_shutsBehind_22 : decode cX6_shutsBehind 22 = .ok (.iconst (-1), 1) := by decide +kernel
theorem dX6_shutsBehind_23 : decode cX6_shutsBehind 23 = .ok (.if_icmp .ge 5, 3) := by decide +kernel
theorem dX6_shutsBehind_26 : decode cX6_shutsBehind 26 = .ok (.iconst 1, 1) := by decide +kernel
theorem dX6_shutsBehind_27 : decode cX6_shutsBehind 27 = .ok (.ireturn, 1) := by decide +kernel
theorem dX6_shutsBehind_28 : decode cX6_shutsBehind 28 = .ok (.iload_n 1, 1) := by decide +kernel
theorem dX6_shutsBehind_29 : decode cX6_shutsBehind 29 = .ok (.iconst 4, 1) := by decide +kernel
theorem dX6_shutsBehind_30 : decode cX6_shutsBehind 30 = .ok (.if_icmp .ne 21, 3) := by decide +kernel
theorem dX6_shutsBehind_33 : decode cX6_shutsBehind 33 = .ok (.aload_n 0, 1) := by decide +kernel
theorem dX6_shutsBehind_34 : decode cX6_shutsBehind 34 = .ok (.getfield 9, 3) := by decide +kernel
theorem dX6_shutsBehind_37 : decode cX6_shutsBehind 37 = .ok (.iconst 1, 1) := by decide +kernel
theorem dX6_shutsBehind_38 : decode cX6_shutsBehind 38 = .ok (.if_icmp .eq 11, 3) := by decide +kernel
theorem dX6_shutsBehind_41 : decode cX6_shutsBehind 41 = .ok (.aload_n 0, 1) := by decide +kernel
theorem dX6_shutsBehind_42 : decode cX6_shutsBehind 42 = .ok (.getfield 9, 3) := by decide +kernel
theorem dX6_shutsBehind_45 : decode cX6_shutsBehind 45 = .ok (.iconst 4, 1) := by decide +kernel
theorem dX6_shutsBehind_46 : decode cX6_shutsBehind 46 = .ok (.if_icmp .ne 5, 3) := by decide +kernel
theorem dX6_shutsBehind_49 : decode cX6_shutsBehind 49 = .ok (.iconst 1, 1) := by decide +kernel
theorem dX6_shutsBehind_50 : decode cX6_shutsBehind 50 = .ok (.ireturn, 1) := by decide +kernel
theorem dX6_shutsBehind_51 : decode cX6_shutsBehind 51 = .ok (.aload_n 0, 1) := by decide +kernel
theorem dX6_shutsBehind_52 : decode cX6_shutsBehind 52 = .ok (.getfield 22, 3) := by decide +kernel
theorem dX6_shutsBehind_55 : decode cX6_shutsBehind 55 = .ok (.iconst 2, 1) := by decide +kernel
theorem dX6_shutsBehind_56 : decode cX6_shutsBehind 56 = .ok (.if_icmp .lt 13, 3) := by decide +kernel
theorem dX6_shutsBehind_59 : decode cX6_shutsBehind 59 = .ok (.aload_n 0, 1) := by decide +kernel
theorem dX6_shutsBehind_60 : decode cX6_shutsBehind 60 = .ok (.getfield 9, 3) := by decide +kernel
theorem dX6_shutsBehind_63 : decode cX6_shutsBehind 63 = .ok (.iconst 3, 1) := by decide +kernel
theorem dX6_shutsBehind_64 : decode cX6_shutsBehind 64 = .ok (.if_icmp .ne 5, 3) := by decide +kernel
theorem dX6_shutsBehind_67 : decode cX6_shutsBehind 67 = .ok (.iconst 1, 1) := by decide +kernel
theorem dX6_shutsBehind_68 : decode cX6_shutsBehind 68 = .ok (.ireturn, 1) := by decide +kernel
theorem dX6_shutsBehind_69 : decode cX6_shutsBehind 69 = .ok (.aload_n 0, 1) := by decide +kernel
theorem dX6_shutsBehind_70 : decode cX6_shutsBehind 70 = .ok (.getfield 15, 3) := by decide +kernel
theorem dX6_shutsBehind_73 : decode cX6_shutsBehind 73 = .ok (.iconst 1, 1) := by decide +kernel
theorem dX6_shutsBehind_74 : decode cX6_shutsBehind 74 = .ok (.if_icmp .le 15, 3) := by decide +kernel
theorem dX6_shutsBehind_77 : decode cX6_shutsBehind 77 = .ok (.aload_n 0, 1) := by decide +kernel
theorem dX6_shutsBehind_78 : decode cX6_shutsBehind 78 = .ok (.getfield 9, 3) := by decide +kernel
theorem dX6_shutsBehind_81 : decode cX6_shutsBehind 81 = .ok (.iconst 4, 1) := by decide +kernel
theorem dX6_shutsBehind_82 : decode cX6_shutsBehind 82 = .ok (.if_icmp .ne 7, 3) := by decide +kernel
theorem dX6_shutsBehind_85 : decode cX6_shutsBehind 85 = .ok (.iconst 1, 1) := by decide +kernel
theorem dX6_shutsBehind_86 : decode cX6_shutsBehind 86 = .ok (.goto 4, 3) := by decide +kernel
theorem dX6_shutsBehind_89 : decode cX6_shutsBehind 89 = .ok (.iconst 0, 1) := by decide +kernel
theorem dX6_shutsBehind_90 : decode cX6_shutsBehind 90 = .ok (.ireturn, 1) := by decide +kernel
theorem dX7_init_0 : decode cX7_init 0 = .ok (.aload_n 0, 1) := by decide +kernel
theorem dX7_init_1 : decode cX7_init 1 = .ok (.invokespecial 3, 3) := by decide +kernel
theorem dX7_init_4 : decode cX7_init 4 = .ok (.aload_n 0, 1) := by decide +kernel
theorem dX7_init_5 : decode cX7_init 5 = .ok (.bipush 6, 2) := by decide +kernel
theorem dX7_init_7 : decode cX7_init 7 = .ok (.newarray .int, 2) := by decide +kernel
theorem dX7_init_9 : decode cX7_init 9 = .ok (.putfield 9, 3) := by decide +kernel
theorem dX7_init_12 : decode cX7_init 12 = .ok (.return_, 1) := by decide +kernel
theorem dX7_add_0 : decode cX7_add 0 = .ok (.aload_n 0, 1) := by decide +kernel
theorem dX7_add_1 : decode cX7_add 1 = .ok (.getfield 15, 3) := by decide +kernel
theorem dX7_add_4 : decode cX7_add 4 = .ok (.ifCond .lt 15, 3) := by decide +kernel
theorem dX7_add_7 : decode cX7_add 7 = .ok (.aload_n 0, 1) := by decide +kernel
theorem dX7_add_8 : decode cX7_add 8 = .ok (.getfield 15, 3) := by decide +kernel
theorem dX7_add_11 : decode cX7_add 11 = .ok (.aload_n 0, 1) := by decide +kernel
theorem dX7_add_12 : decode cX7_add 12 = .ok (.getfield 9, 3) := by decide +kernel
theorem dX7_add_15 : decode cX7_add 15 = .ok (.arraylength, 1) := by decide +kernel
theorem dX7_add_16 : decode cX7_add 16 = .ok (.if_icmp .lt 4, 3) := by decide +kernel
theorem dX7_add_19 : decode cX7_add 19 = .ok (.return_, 1) := by decide +kernel
theorem dX7_add_20 : decode cX7_add 20 = .ok (.aload_n 0, 1) := by decide +kernel
theorem dX7_add_21 : decode cX7_add 21 = .ok (.getfield 9, 3) := by decide +kernel
theorem dX7_add_24 : decode cX7_add 24 = .ok (.aload_n 0, 1) := by decide +kernel
theorem dX7_add_25 : decode cX7_add 25 = .ok (.getfield 15, 3) := by decide +kernel
theorem dX7_add_28 : decode cX7_add 28 = .ok (.iload_n 1, 1) := by decide +kernel
theorem dX7_add_29 : decode cX7_add 29 = .ok (.iastore, 1) := by decide +kernel
theorem dX7_add_30 : decode cX7_add 30 = .ok (.aload_n 0, 1) := by decide +kernel
theorem dX7_add_31 : decode cX7_add 31 = .ok (.dup, 1) := by decide +kernel
theorem dX7_add_32 : decode cX7_add 32 = .ok (.getfield 15, 3) := by decide +kernel
theorem dX7_add_35 : decode cX7_add 35 = .ok (.iconst 1, 1) := by decide +kernel
theorem dX7_add_36 : decode cX7_add 36 = .ok (.iadd, 1) := by decide +kernel
theorem dX7_add_37 : decode cX7_add 37 = .ok (.putfield 15, 3) := by decide +kernel
theorem dX7_add_40 : decode cX7_add 40 = .ok (.return_, 1) := by decide +kernel
theorem dX7_clear_0 : decode cX7_clear 0 = .ok (.aload_n 0, 1) := by decide +kernel
theorem dX7_clear_1 : decode cX7_clear 1 = .ok (.iconst 0, 1) := by decide +kernel
theorem dX7_clear_2 : decode cX7_clear 2 = .ok (.putfield 15, 3) := by decide +kernel
theorem dX7_clear_5 : decode cX7_clear 5 = .ok (.return_, 1) := by decide +kernel
theorem dX7_kindsAt_0 : decode cX7_kindsAt 0 = .ok (.iload_n 1, 1) := by decide +kernel
theorem dX7_kindsAt_1 : decode cX7_kindsAt 1 = .ok (.ifCond .lt 29, 3) := by decide +kernel
theorem dX7_kindsAt_4 : decode cX7_kindsAt 4 = .ok (.iload_n 1, 1) := by decide +kernel
theorem dX7_kindsAt_5 : decode cX7_kindsAt 5 = .ok (.aload_n 0, 1) := by decide +kernel
theorem dX7_kindsAt_6 : decode cX7_kindsAt 6 = .ok (.getfield 15, 3) := by decide +kernel
theorem dX7_kindsAt_9 : decode cX7_kindsAt 9 = .ok (.if_icmp .ge 21, 3) := by decide +kernel
theorem dX7_kindsAt_12 : decode cX7_kindsAt 12 = .ok (.iload_n 1, 1) := by decide +kernel
theorem dX7_kindsAt_13 : decode cX7_kindsAt 13 = .ok (.aload_n 0, 1) := by decide +kernel
theorem dX7_kindsAt_14 : decode cX7_kindsAt 14 = .ok (.getfield 9, 3) := by decide +kernel
theorem dX7_kindsAt_17 : decode cX7_kindsAt 17 = .ok (.arraylength, 1) := by decide +kernel
theorem dX7_kindsAt_18 : decode cX7_kindsAt 18 = .ok (.if_icmp .ge 12, 3) := by decide +kernel
theorem dX7_kindsAt_21 : decode cX7_kindsAt 21 = .ok (.aload_n 0, 1) := by decide +kernel
theorem dX7_kindsAt_22 : decode cX7_kindsAt 22 = .ok (.getfield 9, 3) := by decide +kernel
theorem dX7_kindsAt_25 : decode cX7_kindsAt 25 = .ok (.iload_n 1, 1) := by decide +kernel
theorem dX7_kindsAt_26 : decode cX7_kindsAt 26 = .ok (.iaload, 1) := by decide +kernel
theorem dX7_kindsAt_27 : decode cX7_kindsAt 27 = .ok (.goto 5, 3) := by decide +kernel
theorem dX7_kindsAt_30 : decode cX7_kindsAt 30 = .ok (.bipush 31, 2) := by decide +kernel
theorem dX7_kindsAt_32 : decode cX7_kindsAt 32 = .ok (.ireturn, 1) := by decide +kernel
theorem dX7_possibleKinds_0 : decode cX7_possibleKinds 0 = .ok (.bipush 31, 2) := by decide +kernel
theorem dX7_possibleKinds_2 : decode cX7_possibleKinds 2 = .ok (.istore_n 1, 1) := by decide +kernel
theorem dX7_possibleKinds_3 : decode cX7_possibleKinds 3 = .ok (.iconst 0, 1) := by decide +kernel
theorem dX7_possibleKinds_4 : decode cX7_possibleKinds 4 = .ok (.istore_n 2, 1) := by decide +kernel
theorem dX7_possibleKinds_5 : decode cX7_possibleKinds 5 = .ok (.iload_n 2, 1) := by decide +kernel
theorem dX7_possibleKinds_6 : decode cX7_possibleKinds 6 = .ok (.aload_n 0, 1) := by decide +kernel
theorem dX7_possibleKinds_7 : decode cX7_possibleKinds 7 = .ok (.getfield 15, 3) := by decide +kernel
theorem dX7_possibleKinds_10 : decode cX7_possibleKinds 10 = .ok (.if_icmp .ge 17, 3) := by decide +kernel
theorem dX7_possibleKinds_13 : decode cX7_possibleKinds 13 = .ok (.iload_n 1, 1) := by decide +kernel
theorem dX7_possibleKinds_14 : decode cX7_possibleKinds 14 = .ok (.aload_n 0, 1) := by decide +kernel
theorem dX7_possibleKinds_15 : decode cX7_possibleKinds 15 = .ok (.iload_n 2, 1) := by decide +kernel
theorem dX7_possibleKinds_16 : decode cX7_possibleKinds 16 = .ok (.invokevirtual 19, 3) := by decide +kernel
theorem dX7_possibleKinds_19 : decode cX7_possibleKinds 19 = .ok (.iand, 1) := by decide +kernel
theorem dX7_possibleKinds_20 : decode cX7_possibleKinds 20 = .ok (.istore_n 1, 1) := by decide +kernel
theorem dX7_possibleKinds_21 : decode cX7_possibleKinds 21 = .ok (.iinc 2 1, 3) := by decide +kernel
theorem dX7_possibleKinds_24 : decode cX7_possibleKinds 24 = .ok (.goto (-19), 3) := by decide +kernel
theorem dX7_possibleKinds_27 : decode cX7_possibleKinds 27 = .ok (.iload_n 1, 1) := by decide +kernel
theorem dX7_possibleKinds_28 : decode cX7_possibleKinds 28 = .ok (.ireturn, 1) := by decide +kernel
theorem dX7_copy_0 : decode cX7_copy 0 = .ok (.aload_n 0, 1) := by decide +kernel
theorem dX7_copy_1 : decode cX7_copy 1 = .ok (.invokevirtual 23, 3) := by decide +kernel
theorem dX7_copy_4 : decode cX7_copy 4 = .ok (.iconst 0, 1) := by decide +kernel
theorem dX7_copy_5 : decode cX7_copy 5 = .ok (.istore_n 2, 1) := by decide +kernel
theorem dX7_copy_6 : decode cX7_copy 6 = .ok (.iload_n 2, 1) := by decide +kernel
theorem dX7_copy_7 : decode cX7_copy 7 = .ok (.aload_n 1, 1) := by decide +kernel
theorem dX7_copy_8 : decode cX7_copy 8 = .ok (.getfield 15, 3) := by decide +kernel
theorem dX7_copy_11 : decode cX7_copy 11 = .ok (.if_icmp .ge 18, 3) := by decide +kernel
theorem dX7_copy_14 : decode cX7_copy 14 = .ok (.aload_n 0, 1) := by decide +kernel
theorem dX7_copy_15 : decode cX7_copy 15 = .ok (.aload_n 1, 1) := by decide +kernel
theorem dX7_copy_16 : decode cX7_copy 16 = .ok (.iload_n 2, 1) := by decide +kernel
theorem dX7_copy_17 : decode cX7_copy 17 = .ok (.invokevirtual 19, 3) := by decide +kernel
theorem dX7_copy_20 : decode cX7_copy 20 = .ok (.invokevirtual 26, 3) := by decide +kernel
theorem dX7_copy_23 : decode cX7_copy 23 = .ok (.iinc 2 1, 3) := by decide +kernel
theorem dX7_copy_26 : decode cX7_copy 26 = .ok (.goto (-20), 3) := by decide +kernel
theorem dX7_copy_29 : decode cX7_copy 29 = .ok (.return_, 1) := by decide +kernel
theorem dX8_init_0 : decode cX8_init 0 = .ok (.aload_n 0, 1) := by decide +kernel
theorem dX8_init_1 : decode cX8_init 1 = .ok (.invokespecial 3, 3) := by decide +kernel
theorem dX8_init_4 : decode cX8_init 4 = .ok (.aload_n 0, 1) := by decide +kernel
theorem dX8_init_5 : decode cX8_init 5 = .ok (.new 9, 3) := by decide +kernel
theorem dX8_init_8 : decode cX8_init 8 = .ok (.dup, 1) := by decide +kernel
theorem dX8_init_9 : decode cX8_init 9 = .ok (.invokespecial 11, 3) := by decide +kernel
theorem dX8_init_12 : decode cX8_init 12 = .ok (.putfield 12, 3) := by decide +kernel
theorem dX8_init_15 : decode cX8_init 15 = .ok (.aload_n 0, 1) := by decide +kernel
theorem dX8_init_16 : decode cX8_init 16 = .ok (.new 18, 3) := by decide +kernel
theorem dX8_init_19 : decode cX8_init 19 = .ok (.dup, 1) := by decide +kernel
theorem dX8_init_20 : decode cX8_init 20 = .ok (.invokespecial 20, 3) := by decide +kernel
theorem dX8_init_23 : decode cX8_init 23 = .ok (.putfield 21, 3) := by decide +kernel
theorem dX8_init_26 : decode cX8_init 26 = .ok (.aload_n 0, 1) := by decide +kernel
theorem dX8_init_27 : decode cX8_init 27 = .ok (.bipush 6, 2) := by decide +kernel
theorem dX8_init_29 : decode cX8_init 29 = .ok (.anewarray 18, 3) := by decide +kernel
theorem dX8_init_32 : decode cX8_init 32 = .ok (.putfield 25, 3) := by decide +kernel
theorem dX8_init_35 : decode cX8_init 35 = .ok (.iconst 0, 1) := by decide +kernel
theorem dX8_init_36 : decode cX8_init 36 = .ok (.istore_n 1, 1) := by decide +kernel
theorem dX8_init_37 : decode cX8_init 37 = .ok (.iload_n 1, 1) := by decide +kernel
theorem dX8_init_38 : decode cX8_init 38 = .ok (.aload_n 0, 1) := by decide +kernel
theorem dX8_init_39 : decode cX8_init 39 = .ok (.getfield 25, 3) := by decide +kernel
theorem dX8_init_42 : decode cX8_init 42 = .ok (.arraylength, 1) := by decide +kernel
theorem dX8_init_43 : decode cX8_init 43 = .ok (.if_icmp .ge 22, 3) := by decide +kernel
theorem dX8_init_46 : decode cX8_init 46 = .ok (.aload_n 0, 1) := by decide +kernel
theorem dX8_init_47 : decode cX8_init 47 = .ok (.getfield 25, 3) := by decide +kernel
theorem dX8_init_50 : decode cX8_init 50 = .ok (.iload_n 1, 1) := by decide +kernel
theorem dX8_init_51 : decode cX8_init 51 = .ok (.new 18, 3) := by decide +kernel
theorem dX8_init_54 : decode cX8_init 54 = .ok (.dup, 1) := by decide +kernel
theorem dX8_init_55 : decode cX8_init 55 = .ok (.invokespecial 20, 3) := by decide +kernel
theorem dX8_init_58 : decode cX8_init 58 = .ok (.aastore, 1) := by decide +kernel
theorem dX8_init_59 : decode cX8_init 59 = .ok (.iinc 1 1, 3) := by decide +kernel
theorem dX8_init_62 : decode cX8_init 62 = .ok (.goto (-25), 3) := by decide +kernel
theorem dX8_init_65 : decode cX8_init 65 = .ok (.return_, 1) := by decide +kernel
theorem dX8_find_0 : decode cX8_find 0 = .ok (.aload_n 0, 1) := by decide +kernel
theorem dX8_find_1 : decode cX8_find 1 = .ok (.iload_n 1, 1) := by decide +kernel
theorem dX8_find_2 : decode cX8_find 2 = .ok (.putfield 29, 3) := by decide +kernel
theorem dX8_find_5 : decode cX8_find 5 = .ok (.aload_n 0, 1) := by decide +kernel
theorem dX8_find_6 : decode cX8_find 6 = .ok (.iload_n 2, 1) := by decide +kernel
theorem dX8_find_7 : decode cX8_find 7 = .ok (.putfield 33, 3) := by decide +kernel
theorem dX8_find_10 : decode cX8_find 10 = .ok (.aload_n 0, 1) := by decide +kernel
theorem dX8_find_11 : decode cX8_find 11 = .ok (.iload_n 3, 1) := by decide +kernel
theorem dX8_find_12 : decode cX8_find 12 = .ok (.putfield 36, 3) := by decide +kernel
theorem dX8_find_15 : decode cX8_find 15 = .ok (.aload_n 0, 1) := by decide +kernel
theorem dX8_find_16 : decode cX8_find 16 = .ok (.getfield 12, 3) := by decide +kernel
theorem dX8_find_19 : decode cX8_find 19 = .ok (.invokevirtual 39, 3) := by decide +kernel
theorem dX8_find_22 : decode cX8_find 22 = .ok (.iconst 1, 1) := by decide +kernel
theorem dX8_find_23 : decode cX8_find 23 = .ok (.istore 4, 2) := by decide +kernel
theorem dX8_find_25 : decode cX8_find 25 = .ok (.iload 4, 2) := by decide +kernel
theorem dX8_find_27 : decode cX8_find 27 = .ok (.iconst 5, 1) := by decide +kernel
theorem dX8_find_28 : decode cX8_find 28 = .ok (.if_icmp .gt 49, 3) := by decide +kernel
theorem dX8_find_31 : decode cX8_find 31 = .ok (.aload_n 0, 1) := by decide +kernel
theorem dX8_find_32 : decode cX8_find 32 = .ok (.getfield 12, 3) := by decide +kernel
theorem dX8_find_35 : decode cX8_find 35 = .ok (.iconst 0, 1) := by decide +kernel
theorem dX8_find_36 : decode cX8_find 36 = .ok (.invokevirtual 42, 3) := by decide +kernel
theorem dX8_find_39 : decode cX8_find 39 = .ok (.aload_n 0, 1) := by decide +kernel
theorem dX8_find_40 : decode cX8_find 40 = .ok (.getfield 25, 3) := by decide +kernel
theorem dX8_find_43 : decode cX8_find 43 = .ok (.iconst 0, 1) := by decide +kernel
theorem dX8_find_44 : decode cX8_find 44 = .ok (.aaload, 1) := by decide +kernel
theorem dX8_find_45 : decode cX8_find 45 = .ok (.ifnull 16, 3) := by decide +kernel
theorem dX8_find_48 : decode cX8_find 48 = .ok (.aload_n 0, 1) := by decide +kernel
theorem dX8_find_49 : decode cX8_find 49 = .ok (.getfield 25, 3) := by decide +kernel
theorem dX8_find_52 : decode cX8_find 52 = .ok (.iconst 0, 1) := by decide +kernel
theorem dX8_find_53 : decode cX8_find 53 = .ok (.aaload, 1) := by decide +kernel
theorem dX8_find_54 : decode cX8_find 54 = .ok (.aload_n 0, 1) := by decide +kernel
theorem dX8_find_55 : decode cX8_find 55 = .ok (.getfield 29, 3) := by decide +kernel
theorem dX8_find_58 : decode cX8_find 58 = .ok (.invokevirtual 46, 3) := by decide +kernel
theorem dX8_find_61 : decode cX8_find 61 = .ok (.aload_n 0, 1) := by decide +kernel
theorem dX8_find_62 : decode cX8_find 62 = .ok (.iconst 0, 1) := by decide +kernel
theorem dX8_find_63 : decode cX8_find 63 = .ok (.invokestatic 49, 3) := by decide +kernel
theorem dX8_find_66 : decode cX8_find 66 = .ok (.ifCond .eq 5, 3) := by decide +kernel
theorem dX8_find_69 : decode cX8_find 69 = .ok (.iconst 1, 1) := by decide +kernel
theorem dX8_find_70 : decode cX8_find 70 = .ok (.ireturn, 1) := by decide +kernel
theorem dX8_find_71 : decode cX8_find 71 = .ok (.iinc 4 1, 3) := by decide +kernel
theorem dX8_find_74 : decode cX8_find 74 = .ok (.goto (-49), 3) := by decide +kernel
theorem dX8_find_77 : decode cX8_find 77 = .ok (.iconst 0, 1) := by decide +kernel
theorem dX8_find_78 : decode cX8_find 78 = .ok (.ireturn, 1) := by decide +kernel
theorem dX8_fillFrom_0 : decode cX8_fillFrom 0 = .ok (.iload_n 1, 1) := by decide +kernel
theorem dX8_fillFrom_1 : decode cX8_fillFrom 1 = .ok (.aload_n 0, 1) := by decide +kernel
