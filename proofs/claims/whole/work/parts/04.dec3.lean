theorem dX9_mostAlike_32 : decode cX9_mostAlike 32 = .ok (.getfield 47, 3) := by decide +kernel
theorem dX9_mostAlike_35 : decode cX9_mostAlike 35 = .ok (.iload 4, 2) := by decide +kernel
theorem dX9_mostAlike_37 : decode cX9_mostAlike 37 = .ok (.aload_n 0, 1) := by decide +kernel
theorem dX9_mostAlike_38 : decode cX9_mostAlike 38 = .ok (.getfield 19, 3) := by decide +kernel
theorem dX9_mostAlike_41 : decode cX9_mostAlike 41 = .ok (.iload_n 2, 1) := by decide +kernel
theorem dX9_mostAlike_42 : decode cX9_mostAlike 42 = .ok (.invokevirtual 151, 3) := by decide +kernel
theorem dX9_mostAlike_45 : decode cX9_mostAlike 45 = .ok (.aload_n 0, 1) := by decide +kernel
theorem dX9_mostAlike_46 : decode cX9_mostAlike 46 = .ok (.getfield 47, 3) := by decide +kernel
theorem dX9_mostAlike_49 : decode cX9_mostAlike 49 = .ok (.getfield 155, 3) := by decide +kernel
theorem dX9_mostAlike_52 : decode cX9_mostAlike 52 = .ok (.istore 5, 2) := by decide +kernel
theorem dX9_mostAlike_54 : decode cX9_mostAlike 54 = .ok (.iload 5, 2) := by decide +kernel
theorem dX9_mostAlike_56 : decode cX9_mostAlike 56 = .ok (.ifCond .lt 39, 3) := by decide +kernel
theorem dX9_mostAlike_59 : decode cX9_mostAlike 59 = .ok (.iload 5, 2) := by decide +kernel
theorem dX9_mostAlike_61 : decode cX9_mostAlike 61 = .ok (.aload_n 0, 1) := by decide +kernel
theorem dX9_mostAlike_62 : decode cX9_mostAlike 62 = .ok (.getfield 72, 3) := by decide +kernel
theorem dX9_mostAlike_65 : decode cX9_mostAlike 65 = .ok (.arraylength, 1) := by decide +kernel
theorem dX9_mostAlike_66 : decode cX9_mostAlike 66 = .ok (.if_icmp .lt 6, 3) := by decide +kernel
theorem dX9_mostAlike_69 : decode cX9_mostAlike 69 = .ok (.goto 26, 3) := by decide +kernel
theorem dX9_mostAlike_72 : decode cX9_mostAlike 72 = .ok (.aload_n 0, 1) := by decide +kernel
theorem dX9_mostAlike_73 : decode cX9_mostAlike 73 = .ok (.getfield 72, 3) := by decide +kernel
theorem dX9_mostAlike_76 : decode cX9_mostAlike 76 = .ok (.iload 5, 2) := by decide +kernel
theorem dX9_mostAlike_78 : decode cX9_mostAlike 78 = .ok (.dup2, 1) := by decide +kernel
theorem dX9_mostAlike_79 : decode cX9_mostAlike 79 = .ok (.iaload, 1) := by decide +kernel
theorem dX9_mostAlike_80 : decode cX9_mostAlike 80 = .ok (.iconst 1, 1) := by decide +kernel
theorem dX9_mostAlike_81 : decode cX9_mostAlike 81 = .ok (.iadd, 1) := by decide +kernel
theorem dX9_mostAlike_82 : decode cX9_mostAlike 82 = .ok (.iastore, 1) := by decide +kernel
theorem dX9_mostAlike_83 : decode cX9_mostAlike 83 = .ok (.iload_n 3, 1) := by decide +kernel
theorem dX9_mostAlike_84 : decode cX9_mostAlike 84 = .ok (.aload_n 0, 1) := by decide +kernel
theorem dX9_mostAlike_85 : decode cX9_mostAlike 85 = .ok (.getfield 72, 3) := by decide +kernel
theorem dX9_mostAlike_88 : decode cX9_mostAlike 88 = .ok (.iload 5, 2) := by decide +kernel
theorem dX9_mostAlike_90 : decode cX9_mostAlike 90 = .ok (.iaload, 1) := by decide +kernel
theorem dX9_mostAlike_91 : decode cX9_mostAlike 91 = .ok (.invokestatic 256, 3) := by decide +kernel
theorem dX9_mostAlike_94 : decode cX9_mostAlike 94 = .ok (.istore_n 3, 1) := by decide +kernel
theorem dX9_mostAlike_95 : decode cX9_mostAlike 95 = .ok (.iinc 4 1, 3) := by decide +kernel
theorem dX9_mostAlike_98 : decode cX9_mostAlike 98 = .ok (.goto (-85), 3) := by decide +kernel
theorem dX9_mostAlike_101 : decode cX9_mostAlike 101 = .ok (.iload_n 3, 1) := by decide +kernel
theorem dX9_mostAlike_102 : decode cX9_mostAlike 102 = .ok (.ireturn, 1) := by decide +kernel
theorem dX9_isWord_0 : decode cX9_isWord 0 = .ok (.iload_n 0, 1) := by decide +kernel
theorem dX9_isWord_1 : decode cX9_isWord 1 = .ok (.ifCond .lt 13, 3) := by decide +kernel
theorem dX9_isWord_4 : decode cX9_isWord 4 = .ok (.iload_n 0, 1) := by decide +kernel
theorem dX9_isWord_5 : decode cX9_isWord 5 = .ok (.bipush 6, 2) := by decide +kernel
theorem dX9_isWord_7 : decode cX9_isWord 7 = .ok (.if_icmp .ge 7, 3) := by decide +kernel
theorem dX9_isWord_10 : decode cX9_isWord 10 = .ok (.iconst 1, 1) := by decide +kernel
theorem dX9_isWord_11 : decode cX9_isWord 11 = .ok (.goto 4, 3) := by decide +kernel
theorem dX9_isWord_14 : decode cX9_isWord 14 = .ok (.iconst 0, 1) := by decide +kernel
theorem dX9_isWord_15 : decode cX9_isWord 15 = .ok (.ireturn, 1) := by decide +kernel
theorem dX9_isKind_0 : decode cX9_isKind 0 = .ok (.iload_n 0, 1) := by decide +kernel
theorem dX9_isKind_1 : decode cX9_isKind 1 = .ok (.ifCond .lt 12, 3) := by decide +kernel
theorem dX9_isKind_4 : decode cX9_isKind 4 = .ok (.iload_n 0, 1) := by decide +kernel
theorem dX9_isKind_5 : decode cX9_isKind 5 = .ok (.iconst 5, 1) := by decide +kernel
theorem dX9_isKind_6 : decode cX9_isKind 6 = .ok (.if_icmp .ge 7, 3) := by decide +kernel
theorem dX9_isKind_9 : decode cX9_isKind 9 = .ok (.iconst 1, 1) := by decide +kernel
theorem dX9_isKind_10 : decode cX9_isKind 10 = .ok (.goto 4, 3) := by decide +kernel
theorem dX9_isKind_13 : decode cX9_isKind 13 = .ok (.iconst 0, 1) := by decide +kernel
theorem dX9_isKind_14 : decode cX9_isKind 14 = .ok (.ireturn, 1) := by decide +kernel
theorem dX9_isWrittenValue_0 : decode cX9_isWrittenValue 0 = .ok (.iload_n 0, 1) := by decide +kernel
theorem dX9_isWrittenValue_1 : decode cX9_isWrittenValue 1 = .ok (.bipush (-3), 2) := by decide +kernel
theorem dX9_isWrittenValue_3 : decode cX9_isWrittenValue 3 = .ok (.if_icmp .lt 12, 3) := by decide +kernel
theorem dX9_isWrittenValue_6 : decode cX9_isWrittenValue 6 = .ok (.iload_n 0, 1) := by decide +kernel
theorem dX9_isWrittenValue_7 : decode cX9_isWrittenValue 7 = .ok (.iconst 3, 1) := by decide +kernel
theorem dX9_isWrittenValue_8 : decode cX9_isWrittenValue 8 = .ok (.if_icmp .gt 7, 3) := by decide +kernel
theorem dX9_isWrittenValue_11 : decode cX9_isWrittenValue 11 = .ok (.iconst 1, 1) := by decide +kernel
theorem dX9_isWrittenValue_12 : decode cX9_isWrittenValue 12 = .ok (.goto 4, 3) := by decide +kernel
theorem dX9_isWrittenValue_15 : decode cX9_isWrittenValue 15 = .ok (.iconst 0, 1) := by decide +kernel
theorem dX9_isWrittenValue_16 : decode cX9_isWrittenValue 16 = .ok (.ireturn, 1) := by decide +kernel
theorem dX9_isSuch_0 : decode cX9_isSuch 0 = .ok (.iload_n 0, 1) := by decide +kernel
theorem dX9_isSuch_1 : decode cX9_isSuch 1 = .ok (.iload_n 1, 1) := by decide +kernel
theorem dX9_isSuch_2 : decode cX9_isSuch 2 = .ok (.if_icmp .eq 17, 3) := by decide +kernel
theorem dX9_isSuch_5 : decode cX9_isSuch 5 = .ok (.iload_n 1, 1) := by decide +kernel
theorem dX9_isSuch_6 : decode cX9_isSuch 6 = .ok (.ifCond .eq 13, 3) := by decide +kernel
theorem dX9_isSuch_9 : decode cX9_isSuch 9 = .ok (.iload_n 0, 1) := by decide +kernel
theorem dX9_isSuch_10 : decode cX9_isSuch 10 = .ok (.iconst 4, 1) := by decide +kernel
theorem dX9_isSuch_11 : decode cX9_isSuch 11 = .ok (.if_icmp .ne 12, 3) := by decide +kernel
theorem dX9_isSuch_14 : decode cX9_isSuch 14 = .ok (.iload_n 1, 1) := by decide +kernel
theorem dX9_isSuch_15 : decode cX9_isSuch 15 = .ok (.iconst 1, 1) := by decide +kernel
theorem dX9_isSuch_16 : decode cX9_isSuch 16 = .ok (.if_icmp .ne 7, 3) := by decide +kernel
theorem dX9_isSuch_19 : decode cX9_isSuch 19 = .ok (.iconst 1, 1) := by decide +kernel
theorem dX9_isSuch_20 : decode cX9_isSuch 20 = .ok (.goto 4, 3) := by decide +kernel
theorem dX9_isSuch_23 : decode cX9_isSuch 23 = .ok (.iconst 0, 1) := by decide +kernel
theorem dX9_isSuch_24 : decode cX9_isSuch 24 = .ok (.ireturn, 1) := by decide +kernel
theorem dX10_init_0 : decode cX10_init 0 = .ok (.aload_n 0, 1) := by decide +kernel
theorem dX10_init_1 : decode cX10_init 1 = .ok (.invokespecial 1, 3) := by decide +kernel
theorem dX10_init_4 : decode cX10_init 4 = .ok (.aload_n 0, 1) := by decide +kernel
theorem dX10_init_5 : decode cX10_init 5 = .ok (.bipush 12, 2) := by decide +kernel
theorem dX10_init_7 : decode cX10_init 7 = .ok (.newarray .int, 2) := by decide +kernel
theorem dX10_init_9 : decode cX10_init 9 = .ok (.putfield 7, 3) := by decide +kernel
theorem dX10_init_12 : decode cX10_init 12 = .ok (.aload_n 0, 1) := by decide +kernel
theorem dX10_init_13 : decode cX10_init 13 = .ok (.bipush 9, 2) := by decide +kernel
theorem dX10_init_15 : decode cX10_init 15 = .ok (.newarray .int, 2) := by decide +kernel
theorem dX10_init_17 : decode cX10_init 17 = .ok (.putfield 13, 3) := by decide +kernel
theorem dX10_init_20 : decode cX10_init 20 = .ok (.aload_n 0, 1) := by decide +kernel
theorem dX10_init_21 : decode cX10_init 21 = .ok (.iconst 4, 1) := by decide +kernel
theorem dX10_init_22 : decode cX10_init 22 = .ok (.newarray .int, 2) := by decide +kernel
theorem dX10_init_24 : decode cX10_init 24 = .ok (.putfield 16, 3) := by decide +kernel
theorem dX10_init_27 : decode cX10_init 27 = .ok (.aload_n 0, 1) := by decide +kernel
theorem dX10_init_28 : decode cX10_init 28 = .ok (.bipush 10, 2) := by decide +kernel
theorem dX10_init_30 : decode cX10_init 30 = .ok (.newarray .int, 2) := by decide +kernel
theorem dX10_init_32 : decode cX10_init 32 = .ok (.putfield 19, 3) := by decide +kernel
theorem dX10_init_35 : decode cX10_init 35 = .ok (.aload_n 0, 1) := by decide +kernel
theorem dX10_init_36 : decode cX10_init 36 = .ok (.bipush 6, 2) := by decide +kernel
theorem dX10_init_38 : decode cX10_init 38 = .ok (.newarray .int, 2) := by decide +kernel
theorem dX10_init_40 : decode cX10_init 40 = .ok (.putfield 22, 3) := by decide +kernel
theorem dX10_init_43 : decode cX10_init 43 = .ok (.aload_n 0, 1) := by decide +kernel
theorem dX10_init_44 : decode cX10_init 44 = .ok (.bipush 10, 2) := by decide +kernel
theorem dX10_init_46 : decode cX10_init 46 = .ok (.newarray .int, 2) := by decide +kernel
theorem dX10_init_48 : decode cX10_init 48 = .ok (.putfield 25, 3) := by decide +kernel
theorem dX10_init_51 : decode cX10_init 51 = .ok (.aload_n 0, 1) := by decide +kernel
theorem dX10_init_52 : decode cX10_init 52 = .ok (.bipush 9, 2) := by decide +kernel
theorem dX10_init_54 : decode cX10_init 54 = .ok (.newarray .int, 2) := by decide +kernel
theorem dX10_init_56 : decode cX10_init 56 = .ok (.putfield 28, 3) := by decide +kernel
theorem dX10_init_59 : decode cX10_init 59 = .ok (.aload_n 0, 1) := by decide +kernel
theorem dX10_init_60 : decode cX10_init 60 = .ok (.bipush 6, 2) := by decide +kernel
theorem dX10_init_62 : decode cX10_init 62 = .ok (.newarray .int, 2) := by decide +kernel
theorem dX10_init_64 : decode cX10_init 64 = .ok (.putfield 31, 3) := by decide +kernel
theorem dX10_init_67 : decode cX10_init 67 = .ok (.aload_n 0, 1) := by decide +kernel
theorem dX10_init_68 : decode cX10_init 68 = .ok (.iconst (-1), 1) := by decide +kernel
theorem dX10_init_69 : decode cX10_init 69 = .ok (.putfield 34, 3) := by decide +kernel
theorem dX10_init_72 : decode cX10_init 72 = .ok (.return_, 1) := by decide +kernel
theorem dX10_in_0 : decode cX10_in 0 = .ok (.lload_n 0, 1) := by decide +kernel
theorem dX10_in_1 : decode cX10_in 1 = .ok (.lload_n 2, 1) := by decide +kernel
theorem dX10_in_2 : decode cX10_in 2 = .ok (.lcmp, 1) := by decide +kernel
theorem dX10_in_3 : decode cX10_in 3 = .ok (.ifCond .lt 14, 3) := by decide +kernel
theorem dX10_in_6 : decode cX10_in 6 = .ok (.lload_n 0, 1) := by decide +kernel
theorem dX10_in_7 : decode cX10_in 7 = .ok (.lload 4, 2) := by decide +kernel
theorem dX10_in_9 : decode cX10_in 9 = .ok (.lcmp, 1) := by decide +kernel
theorem dX10_in_10 : decode cX10_in 10 = .ok (.ifCond .gt 7, 3) := by decide +kernel
theorem dX10_in_13 : decode cX10_in 13 = .ok (.iconst 1, 1) := by decide +kernel
theorem dX10_in_14 : decode cX10_in 14 = .ok (.goto 4, 3) := by decide +kernel
theorem dX10_in_17 : decode cX10_in 17 = .ok (.iconst 0, 1) := by decide +kernel
theorem dX10_in_18 : decode cX10_in 18 = .ok (.ireturn, 1) := by decide +kernel
theorem dX10_copy_0 : decode cX10_copy 0 = .ok (.iconst 0, 1) := by decide +kernel
theorem dX10_copy_1 : decode cX10_copy 1 = .ok (.istore_n 2, 1) := by decide +kernel
theorem dX10_copy_2 : decode cX10_copy 2 = .ok (.iload_n 2, 1) := by decide +kernel
theorem dX10_copy_3 : decode cX10_copy 3 = .ok (.aload_n 0, 1) := by decide +kernel
theorem dX10_copy_4 : decode cX10_copy 4 = .ok (.arraylength, 1) := by decide +kernel
theorem dX10_copy_5 : decode cX10_copy 5 = .ok (.if_icmp .ge 15, 3) := by decide +kernel
theorem dX10_copy_8 : decode cX10_copy 8 = .ok (.aload_n 1, 1) := by decide +kernel
theorem dX10_copy_9 : decode cX10_copy 9 = .ok (.iload_n 2, 1) := by decide +kernel
theorem dX10_copy_10 : decode cX10_copy 10 = .ok (.aload_n 0, 1) := by decide +kernel
theorem dX10_copy_11 : decode cX10_copy 11 = .ok (.iload_n 2, 1) := by decide +kernel
theorem dX10_copy_12 : decode cX10_copy 12 = .ok (.iaload, 1) := by decide +kernel
theorem dX10_copy_13 : decode cX10_copy 13 = .ok (.iastore, 1) := by decide +kernel
theorem dX10_copy_14 : decode cX10_copy 14 = .ok (.iinc 2 1, 3) := by decide +kernel
theorem dX10_copy_17 : decode cX10_copy 17 = .ok (.goto (-15), 3) := by decide +kernel
theorem dX10_copy_20 : decode cX10_copy 20 = .ok (.return_, 1) := by decide +kernel
theorem dX10_letter_0 : decode cX10_letter 0 = .ok (.iload_n 1, 1) := by decide +kernel
theorem dX10_letter_1 : decode cX10_letter 1 = .ok (.i2l, 1) := by decide +kernel
theorem dX10_letter_2 : decode cX10_letter 2 = .ok (.lconst 1, 1) := by decide +kernel
theorem dX10_letter_3 : decode cX10_letter 3 = .ok (.ldc2_w 38, 3) := by decide +kernel
theorem dX10_letter_6 : decode cX10_letter 6 = .ok (.invokestatic 40, 3) := by decide +kernel
theorem dX10_letter_9 : decode cX10_letter 9 = .ok (.ifCond .ne 6, 3) := by decide +kernel
theorem dX10_letter_12 : decode cX10_letter 12 = .ok (.bipush (-102), 2) := by decide +kernel
theorem dX10_letter_14 : decode cX10_letter 14 = .ok (.ireturn, 1) := by decide +kernel
theorem dX10_letter_15 : decode cX10_letter 15 = .ok (.aload_n 0, 1) := by decide +kernel
theorem dX10_letter_16 : decode cX10_letter 16 = .ok (.getfield 44, 3) := by decide +kernel
theorem dX10_letter_19 : decode cX10_letter 19 = .ok (.bipush 12, 2) := by decide +kernel
theorem dX10_letter_21 : decode cX10_letter 21 = .ok (.if_icmp .ne 6, 3) := by decide +kernel
theorem dX10_letter_24 : decode cX10_letter 24 = .ok (.bipush (-104), 2) := by decide +kernel
theorem dX10_letter_26 : decode cX10_letter 26 = .ok (.ireturn, 1) := by decide +kernel
theorem dX10_letter_27 : decode cX10_letter 27 = .ok (.aload_n 0, 1) := by decide +kernel
theorem dX10_letter_28 : decode cX10_letter 28 = .ok (.getfield 7, 3) := by decide +kernel
theorem dX10_letter_31 : decode cX10_letter 31 = .ok (.aload_n 0, 1) := by decide +kernel
theorem dX10_letter_32 : decode cX10_letter 32 = .ok (.getfield 44, 3) := by decide +kernel
theorem dX10_letter_35 : decode cX10_letter 35 = .ok (.iload_n 1, 1) := by decide +kernel
theorem dX10_letter_36 : decode cX10_letter 36 = .ok (.iastore, 1) := by decide +kernel
theorem dX10_letter_37 : decode cX10_letter 37 = .ok (.aload_n 0, 1) := by decide +kernel
theorem dX10_letter_38 : decode cX10_letter 38 = .ok (.dup, 1) := by decide +kernel
theorem dX10_letter_39 : decode cX10_letter 39 = .ok (.getfield 44, 3) := by decide +kernel
theorem dX10_letter_42 : decode cX10_letter 42 = .ok (.iconst 1, 1) := by decide +kernel
theorem dX10_letter_43 : decode cX10_letter 43 = .ok (.iadd, 1) := by decide +kernel
theorem dX10_letter_44 : decode cX10_letter 44 = .ok (.putfield 44, 3) := by decide +kernel
theorem dX10_letter_47 : decode cX10_letter 47 = .ok (.aload_n 0, 1) := by decide +kernel
theorem dX10_letter_48 : decode cX10_letter 48 = .ok (.getfield 44, 3) := by decide +kernel
theorem dX10_letter_51 : decode cX10_letter 51 = .ok (.ireturn, 1) := by decide +kernel
theorem dX10_blank_0 : decode cX10_blank 0 = .ok (.aload_n 0, 1) := by decide +kernel
theorem dX10_blank_1 : decode cX10_blank 1 = .ok (.getfield 44, 3) := by decide +kernel
theorem dX10_blank_4 : decode cX10_blank 4 = .ok (.istore_n 1, 1) := by decide +kernel
theorem dX10_blank_5 : decode cX10_blank 5 = .ok (.aload_n 0, 1) := by decide +kernel
theorem dX10_blank_6 : decode cX10_blank 6 = .ok (.iconst 0, 1) := by decide +kernel
theorem dX10_blank_7 : decode cX10_blank 7 = .ok (.putfield 44, 3) := by decide +kernel
theorem dX10_blank_10 : decode cX10_blank 10 = .ok (.iload_n 1, 1) := by decide +kernel
theorem dX10_blank_11 : decode cX10_blank 11 = .ok (.ireturn, 1) := by decide +kernel
theorem dX10_wordBy_0 : decode cX10_wordBy 0 = .ok (.iload_n 0, 1) := by decide +kernel
theorem dX10_wordBy_1 : decode cX10_wordBy 1 = .ok (.bipush 121, 2) := by decide +kernel
theorem dX10_wordBy_3 : decode cX10_wordBy 3 = .ok (.if_icmp .ne 7, 3) := by decide +kernel
theorem dX10_wordBy_6 : decode cX10_wordBy 6 = .ok (.iconst 0, 1) := by decide +kernel
theorem dX10_wordBy_7 : decode cX10_wordBy 7 = .ok (.goto 54, 3) := by decide +kernel
theorem dX10_wordBy_10 : decode cX10_wordBy 10 = .ok (.iload_n 0, 1) := by decide +kernel
theorem dX10_wordBy_11 : decode cX10_wordBy 11 = .ok (.bipush 110, 2) := by decide +kernel
theorem dX10_wordBy_13 : decode cX10_wordBy 13 = .ok (.if_icmp .ne 7, 3) := by decide +kernel
theorem dX10_wordBy_16 : decode cX10_wordBy 16 = .ok (.iconst 1, 1) := by decide +kernel
theorem dX10_wordBy_17 : decode cX10_wordBy 17 = .ok (.goto 44, 3) := by decide +kernel
theorem dX10_wordBy_20 : decode cX10_wordBy 20 = .ok (.iload_n 0, 1) := by decide +kernel
theorem dX10_wordBy_21 : decode cX10_wordBy 21 = .ok (.bipush 116, 2) := by decide +kernel
theorem dX10_wordBy_23 : decode cX10_wordBy 23 = .ok (.if_icmp .ne 7, 3) := by decide +kernel
theorem dX10_wordBy_26 : decode cX10_wordBy 26 = .ok (.iconst 2, 1) := by decide +kernel
theorem dX10_wordBy_27 : decode cX10_wordBy 27 = .ok (.goto 34, 3) := by decide +kernel
theorem dX10_wordBy_30 : decode cX10_wordBy 30 = .ok (.iload_n 0, 1) := by decide +kernel
theorem dX10_wordBy_31 : decode cX10_wordBy 31 = .ok (.bipush 117, 2) := by decide +kernel
theorem dX10_wordBy_33 : decode cX10_wordBy 33 = .ok (.if_icmp .ne 7, 3) := by decide +kernel
theorem dX10_wordBy_36 : decode cX10_wordBy 36 = .ok (.iconst 3, 1) := by decide +kernel
theorem dX10_wordBy_37 : decode cX10_wordBy 37 = .ok (.goto 24, 3) := by decide +kernel
theorem dX10_wordBy_40 : decode cX10_wordBy 40 = .ok (.iload_n 0, 1) := by decide +kernel
theorem dX10_wordBy_41 : decode cX10_wordBy 41 = .ok (.bipush 100, 2) := by decide +kernel
theorem dX10_wordBy_43 : decode cX10_wordBy 43 = .ok (.if_icmp .ne 7, 3) := by decide +kernel
theorem dX10_wordBy_46 : decode cX10_wordBy 46 = .ok (.iconst 4, 1) := by decide +kernel
theorem dX10_wordBy_47 : decode cX10_wordBy 47 = .ok (.goto 14, 3) := by decide +kernel
theorem dX10_wordBy_50 : decode cX10_wordBy 50 = .ok (.iload_n 0, 1) := by decide +kernel
theorem dX10_wordBy_51 : decode cX10_wordBy 51 = .ok (.bipush 46, 2) := by decide +kernel
theorem dX10_wordBy_53 : decode cX10_wordBy 53 = .ok (.if_icmp .ne 7, 3) := by decide +kernel
theorem dX10_wordBy_56 : decode cX10_wordBy 56 = .ok (.iconst 5, 1) := by decide +kernel
theorem dX10_wordBy_57 : decode cX10_wordBy 57 = .ok (.goto 4, 3) := by decide +kernel
theorem dX10_wordBy_60 : decode cX10_wordBy 60 = .ok (.iconst (-1), 1) := by decide +kernel
theorem dX10_wordBy_61 : decode cX10_wordBy 61 = .ok (.ireturn, 1) := by decide +kernel
theorem dX10_go_0 : decode cX10_go 0 = .ok (.aload_n 0, 1) := by decide +kernel
theorem dX10_go_1 : decode cX10_go 1 = .ok (.getfield 47, 3) := by decide +kernel
theorem dX10_go_4 : decode cX10_go 4 = .ok (.ifCond .ne 23, 3) := by decide +kernel
theorem dX10_go_7 : decode cX10_go 7 = .ok (.iload_n 1, 1) := by decide +kernel
theorem dX10_go_8 : decode cX10_go 8 = .ok (.bipush 59, 2) := by decide +kernel
theorem dX10_go_10 : decode cX10_go 10 = .ok (.if_icmp .ne 17, 3) := by decide +kernel
theorem dX10_go_13 : decode cX10_go 13 = .ok (.aload_n 0, 1) := by decide +kernel
theorem dX10_go_14 : decode cX10_go 14 = .ok (.getfield 50, 3) := by decide +kernel
theorem dX10_go_17 : decode cX10_go 17 = .ok (.ifCond .le 10, 3) := by decide +kernel
theorem dX10_go_20 : decode cX10_go 20 = .ok (.aload_n 0, 1) := by decide +kernel
theorem dX10_go_21 : decode cX10_go 21 = .ok (.iconst 1, 1) := by decide +kernel
theorem dX10_go_22 : decode cX10_go 22 = .ok (.putfield 47, 3) := by decide +kernel
theorem dX10_go_25 : decode cX10_go 25 = .ok (.iconst 1, 1) := by decide +kernel
theorem dX10_go_26 : decode cX10_go 26 = .ok (.ireturn, 1) := by decide +kernel
theorem dX10_go_27 : decode cX10_go 27 = .ok (.aload_n 0, 1) := by decide +kernel
theorem dX10_go_28 : decode cX10_go 28 = .ok (.getfield 47, 3) := by decide +kernel
theorem dX10_go_31 : decode cX10_go 31 = .ok (.ifCond .ne 36, 3) := by decide +kernel
theorem dX10_go_34 : decode cX10_go 34 = .ok (.aload_n 0, 1) := by decide +kernel
theorem dX10_go_35 : decode cX10_go 35 = .ok (.dup, 1) := by decide +kernel
theorem dX10_go_36 : decode cX10_go 36 = .ok (.getfield 50, 3) := by decide +kernel
theorem dX10_go_39 : decode cX10_go 39 = .ok (.iconst 1, 1) := by decide +kernel
theorem dX10_go_40 : decode cX10_go 40 = .ok (.iadd, 1) := by decide +kernel
theorem dX10_go_41 : decode cX10_go 41 = .ok (.putfield 50, 3) := by decide +kernel
theorem dX10_go_44 : decode cX10_go 44 = .ok (.aload_n 0, 1) := by decide +kernel
theorem dX10_go_45 : decode cX10_go 45 = .ok (.getfield 50, 3) := by decide +kernel
theorem dX10_go_48 : decode cX10_go 48 = .ok (.bipush 10, 2) := by decide +kernel
theorem dX10_go_50 : decode cX10_go 50 = .ok (.if_icmp .ge 15, 3) := by decide +kernel
theorem dX10_go_53 : decode cX10_go 53 = .ok (.iload_n 1, 1) := by decide +kernel
theorem dX10_go_54 : decode cX10_go 54 = .ok (.invokestatic 53, 3) := by decide +kernel
theorem dX10_go_57 : decode cX10_go 57 = .ok (.iconst (-1), 1) := by decide +kernel
theorem dX10_go_58 : decode cX10_go 58 = .ok (.if_icmp .eq 7, 3) := by decide +kernel
theorem dX10_go_61 : decode cX10_go 61 = .ok (.iconst 1, 1) := by decide +kernel
theorem dX10_go_62 : decode cX10_go 62 = .ok (.goto 4, 3) := by decide +kernel
theorem dX10_go_65 : decode cX10_go 65 = .ok (.iconst 0, 1) := by decide +kernel
theorem dX10_go_66 : decode cX10_go 66 = .ok (.ireturn, 1) := by decide +kernel
theorem dX10_go_67 : decode cX10_go 67 = .ok (.aload_n 0, 1) := by decide +kernel
theorem dX10_go_68 : decode cX10_go 68 = .ok (.getfield 47, 3) := by decide +kernel
theorem dX10_go_71 : decode cX10_go 71 = .ok (.istore_n 2, 1) := by decide +kernel
theorem dX10_go_72 : decode cX10_go 72 = .ok (.aload_n 0, 1) := by decide +kernel
theorem dX10_go_73 : decode cX10_go 73 = .ok (.iconst 2, 1) := by decide +kernel
theorem dX10_go_74 : decode cX10_go 74 = .ok (.putfield 47, 3) := by decide +kernel
theorem dX10_go_77 : decode cX10_go 77 = .ok (.iload_n 2, 1) := by decide +kernel
theorem dX10_go_78 : decode cX10_go 78 = .ok (.iconst 1, 1) := by decide +kernel
theorem dX10_go_79 : decode cX10_go 79 = .ok (.if_icmp .ne 21, 3) := by decide +kernel
theorem dX10_go_82 : decode cX10_go 82 = .ok (.iload_n 1, 1) := by decide +kernel
theorem dX10_go_83 : decode cX10_go 83 = .ok (.i2l, 1) := by decide +kernel
theorem dX10_go_84 : decode cX10_go 84 = .ok (.ldc2_w 57, 3) := by decide +kernel
theorem dX10_go_87 : decode cX10_go 87 = .ok (.ldc2_w 59, 3) := by decide +kernel
theorem dX10_go_90 : decode cX10_go 90 = .ok (.invokestatic 40, 3) := by decide +kernel
theorem dX10_go_93 : decode cX10_go 93 = .ok (.ifCond .eq 7, 3) := by decide +kernel
theorem dX10_go_96 : decode cX10_go 96 = .ok (.iconst 1, 1) := by decide +kernel
theorem dX10_go_97 : decode cX10_go 97 = .ok (.goto 4, 3) := by decide +kernel
theorem dX10_go_100 : decode cX10_go 100 = .ok (.iconst 0, 1) := by decide +kernel
theorem dX10_go_101 : decode cX10_go 101 = .ok (.ireturn, 1) := by decide +kernel
theorem dX10_faultOf_0 : decode cX10_faultOf 0 = .ok (.aload_n 0, 1) := by decide +kernel
theorem dX10_faultOf_1 : decode cX10_faultOf 1 = .ok (.iconst 0, 1) := by decide +kernel
theorem dX10_faultOf_2 : decode cX10_faultOf 2 = .ok (.putfield 47, 3) := by decide +kernel
theorem dX10_faultOf_5 : decode cX10_faultOf 5 = .ok (.aload_n 0, 1) := by decide +kernel
theorem dX10_faultOf_6 : decode cX10_faultOf 6 = .ok (.iconst 0, 1) := by decide +kernel
theorem dX10_faultOf_7 : decode cX10_faultOf 7 = .ok (.putfield 50, 3) := by decide +kernel
theorem dX10_faultOf_10 : decode cX10_faultOf 10 = .ok (.iconst 0, 1) := by decide +kernel
theorem dX10_faultOf_11 : decode cX10_faultOf 11 = .ok (.istore_n 1, 1) := by decide +kernel
theorem dX10_faultOf_12 : decode cX10_faultOf 12 = .ok (.iload_n 1, 1) := by decide +kernel
theorem dX10_faultOf_13 : decode cX10_faultOf 13 = .ok (.aload_n 0, 1) := by decide +kernel
theorem dX10_faultOf_14 : decode cX10_faultOf 14 = .ok (.getfield 44, 3) := by decide +kernel
theorem dX10_faultOf_17 : decode cX10_faultOf 17 = .ok (.if_icmp .ge 22, 3) := by decide +kernel
theorem dX10_faultOf_20 : decode cX10_faultOf 20 = .ok (.aload_n 0, 1) := by decide +kernel
theorem dX10_faultOf_21 : decode cX10_faultOf 21 = .ok (.aload_n 0, 1) := by decide +kernel
theorem dX10_faultOf_22 : decode cX10_faultOf 22 = .ok (.getfield 7, 3) := by decide +kernel
theorem dX10_faultOf_25 : decode cX10_faultOf 25 = .ok (.iload_n 1, 1) := by decide +kernel
theorem dX10_faultOf_26 : decode cX10_faultOf 26 = .ok (.iaload, 1) := by decide +kernel
theorem dX10_faultOf_27 : decode cX10_faultOf 27 = .ok (.invokevirtual 61, 3) := by decide +kernel
theorem dX10_faultOf_30 : decode cX10_faultOf 30 = .ok (.ifCond .eq 9, 3) := by decide +kernel
theorem dX10_faultOf_33 : decode cX10_faultOf 33 = .ok (.iinc 1 1, 3) := by decide +kernel
theorem dX10_faultOf_36 : decode cX10_faultOf 36 = .ok (.goto (-24), 3) := by decide +kernel
theorem dX10_faultOf_39 : decode cX10_faultOf 39 = .ok (.iload_n 1, 1) := by decide +kernel
theorem dX10_faultOf_40 : decode cX10_faultOf 40 = .ok (.ireturn, 1) := by decide +kernel
theorem dX10_fault_0 : decode cX10_fault 0 = .ok (.aload_n 0, 1) := by decide +kernel
theorem dX10_fault_1 : decode cX10_fault 1 = .ok (.invokevirtual 65, 3) := by decide +kernel
theorem dX10_fault_4 : decode cX10_fault 4 = .ok (.ireturn, 1) := by decide +kernel
theorem dX10_take_0 : decode cX10_take 0 = .ok (.aload_n 0, 1) := by decide +kernel
theorem dX10_take_1 : decode cX10_take 1 = .ok (.invokevirtual 65, 3) := by decide +kernel
theorem dX10_take_4 : decode cX10_take 4 = .ok (.aload_n 0, 1) := by decide +kernel
theorem dX10_take_5 : decode cX10_take 5 = .ok (.getfield 44, 3) := by decide +kernel
theorem dX10_take_8 : decode cX10_take 8 = .ok (.if_icmp .lt 11, 3) := by decide +kernel
theorem dX10_take_11 : decode cX10_take 11 = .ok (.aload_n 0, 1) := by decide +kernel
theorem dX10_take_12 : decode cX10_take 12 = .ok (.getfield 47, 3) := by decide +kernel
theorem dX10_take_15 : decode cX10_take 15 = .ok (.iconst 2, 1) := by decide +kernel
theorem dX10_take_16 : decode cX10_take 16 = .ok (.if_icmp .eq 6, 3) := by decide +kernel
theorem dX10_take_19 : decode cX10_take 19 = .ok (.bipush (-103), 2) := by decide +kernel
theorem dX10_take_21 : decode cX10_take 21 = .ok (.ireturn, 1) := by decide +kernel
theorem dX10_take_22 : decode cX10_take 22 = .ok (.aload_n 0, 1) := by decide +kernel
theorem dX10_take_23 : decode cX10_take 23 = .ok (.aload_n 0, 1) := by decide +kernel
theorem dX10_take_24 : decode cX10_take 24 = .ok (.getfield 50, 3) := by decide +kernel
theorem dX10_take_27 : decode cX10_take 27 = .ok (.putfield 69, 3) := by decide +kernel
theorem dX10_take_30 : decode cX10_take 30 = .ok (.iconst 0, 1) := by decide +kernel
theorem dX10_take_31 : decode cX10_take 31 = .ok (.istore_n 1, 1) := by decide +kernel
theorem dX10_take_32 : decode cX10_take 32 = .ok (.iload_n 1, 1) := by decide +kernel
theorem dX10_take_33 : decode cX10_take 33 = .ok (.aload_n 0, 1) := by decide +kernel
theorem dX10_take_34 : decode cX10_take 34 = .ok (.getfield 69, 3) := by decide +kernel
theorem dX10_take_37 : decode cX10_take 37 = .ok (.if_icmp .ge 24, 3) := by decide +kernel
theorem dX10_take_40 : decode cX10_take 40 = .ok (.aload_n 0, 1) := by decide +kernel
theorem dX10_take_41 : decode cX10_take 41 = .ok (.getfield 13, 3) := by decide +kernel
theorem dX10_take_44 : decode cX10_take 44 = .ok (.iload_n 1, 1) := by decide +kernel
theorem dX10_take_45 : decode cX10_take 45 = .ok (.aload_n 0, 1) := by decide +kernel
theorem dX10_take_46 : decode cX10_take 46 = .ok (.getfield 7, 3) := by decide +kernel
theorem dX10_take_49 : decode cX10_take 49 = .ok (.iload_n 1, 1) := by decide +kernel
theorem dX10_take_50 : decode cX10_take 50 = .ok (.iaload, 1) := by decide +kernel
theorem dX10_take_51 : decode cX10_take 51 = .ok (.invokestatic 53, 3) := by decide +kernel
theorem dX10_take_54 : decode cX10_take 54 = .ok (.iastore, 1) := by decide +kernel
theorem dX10_take_55 : decode cX10_take 55 = .ok (.iinc 1 1, 3) := by decide +kernel
theorem dX10_take_58 : decode cX10_take 58 = .ok (.goto (-26), 3) := by decide +kernel
theorem dX10_take_61 : decode cX10_take 61 = .ok (.aload_n 0, 1) := by decide +kernel
theorem dX10_take_62 : decode cX10_take 62 = .ok (.aload_n 0, 1) := by decide +kernel
theorem dX10_take_63 : decode cX10_take 63 = .ok (.getfield 7, 3) := by decide +kernel
theorem dX10_take_66 : decode cX10_take 66 = .ok (.aload_n 0, 1) := by decide +kernel
theorem dX10_take_67 : decode cX10_take 67 = .ok (.getfield 44, 3) := by decide +kernel
theorem dX10_take_70 : decode cX10_take 70 = .ok (.iconst 1, 1) := by decide +kernel
theorem dX10_take_71 : decode cX10_take 71 = .ok (.isub, 1) := by decide +kernel
theorem dX10_take_72 : decode cX10_take 72 = .ok (.iaload, 1) := by decide +kernel
theorem dX10_take_73 : decode cX10_take 73 = .ok (.bipush 48, 2) := by decide +kernel
theorem dX10_take_75 : decode cX10_take 75 = .ok (.isub, 1) := by decide +kernel
theorem dX10_take_76 : decode cX10_take 76 = .ok (.putfield 72, 3) := by decide +kernel
theorem dX10_take_79 : decode cX10_take 79 = .ok (.aload_n 0, 1) := by decide +kernel
theorem dX10_take_80 : decode cX10_take 80 = .ok (.iconst 0, 1) := by decide +kernel
theorem dX10_take_81 : decode cX10_take 81 = .ok (.putfield 75, 3) := by decide +kernel
theorem dX10_take_84 : decode cX10_take 84 = .ok (.aload_n 0, 1) := by decide +kernel
theorem dX10_take_85 : decode cX10_take 85 = .ok (.iconst 0, 1) := by decide +kernel
theorem dX10_take_86 : decode cX10_take 86 = .ok (.putfield 78, 3) := by decide +kernel
theorem dX10_take_89 : decode cX10_take 89 = .ok (.aload_n 0, 1) := by decide +kernel
theorem dX10_take_90 : decode cX10_take 90 = .ok (.iconst 0, 1) := by decide +kernel
theorem dX10_take_91 : decode cX10_take 91 = .ok (.putfield 81, 3) := by decide +kernel
theorem dX10_take_94 : decode cX10_take 94 = .ok (.aload_n 0, 1) := by decide +kernel
theorem dX10_take_95 : decode cX10_take 95 = .ok (.dup, 1) := by decide +kernel
theorem dX10_take_96 : decode cX10_take 96 = .ok (.getfield 84, 3) := by decide +kernel
theorem dX10_take_99 : decode cX10_take 99 = .ok (.iconst 1, 1) := by decide +kernel
theorem dX10_take_100 : decode cX10_take 100 = .ok (.iadd, 1) := by decide +kernel
theorem dX10_take_101 : decode cX10_take 101 = .ok (.putfield 84, 3) := by decide +kernel
theorem dX10_take_104 : decode cX10_take 104 = .ok (.aload_n 0, 1) := by decide +kernel
theorem dX10_take_105 : decode cX10_take 105 = .ok (.iconst 0, 1) := by decide +kernel
theorem dX10_take_106 : decode cX10_take 106 = .ok (.putfield 44, 3) := by decide +kernel
theorem dX10_take_109 : decode cX10_take 109 = .ok (.aload_n 0, 1) := by decide +kernel
theorem dX10_take_110 : decode cX10_take 110 = .ok (.getfield 69, 3) := by decide +kernel
theorem dX10_take_113 : decode cX10_take 113 = .ok (.ireturn, 1) := by decide +kernel
theorem dX10_isWord_0 : decode cX10_isWord 0 = .ok (.iload_n 1, 1) := by decide +kernel
theorem dX10_isWord_1 : decode cX10_isWord 1 = .ok (.i2l, 1) := by decide +kernel
theorem dX10_isWord_2 : decode cX10_isWord 2 = .ok (.lconst 0, 1) := by decide +kernel
theorem dX10_isWord_3 : decode cX10_isWord 3 = .ok (.aload_n 0, 1) := by decide +kernel
theorem dX10_isWord_4 : decode cX10_isWord 4 = .ok (.getfield 69, 3) := by decide +kernel
theorem dX10_isWord_7 : decode cX10_isWord 7 = .ok (.iconst 1, 1) := by decide +kernel
theorem dX10_isWord_8 : decode cX10_isWord 8 = .ok (.isub, 1) := by decide +kernel
theorem dX10_isWord_9 : decode cX10_isWord 9 = .ok (.i2l, 1) := by decide +kernel
theorem dX10_isWord_10 : decode cX10_isWord 10 = .ok (.invokestatic 40, 3) := by decide +kernel
theorem dX10_isWord_13 : decode cX10_isWord 13 = .ok (.ireturn, 1) := by decide +kernel
theorem dX10_isListener_0 : decode cX10_isListener 0 = .ok (.iload_n 1, 1) := by decide +kernel
theorem dX10_isListener_1 : decode cX10_isListener 1 = .ok (.i2l, 1) := by decide +kernel
theorem dX10_isListener_2 : decode cX10_isListener 2 = .ok (.lconst 0, 1) := by decide +kernel
theorem dX10_isListener_3 : decode cX10_isListener 3 = .ok (.aload_n 0, 1) := by decide +kernel
theorem dX10_isListener_4 : decode cX10_isListener 4 = .ok (.getfield 78, 3) := by decide +kernel
theorem dX10_isListener_7 : decode cX10_isListener 7 = .ok (.iconst 1, 1) := by decide +kernel
theorem dX10_isListener_8 : decode cX10_isListener 8 = .ok (.isub, 1) := by decide +kernel
theorem dX10_isListener_9 : decode cX10_isListener 9 = .ok (.i2l, 1) := by decide +kernel
theorem dX10_isListener_10 : decode cX10_isListener 10 = .ok (.invokestatic 40, 3) := by decide +kernel
theorem dX10_isListener_13 : decode cX10_isListener 13 = .ok (.ireturn, 1) := by decide +kernel
theorem dX10_begin_0 : decode cX10_begin 0 = .ok (.aload_n 0, 1) := by decide +kernel
theorem dX10_begin_1 : decode cX10_begin 1 = .ok (.iconst 0, 1) := by decide +kernel
theorem dX10_begin_2 : decode cX10_begin 2 = .ok (.putfield 87, 3) := by decide +kernel
theorem dX10_begin_5 : decode cX10_begin 5 = .ok (.aload_n 0, 1) := by decide +kernel
theorem dX10_begin_6 : decode cX10_begin 6 = .ok (.iconst 0, 1) := by decide +kernel
theorem dX10_begin_7 : decode cX10_begin 7 = .ok (.putfield 90, 3) := by decide +kernel
theorem dX10_begin_10 : decode cX10_begin 10 = .ok (.aload_n 0, 1) := by decide +kernel
theorem dX10_begin_11 : decode cX10_begin 11 = .ok (.iconst 0, 1) := by decide +kernel
theorem dX10_begin_12 : decode cX10_begin 12 = .ok (.putfield 94, 3) := by decide +kernel
theorem dX10_begin_15 : decode cX10_begin 15 = .ok (.aload_n 0, 1) := by decide +kernel
theorem dX10_begin_16 : decode cX10_begin 16 = .ok (.iconst 0, 1) := by decide +kernel
theorem dX10_begin_17 : decode cX10_begin 17 = .ok (.putfield 97, 3) := by decide +kernel
theorem dX10_begin_20 : decode cX10_begin 20 = .ok (.aload_n 0, 1) := by decide +kernel
theorem dX10_begin_21 : decode cX10_begin 21 = .ok (.iconst 0, 1) := by decide +kernel
theorem dX10_begin_22 : decode cX10_begin 22 = .ok (.putfield 100, 3) := by decide +kernel
theorem dX10_begin_25 : decode cX10_begin 25 = .ok (.return_, 1) := by decide +kernel
theorem dX10_readWord_0 : decode cX10_readWord 0 = .ok (.iload_n 1, 1) := by decide +kernel
theorem dX10_readWord_1 : decode cX10_readWord 1 = .ok (.tableswitch 137 0 4 #[35, 64, 93, 112, 124], 35) := by decide +kernel
theorem dX10_readWord_36 : decode cX10_readWord 36 = .ok (.aload_n 0, 1) := by decide +kernel
theorem dX10_readWord_37 : decode cX10_readWord 37 = .ok (.dup, 1) := by decide +kernel
theorem dX10_readWord_38 : decode cX10_readWord 38 = .ok (.getfield 87, 3) := by decide +kernel
theorem dX10_readWord_41 : decode cX10_readWord 41 = .ok (.aload_n 0, 1) := by decide +kernel
theorem dX10_readWord_42 : decode cX10_readWord 42 = .ok (.getfield 90, 3) := by decide +kernel
theorem dX10_readWord_45 : decode cX10_readWord 45 = .ok (.ifCond .eq 7, 3) := by decide +kernel
theorem dX10_readWord_48 : decode cX10_readWord 48 = .ok (.iconst (-1), 1) := by decide +kernel
theorem dX10_readWord_49 : decode cX10_readWord 49 = .ok (.goto 4, 3) := by decide +kernel
theorem dX10_readWord_52 : decode cX10_readWord 52 = .ok (.iconst 1, 1) := by decide +kernel
theorem dX10_readWord_53 : decode cX10_readWord 53 = .ok (.iadd, 1) := by decide +kernel
theorem dX10_readWord_54 : decode cX10_readWord 54 = .ok (.putfield 87, 3) := by decide +kernel
theorem dX10_readWord_57 : decode cX10_readWord 57 = .ok (.aload_n 0, 1) := by decide +kernel
theorem dX10_readWord_58 : decode cX10_readWord 58 = .ok (.iconst 0, 1) := by decide +kernel
theorem dX10_readWord_59 : decode cX10_readWord 59 = .ok (.putfield 90, 3) := by decide +kernel
theorem dX10_readWord_62 : decode cX10_readWord 62 = .ok (.goto 86, 3) := by decide +kernel
theorem dX10_readWord_65 : decode cX10_readWord 65 = .ok (.aload_n 0, 1) := by decide +kernel
theorem dX10_readWord_66 : decode cX10_readWord 66 = .ok (.dup, 1) := by decide +kernel
theorem dX10_readWord_67 : decode cX10_readWord 67 = .ok (.getfield 87, 3) := by decide +kernel
theorem dX10_readWord_70 : decode cX10_readWord 70 = .ok (.aload_n 0, 1) := by decide +kernel
theorem dX10_readWord_71 : decode cX10_readWord 71 = .ok (.getfield 90, 3) := by decide +kernel
theorem dX10_readWord_74 : decode cX10_readWord 74 = .ok (.ifCond .eq 7, 3) := by decide +kernel
theorem dX10_readWord_77 : decode cX10_readWord 77 = .ok (.iconst 1, 1) := by decide +kernel
theorem dX10_readWord_78 : decode cX10_readWord 78 = .ok (.goto 4, 3) := by decide +kernel
theorem dX10_readWord_81 : decode cX10_readWord 81 = .ok (.iconst (-1), 1) := by decide +kernel
theorem dX10_readWord_82 : decode cX10_readWord 82 = .ok (.iadd, 1) := by decide +kernel
theorem dX10_readWord_83 : decode cX10_readWord 83 = .ok (.putfield 87, 3) := by decide +kernel
theorem dX10_readWord_86 : decode cX10_readWord 86 = .ok (.aload_n 0, 1) := by decide +kernel
theorem dX10_readWord_87 : decode cX10_readWord 87 = .ok (.iconst 0, 1) := by decide +kernel
theorem dX10_readWord_88 : decode cX10_readWord 88 = .ok (.putfield 90, 3) := by decide +kernel
theorem dX10_readWord_91 : decode cX10_readWord 91 = .ok (.goto 57, 3) := by decide +kernel
theorem dX10_readWord_94 : decode cX10_readWord 94 = .ok (.aload_n 0, 1) := by decide +kernel
theorem dX10_readWord_95 : decode cX10_readWord 95 = .ok (.aload_n 0, 1) := by decide +kernel
theorem dX10_readWord_96 : decode cX10_readWord 96 = .ok (.getfield 90, 3) := by decide +kernel
theorem dX10_readWord_99 : decode cX10_readWord 99 = .ok (.ifCond .ne 7, 3) := by decide +kernel
theorem dX10_readWord_102 : decode cX10_readWord 102 = .ok (.iconst 1, 1) := by decide +kernel
theorem dX10_readWord_103 : decode cX10_readWord 103 = .ok (.goto 4, 3) := by decide +kernel
theorem dX10_readWord_106 : decode cX10_readWord 106 = .ok (.iconst 0, 1) := by decide +kernel
theorem dX10_readWord_107 : decode cX10_readWord 107 = .ok (.putfield 90, 3) := by decide +kernel
theorem dX10_readWord_110 : decode cX10_readWord 110 = .ok (.goto 38, 3) := by decide +kernel
theorem dX10_readWord_113 : decode cX10_readWord 113 = .ok (.aload_n 0, 1) := by decide +kernel
theorem dX10_readWord_114 : decode cX10_readWord 114 = .ok (.aload_n 0, 1) := by decide +kernel
theorem dX10_readWord_115 : decode cX10_readWord 115 = .ok (.getfield 87, 3) := by decide +kernel
theorem dX10_readWord_118 : decode cX10_readWord 118 = .ok (.ineg, 1) := by decide +kernel
theorem dX10_readWord_119 : decode cX10_readWord 119 = .ok (.putfield 87, 3) := by decide +kernel
theorem dX10_readWord_122 : decode cX10_readWord 122 = .ok (.goto 26, 3) := by decide +kernel
theorem dX10_readWord_125 : decode cX10_readWord 125 = .ok (.aload_n 0, 1) := by decide +kernel
theorem dX10_readWord_126 : decode cX10_readWord 126 = .ok (.dup, 1) := by decide +kernel
theorem dX10_readWord_127 : decode cX10_readWord 127 = .ok (.getfield 87, 3) := by decide +kernel
theorem dX10_readWord_130 : decode cX10_readWord 130 = .ok (.iconst 1, 1) := by decide +kernel
theorem dX10_readWord_131 : decode cX10_readWord 131 = .ok (.iadd, 1) := by decide +kernel
theorem dX10_readWord_132 : decode cX10_readWord 132 = .ok (.putfield 87, 3) := by decide +kernel
theorem dX10_readWord_135 : decode cX10_readWord 135 = .ok (.goto 13, 3) := by decide +kernel
theorem dX10_readWord_138 : decode cX10_readWord 138 = .ok (.aload_n 0, 1) := by decide +kernel
theorem dX10_readWord_139 : decode cX10_readWord 139 = .ok (.dup, 1) := by decide +kernel
theorem dX10_readWord_140 : decode cX10_readWord 140 = .ok (.getfield 94, 3) := by decide +kernel
theorem dX10_readWord_143 : decode cX10_readWord 143 = .ok (.iconst 1, 1) := by decide +kernel
theorem dX10_readWord_144 : decode cX10_readWord 144 = .ok (.iadd, 1) := by decide +kernel
theorem dX10_readWord_145 : decode cX10_readWord 145 = .ok (.putfield 94, 3) := by decide +kernel
theorem dX10_readWord_148 : decode cX10_readWord 148 = .ok (.aload_n 0, 1) := by decide +kernel
theorem dX10_readWord_149 : decode cX10_readWord 149 = .ok (.dup, 1) := by decide +kernel
theorem dX10_readWord_150 : decode cX10_readWord 150 = .ok (.getfield 97, 3) := by decide +kernel
theorem dX10_readWord_153 : decode cX10_readWord 153 = .ok (.iconst 1, 1) := by decide +kernel
theorem dX10_readWord_154 : decode cX10_readWord 154 = .ok (.iadd, 1) := by decide +kernel
theorem dX10_readWord_155 : decode cX10_readWord 155 = .ok (.putfield 97, 3) := by decide +kernel
theorem dX10_readWord_158 : decode cX10_readWord 158 = .ok (.return_, 1) := by decide +kernel
theorem dX10_shutsAt_0 : decode cX10_shutsAt 0 = .ok (.iload_n 1, 1) := by decide +kernel
theorem dX10_shutsAt_1 : decode cX10_shutsAt 1 = .ok (.iconst 1, 1) := by decide +kernel
theorem dX10_shutsAt_2 : decode cX10_shutsAt 2 = .ok (.if_icmp .eq 8, 3) := by decide +kernel
theorem dX10_shutsAt_5 : decode cX10_shutsAt 5 = .ok (.iload_n 1, 1) := by decide +kernel
theorem dX10_shutsAt_6 : decode cX10_shutsAt 6 = .ok (.iconst 4, 1) := by decide +kernel
theorem dX10_shutsAt_7 : decode cX10_shutsAt 7 = .ok (.if_icmp .ne 7, 3) := by decide +kernel
theorem dX10_shutsAt_10 : decode cX10_shutsAt 10 = .ok (.iconst 1, 1) := by decide +kernel
theorem dX10_shutsAt_11 : decode cX10_shutsAt 11 = .ok (.goto 4, 3) := by decide +kernel
theorem dX10_shutsAt_14 : decode cX10_shutsAt 14 = .ok (.iconst 0, 1) := by decide +kernel
theorem dX10_shutsAt_15 : decode cX10_shutsAt 15 = .ok (.istore_n 3, 1) := by decide +kernel
theorem dX10_shutsAt_16 : decode cX10_shutsAt 16 = .ok (.aload_n 0, 1) := by decide +kernel
theorem dX10_shutsAt_17 : decode cX10_shutsAt 17 = .ok (.getfield 87, 3) := by decide +kernel
theorem dX10_shutsAt_20 : decode cX10_shutsAt 20 = .ok (.iconst (-1), 1) := by decide +kernel
theorem dX10_shutsAt_21 : decode cX10_shutsAt 21 = .ok (.if_icmp .lt 43, 3) := by decide +kernel
theorem dX10_shutsAt_24 : decode cX10_shutsAt 24 = .ok (.iload_n 3, 1) := by decide +kernel
theorem dX10_shutsAt_25 : decode cX10_shutsAt 25 = .ok (.ifCond .eq 8, 3) := by decide +kernel
theorem dX10_shutsAt_28 : decode cX10_shutsAt 28 = .ok (.iload_n 2, 1) := by decide +kernel
theorem dX10_shutsAt_29 : decode cX10_shutsAt 29 = .ok (.iconst 4, 1) := by decide +kernel
theorem dX10_shutsAt_30 : decode cX10_shutsAt 30 = .ok (.if_icmp .eq 34, 3) := by decide +kernel
theorem dX10_shutsAt_33 : decode cX10_shutsAt 33 = .ok (.iload_n 1, 1) := by decide +kernel
theorem dX10_shutsAt_34 : decode cX10_shutsAt 34 = .ok (.iconst 3, 1) := by decide +kernel
theorem dX10_shutsAt_35 : decode cX10_shutsAt 35 = .ok (.if_icmp .ne 16, 3) := by decide +kernel
theorem dX10_shutsAt_38 : decode cX10_shutsAt 38 = .ok (.iload_n 2, 1) := by decide +kernel
theorem dX10_shutsAt_39 : decode cX10_shutsAt 39 = .ok (.iconst 5, 1) := by decide +kernel
theorem dX10_shutsAt_40 : decode cX10_shutsAt 40 = .ok (.if_icmp .ne 11, 3) := by decide +kernel
theorem dX10_shutsAt_43 : decode cX10_shutsAt 43 = .ok (.aload_n 0, 1) := by decide +kernel
theorem dX10_shutsAt_44 : decode cX10_shutsAt 44 = .ok (.getfield 94, 3) := by decide +kernel
theorem dX10_shutsAt_47 : decode cX10_shutsAt 47 = .ok (.iconst 2, 1) := by decide +kernel
theorem dX10_shutsAt_48 : decode cX10_shutsAt 48 = .ok (.if_icmp .eq 16, 3) := by decide +kernel
theorem dX10_shutsAt_51 : decode cX10_shutsAt 51 = .ok (.iload_n 1, 1) := by decide +kernel
theorem dX10_shutsAt_52 : decode cX10_shutsAt 52 = .ok (.iconst 4, 1) := by decide +kernel
theorem dX10_shutsAt_53 : decode cX10_shutsAt 53 = .ok (.if_icmp .ne 15, 3) := by decide +kernel
theorem dX10_shutsAt_56 : decode cX10_shutsAt 56 = .ok (.aload_n 0, 1) := by decide +kernel
theorem dX10_shutsAt_57 : decode cX10_shutsAt 57 = .ok (.getfield 87, 3) := by decide +kernel
theorem dX10_shutsAt_60 : decode cX10_shutsAt 60 = .ok (.iconst 1, 1) := by decide +kernel
theorem dX10_shutsAt_61 : decode cX10_shutsAt 61 = .ok (.if_icmp .le 7, 3) := by decide +kernel
theorem dX10_shutsAt_64 : decode cX10_shutsAt 64 = .ok (.iconst 1, 1) := by decide +kernel
theorem dX10_shutsAt_65 : decode cX10_shutsAt 65 = .ok (.goto 4, 3) := by decide +kernel
theorem dX10_shutsAt_68 : decode cX10_shutsAt 68 = .ok (.iconst 0, 1) := by decide +kernel
theorem dX10_shutsAt_69 : decode cX10_shutsAt 69 = .ok (.istore 4, 2) := by decide +kernel
theorem dX10_shutsAt_71 : decode cX10_shutsAt 71 = .ok (.iload 4, 2) := by decide +kernel
theorem dX10_shutsAt_73 : decode cX10_shutsAt 73 = .ok (.ifCond .eq 12, 3) := by decide +kernel
theorem dX10_shutsAt_76 : decode cX10_shutsAt 76 = .ok (.iload_n 1, 1) := by decide +kernel
theorem dX10_shutsAt_77 : decode cX10_shutsAt 77 = .ok (.iconst 2, 1) := by decide +kernel
theorem dX10_shutsAt_78 : decode cX10_shutsAt 78 = .ok (.if_icmp .eq 7, 3) := by decide +kernel
theorem dX10_shutsAt_81 : decode cX10_shutsAt 81 = .ok (.iconst 1, 1) := by decide +kernel
theorem dX10_shutsAt_82 : decode cX10_shutsAt 82 = .ok (.goto 4, 3) := by decide +kernel
theorem dX10_shutsAt_85 : decode cX10_shutsAt 85 = .ok (.iconst 0, 1) := by decide +kernel
theorem dX10_shutsAt_86 : decode cX10_shutsAt 86 = .ok (.ireturn, 1) := by decide +kernel
theorem dX10_read_0 : decode cX10_read 0 = .ok (.aload_n 0, 1) := by decide +kernel
theorem dX10_read_1 : decode cX10_read 1 = .ok (.invokevirtual 103, 3) := by decide +kernel
theorem dX10_read_4 : decode cX10_read 4 = .ok (.iload 4, 2) := by decide +kernel
theorem dX10_read_6 : decode cX10_read 6 = .ok (.ifCond .ne 8, 3) := by decide +kernel
theorem dX10_read_9 : decode cX10_read 9 = .ok (.iload_n 3, 1) := by decide +kernel
theorem dX10_read_10 : decode cX10_read 10 = .ok (.iconst 2, 1) := by decide +kernel
theorem dX10_read_11 : decode cX10_read 11 = .ok (.if_icmp .ne 7, 3) := by decide +kernel
theorem dX10_read_14 : decode cX10_read 14 = .ok (.iconst 1, 1) := by decide +kernel
theorem dX10_read_15 : decode cX10_read 15 = .ok (.goto 4, 3) := by decide +kernel
theorem dX10_read_18 : decode cX10_read 18 = .ok (.iconst 0, 1) := by decide +kernel
theorem dX10_read_19 : decode cX10_read 19 = .ok (.istore 6, 2) := by decide +kernel
theorem dX10_read_21 : decode cX10_read 21 = .ok (.iload_n 3, 1) := by decide +kernel
theorem dX10_read_22 : decode cX10_read 22 = .ok (.iconst 2, 1) := by decide +kernel
theorem dX10_read_23 : decode cX10_read 23 = .ok (.if_icmp .eq 9, 3) := by decide +kernel
theorem dX10_read_26 : decode cX10_read 26 = .ok (.iload 5, 2) := by decide +kernel
theorem dX10_read_28 : decode cX10_read 28 = .ok (.iload_n 2, 1) := by decide +kernel
theorem dX10_read_29 : decode cX10_read 29 = .ok (.if_icmp .le 7, 3) := by decide +kernel
theorem dX10_read_32 : decode cX10_read 32 = .ok (.iload_n 2, 1) := by decide +kernel
theorem dX10_read_33 : decode cX10_read 33 = .ok (.goto 5, 3) := by decide +kernel
theorem dX10_read_36 : decode cX10_read 36 = .ok (.iload 5, 2) := by decide +kernel
theorem dX10_read_38 : decode cX10_read 38 = .ok (.istore 7, 2) := by decide +kernel
theorem dX10_read_40 : decode cX10_read 40 = .ok (.iconst 0, 1) := by decide +kernel
theorem dX10_read_41 : decode cX10_read 41 = .ok (.istore 8, 2) := by decide +kernel
theorem dX10_read_43 : decode cX10_read 43 = .ok (.iload 8, 2) := by decide +kernel
theorem dX10_read_45 : decode cX10_read 45 = .ok (.iload 7, 2) := by decide +kernel
theorem dX10_read_47 : decode cX10_read 47 = .ok (.if_icmp .ge 53, 3) := by decide +kernel
theorem dX10_read_50 : decode cX10_read 50 = .ok (.aload_n 0, 1) := by decide +kernel
theorem dX10_read_51 : decode cX10_read 51 = .ok (.getfield 100, 3) := by decide +kernel
theorem dX10_read_54 : decode cX10_read 54 = .ok (.ifCond .ne 46, 3) := by decide +kernel
theorem dX10_read_57 : decode cX10_read 57 = .ok (.aload_n 1, 1) := by decide +kernel
theorem dX10_read_58 : decode cX10_read 58 = .ok (.iload 6, 2) := by decide +kernel
theorem dX10_read_60 : decode cX10_read 60 = .ok (.ifCond .eq 8, 3) := by decide +kernel
theorem dX10_read_63 : decode cX10_read 63 = .ok (.iload 8, 2) := by decide +kernel
theorem dX10_read_65 : decode cX10_read 65 = .ok (.goto 9, 3) := by decide +kernel
theorem dX10_read_68 : decode cX10_read 68 = .ok (.iload_n 2, 1) := by decide +kernel
theorem dX10_read_69 : decode cX10_read 69 = .ok (.iconst 1, 1) := by decide +kernel
theorem dX10_read_70 : decode cX10_read 70 = .ok (.isub, 1) := by decide +kernel
theorem dX10_read_71 : decode cX10_read 71 = .ok (.iload 8, 2) := by decide +kernel
theorem dX10_read_73 : decode cX10_read 73 = .ok (.isub, 1) := by decide +kernel
theorem dX10_read_74 : decode cX10_read 74 = .ok (.iaload, 1) := by decide +kernel
theorem dX10_read_75 : decode cX10_read 75 = .ok (.istore 9, 2) := by decide +kernel
theorem dX10_read_77 : decode cX10_read 77 = .ok (.aload_n 0, 1) := by decide +kernel
theorem dX10_read_78 : decode cX10_read 78 = .ok (.iload 9, 2) := by decide +kernel
theorem dX10_read_80 : decode cX10_read 80 = .ok (.invokevirtual 106, 3) := by decide +kernel
theorem dX10_read_83 : decode cX10_read 83 = .ok (.aload_n 0, 1) := by decide +kernel
theorem dX10_read_84 : decode cX10_read 84 = .ok (.aload_n 0, 1) := by decide +kernel
theorem dX10_read_85 : decode cX10_read 85 = .ok (.iload_n 3, 1) := by decide +kernel
theorem dX10_read_86 : decode cX10_read 86 = .ok (.iload 9, 2) := by decide +kernel
theorem dX10_read_88 : decode cX10_read 88 = .ok (.invokevirtual 110, 3) := by decide +kernel
theorem dX10_read_91 : decode cX10_read 91 = .ok (.putfield 100, 3) := by decide +kernel
theorem dX10_read_94 : decode cX10_read 94 = .ok (.iinc 8 1, 3) := by decide +kernel
theorem dX10_read_97 : decode cX10_read 97 = .ok (.goto (-54), 3) := by decide +kernel
theorem dX10_read_100 : decode cX10_read 100 = .ok (.return_, 1) := by decide +kernel
theorem dX10_valueBehind_0 : decode cX10_valueBehind 0 = .ok (.aload_n 0, 1) := by decide +kernel
theorem dX10_valueBehind_1 : decode cX10_valueBehind 1 = .ok (.invokevirtual 103, 3) := by decide +kernel
theorem dX10_valueBehind_4 : decode cX10_valueBehind 4 = .ok (.iload_n 2, 1) := by decide +kernel
theorem dX10_valueBehind_5 : decode cX10_valueBehind 5 = .ok (.ifCond .eq 29, 3) := by decide +kernel
theorem dX10_valueBehind_8 : decode cX10_valueBehind 8 = .ok (.iconst 0, 1) := by decide +kernel
theorem dX10_valueBehind_9 : decode cX10_valueBehind 9 = .ok (.istore_n 3, 1) := by decide +kernel
theorem dX10_valueBehind_10 : decode cX10_valueBehind 10 = .ok (.iload_n 3, 1) := by decide +kernel
theorem dX10_valueBehind_11 : decode cX10_valueBehind 11 = .ok (.iload_n 1, 1) := by decide +kernel
theorem dX10_valueBehind_12 : decode cX10_valueBehind 12 = .ok (.if_icmp .gt 19, 3) := by decide +kernel
theorem dX10_valueBehind_15 : decode cX10_valueBehind 15 = .ok (.aload_n 0, 1) := by decide +kernel
theorem dX10_valueBehind_16 : decode cX10_valueBehind 16 = .ok (.aload_n 0, 1) := by decide +kernel
theorem dX10_valueBehind_17 : decode cX10_valueBehind 17 = .ok (.getfield 13, 3) := by decide +kernel
theorem dX10_valueBehind_20 : decode cX10_valueBehind 20 = .ok (.iload_n 3, 1) := by decide +kernel
theorem dX10_valueBehind_21 : decode cX10_valueBehind 21 = .ok (.iaload, 1) := by decide +kernel
theorem dX10_valueBehind_22 : decode cX10_valueBehind 22 = .ok (.invokevirtual 106, 3) := by decide +kernel
theorem dX10_valueBehind_25 : decode cX10_valueBehind 25 = .ok (.iinc 3 1, 3) := by decide +kernel
theorem dX10_valueBehind_28 : decode cX10_valueBehind 28 = .ok (.goto (-18), 3) := by decide +kernel
theorem dX10_valueBehind_31 : decode cX10_valueBehind 31 = .ok (.goto 31, 3) := by decide +kernel
theorem dX10_valueBehind_34 : decode cX10_valueBehind 34 = .ok (.aload_n 0, 1) := by decide +kernel
theorem dX10_valueBehind_35 : decode cX10_valueBehind 35 = .ok (.getfield 69, 3) := by decide +kernel
theorem dX10_valueBehind_38 : decode cX10_valueBehind 38 = .ok (.iconst 1, 1) := by decide +kernel
theorem dX10_valueBehind_39 : decode cX10_valueBehind 39 = .ok (.isub, 1) := by decide +kernel
theorem dX10_valueBehind_40 : decode cX10_valueBehind 40 = .ok (.istore_n 3, 1) := by decide +kernel
theorem dX10_valueBehind_41 : decode cX10_valueBehind 41 = .ok (.iload_n 3, 1) := by decide +kernel
theorem dX10_valueBehind_42 : decode cX10_valueBehind 42 = .ok (.iload_n 1, 1) := by decide +kernel
theorem dX10_valueBehind_43 : decode cX10_valueBehind 43 = .ok (.if_icmp .lt 19, 3) := by decide +kernel
theorem dX10_valueBehind_46 : decode cX10_valueBehind 46 = .ok (.aload_n 0, 1) := by decide +kernel
theorem dX10_valueBehind_47 : decode cX10_valueBehind 47 = .ok (.aload_n 0, 1) := by decide +kernel
theorem dX10_valueBehind_48 : decode cX10_valueBehind 48 = .ok (.getfield 13, 3) := by decide +kernel
theorem dX10_valueBehind_51 : decode cX10_valueBehind 51 = .ok (.iload_n 3, 1) := by decide +kernel
theorem dX10_valueBehind_52 : decode cX10_valueBehind 52 = .ok (.iaload, 1) := by decide +kernel
theorem dX10_valueBehind_53 : decode cX10_valueBehind 53 = .ok (.invokevirtual 106, 3) := by decide +kernel
theorem dX10_valueBehind_56 : decode cX10_valueBehind 56 = .ok (.iinc 3 (-1), 3) := by decide +kernel
theorem dX10_valueBehind_59 : decode cX10_valueBehind 59 = .ok (.goto (-18), 3) := by decide +kernel
theorem dX10_valueBehind_62 : decode cX10_valueBehind 62 = .ok (.aload_n 0, 1) := by decide +kernel
theorem dX10_valueBehind_63 : decode cX10_valueBehind 63 = .ok (.getfield 87, 3) := by decide +kernel
theorem dX10_valueBehind_66 : decode cX10_valueBehind 66 = .ok (.ireturn, 1) := by decide +kernel
theorem dX10_tellWord_0 : decode cX10_tellWord 0 = .ok (.iload_n 2, 1) := by decide +kernel
theorem dX10_tellWord_1 : decode cX10_tellWord 1 = .ok (.ifCond .ne 12, 3) := by decide +kernel
theorem dX10_tellWord_4 : decode cX10_tellWord 4 = .ok (.aload_n 0, 1) := by decide +kernel
theorem dX10_tellWord_5 : decode cX10_tellWord 5 = .ok (.getfield 13, 3) := by decide +kernel
theorem dX10_tellWord_8 : decode cX10_tellWord 8 = .ok (.iload_n 1, 1) := by decide +kernel
theorem dX10_tellWord_9 : decode cX10_tellWord 9 = .ok (.iaload, 1) := by decide +kernel
theorem dX10_tellWord_10 : decode cX10_tellWord 10 = .ok (.goto 36, 3) := by decide +kernel
theorem dX10_tellWord_13 : decode cX10_tellWord 13 = .ok (.iload_n 2, 1) := by decide +kernel
theorem dX10_tellWord_14 : decode cX10_tellWord 14 = .ok (.iconst 1, 1) := by decide +kernel
theorem dX10_tellWord_15 : decode cX10_tellWord 15 = .ok (.if_icmp .eq 8, 3) := by decide +kernel
theorem dX10_tellWord_18 : decode cX10_tellWord 18 = .ok (.iload_n 2, 1) := by decide +kernel
theorem dX10_tellWord_19 : decode cX10_tellWord 19 = .ok (.iconst 2, 1) := by decide +kernel
theorem dX10_tellWord_20 : decode cX10_tellWord 20 = .ok (.if_icmp .ne 24, 3) := by decide +kernel
theorem dX10_tellWord_23 : decode cX10_tellWord 23 = .ok (.bipush 100, 2) := by decide +kernel
theorem dX10_tellWord_25 : decode cX10_tellWord 25 = .ok (.aload_n 0, 1) := by decide +kernel
theorem dX10_tellWord_26 : decode cX10_tellWord 26 = .ok (.iload_n 1, 1) := by decide +kernel
theorem dX10_tellWord_27 : decode cX10_tellWord 27 = .ok (.iload_n 2, 1) := by decide +kernel
theorem dX10_tellWord_28 : decode cX10_tellWord 28 = .ok (.iconst 2, 1) := by decide +kernel
theorem dX10_tellWord_29 : decode cX10_tellWord 29 = .ok (.if_icmp .ne 7, 3) := by decide +kernel
theorem dX10_tellWord_32 : decode cX10_tellWord 32 = .ok (.iconst 1, 1) := by decide +kernel
theorem dX10_tellWord_33 : decode cX10_tellWord 33 = .ok (.goto 4, 3) := by decide +kernel
theorem dX10_tellWord_36 : decode cX10_tellWord 36 = .ok (.iconst 0, 1) := by decide +kernel
theorem dX10_tellWord_37 : decode cX10_tellWord 37 = .ok (.invokevirtual 114, 3) := by decide +kernel
theorem dX10_tellWord_40 : decode cX10_tellWord 40 = .ok (.iadd, 1) := by decide +kernel
theorem dX10_tellWord_41 : decode cX10_tellWord 41 = .ok (.goto 5, 3) := by decide +kernel
theorem dX10_tellWord_44 : decode cX10_tellWord 44 = .ok (.bipush (-102), 2) := by decide +kernel
theorem dX10_tellWord_46 : decode cX10_tellWord 46 = .ok (.ireturn, 1) := by decide +kernel
theorem dX10_word_0 : decode cX10_word 0 = .ok (.aload_n 0, 1) := by decide +kernel
theorem dX10_word_1 : decode cX10_word 1 = .ok (.iload_n 1, 1) := by decide +kernel
theorem dX10_word_2 : decode cX10_word 2 = .ok (.invokevirtual 118, 3) := by decide +kernel
theorem dX10_word_5 : decode cX10_word 5 = .ok (.ifCond .eq 12, 3) := by decide +kernel
theorem dX10_word_8 : decode cX10_word 8 = .ok (.aload_n 0, 1) := by decide +kernel
theorem dX10_word_9 : decode cX10_word 9 = .ok (.iload_n 1, 1) := by decide +kernel
theorem dX10_word_10 : decode cX10_word 10 = .ok (.iload_n 2, 1) := by decide +kernel
theorem dX10_word_11 : decode cX10_word 11 = .ok (.invokevirtual 121, 3) := by decide +kernel
theorem dX10_word_14 : decode cX10_word 14 = .ok (.goto 5, 3) := by decide +kernel
theorem dX10_word_17 : decode cX10_word 17 = .ok (.bipush (-101), 2) := by decide +kernel
theorem dX10_word_19 : decode cX10_word 19 = .ok (.ireturn, 1) := by decide +kernel
theorem dX10_change_0 : decode cX10_change 0 = .ok (.aload_n 0, 1) := by decide +kernel
theorem dX10_change_1 : decode cX10_change 1 = .ok (.iload_n 1, 1) := by decide +kernel
theorem dX10_change_2 : decode cX10_change 2 = .ok (.invokevirtual 118, 3) := by decide +kernel
theorem dX10_change_5 : decode cX10_change 5 = .ok (.ifCond .ne 6, 3) := by decide +kernel
theorem dX10_change_8 : decode cX10_change 8 = .ok (.bipush (-101), 2) := by decide +kernel
theorem dX10_change_10 : decode cX10_change 10 = .ok (.ireturn, 1) := by decide +kernel
theorem dX10_change_11 : decode cX10_change 11 = .ok (.iload_n 2, 1) := by decide +kernel
theorem dX10_change_12 : decode cX10_change 12 = .ok (.i2l, 1) := by decide +kernel
theorem dX10_change_13 : decode cX10_change 13 = .ok (.lconst 0, 1) := by decide +kernel
theorem dX10_change_14 : decode cX10_change 14 = .ok (.ldc2_w 125, 3) := by decide +kernel
theorem dX10_change_17 : decode cX10_change 17 = .ok (.invokestatic 40, 3) := by decide +kernel
theorem dX10_change_20 : decode cX10_change 20 = .ok (.ifCond .ne 6, 3) := by decide +kernel
theorem dX10_change_23 : decode cX10_change 23 = .ok (.bipush (-102), 2) := by decide +kernel
theorem dX10_change_25 : decode cX10_change 25 = .ok (.ireturn, 1) := by decide +kernel
theorem dX10_change_26 : decode cX10_change 26 = .ok (.aload_n 0, 1) := by decide +kernel
theorem dX10_change_27 : decode cX10_change 27 = .ok (.getfield 13, 3) := by decide +kernel
theorem dX10_change_30 : decode cX10_change 30 = .ok (.iload_n 1, 1) := by decide +kernel
theorem dX10_change_31 : decode cX10_change 31 = .ok (.iaload, 1) := by decide +kernel
theorem dX10_change_32 : decode cX10_change 32 = .ok (.istore_n 3, 1) := by decide +kernel
theorem dX10_change_33 : decode cX10_change 33 = .ok (.aload_n 0, 1) := by decide +kernel
theorem dX10_change_34 : decode cX10_change 34 = .ok (.getfield 13, 3) := by decide +kernel
theorem dX10_change_37 : decode cX10_change 37 = .ok (.iload_n 1, 1) := by decide +kernel
theorem dX10_change_38 : decode cX10_change 38 = .ok (.iload_n 2, 1) := by decide +kernel
theorem dX10_change_39 : decode cX10_change 39 = .ok (.iastore, 1) := by decide +kernel
theorem dX10_change_40 : decode cX10_change 40 = .ok (.aload_n 0, 1) := by decide +kernel
theorem dX10_change_41 : decode cX10_change 41 = .ok (.dup, 1) := by decide +kernel
theorem dX10_change_42 : decode cX10_change 42 = .ok (.getfield 75, 3) := by decide +kernel
theorem dX10_change_45 : decode cX10_change 45 = .ok (.iconst 1, 1) := by decide +kernel
theorem dX10_change_46 : decode cX10_change 46 = .ok (.iadd, 1) := by decide +kernel
theorem dX10_change_47 : decode cX10_change 47 = .ok (.putfield 75, 3) := by decide +kernel
theorem dX10_change_50 : decode cX10_change 50 = .ok (.iload_n 3, 1) := by decide +kernel
theorem dX10_change_51 : decode cX10_change 51 = .ok (.ireturn, 1) := by decide +kernel
theorem dX10_snow_0 : decode cX10_snow 0 = .ok (.iload_n 1, 1) := by decide +kernel
theorem dX10_snow_1 : decode cX10_snow 1 = .ok (.i2l, 1) := by decide +kernel
theorem dX10_snow_2 : decode cX10_snow 2 = .ok (.lconst 1, 1) := by decide +kernel
theorem dX10_snow_3 : decode cX10_snow 3 = .ok (.ldc2_w 127, 3) := by decide +kernel
theorem dX10_snow_6 : decode cX10_snow 6 = .ok (.invokestatic 40, 3) := by decide +kernel
theorem dX10_snow_9 : decode cX10_snow 9 = .ok (.ifCond .ne 6, 3) := by decide +kernel
theorem dX10_snow_12 : decode cX10_snow 12 = .ok (.bipush (-102), 2) := by decide +kernel
theorem dX10_snow_14 : decode cX10_snow 14 = .ok (.ireturn, 1) := by decide +kernel
theorem dX10_snow_15 : decode cX10_snow 15 = .ok (.aload_n 0, 1) := by decide +kernel
theorem dX10_snow_16 : decode cX10_snow 16 = .ok (.getfield 69, 3) := by decide +kernel
theorem dX10_snow_19 : decode cX10_snow 19 = .ok (.ifCond .ne 6, 3) := by decide +kernel
theorem dX10_snow_22 : decode cX10_snow 22 = .ok (.bipush (-103), 2) := by decide +kernel
theorem dX10_snow_24 : decode cX10_snow 24 = .ok (.ireturn, 1) := by decide +kernel
theorem dX10_snow_25 : decode cX10_snow 25 = .ok (.aload_n 0, 1) := by decide +kernel
theorem dX10_snow_26 : decode cX10_snow 26 = .ok (.getfield 72, 3) := by decide +kernel
theorem dX10_snow_29 : decode cX10_snow 29 = .ok (.istore_n 2, 1) := by decide +kernel
theorem dX10_snow_30 : decode cX10_snow 30 = .ok (.aload_n 0, 1) := by decide +kernel
theorem dX10_snow_31 : decode cX10_snow 31 = .ok (.iload_n 1, 1) := by decide +kernel
theorem dX10_snow_32 : decode cX10_snow 32 = .ok (.putfield 72, 3) := by decide +kernel
theorem dX10_snow_35 : decode cX10_snow 35 = .ok (.iload_n 2, 1) := by decide +kernel
theorem dX10_snow_36 : decode cX10_snow 36 = .ok (.ireturn, 1) := by decide +kernel
theorem dX10_listener_0 : decode cX10_listener 0 = .ok (.iload_n 1, 1) := by decide +kernel
theorem dX10_listener_1 : decode cX10_listener 1 = .ok (.i2l, 1) := by decide +kernel
theorem dX10_listener_2 : decode cX10_listener 2 = .ok (.lconst 0, 1) := by decide +kernel
theorem dX10_listener_3 : decode cX10_listener 3 = .ok (.ldc2_w 129, 3) := by decide +kernel
theorem dX10_listener_6 : decode cX10_listener 6 = .ok (.invokestatic 40, 3) := by decide +kernel
theorem dX10_listener_9 : decode cX10_listener 9 = .ok (.ifCond .ne 6, 3) := by decide +kernel
theorem dX10_listener_12 : decode cX10_listener 12 = .ok (.bipush (-102), 2) := by decide +kernel
theorem dX10_listener_14 : decode cX10_listener 14 = .ok (.ireturn, 1) := by decide +kernel
theorem dX10_listener_15 : decode cX10_listener 15 = .ok (.aload_n 0, 1) := by decide +kernel
theorem dX10_listener_16 : decode cX10_listener 16 = .ok (.getfield 69, 3) := by decide +kernel
theorem dX10_listener_19 : decode cX10_listener 19 = .ok (.ifCond .ne 6, 3) := by decide +kernel
theorem dX10_listener_22 : decode cX10_listener 22 = .ok (.bipush (-103), 2) := by decide +kernel
theorem dX10_listener_24 : decode cX10_listener 24 = .ok (.ireturn, 1) := by decide +kernel
theorem dX10_listener_25 : decode cX10_listener 25 = .ok (.aload_n 0, 1) := by decide +kernel
theorem dX10_listener_26 : decode cX10_listener 26 = .ok (.getfield 78, 3) := by decide +kernel
theorem dX10_listener_29 : decode cX10_listener 29 = .ok (.iconst 4, 1) := by decide +kernel
theorem dX10_listener_30 : decode cX10_listener 30 = .ok (.if_icmp .ne 6, 3) := by decide +kernel
theorem dX10_listener_33 : decode cX10_listener 33 = .ok (.bipush (-104), 2) := by decide +kernel
theorem dX10_listener_35 : decode cX10_listener 35 = .ok (.ireturn, 1) := by decide +kernel
theorem dX10_listener_36 : decode cX10_listener 36 = .ok (.aload_n 0, 1) := by decide +kernel
theorem dX10_listener_37 : decode cX10_listener 37 = .ok (.getfield 16, 3) := by decide +kernel
theorem dX10_listener_40 : decode cX10_listener 40 = .ok (.aload_n 0, 1) := by decide +kernel
theorem dX10_listener_41 : decode cX10_listener 41 = .ok (.getfield 78, 3) := by decide +kernel
theorem dX10_listener_44 : decode cX10_listener 44 = .ok (.iload_n 1, 1) := by decide +kernel
theorem dX10_listener_45 : decode cX10_listener 45 = .ok (.iastore, 1) := by decide +kernel
theorem dX10_listener_46 : decode cX10_listener 46 = .ok (.aload_n 0, 1) := by decide +kernel
theorem dX10_listener_47 : decode cX10_listener 47 = .ok (.dup, 1) := by decide +kernel
theorem dX10_listener_48 : decode cX10_listener 48 = .ok (.getfield 78, 3) := by decide +kernel
theorem dX10_listener_51 : decode cX10_listener 51 = .ok (.iconst 1, 1) := by decide +kernel
theorem dX10_listener_52 : decode cX10_listener 52 = .ok (.iadd, 1) := by decide +kernel
theorem dX10_listener_53 : decode cX10_listener 53 = .ok (.putfield 78, 3) := by decide +kernel
theorem dX10_listener_56 : decode cX10_listener 56 = .ok (.aload_n 0, 1) := by decide +kernel
theorem dX10_listener_57 : decode cX10_listener 57 = .ok (.getfield 78, 3) := by decide +kernel
theorem dX10_listener_60 : decode cX10_listener 60 = .ok (.iconst 1, 1) := by decide +kernel
theorem dX10_listener_61 : decode cX10_listener 61 = .ok (.isub, 1) := by decide +kernel
theorem dX10_listener_62 : decode cX10_listener 62 = .ok (.ireturn, 1) := by decide +kernel
theorem dX10_listenerOf_0 : decode cX10_listenerOf 0 = .ok (.iload_n 2, 1) := by decide +kernel
theorem dX10_listenerOf_1 : decode cX10_listenerOf 1 = .ok (.ifCond .ne 10, 3) := by decide +kernel
theorem dX10_listenerOf_4 : decode cX10_listenerOf 4 = .ok (.aload_n 0, 1) := by decide +kernel
theorem dX10_listenerOf_5 : decode cX10_listenerOf 5 = .ok (.getfield 16, 3) := by decide +kernel
theorem dX10_listenerOf_8 : decode cX10_listenerOf 8 = .ok (.iload_n 1, 1) := by decide +kernel
theorem dX10_listenerOf_9 : decode cX10_listenerOf 9 = .ok (.iaload, 1) := by decide +kernel
theorem dX10_listenerOf_10 : decode cX10_listenerOf 10 = .ok (.ireturn, 1) := by decide +kernel
theorem dX10_listenerOf_11 : decode cX10_listenerOf 11 = .ok (.iload_n 2, 1) := by decide +kernel
theorem dX10_listenerOf_12 : decode cX10_listenerOf 12 = .ok (.i2l, 1) := by decide +kernel
theorem dX10_listenerOf_13 : decode cX10_listenerOf 13 = .ok (.lconst 1, 1) := by decide +kernel
theorem dX10_listenerOf_14 : decode cX10_listenerOf 14 = .ok (.ldc2_w 131, 3) := by decide +kernel
theorem dX10_listenerOf_17 : decode cX10_listenerOf 17 = .ok (.invokestatic 40, 3) := by decide +kernel
theorem dX10_listenerOf_20 : decode cX10_listenerOf 20 = .ok (.ifCond .ne 6, 3) := by decide +kernel
theorem dX10_listenerOf_23 : decode cX10_listenerOf 23 = .ok (.bipush (-102), 2) := by decide +kernel
theorem dX10_listenerOf_25 : decode cX10_listenerOf 25 = .ok (.ireturn, 1) := by decide +kernel
theorem dX10_listenerOf_26 : decode cX10_listenerOf 26 = .ok (.aload_n 0, 1) := by decide +kernel
theorem dX10_listenerOf_27 : decode cX10_listenerOf 27 = .ok (.aload_n 0, 1) := by decide +kernel
theorem dX10_listenerOf_28 : decode cX10_listenerOf 28 = .ok (.getfield 13, 3) := by decide +kernel
theorem dX10_listenerOf_31 : decode cX10_listenerOf 31 = .ok (.aload_n 0, 1) := by decide +kernel
theorem dX10_listenerOf_32 : decode cX10_listenerOf 32 = .ok (.getfield 69, 3) := by decide +kernel
theorem dX10_listenerOf_35 : decode cX10_listenerOf 35 = .ok (.aload_n 0, 1) := by decide +kernel
theorem dX10_listenerOf_36 : decode cX10_listenerOf 36 = .ok (.getfield 16, 3) := by decide +kernel
theorem dX10_listenerOf_39 : decode cX10_listenerOf 39 = .ok (.iload_n 1, 1) := by decide +kernel
theorem dX10_listenerOf_40 : decode cX10_listenerOf 40 = .ok (.iaload, 1) := by decide +kernel
theorem dX10_listenerOf_41 : decode cX10_listenerOf 41 = .ok (.iload_n 2, 1) := by decide +kernel
theorem dX10_listenerOf_42 : decode cX10_listenerOf 42 = .ok (.iconst 3, 1) := by decide +kernel
theorem dX10_listenerOf_43 : decode cX10_listenerOf 43 = .ok (.if_icmp .le 7, 3) := by decide +kernel
theorem dX10_listenerOf_46 : decode cX10_listenerOf 46 = .ok (.iconst 1, 1) := by decide +kernel
theorem dX10_listenerOf_47 : decode cX10_listenerOf 47 = .ok (.goto 4, 3) := by decide +kernel
theorem dX10_listenerOf_50 : decode cX10_listenerOf 50 = .ok (.iconst 0, 1) := by decide +kernel
theorem dX10_listenerOf_51 : decode cX10_listenerOf 51 = .ok (.aload_n 0, 1) := by decide +kernel
theorem dX10_listenerOf_52 : decode cX10_listenerOf 52 = .ok (.getfield 72, 3) := by decide +kernel
theorem dX10_listenerOf_55 : decode cX10_listenerOf 55 = .ok (.invokevirtual 133, 3) := by decide +kernel
theorem dX10_listenerOf_58 : decode cX10_listenerOf 58 = .ok (.iload_n 2, 1) := by decide +kernel
theorem dX10_listenerOf_59 : decode cX10_listenerOf 59 = .ok (.iconst 3, 1) := by decide +kernel
theorem dX10_listenerOf_60 : decode cX10_listenerOf 60 = .ok (.if_icmp .le 9, 3) := by decide +kernel
theorem dX10_listenerOf_63 : decode cX10_listenerOf 63 = .ok (.iload_n 2, 1) := by decide +kernel
theorem dX10_listenerOf_64 : decode cX10_listenerOf 64 = .ok (.iconst 3, 1) := by decide +kernel
theorem dX10_listenerOf_65 : decode cX10_listenerOf 65 = .ok (.isub, 1) := by decide +kernel
theorem dX10_listenerOf_66 : decode cX10_listenerOf 66 = .ok (.goto 4, 3) := by decide +kernel
theorem dX10_listenerOf_69 : decode cX10_listenerOf 69 = .ok (.iload_n 2, 1) := by decide +kernel
theorem dX10_listenerOf_70 : decode cX10_listenerOf 70 = .ok (.istore_n 3, 1) := by decide +kernel
theorem dX10_listenerOf_71 : decode cX10_listenerOf 71 = .ok (.iload_n 3, 1) := by decide +kernel
theorem dX10_listenerOf_72 : decode cX10_listenerOf 72 = .ok (.iconst 1, 1) := by decide +kernel
theorem dX10_listenerOf_73 : decode cX10_listenerOf 73 = .ok (.if_icmp .ne 10, 3) := by decide +kernel
theorem dX10_listenerOf_76 : decode cX10_listenerOf 76 = .ok (.aload_n 0, 1) := by decide +kernel
theorem dX10_listenerOf_77 : decode cX10_listenerOf 77 = .ok (.getfield 97, 3) := by decide +kernel
theorem dX10_listenerOf_80 : decode cX10_listenerOf 80 = .ok (.goto 30, 3) := by decide +kernel
theorem dX10_listenerOf_83 : decode cX10_listenerOf 83 = .ok (.iload_n 3, 1) := by decide +kernel
theorem dX10_listenerOf_84 : decode cX10_listenerOf 84 = .ok (.iconst 2, 1) := by decide +kernel
theorem dX10_listenerOf_85 : decode cX10_listenerOf 85 = .ok (.if_icmp .ne 13, 3) := by decide +kernel
theorem dX10_listenerOf_88 : decode cX10_listenerOf 88 = .ok (.bipush 100, 2) := by decide +kernel
theorem dX10_listenerOf_90 : decode cX10_listenerOf 90 = .ok (.aload_n 0, 1) := by decide +kernel
theorem dX10_listenerOf_91 : decode cX10_listenerOf 91 = .ok (.getfield 87, 3) := by decide +kernel
theorem dX10_listenerOf_94 : decode cX10_listenerOf 94 = .ok (.iadd, 1) := by decide +kernel
theorem dX10_listenerOf_95 : decode cX10_listenerOf 95 = .ok (.goto 15, 3) := by decide +kernel
theorem dX10_listenerOf_98 : decode cX10_listenerOf 98 = .ok (.aload_n 0, 1) := by decide +kernel
theorem dX10_listenerOf_99 : decode cX10_listenerOf 99 = .ok (.getfield 100, 3) := by decide +kernel
theorem dX10_listenerOf_102 : decode cX10_listenerOf 102 = .ok (.ifCond .eq 7, 3) := by decide +kernel
theorem dX10_listenerOf_105 : decode cX10_listenerOf 105 = .ok (.iconst 1, 1) := by decide +kernel
theorem dX10_listenerOf_106 : decode cX10_listenerOf 106 = .ok (.goto 4, 3) := by decide +kernel
theorem dX10_listenerOf_109 : decode cX10_listenerOf 109 = .ok (.iconst 0, 1) := by decide +kernel
theorem dX10_listenerOf_110 : decode cX10_listenerOf 110 = .ok (.ireturn, 1) := by decide +kernel
theorem dX10_about_0 : decode cX10_about 0 = .ok (.aload_n 0, 1) := by decide +kernel
theorem dX10_about_1 : decode cX10_about 1 = .ok (.iload_n 1, 1) := by decide +kernel
theorem dX10_about_2 : decode cX10_about 2 = .ok (.invokevirtual 137, 3) := by decide +kernel
theorem dX10_about_5 : decode cX10_about 5 = .ok (.ifCond .eq 12, 3) := by decide +kernel
theorem dX10_about_8 : decode cX10_about 8 = .ok (.aload_n 0, 1) := by decide +kernel
theorem dX10_about_9 : decode cX10_about 9 = .ok (.iload_n 1, 1) := by decide +kernel
theorem dX10_about_10 : decode cX10_about 10 = .ok (.iload_n 2, 1) := by decide +kernel
theorem dX10_about_11 : decode cX10_about 11 = .ok (.invokevirtual 140, 3) := by decide +kernel
theorem dX10_about_14 : decode cX10_about 14 = .ok (.goto 5, 3) := by decide +kernel
theorem dX10_about_17 : decode cX10_about 17 = .ok (.bipush (-101), 2) := by decide +kernel
theorem dX10_about_19 : decode cX10_about 19 = .ok (.ireturn, 1) := by decide +kernel
theorem dX10_as_0 : decode cX10_as 0 = .ok (.aload_n 0, 1) := by decide +kernel
theorem dX10_as_1 : decode cX10_as 1 = .ok (.iload_n 1, 1) := by decide +kernel
theorem dX10_as_2 : decode cX10_as 2 = .ok (.invokevirtual 137, 3) := by decide +kernel
theorem dX10_as_5 : decode cX10_as 5 = .ok (.ifCond .ne 6, 3) := by decide +kernel
theorem dX10_as_8 : decode cX10_as 8 = .ok (.bipush (-101), 2) := by decide +kernel
theorem dX10_as_10 : decode cX10_as 10 = .ok (.ireturn, 1) := by decide +kernel
theorem dX10_as_11 : decode cX10_as 11 = .ok (.iload_n 2, 1) := by decide +kernel
theorem dX10_as_12 : decode cX10_as 12 = .ok (.i2l, 1) := by decide +kernel
theorem dX10_as_13 : decode cX10_as 13 = .ok (.lconst 0, 1) := by decide +kernel
theorem dX10_as_14 : decode cX10_as 14 = .ok (.ldc2_w 129, 3) := by decide +kernel
theorem dX10_as_17 : decode cX10_as 17 = .ok (.invokestatic 40, 3) := by decide +kernel
theorem dX10_as_20 : decode cX10_as 20 = .ok (.ifCond .ne 6, 3) := by decide +kernel
theorem dX10_as_23 : decode cX10_as 23 = .ok (.bipush (-102), 2) := by decide +kernel
theorem dX10_as_25 : decode cX10_as 25 = .ok (.ireturn, 1) := by decide +kernel
theorem dX10_as_26 : decode cX10_as 26 = .ok (.aload_n 0, 1) := by decide +kernel
theorem dX10_as_27 : decode cX10_as 27 = .ok (.getfield 16, 3) := by decide +kernel
theorem dX10_as_30 : decode cX10_as 30 = .ok (.iload_n 1, 1) := by decide +kernel
theorem dX10_as_31 : decode cX10_as 31 = .ok (.iaload, 1) := by decide +kernel
theorem dX10_as_32 : decode cX10_as 32 = .ok (.istore_n 3, 1) := by decide +kernel
theorem dX10_as_33 : decode cX10_as 33 = .ok (.iload_n 2, 1) := by decide +kernel
theorem dX10_as_34 : decode cX10_as 34 = .ok (.ifCond .eq 18, 3) := by decide +kernel
theorem dX10_as_37 : decode cX10_as 37 = .ok (.iload_n 2, 1) := by decide +kernel
theorem dX10_as_38 : decode cX10_as 38 = .ok (.iload_n 3, 1) := by decide +kernel
theorem dX10_as_39 : decode cX10_as 39 = .ok (.if_icmp .eq 13, 3) := by decide +kernel
theorem dX10_as_42 : decode cX10_as 42 = .ok (.iload_n 2, 1) := by decide +kernel
theorem dX10_as_43 : decode cX10_as 43 = .ok (.iconst 1, 1) := by decide +kernel
theorem dX10_as_44 : decode cX10_as 44 = .ok (.if_icmp .ne 12, 3) := by decide +kernel
theorem dX10_as_47 : decode cX10_as 47 = .ok (.iload_n 3, 1) := by decide +kernel
theorem dX10_as_48 : decode cX10_as 48 = .ok (.iconst 4, 1) := by decide +kernel
theorem dX10_as_49 : decode cX10_as 49 = .ok (.if_icmp .ne 7, 3) := by decide +kernel
theorem dX10_as_52 : decode cX10_as 52 = .ok (.iconst 1, 1) := by decide +kernel
theorem dX10_as_53 : decode cX10_as 53 = .ok (.goto 4, 3) := by decide +kernel
theorem dX10_as_56 : decode cX10_as 56 = .ok (.iconst 0, 1) := by decide +kernel
theorem dX10_as_57 : decode cX10_as 57 = .ok (.istore 4, 2) := by decide +kernel
theorem dX10_as_59 : decode cX10_as 59 = .ok (.iload 4, 2) := by decide +kernel
theorem dX10_as_61 : decode cX10_as 61 = .ok (.ifCond .eq 7, 3) := by decide +kernel
theorem dX10_as_64 : decode cX10_as 64 = .ok (.iload_n 1, 1) := by decide +kernel
theorem dX10_as_65 : decode cX10_as 65 = .ok (.goto 4, 3) := by decide +kernel
theorem dX10_as_68 : decode cX10_as 68 = .ok (.iconst (-1), 1) := by decide +kernel
theorem dX10_as_69 : decode cX10_as 69 = .ok (.ireturn, 1) := by decide +kernel
theorem dX10_layRow_0 : decode cX10_layRow 0 = .ok (.iload_n 2, 1) := by decide +kernel
theorem dX10_layRow_1 : decode cX10_layRow 1 = .ok (.istore_n 3, 1) := by decide +kernel
theorem dX10_layRow_2 : decode cX10_layRow 2 = .ok (.iload_n 1, 1) := by decide +kernel
theorem dX10_layRow_3 : decode cX10_layRow 3 = .ok (.iconst 1, 1) := by decide +kernel
theorem dX10_layRow_4 : decode cX10_layRow 4 = .ok (.isub, 1) := by decide +kernel
theorem dX10_layRow_5 : decode cX10_layRow 5 = .ok (.istore 4, 2) := by decide +kernel
theorem dX10_layRow_7 : decode cX10_layRow 7 = .ok (.iload 4, 2) := by decide +kernel
theorem dX10_layRow_9 : decode cX10_layRow 9 = .ok (.ifCond .lt 25, 3) := by decide +kernel
theorem dX10_layRow_12 : decode cX10_layRow 12 = .ok (.aload_n 0, 1) := by decide +kernel
theorem dX10_layRow_13 : decode cX10_layRow 13 = .ok (.getfield 19, 3) := by decide +kernel
theorem dX10_layRow_16 : decode cX10_layRow 16 = .ok (.iload 4, 2) := by decide +kernel
theorem dX10_layRow_18 : decode cX10_layRow 18 = .ok (.iload_n 3, 1) := by decide +kernel
theorem dX10_layRow_19 : decode cX10_layRow 19 = .ok (.bipush 6, 2) := by decide +kernel
theorem dX10_layRow_21 : decode cX10_layRow 21 = .ok (.irem, 1) := by decide +kernel
theorem dX10_layRow_22 : decode cX10_layRow 22 = .ok (.iastore, 1) := by decide +kernel
theorem dX10_layRow_23 : decode cX10_layRow 23 = .ok (.iload_n 3, 1) := by decide +kernel
theorem dX10_layRow_24 : decode cX10_layRow 24 = .ok (.bipush 6, 2) := by decide +kernel
theorem dX10_layRow_26 : decode cX10_layRow 26 = .ok (.idiv, 1) := by decide +kernel
theorem dX10_layRow_27 : decode cX10_layRow 27 = .ok (.istore_n 3, 1) := by decide +kernel
theorem dX10_layRow_28 : decode cX10_layRow 28 = .ok (.iinc 4 (-1), 3) := by decide +kernel
theorem dX10_layRow_31 : decode cX10_layRow 31 = .ok (.goto (-24), 3) := by decide +kernel
theorem dX10_layRow_34 : decode cX10_layRow 34 = .ok (.return_, 1) := by decide +kernel
theorem dX10_isAs_0 : decode cX10_isAs 0 = .ok (.aload_n 0, 1) := by decide +kernel
theorem dX10_isAs_1 : decode cX10_isAs 1 = .ok (.aload_n 0, 1) := by decide +kernel
theorem dX10_isAs_2 : decode cX10_isAs 2 = .ok (.getfield 19, 3) := by decide +kernel
theorem dX10_isAs_5 : decode cX10_isAs 5 = .ok (.iload_n 2, 1) := by decide +kernel
theorem dX10_isAs_6 : decode cX10_isAs 6 = .ok (.iload_n 1, 1) := by decide +kernel
theorem dX10_isAs_7 : decode cX10_isAs 7 = .ok (.iconst 0, 1) := by decide +kernel
theorem dX10_isAs_8 : decode cX10_isAs 8 = .ok (.iload_n 2, 1) := by decide +kernel
theorem dX10_isAs_9 : decode cX10_isAs 9 = .ok (.invokevirtual 133, 3) := by decide +kernel
theorem dX10_isAs_12 : decode cX10_isAs 12 = .ok (.aload_n 0, 1) := by decide +kernel
theorem dX10_isAs_13 : decode cX10_isAs 13 = .ok (.getfield 100, 3) := by decide +kernel
theorem dX10_isAs_16 : decode cX10_isAs 16 = .ok (.ifCond .ne 15, 3) := by decide +kernel
theorem dX10_isAs_19 : decode cX10_isAs 19 = .ok (.aload_n 0, 1) := by decide +kernel
theorem dX10_isAs_20 : decode cX10_isAs 20 = .ok (.getfield 87, 3) := by decide +kernel
theorem dX10_isAs_23 : decode cX10_isAs 23 = .ok (.iload_n 3, 1) := by decide +kernel
theorem dX10_isAs_24 : decode cX10_isAs 24 = .ok (.if_icmp .ne 7, 3) := by decide +kernel
theorem dX10_isAs_27 : decode cX10_isAs 27 = .ok (.iconst 1, 1) := by decide +kernel
theorem dX10_isAs_28 : decode cX10_isAs 28 = .ok (.goto 4, 3) := by decide +kernel
theorem dX10_isAs_31 : decode cX10_isAs 31 = .ok (.iconst 0, 1) := by decide +kernel
theorem dX10_isAs_32 : decode cX10_isAs 32 = .ok (.istore 5, 2) := by decide +kernel
theorem dX10_isAs_34 : decode cX10_isAs 34 = .ok (.aload_n 0, 1) := by decide +kernel
theorem dX10_isAs_35 : decode cX10_isAs 35 = .ok (.aload_n 0, 1) := by decide +kernel
theorem dX10_isAs_36 : decode cX10_isAs 36 = .ok (.getfield 19, 3) := by decide +kernel
theorem dX10_isAs_39 : decode cX10_isAs 39 = .ok (.iload_n 2, 1) := by decide +kernel
theorem dX10_isAs_40 : decode cX10_isAs 40 = .ok (.iload_n 1, 1) := by decide +kernel
theorem dX10_isAs_41 : decode cX10_isAs 41 = .ok (.iconst 1, 1) := by decide +kernel
theorem dX10_isAs_42 : decode cX10_isAs 42 = .ok (.iload_n 2, 1) := by decide +kernel
theorem dX10_isAs_43 : decode cX10_isAs 43 = .ok (.invokevirtual 133, 3) := by decide +kernel
theorem dX10_isAs_46 : decode cX10_isAs 46 = .ok (.iload 5, 2) := by decide +kernel
theorem dX10_isAs_48 : decode cX10_isAs 48 = .ok (.ifCond .eq 23, 3) := by decide +kernel
theorem dX10_isAs_51 : decode cX10_isAs 51 = .ok (.aload_n 0, 1) := by decide +kernel
theorem dX10_isAs_52 : decode cX10_isAs 52 = .ok (.getfield 100, 3) := by decide +kernel
theorem dX10_isAs_55 : decode cX10_isAs 55 = .ok (.ifCond .ne 16, 3) := by decide +kernel
theorem dX10_isAs_58 : decode cX10_isAs 58 = .ok (.aload_n 0, 1) := by decide +kernel
theorem dX10_isAs_59 : decode cX10_isAs 59 = .ok (.getfield 87, 3) := by decide +kernel
theorem dX10_isAs_62 : decode cX10_isAs 62 = .ok (.iload 4, 2) := by decide +kernel
theorem dX10_isAs_64 : decode cX10_isAs 64 = .ok (.if_icmp .ne 7, 3) := by decide +kernel
theorem dX10_isAs_67 : decode cX10_isAs 67 = .ok (.iconst 1, 1) := by decide +kernel
theorem dX10_isAs_68 : decode cX10_isAs 68 = .ok (.goto 4, 3) := by decide +kernel
theorem dX10_isAs_71 : decode cX10_isAs 71 = .ok (.iconst 0, 1) := by decide +kernel
theorem dX10_isAs_72 : decode cX10_isAs 72 = .ok (.ireturn, 1) := by decide +kernel
theorem dX10_write_0 : decode cX10_write 0 = .ok (.iload_n 1, 1) := by decide +kernel
theorem dX10_write_1 : decode cX10_write 1 = .ok (.i2l, 1) := by decide +kernel
theorem dX10_write_2 : decode cX10_write 2 = .ok (.lconst 0, 1) := by decide +kernel
theorem dX10_write_3 : decode cX10_write 3 = .ok (.ldc2_w 129, 3) := by decide +kernel
theorem dX10_write_6 : decode cX10_write 6 = .ok (.invokestatic 40, 3) := by decide +kernel
theorem dX10_write_9 : decode cX10_write 9 = .ok (.ifCond .eq 51, 3) := by decide +kernel
theorem dX10_write_12 : decode cX10_write 12 = .ok (.iload_n 2, 1) := by decide +kernel
theorem dX10_write_13 : decode cX10_write 13 = .ok (.i2l, 1) := by decide +kernel
theorem dX10_write_14 : decode cX10_write 14 = .ok (.ldc2_w 143, 3) := by decide +kernel
theorem dX10_write_17 : decode cX10_write 17 = .ok (.ldc2_w 145, 3) := by decide +kernel
theorem dX10_write_20 : decode cX10_write 20 = .ok (.invokestatic 40, 3) := by decide +kernel
theorem dX10_write_23 : decode cX10_write 23 = .ok (.ifCond .eq 37, 3) := by decide +kernel
theorem dX10_write_26 : decode cX10_write 26 = .ok (.iload_n 3, 1) := by decide +kernel
theorem dX10_write_27 : decode cX10_write 27 = .ok (.i2l, 1) := by decide +kernel
theorem dX10_write_28 : decode cX10_write 28 = .ok (.ldc2_w 143, 3) := by decide +kernel
theorem dX10_write_31 : decode cX10_write 31 = .ok (.ldc2_w 145, 3) := by decide +kernel
theorem dX10_write_34 : decode cX10_write 34 = .ok (.invokestatic 40, 3) := by decide +kernel
theorem dX10_write_37 : decode cX10_write 37 = .ok (.ifCond .eq 23, 3) := by decide +kernel
theorem dX10_write_40 : decode cX10_write 40 = .ok (.iload 4, 2) := by decide +kernel
theorem dX10_write_42 : decode cX10_write 42 = .ok (.ifCond .eq 21, 3) := by decide +kernel
theorem dX10_write_45 : decode cX10_write 45 = .ok (.iload 4, 2) := by decide +kernel
theorem dX10_write_47 : decode cX10_write 47 = .ok (.i2l, 1) := by decide +kernel
theorem dX10_write_48 : decode cX10_write 48 = .ok (.ldc2_w 147, 3) := by decide +kernel
theorem dX10_write_51 : decode cX10_write 51 = .ok (.ldc2_w 149, 3) := by decide +kernel
theorem dX10_write_54 : decode cX10_write 54 = .ok (.invokestatic 40, 3) := by decide +kernel
theorem dX10_write_57 : decode cX10_write 57 = .ok (.ifCond .ne 6, 3) := by decide +kernel
theorem dX10_write_60 : decode cX10_write 60 = .ok (.bipush (-102), 2) := by decide +kernel
theorem dX10_write_62 : decode cX10_write 62 = .ok (.ireturn, 1) := by decide +kernel
theorem dX10_write_63 : decode cX10_write 63 = .ok (.aload_n 0, 1) := by decide +kernel
theorem dX10_write_64 : decode cX10_write 64 = .ok (.getfield 151, 3) := by decide +kernel
theorem dX10_write_67 : decode cX10_write 67 = .ok (.bipush 20, 2) := by decide +kernel
theorem dX10_write_69 : decode cX10_write 69 = .ok (.if_icmp .ne 6, 3) := by decide +kernel
theorem dX10_write_72 : decode cX10_write 72 = .ok (.bipush (-103), 2) := by decide +kernel
theorem dX10_write_74 : decode cX10_write 74 = .ok (.ireturn, 1) := by decide +kernel
theorem dX10_write_75 : decode cX10_write 75 = .ok (.aload_n 0, 1) := by decide +kernel
theorem dX10_write_76 : decode cX10_write 76 = .ok (.dup, 1) := by decide +kernel
theorem dX10_write_77 : decode cX10_write 77 = .ok (.getfield 151, 3) := by decide +kernel
theorem dX10_write_80 : decode cX10_write 80 = .ok (.iconst 1, 1) := by decide +kernel
theorem dX10_write_81 : decode cX10_write 81 = .ok (.iadd, 1) := by decide +kernel
theorem dX10_write_82 : decode cX10_write 82 = .ok (.putfield 151, 3) := by decide +kernel
theorem dX10_write_85 : decode cX10_write 85 = .ok (.iconst 1, 1) := by decide +kernel
theorem dX10_write_86 : decode cX10_write 86 = .ok (.istore 5, 2) := by decide +kernel
theorem dX10_write_88 : decode cX10_write 88 = .ok (.iconst 1, 1) := by decide +kernel
theorem dX10_write_89 : decode cX10_write 89 = .ok (.istore 6, 2) := by decide +kernel
theorem dX10_write_91 : decode cX10_write 91 = .ok (.iload 6, 2) := by decide +kernel
theorem dX10_write_93 : decode cX10_write 93 = .ok (.bipush 6, 2) := by decide +kernel
theorem dX10_write_95 : decode cX10_write 95 = .ok (.if_icmp .ge 87, 3) := by decide +kernel
theorem dX10_write_98 : decode cX10_write 98 = .ok (.iload 5, 2) := by decide +kernel
theorem dX10_write_100 : decode cX10_write 100 = .ok (.bipush 6, 2) := by decide +kernel
theorem dX10_write_102 : decode cX10_write 102 = .ok (.imul, 1) := by decide +kernel
theorem dX10_write_103 : decode cX10_write 103 = .ok (.istore 5, 2) := by decide +kernel
theorem dX10_write_105 : decode cX10_write 105 = .ok (.iconst 0, 1) := by decide +kernel
theorem dX10_write_106 : decode cX10_write 106 = .ok (.istore 7, 2) := by decide +kernel
theorem dX10_write_108 : decode cX10_write 108 = .ok (.iload 7, 2) := by decide +kernel
theorem dX10_write_110 : decode cX10_write 110 = .ok (.iload 5, 2) := by decide +kernel
theorem dX10_write_112 : decode cX10_write 112 = .ok (.if_icmp .ge 64, 3) := by decide +kernel
theorem dX10_write_115 : decode cX10_write 115 = .ok (.aload_n 0, 1) := by decide +kernel
theorem dX10_write_116 : decode cX10_write 116 = .ok (.iload 6, 2) := by decide +kernel
theorem dX10_write_118 : decode cX10_write 118 = .ok (.iload 7, 2) := by decide +kernel
theorem dX10_write_120 : decode cX10_write 120 = .ok (.invokevirtual 154, 3) := by decide +kernel
theorem dX10_write_123 : decode cX10_write 123 = .ok (.aload_n 0, 1) := by decide +kernel
theorem dX10_write_124 : decode cX10_write 124 = .ok (.iload_n 1, 1) := by decide +kernel
theorem dX10_write_125 : decode cX10_write 125 = .ok (.iload 6, 2) := by decide +kernel
theorem dX10_write_127 : decode cX10_write 127 = .ok (.iload_n 2, 1) := by decide +kernel
theorem dX10_write_128 : decode cX10_write 128 = .ok (.iload_n 3, 1) := by decide +kernel
theorem dX10_write_129 : decode cX10_write 129 = .ok (.invokevirtual 158, 3) := by decide +kernel
theorem dX10_write_132 : decode cX10_write 132 = .ok (.ifCond .eq 38, 3) := by decide +kernel
theorem dX10_write_135 : decode cX10_write 135 = .ok (.iload 4, 2) := by decide +kernel
theorem dX10_write_137 : decode cX10_write 137 = .ok (.ifCond .ne 8, 3) := by decide +kernel
theorem dX10_write_140 : decode cX10_write 140 = .ok (.iload 6, 2) := by decide +kernel
theorem dX10_write_142 : decode cX10_write 142 = .ok (.goto 27, 3) := by decide +kernel
theorem dX10_write_145 : decode cX10_write 145 = .ok (.iload 4, 2) := by decide +kernel
theorem dX10_write_147 : decode cX10_write 147 = .ok (.bipush 10, 2) := by decide +kernel
theorem dX10_write_149 : decode cX10_write 149 = .ok (.isub, 1) := by decide +kernel
theorem dX10_write_150 : decode cX10_write 150 = .ok (.iload 6, 2) := by decide +kernel
theorem dX10_write_152 : decode cX10_write 152 = .ok (.if_icmp .ge 16, 3) := by decide +kernel
theorem dX10_write_155 : decode cX10_write 155 = .ok (.aload_n 0, 1) := by decide +kernel
theorem dX10_write_156 : decode cX10_write 156 = .ok (.getfield 19, 3) := by decide +kernel
theorem dX10_write_159 : decode cX10_write 159 = .ok (.iload 4, 2) := by decide +kernel
theorem dX10_write_161 : decode cX10_write 161 = .ok (.bipush 10, 2) := by decide +kernel
theorem dX10_write_163 : decode cX10_write 163 = .ok (.isub, 1) := by decide +kernel
theorem dX10_write_164 : decode cX10_write 164 = .ok (.iaload, 1) := by decide +kernel
theorem dX10_write_165 : decode cX10_write 165 = .ok (.goto 4, 3) := by decide +kernel
theorem dX10_write_168 : decode cX10_write 168 = .ok (.iconst (-1), 1) := by decide +kernel
theorem dX10_write_169 : decode cX10_write 169 = .ok (.ireturn, 1) := by decide +kernel
theorem dX10_write_170 : decode cX10_write 170 = .ok (.iinc 7 1, 3) := by decide +kernel
theorem dX10_write_173 : decode cX10_write 173 = .ok (.goto (-65), 3) := by decide +kernel
theorem dX10_write_176 : decode cX10_write 176 = .ok (.iinc 6 1, 3) := by decide +kernel
theorem dX10_write_179 : decode cX10_write 179 = .ok (.goto (-88), 3) := by decide +kernel
theorem dX10_write_182 : decode cX10_write 182 = .ok (.iconst (-1), 1) := by decide +kernel
theorem dX10_write_183 : decode cX10_write 183 = .ok (.ireturn, 1) := by decide +kernel
theorem dX10_restOf_0 : decode cX10_restOf 0 = .ok (.iload_n 2, 1) := by decide +kernel
theorem dX10_restOf_1 : decode cX10_restOf 1 = .ok (.iload_n 1, 1) := by decide +kernel
theorem dX10_restOf_2 : decode cX10_restOf 2 = .ok (.isub, 1) := by decide +kernel
theorem dX10_restOf_3 : decode cX10_restOf 3 = .ok (.istore 4, 2) := by decide +kernel
theorem dX10_restOf_5 : decode cX10_restOf 5 = .ok (.iconst 1, 1) := by decide +kernel
theorem dX10_restOf_6 : decode cX10_restOf 6 = .ok (.istore 5, 2) := by decide +kernel
theorem dX10_restOf_8 : decode cX10_restOf 8 = .ok (.iconst 0, 1) := by decide +kernel
theorem dX10_restOf_9 : decode cX10_restOf 9 = .ok (.istore 6, 2) := by decide +kernel
theorem dX10_restOf_11 : decode cX10_restOf 11 = .ok (.iload 6, 2) := by decide +kernel
theorem dX10_restOf_13 : decode cX10_restOf 13 = .ok (.iload 4, 2) := by decide +kernel
theorem dX10_restOf_15 : decode cX10_restOf 15 = .ok (.if_icmp .ge 16, 3) := by decide +kernel
theorem dX10_restOf_18 : decode cX10_restOf 18 = .ok (.iload 5, 2) := by decide +kernel
theorem dX10_restOf_20 : decode cX10_restOf 20 = .ok (.bipush 6, 2) := by decide +kernel
theorem dX10_restOf_22 : decode cX10_restOf 22 = .ok (.imul, 1) := by decide +kernel
theorem dX10_restOf_23 : decode cX10_restOf 23 = .ok (.istore 5, 2) := by decide +kernel
theorem dX10_restOf_25 : decode cX10_restOf 25 = .ok (.iinc 6 1, 3) := by decide +kernel
theorem dX10_restOf_28 : decode cX10_restOf 28 = .ok (.goto (-17), 3) := by decide +kernel
theorem dX10_restOf_31 : decode cX10_restOf 31 = .ok (.iconst 0, 1) := by decide +kernel
theorem dX10_restOf_32 : decode cX10_restOf 32 = .ok (.istore 6, 2) := by decide +kernel
theorem dX10_restOf_34 : decode cX10_restOf 34 = .ok (.iconst 0, 1) := by decide +kernel
theorem dX10_restOf_35 : decode cX10_restOf 35 = .ok (.istore 7, 2) := by decide +kernel
theorem dX10_restOf_37 : decode cX10_restOf 37 = .ok (.iload 7, 2) := by decide +kernel
theorem dX10_restOf_39 : decode cX10_restOf 39 = .ok (.iload 5, 2) := by decide +kernel
theorem dX10_restOf_41 : decode cX10_restOf 41 = .ok (.if_icmp .ge 89, 3) := by decide +kernel
theorem dX10_restOf_44 : decode cX10_restOf 44 = .ok (.aload_n 0, 1) := by decide +kernel
theorem dX10_restOf_45 : decode cX10_restOf 45 = .ok (.iload 4, 2) := by decide +kernel
theorem dX10_restOf_47 : decode cX10_restOf 47 = .ok (.iload 7, 2) := by decide +kernel
theorem dX10_restOf_49 : decode cX10_restOf 49 = .ok (.invokevirtual 154, 3) := by decide +kernel
theorem dX10_restOf_52 : decode cX10_restOf 52 = .ok (.aload_n 0, 1) := by decide +kernel
theorem dX10_restOf_53 : decode cX10_restOf 53 = .ok (.invokevirtual 103, 3) := by decide +kernel
theorem dX10_restOf_56 : decode cX10_restOf 56 = .ok (.iconst 0, 1) := by decide +kernel
theorem dX10_restOf_57 : decode cX10_restOf 57 = .ok (.istore 8, 2) := by decide +kernel
theorem dX10_restOf_59 : decode cX10_restOf 59 = .ok (.iload 8, 2) := by decide +kernel
theorem dX10_restOf_61 : decode cX10_restOf 61 = .ok (.iload_n 2, 1) := by decide +kernel
theorem dX10_restOf_62 : decode cX10_restOf 62 = .ok (.if_icmp .ge 44, 3) := by decide +kernel
theorem dX10_restOf_65 : decode cX10_restOf 65 = .ok (.aload_n 0, 1) := by decide +kernel
theorem dX10_restOf_66 : decode cX10_restOf 66 = .ok (.iload 8, 2) := by decide +kernel
theorem dX10_restOf_68 : decode cX10_restOf 68 = .ok (.iload 4, 2) := by decide +kernel
theorem dX10_restOf_70 : decode cX10_restOf 70 = .ok (.if_icmp .ge 13, 3) := by decide +kernel
theorem dX10_restOf_73 : decode cX10_restOf 73 = .ok (.aload_n 0, 1) := by decide +kernel
theorem dX10_restOf_74 : decode cX10_restOf 74 = .ok (.getfield 19, 3) := by decide +kernel
theorem dX10_restOf_77 : decode cX10_restOf 77 = .ok (.iload 8, 2) := by decide +kernel
theorem dX10_restOf_79 : decode cX10_restOf 79 = .ok (.iaload, 1) := by decide +kernel
theorem dX10_restOf_80 : decode cX10_restOf 80 = .ok (.goto 17, 3) := by decide +kernel
theorem dX10_restOf_83 : decode cX10_restOf 83 = .ok (.aload_n 0, 1) := by decide +kernel
theorem dX10_restOf_84 : decode cX10_restOf 84 = .ok (.getfield 13, 3) := by decide +kernel
theorem dX10_restOf_87 : decode cX10_restOf 87 = .ok (.aload_n 0, 1) := by decide +kernel
theorem dX10_restOf_88 : decode cX10_restOf 88 = .ok (.getfield 69, 3) := by decide +kernel
theorem dX10_restOf_91 : decode cX10_restOf 91 = .ok (.iload_n 2, 1) := by decide +kernel
theorem dX10_restOf_92 : decode cX10_restOf 92 = .ok (.isub, 1) := by decide +kernel
