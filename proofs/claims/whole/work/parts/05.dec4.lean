theorem dX10_restOf_93 : decode cX10_restOf 93 = .ok (.iload 8, 2) := by decide +kernel
theorem dX10_restOf_95 : decode cX10_restOf 95 = .ok (.iadd, 1) := by decide +kernel
theorem dX10_restOf_96 : decode cX10_restOf 96 = .ok (.iaload, 1) := by decide +kernel
theorem dX10_restOf_97 : decode cX10_restOf 97 = .ok (.invokevirtual 106, 3) := by decide +kernel
theorem dX10_restOf_100 : decode cX10_restOf 100 = .ok (.iinc 8 1, 3) := by decide +kernel
theorem dX10_restOf_103 : decode cX10_restOf 103 = .ok (.goto (-44), 3) := by decide +kernel
theorem dX10_restOf_106 : decode cX10_restOf 106 = .ok (.iload 6, 2) := by decide +kernel
theorem dX10_restOf_108 : decode cX10_restOf 108 = .ok (.aload_n 0, 1) := by decide +kernel
theorem dX10_restOf_109 : decode cX10_restOf 109 = .ok (.getfield 87, 3) := by decide +kernel
theorem dX10_restOf_112 : decode cX10_restOf 112 = .ok (.iload_n 3, 1) := by decide +kernel
theorem dX10_restOf_113 : decode cX10_restOf 113 = .ok (.if_icmp .ne 7, 3) := by decide +kernel
theorem dX10_restOf_116 : decode cX10_restOf 116 = .ok (.iconst 1, 1) := by decide +kernel
theorem dX10_restOf_117 : decode cX10_restOf 117 = .ok (.goto 4, 3) := by decide +kernel
theorem dX10_restOf_120 : decode cX10_restOf 120 = .ok (.iconst 0, 1) := by decide +kernel
theorem dX10_restOf_121 : decode cX10_restOf 121 = .ok (.iadd, 1) := by decide +kernel
theorem dX10_restOf_122 : decode cX10_restOf 122 = .ok (.istore 6, 2) := by decide +kernel
theorem dX10_restOf_124 : decode cX10_restOf 124 = .ok (.iinc 7 1, 3) := by decide +kernel
theorem dX10_restOf_127 : decode cX10_restOf 127 = .ok (.goto (-90), 3) := by decide +kernel
theorem dX10_restOf_130 : decode cX10_restOf 130 = .ok (.iload 6, 2) := by decide +kernel
theorem dX10_restOf_132 : decode cX10_restOf 132 = .ok (.ireturn, 1) := by decide +kernel
theorem dX10_rest_0 : decode cX10_rest 0 = .ok (.iload_n 1, 1) := by decide +kernel
theorem dX10_rest_1 : decode cX10_rest 1 = .ok (.i2l, 1) := by decide +kernel
theorem dX10_rest_2 : decode cX10_rest 2 = .ok (.lconst 0, 1) := by decide +kernel
theorem dX10_rest_3 : decode cX10_rest 3 = .ok (.aload_n 0, 1) := by decide +kernel
theorem dX10_rest_4 : decode cX10_rest 4 = .ok (.getfield 69, 3) := by decide +kernel
theorem dX10_rest_7 : decode cX10_rest 7 = .ok (.i2l, 1) := by decide +kernel
theorem dX10_rest_8 : decode cX10_rest 8 = .ok (.invokestatic 40, 3) := by decide +kernel
theorem dX10_rest_11 : decode cX10_rest 11 = .ok (.ifCond .eq 39, 3) := by decide +kernel
theorem dX10_rest_14 : decode cX10_rest 14 = .ok (.iload_n 2, 1) := by decide +kernel
theorem dX10_rest_15 : decode cX10_rest 15 = .ok (.i2l, 1) := by decide +kernel
theorem dX10_rest_16 : decode cX10_rest 16 = .ok (.iload_n 1, 1) := by decide +kernel
theorem dX10_rest_17 : decode cX10_rest 17 = .ok (.ifCond .ne 7, 3) := by decide +kernel
theorem dX10_rest_20 : decode cX10_rest 20 = .ok (.lconst 1, 1) := by decide +kernel
theorem dX10_rest_21 : decode cX10_rest 21 = .ok (.goto 5, 3) := by decide +kernel
theorem dX10_rest_24 : decode cX10_rest 24 = .ok (.iload_n 1, 1) := by decide +kernel
theorem dX10_rest_25 : decode cX10_rest 25 = .ok (.i2l, 1) := by decide +kernel
theorem dX10_rest_26 : decode cX10_rest 26 = .ok (.iload_n 1, 1) := by decide +kernel
theorem dX10_rest_27 : decode cX10_rest 27 = .ok (.iconst 5, 1) := by decide +kernel
theorem dX10_rest_28 : decode cX10_rest 28 = .ok (.iadd, 1) := by decide +kernel
theorem dX10_rest_29 : decode cX10_rest 29 = .ok (.i2l, 1) := by decide +kernel
theorem dX10_rest_30 : decode cX10_rest 30 = .ok (.invokestatic 40, 3) := by decide +kernel
theorem dX10_rest_33 : decode cX10_rest 33 = .ok (.ifCond .eq 17, 3) := by decide +kernel
theorem dX10_rest_36 : decode cX10_rest 36 = .ok (.iload_n 3, 1) := by decide +kernel
theorem dX10_rest_37 : decode cX10_rest 37 = .ok (.i2l, 1) := by decide +kernel
theorem dX10_rest_38 : decode cX10_rest 38 = .ok (.ldc2_w 162, 3) := by decide +kernel
theorem dX10_rest_41 : decode cX10_rest 41 = .ok (.ldc2_w 164, 3) := by decide +kernel
theorem dX10_rest_44 : decode cX10_rest 44 = .ok (.invokestatic 40, 3) := by decide +kernel
theorem dX10_rest_47 : decode cX10_rest 47 = .ok (.ifCond .ne 6, 3) := by decide +kernel
theorem dX10_rest_50 : decode cX10_rest 50 = .ok (.bipush (-102), 2) := by decide +kernel
theorem dX10_rest_52 : decode cX10_rest 52 = .ok (.ireturn, 1) := by decide +kernel
theorem dX10_rest_53 : decode cX10_rest 53 = .ok (.aload_n 0, 1) := by decide +kernel
theorem dX10_rest_54 : decode cX10_rest 54 = .ok (.getfield 69, 3) := by decide +kernel
theorem dX10_rest_57 : decode cX10_rest 57 = .ok (.ifCond .ne 8, 3) := by decide +kernel
theorem dX10_rest_60 : decode cX10_rest 60 = .ok (.bipush (-103), 2) := by decide +kernel
theorem dX10_rest_62 : decode cX10_rest 62 = .ok (.goto 10, 3) := by decide +kernel
theorem dX10_rest_65 : decode cX10_rest 65 = .ok (.aload_n 0, 1) := by decide +kernel
theorem dX10_rest_66 : decode cX10_rest 66 = .ok (.iload_n 1, 1) := by decide +kernel
theorem dX10_rest_67 : decode cX10_rest 67 = .ok (.iload_n 2, 1) := by decide +kernel
theorem dX10_rest_68 : decode cX10_rest 68 = .ok (.iload_n 3, 1) := by decide +kernel
theorem dX10_rest_69 : decode cX10_rest 69 = .ok (.invokevirtual 166, 3) := by decide +kernel
theorem dX10_rest_72 : decode cX10_rest 72 = .ok (.ireturn, 1) := by decide +kernel
theorem dX10_kindsBy_0 : decode cX10_kindsBy 0 = .ok (.iconst 0, 1) := by decide +kernel
theorem dX10_kindsBy_1 : decode cX10_kindsBy 1 = .ok (.istore_n 3, 1) := by decide +kernel
theorem dX10_kindsBy_2 : decode cX10_kindsBy 2 = .ok (.iconst 0, 1) := by decide +kernel
theorem dX10_kindsBy_3 : decode cX10_kindsBy 3 = .ok (.istore 4, 2) := by decide +kernel
theorem dX10_kindsBy_5 : decode cX10_kindsBy 5 = .ok (.iload 4, 2) := by decide +kernel
theorem dX10_kindsBy_7 : decode cX10_kindsBy 7 = .ok (.iconst 5, 1) := by decide +kernel
theorem dX10_kindsBy_8 : decode cX10_kindsBy 8 = .ok (.if_icmp .ge 47, 3) := by decide +kernel
theorem dX10_kindsBy_11 : decode cX10_kindsBy 11 = .ok (.aload_n 0, 1) := by decide +kernel
theorem dX10_kindsBy_12 : decode cX10_kindsBy 12 = .ok (.aload_n 0, 1) := by decide +kernel
theorem dX10_kindsBy_13 : decode cX10_kindsBy 13 = .ok (.getfield 13, 3) := by decide +kernel
theorem dX10_kindsBy_16 : decode cX10_kindsBy 16 = .ok (.aload_n 0, 1) := by decide +kernel
theorem dX10_kindsBy_17 : decode cX10_kindsBy 17 = .ok (.getfield 69, 3) := by decide +kernel
theorem dX10_kindsBy_20 : decode cX10_kindsBy 20 = .ok (.iload 4, 2) := by decide +kernel
theorem dX10_kindsBy_22 : decode cX10_kindsBy 22 = .ok (.iload_n 2, 1) := by decide +kernel
theorem dX10_kindsBy_23 : decode cX10_kindsBy 23 = .ok (.aload_n 0, 1) := by decide +kernel
theorem dX10_kindsBy_24 : decode cX10_kindsBy 24 = .ok (.getfield 72, 3) := by decide +kernel
theorem dX10_kindsBy_27 : decode cX10_kindsBy 27 = .ok (.invokevirtual 133, 3) := by decide +kernel
theorem dX10_kindsBy_30 : decode cX10_kindsBy 30 = .ok (.iload_n 3, 1) := by decide +kernel
theorem dX10_kindsBy_31 : decode cX10_kindsBy 31 = .ok (.aload_n 0, 1) := by decide +kernel
theorem dX10_kindsBy_32 : decode cX10_kindsBy 32 = .ok (.getfield 97, 3) := by decide +kernel
theorem dX10_kindsBy_35 : decode cX10_kindsBy 35 = .ok (.iload_n 1, 1) := by decide +kernel
theorem dX10_kindsBy_36 : decode cX10_kindsBy 36 = .ok (.if_icmp .ne 10, 3) := by decide +kernel
theorem dX10_kindsBy_39 : decode cX10_kindsBy 39 = .ok (.iconst 1, 1) := by decide +kernel
theorem dX10_kindsBy_40 : decode cX10_kindsBy 40 = .ok (.iload 4, 2) := by decide +kernel
theorem dX10_kindsBy_42 : decode cX10_kindsBy 42 = .ok (.ishl, 1) := by decide +kernel
theorem dX10_kindsBy_43 : decode cX10_kindsBy 43 = .ok (.goto 4, 3) := by decide +kernel
theorem dX10_kindsBy_46 : decode cX10_kindsBy 46 = .ok (.iconst 0, 1) := by decide +kernel
theorem dX10_kindsBy_47 : decode cX10_kindsBy 47 = .ok (.ior, 1) := by decide +kernel
theorem dX10_kindsBy_48 : decode cX10_kindsBy 48 = .ok (.istore_n 3, 1) := by decide +kernel
theorem dX10_kindsBy_49 : decode cX10_kindsBy 49 = .ok (.iinc 4 1, 3) := by decide +kernel
theorem dX10_kindsBy_52 : decode cX10_kindsBy 52 = .ok (.goto (-47), 3) := by decide +kernel
theorem dX10_kindsBy_55 : decode cX10_kindsBy 55 = .ok (.iload_n 3, 1) := by decide +kernel
theorem dX10_kindsBy_56 : decode cX10_kindsBy 56 = .ok (.ireturn, 1) := by decide +kernel
theorem dX10_tell_0 : decode cX10_tell 0 = .ok (.iload_n 1, 1) := by decide +kernel
theorem dX10_tell_1 : decode cX10_tell 1 = .ok (.i2l, 1) := by decide +kernel
theorem dX10_tell_2 : decode cX10_tell 2 = .ok (.lconst 0, 1) := by decide +kernel
theorem dX10_tell_3 : decode cX10_tell 3 = .ok (.ldc2_w 127, 3) := by decide +kernel
theorem dX10_tell_6 : decode cX10_tell 6 = .ok (.invokestatic 40, 3) := by decide +kernel
theorem dX10_tell_9 : decode cX10_tell 9 = .ok (.ifCond .ne 6, 3) := by decide +kernel
theorem dX10_tell_12 : decode cX10_tell 12 = .ok (.bipush (-102), 2) := by decide +kernel
theorem dX10_tell_14 : decode cX10_tell 14 = .ok (.ireturn, 1) := by decide +kernel
theorem dX10_tell_15 : decode cX10_tell 15 = .ok (.aload_n 0, 1) := by decide +kernel
theorem dX10_tell_16 : decode cX10_tell 16 = .ok (.getfield 69, 3) := by decide +kernel
theorem dX10_tell_19 : decode cX10_tell 19 = .ok (.ifCond .ne 6, 3) := by decide +kernel
theorem dX10_tell_22 : decode cX10_tell 22 = .ok (.bipush (-103), 2) := by decide +kernel
theorem dX10_tell_24 : decode cX10_tell 24 = .ok (.ireturn, 1) := by decide +kernel
theorem dX10_tell_25 : decode cX10_tell 25 = .ok (.aload_n 0, 1) := by decide +kernel
theorem dX10_tell_26 : decode cX10_tell 26 = .ok (.getfield 81, 3) := by decide +kernel
theorem dX10_tell_29 : decode cX10_tell 29 = .ok (.bipush 6, 2) := by decide +kernel
theorem dX10_tell_31 : decode cX10_tell 31 = .ok (.if_icmp .ne 6, 3) := by decide +kernel
theorem dX10_tell_34 : decode cX10_tell 34 = .ok (.bipush (-104), 2) := by decide +kernel
theorem dX10_tell_36 : decode cX10_tell 36 = .ok (.ireturn, 1) := by decide +kernel
theorem dX10_tell_37 : decode cX10_tell 37 = .ok (.aload_n 0, 1) := by decide +kernel
theorem dX10_tell_38 : decode cX10_tell 38 = .ok (.getfield 22, 3) := by decide +kernel
theorem dX10_tell_41 : decode cX10_tell 41 = .ok (.aload_n 0, 1) := by decide +kernel
theorem dX10_tell_42 : decode cX10_tell 42 = .ok (.getfield 81, 3) := by decide +kernel
theorem dX10_tell_45 : decode cX10_tell 45 = .ok (.aload_n 0, 1) := by decide +kernel
theorem dX10_tell_46 : decode cX10_tell 46 = .ok (.iload_n 1, 1) := by decide +kernel
theorem dX10_tell_47 : decode cX10_tell 47 = .ok (.iload_n 2, 1) := by decide +kernel
theorem dX10_tell_48 : decode cX10_tell 48 = .ok (.invokevirtual 170, 3) := by decide +kernel
theorem dX10_tell_51 : decode cX10_tell 51 = .ok (.iastore, 1) := by decide +kernel
theorem dX10_tell_52 : decode cX10_tell 52 = .ok (.aload_n 0, 1) := by decide +kernel
theorem dX10_tell_53 : decode cX10_tell 53 = .ok (.dup, 1) := by decide +kernel
theorem dX10_tell_54 : decode cX10_tell 54 = .ok (.getfield 81, 3) := by decide +kernel
theorem dX10_tell_57 : decode cX10_tell 57 = .ok (.iconst 1, 1) := by decide +kernel
theorem dX10_tell_58 : decode cX10_tell 58 = .ok (.iadd, 1) := by decide +kernel
theorem dX10_tell_59 : decode cX10_tell 59 = .ok (.putfield 81, 3) := by decide +kernel
theorem dX10_tell_62 : decode cX10_tell 62 = .ok (.aload_n 0, 1) := by decide +kernel
theorem dX10_tell_63 : decode cX10_tell 63 = .ok (.getfield 81, 3) := by decide +kernel
theorem dX10_tell_66 : decode cX10_tell 66 = .ok (.ireturn, 1) := by decide +kernel
theorem dX10_forget_0 : decode cX10_forget 0 = .ok (.aload_n 0, 1) := by decide +kernel
theorem dX10_forget_1 : decode cX10_forget 1 = .ok (.getfield 81, 3) := by decide +kernel
theorem dX10_forget_4 : decode cX10_forget 4 = .ok (.istore_n 1, 1) := by decide +kernel
theorem dX10_forget_5 : decode cX10_forget 5 = .ok (.aload_n 0, 1) := by decide +kernel
theorem dX10_forget_6 : decode cX10_forget 6 = .ok (.iconst 0, 1) := by decide +kernel
theorem dX10_forget_7 : decode cX10_forget 7 = .ok (.putfield 81, 3) := by decide +kernel
theorem dX10_forget_10 : decode cX10_forget 10 = .ok (.iload_n 1, 1) := by decide +kernel
theorem dX10_forget_11 : decode cX10_forget 11 = .ok (.ireturn, 1) := by decide +kernel
theorem dX10_whichOf_0 : decode cX10_whichOf 0 = .ok (.bipush 31, 2) := by decide +kernel
theorem dX10_whichOf_2 : decode cX10_whichOf 2 = .ok (.istore_n 1, 1) := by decide +kernel
theorem dX10_whichOf_3 : decode cX10_whichOf 3 = .ok (.iconst 0, 1) := by decide +kernel
theorem dX10_whichOf_4 : decode cX10_whichOf 4 = .ok (.istore_n 2, 1) := by decide +kernel
theorem dX10_whichOf_5 : decode cX10_whichOf 5 = .ok (.iload_n 2, 1) := by decide +kernel
theorem dX10_whichOf_6 : decode cX10_whichOf 6 = .ok (.aload_n 0, 1) := by decide +kernel
theorem dX10_whichOf_7 : decode cX10_whichOf 7 = .ok (.getfield 81, 3) := by decide +kernel
theorem dX10_whichOf_10 : decode cX10_whichOf 10 = .ok (.if_icmp .ge 18, 3) := by decide +kernel
theorem dX10_whichOf_13 : decode cX10_whichOf 13 = .ok (.iload_n 1, 1) := by decide +kernel
theorem dX10_whichOf_14 : decode cX10_whichOf 14 = .ok (.aload_n 0, 1) := by decide +kernel
theorem dX10_whichOf_15 : decode cX10_whichOf 15 = .ok (.getfield 22, 3) := by decide +kernel
theorem dX10_whichOf_18 : decode cX10_whichOf 18 = .ok (.iload_n 2, 1) := by decide +kernel
theorem dX10_whichOf_19 : decode cX10_whichOf 19 = .ok (.iaload, 1) := by decide +kernel
theorem dX10_whichOf_20 : decode cX10_whichOf 20 = .ok (.iand, 1) := by decide +kernel
theorem dX10_whichOf_21 : decode cX10_whichOf 21 = .ok (.istore_n 1, 1) := by decide +kernel
theorem dX10_whichOf_22 : decode cX10_whichOf 22 = .ok (.iinc 2 1, 3) := by decide +kernel
theorem dX10_whichOf_25 : decode cX10_whichOf 25 = .ok (.goto (-20), 3) := by decide +kernel
theorem dX10_whichOf_28 : decode cX10_whichOf 28 = .ok (.iload_n 1, 1) := by decide +kernel
theorem dX10_whichOf_29 : decode cX10_whichOf 29 = .ok (.ireturn, 1) := by decide +kernel
theorem dX10_which_0 : decode cX10_which 0 = .ok (.aload_n 0, 1) := by decide +kernel
theorem dX10_which_1 : decode cX10_which 1 = .ok (.invokevirtual 173, 3) := by decide +kernel
theorem dX10_which_4 : decode cX10_which 4 = .ok (.ireturn, 1) := by decide +kernel
theorem dX10_worstBy_0 : decode cX10_worstBy 0 = .ok (.iconst 0, 1) := by decide +kernel
theorem dX10_worstBy_1 : decode cX10_worstBy 1 = .ok (.istore_n 3, 1) := by decide +kernel
theorem dX10_worstBy_2 : decode cX10_worstBy 2 = .ok (.iload_n 3, 1) := by decide +kernel
theorem dX10_worstBy_3 : decode cX10_worstBy 3 = .ok (.bipush 10, 2) := by decide +kernel
theorem dX10_worstBy_5 : decode cX10_worstBy 5 = .ok (.if_icmp .ge 16, 3) := by decide +kernel
theorem dX10_worstBy_8 : decode cX10_worstBy 8 = .ok (.aload_n 0, 1) := by decide +kernel
theorem dX10_worstBy_9 : decode cX10_worstBy 9 = .ok (.getfield 25, 3) := by decide +kernel
theorem dX10_worstBy_12 : decode cX10_worstBy 12 = .ok (.iload_n 3, 1) := by decide +kernel
theorem dX10_worstBy_13 : decode cX10_worstBy 13 = .ok (.iconst 0, 1) := by decide +kernel
theorem dX10_worstBy_14 : decode cX10_worstBy 14 = .ok (.iastore, 1) := by decide +kernel
theorem dX10_worstBy_15 : decode cX10_worstBy 15 = .ok (.iinc 3 1, 3) := by decide +kernel
theorem dX10_worstBy_18 : decode cX10_worstBy 18 = .ok (.goto (-16), 3) := by decide +kernel
theorem dX10_worstBy_21 : decode cX10_worstBy 21 = .ok (.iconst 0, 1) := by decide +kernel
theorem dX10_worstBy_22 : decode cX10_worstBy 22 = .ok (.istore_n 3, 1) := by decide +kernel
theorem dX10_worstBy_23 : decode cX10_worstBy 23 = .ok (.iconst 0, 1) := by decide +kernel
theorem dX10_worstBy_24 : decode cX10_worstBy 24 = .ok (.istore 4, 2) := by decide +kernel
theorem dX10_worstBy_26 : decode cX10_worstBy 26 = .ok (.iload 4, 2) := by decide +kernel
theorem dX10_worstBy_28 : decode cX10_worstBy 28 = .ok (.iconst 5, 1) := by decide +kernel
theorem dX10_worstBy_29 : decode cX10_worstBy 29 = .ok (.if_icmp .ge 78, 3) := by decide +kernel
theorem dX10_worstBy_32 : decode cX10_worstBy 32 = .ok (.iload_n 1, 1) := by decide +kernel
theorem dX10_worstBy_33 : decode cX10_worstBy 33 = .ok (.iload 4, 2) := by decide +kernel
theorem dX10_worstBy_35 : decode cX10_worstBy 35 = .ok (.ishr, 1) := by decide +kernel
theorem dX10_worstBy_36 : decode cX10_worstBy 36 = .ok (.iconst 1, 1) := by decide +kernel
theorem dX10_worstBy_37 : decode cX10_worstBy 37 = .ok (.iand, 1) := by decide +kernel
theorem dX10_worstBy_38 : decode cX10_worstBy 38 = .ok (.iconst 1, 1) := by decide +kernel
theorem dX10_worstBy_39 : decode cX10_worstBy 39 = .ok (.if_icmp .ne 62, 3) := by decide +kernel
theorem dX10_worstBy_42 : decode cX10_worstBy 42 = .ok (.aload_n 0, 1) := by decide +kernel
theorem dX10_worstBy_43 : decode cX10_worstBy 43 = .ok (.aload_n 0, 1) := by decide +kernel
theorem dX10_worstBy_44 : decode cX10_worstBy 44 = .ok (.getfield 13, 3) := by decide +kernel
theorem dX10_worstBy_47 : decode cX10_worstBy 47 = .ok (.aload_n 0, 1) := by decide +kernel
theorem dX10_worstBy_48 : decode cX10_worstBy 48 = .ok (.getfield 69, 3) := by decide +kernel
theorem dX10_worstBy_51 : decode cX10_worstBy 51 = .ok (.iload 4, 2) := by decide +kernel
theorem dX10_worstBy_53 : decode cX10_worstBy 53 = .ok (.iload_n 2, 1) := by decide +kernel
theorem dX10_worstBy_54 : decode cX10_worstBy 54 = .ok (.aload_n 0, 1) := by decide +kernel
theorem dX10_worstBy_55 : decode cX10_worstBy 55 = .ok (.getfield 72, 3) := by decide +kernel
theorem dX10_worstBy_58 : decode cX10_worstBy 58 = .ok (.invokevirtual 133, 3) := by decide +kernel
theorem dX10_worstBy_61 : decode cX10_worstBy 61 = .ok (.aload_n 0, 1) := by decide +kernel
theorem dX10_worstBy_62 : decode cX10_worstBy 62 = .ok (.getfield 25, 3) := by decide +kernel
theorem dX10_worstBy_65 : decode cX10_worstBy 65 = .ok (.aload_n 0, 1) := by decide +kernel
theorem dX10_worstBy_66 : decode cX10_worstBy 66 = .ok (.getfield 97, 3) := by decide +kernel
theorem dX10_worstBy_69 : decode cX10_worstBy 69 = .ok (.dup2, 1) := by decide +kernel
theorem dX10_worstBy_70 : decode cX10_worstBy 70 = .ok (.iaload, 1) := by decide +kernel
theorem dX10_worstBy_71 : decode cX10_worstBy 71 = .ok (.iconst 1, 1) := by decide +kernel
theorem dX10_worstBy_72 : decode cX10_worstBy 72 = .ok (.iadd, 1) := by decide +kernel
theorem dX10_worstBy_73 : decode cX10_worstBy 73 = .ok (.iastore, 1) := by decide +kernel
theorem dX10_worstBy_74 : decode cX10_worstBy 74 = .ok (.aload_n 0, 1) := by decide +kernel
theorem dX10_worstBy_75 : decode cX10_worstBy 75 = .ok (.getfield 25, 3) := by decide +kernel
theorem dX10_worstBy_78 : decode cX10_worstBy 78 = .ok (.aload_n 0, 1) := by decide +kernel
theorem dX10_worstBy_79 : decode cX10_worstBy 79 = .ok (.getfield 97, 3) := by decide +kernel
theorem dX10_worstBy_82 : decode cX10_worstBy 82 = .ok (.iaload, 1) := by decide +kernel
theorem dX10_worstBy_83 : decode cX10_worstBy 83 = .ok (.iload_n 3, 1) := by decide +kernel
theorem dX10_worstBy_84 : decode cX10_worstBy 84 = .ok (.if_icmp .le 15, 3) := by decide +kernel
theorem dX10_worstBy_87 : decode cX10_worstBy 87 = .ok (.aload_n 0, 1) := by decide +kernel
theorem dX10_worstBy_88 : decode cX10_worstBy 88 = .ok (.getfield 25, 3) := by decide +kernel
theorem dX10_worstBy_91 : decode cX10_worstBy 91 = .ok (.aload_n 0, 1) := by decide +kernel
theorem dX10_worstBy_92 : decode cX10_worstBy 92 = .ok (.getfield 97, 3) := by decide +kernel
theorem dX10_worstBy_95 : decode cX10_worstBy 95 = .ok (.iaload, 1) := by decide +kernel
theorem dX10_worstBy_96 : decode cX10_worstBy 96 = .ok (.goto 4, 3) := by decide +kernel
theorem dX10_worstBy_99 : decode cX10_worstBy 99 = .ok (.iload_n 3, 1) := by decide +kernel
theorem dX10_worstBy_100 : decode cX10_worstBy 100 = .ok (.istore_n 3, 1) := by decide +kernel
theorem dX10_worstBy_101 : decode cX10_worstBy 101 = .ok (.iinc 4 1, 3) := by decide +kernel
theorem dX10_worstBy_104 : decode cX10_worstBy 104 = .ok (.goto (-78), 3) := by decide +kernel
theorem dX10_worstBy_107 : decode cX10_worstBy 107 = .ok (.iload_n 3, 1) := by decide +kernel
theorem dX10_worstBy_108 : decode cX10_worstBy 108 = .ok (.ireturn, 1) := by decide +kernel
theorem dX10_askOf_0 : decode cX10_askOf 0 = .ok (.aload_n 0, 1) := by decide +kernel
theorem dX10_askOf_1 : decode cX10_askOf 1 = .ok (.invokevirtual 173, 3) := by decide +kernel
theorem dX10_askOf_4 : decode cX10_askOf 4 = .ok (.istore_n 1, 1) := by decide +kernel
theorem dX10_askOf_5 : decode cX10_askOf 5 = .ok (.iload_n 1, 1) := by decide +kernel
theorem dX10_askOf_6 : decode cX10_askOf 6 = .ok (.ifCond .ne 5, 3) := by decide +kernel
theorem dX10_askOf_9 : decode cX10_askOf 9 = .ok (.iconst (-1), 1) := by decide +kernel
theorem dX10_askOf_10 : decode cX10_askOf 10 = .ok (.ireturn, 1) := by decide +kernel
theorem dX10_askOf_11 : decode cX10_askOf 11 = .ok (.aload_n 0, 1) := by decide +kernel
theorem dX10_askOf_12 : decode cX10_askOf 12 = .ok (.iload_n 1, 1) := by decide +kernel
theorem dX10_askOf_13 : decode cX10_askOf 13 = .ok (.iconst 1, 1) := by decide +kernel
theorem dX10_askOf_14 : decode cX10_askOf 14 = .ok (.invokevirtual 176, 3) := by decide +kernel
theorem dX10_askOf_17 : decode cX10_askOf 17 = .ok (.aload_n 0, 1) := by decide +kernel
theorem dX10_askOf_18 : decode cX10_askOf 18 = .ok (.iload_n 1, 1) := by decide +kernel
theorem dX10_askOf_19 : decode cX10_askOf 19 = .ok (.iconst 0, 1) := by decide +kernel
theorem dX10_askOf_20 : decode cX10_askOf 20 = .ok (.invokevirtual 176, 3) := by decide +kernel
theorem dX10_askOf_23 : decode cX10_askOf 23 = .ok (.if_icmp .ge 7, 3) := by decide +kernel
theorem dX10_askOf_26 : decode cX10_askOf 26 = .ok (.iconst 1, 1) := by decide +kernel
theorem dX10_askOf_27 : decode cX10_askOf 27 = .ok (.goto 4, 3) := by decide +kernel
theorem dX10_askOf_30 : decode cX10_askOf 30 = .ok (.iconst 0, 1) := by decide +kernel
theorem dX10_askOf_31 : decode cX10_askOf 31 = .ok (.ireturn, 1) := by decide +kernel
theorem dX10_ask_0 : decode cX10_ask 0 = .ok (.aload_n 0, 1) := by decide +kernel
theorem dX10_ask_1 : decode cX10_ask 1 = .ok (.getfield 69, 3) := by decide +kernel
theorem dX10_ask_4 : decode cX10_ask 4 = .ok (.ifCond .ne 8, 3) := by decide +kernel
theorem dX10_ask_7 : decode cX10_ask 7 = .ok (.bipush (-103), 2) := by decide +kernel
theorem dX10_ask_9 : decode cX10_ask 9 = .ok (.goto 7, 3) := by decide +kernel
theorem dX10_ask_12 : decode cX10_ask 12 = .ok (.aload_n 0, 1) := by decide +kernel
theorem dX10_ask_13 : decode cX10_ask 13 = .ok (.invokevirtual 179, 3) := by decide +kernel
theorem dX10_ask_16 : decode cX10_ask 16 = .ok (.ireturn, 1) := by decide +kernel
theorem dX10_draw_0 : decode cX10_draw 0 = .ok (.aload_n 0, 1) := by decide +kernel
theorem dX10_draw_1 : decode cX10_draw 1 = .ok (.ldc2_w 182, 3) := by decide +kernel
theorem dX10_draw_4 : decode cX10_draw 4 = .ok (.aload_n 0, 1) := by decide +kernel
theorem dX10_draw_5 : decode cX10_draw 5 = .ok (.getfield 184, 3) := by decide +kernel
theorem dX10_draw_8 : decode cX10_draw 8 = .ok (.i2l, 1) := by decide +kernel
theorem dX10_draw_9 : decode cX10_draw 9 = .ok (.lmul, 1) := by decide +kernel
theorem dX10_draw_10 : decode cX10_draw 10 = .ok (.ldc2_w 187, 3) := by decide +kernel
theorem dX10_draw_13 : decode cX10_draw 13 = .ok (.ladd, 1) := by decide +kernel
theorem dX10_draw_14 : decode cX10_draw 14 = .ok (.ldc2_w 189, 3) := by decide +kernel
theorem dX10_draw_17 : decode cX10_draw 17 = .ok (.land, 1) := by decide +kernel
theorem dX10_draw_18 : decode cX10_draw 18 = .ok (.l2i, 1) := by decide +kernel
theorem dX10_draw_19 : decode cX10_draw 19 = .ok (.putfield 184, 3) := by decide +kernel
theorem dX10_draw_22 : decode cX10_draw 22 = .ok (.aload_n 0, 1) := by decide +kernel
theorem dX10_draw_23 : decode cX10_draw 23 = .ok (.getfield 184, 3) := by decide +kernel
theorem dX10_draw_26 : decode cX10_draw 26 = .ok (.ldc 191, 2) := by decide +kernel
theorem dX10_draw_28 : decode cX10_draw 28 = .ok (.idiv, 1) := by decide +kernel
theorem dX10_draw_29 : decode cX10_draw 29 = .ok (.iload_n 1, 1) := by decide +kernel
theorem dX10_draw_30 : decode cX10_draw 30 = .ok (.irem, 1) := by decide +kernel
theorem dX10_draw_31 : decode cX10_draw 31 = .ok (.ireturn, 1) := by decide +kernel
theorem dX10_days_0 : decode cX10_days 0 = .ok (.iload_n 1, 1) := by decide +kernel
theorem dX10_days_1 : decode cX10_days 1 = .ok (.i2l, 1) := by decide +kernel
theorem dX10_days_2 : decode cX10_days 2 = .ok (.lconst 1, 1) := by decide +kernel
theorem dX10_days_3 : decode cX10_days 3 = .ok (.ldc2_w 192, 3) := by decide +kernel
theorem dX10_days_6 : decode cX10_days 6 = .ok (.invokestatic 40, 3) := by decide +kernel
theorem dX10_days_9 : decode cX10_days 9 = .ok (.ifCond .eq 19, 3) := by decide +kernel
theorem dX10_days_12 : decode cX10_days 12 = .ok (.iload_n 2, 1) := by decide +kernel
theorem dX10_days_13 : decode cX10_days 13 = .ok (.ifCond .lt 15, 3) := by decide +kernel
theorem dX10_days_16 : decode cX10_days 16 = .ok (.iload_n 3, 1) := by decide +kernel
theorem dX10_days_17 : decode cX10_days 17 = .ok (.i2l, 1) := by decide +kernel
theorem dX10_days_18 : decode cX10_days 18 = .ok (.lconst 0, 1) := by decide +kernel
theorem dX10_days_19 : decode cX10_days 19 = .ok (.ldc2_w 194, 3) := by decide +kernel
theorem dX10_days_22 : decode cX10_days 22 = .ok (.invokestatic 40, 3) := by decide +kernel
theorem dX10_days_25 : decode cX10_days 25 = .ok (.ifCond .ne 6, 3) := by decide +kernel
theorem dX10_days_28 : decode cX10_days 28 = .ok (.bipush (-102), 2) := by decide +kernel
theorem dX10_days_30 : decode cX10_days 30 = .ok (.ireturn, 1) := by decide +kernel
theorem dX10_days_31 : decode cX10_days 31 = .ok (.aload_n 0, 1) := by decide +kernel
theorem dX10_days_32 : decode cX10_days 32 = .ok (.getfield 78, 3) := by decide +kernel
theorem dX10_days_35 : decode cX10_days 35 = .ok (.ifCond .ne 6, 3) := by decide +kernel
theorem dX10_days_38 : decode cX10_days 38 = .ok (.bipush (-103), 2) := by decide +kernel
theorem dX10_days_40 : decode cX10_days 40 = .ok (.ireturn, 1) := by decide +kernel
theorem dX10_days_41 : decode cX10_days 41 = .ok (.aload_n 0, 1) := by decide +kernel
theorem dX10_days_42 : decode cX10_days 42 = .ok (.iload_n 2, 1) := by decide +kernel
theorem dX10_days_43 : decode cX10_days 43 = .ok (.putfield 184, 3) := by decide +kernel
theorem dX10_days_46 : decode cX10_days 46 = .ok (.iconst 0, 1) := by decide +kernel
theorem dX10_days_47 : decode cX10_days 47 = .ok (.istore 4, 2) := by decide +kernel
theorem dX10_days_49 : decode cX10_days 49 = .ok (.iconst 0, 1) := by decide +kernel
theorem dX10_days_50 : decode cX10_days 50 = .ok (.istore 5, 2) := by decide +kernel
theorem dX10_days_52 : decode cX10_days 52 = .ok (.iconst 0, 1) := by decide +kernel
theorem dX10_days_53 : decode cX10_days 53 = .ok (.istore 6, 2) := by decide +kernel
theorem dX10_days_55 : decode cX10_days 55 = .ok (.iload 6, 2) := by decide +kernel
theorem dX10_days_57 : decode cX10_days 57 = .ok (.iload_n 1, 1) := by decide +kernel
theorem dX10_days_58 : decode cX10_days 58 = .ok (.if_icmp .ge 102, 3) := by decide +kernel
theorem dX10_days_61 : decode cX10_days 61 = .ok (.aload_n 0, 1) := by decide +kernel
theorem dX10_days_62 : decode cX10_days 62 = .ok (.bipush 9, 2) := by decide +kernel
theorem dX10_days_64 : decode cX10_days 64 = .ok (.invokevirtual 196, 3) := by decide +kernel
theorem dX10_days_67 : decode cX10_days 67 = .ok (.iconst 1, 1) := by decide +kernel
theorem dX10_days_68 : decode cX10_days 68 = .ok (.iadd, 1) := by decide +kernel
theorem dX10_days_69 : decode cX10_days 69 = .ok (.istore 7, 2) := by decide +kernel
theorem dX10_days_71 : decode cX10_days 71 = .ok (.iconst 0, 1) := by decide +kernel
theorem dX10_days_72 : decode cX10_days 72 = .ok (.istore 8, 2) := by decide +kernel
theorem dX10_days_74 : decode cX10_days 74 = .ok (.iload 8, 2) := by decide +kernel
theorem dX10_days_76 : decode cX10_days 76 = .ok (.iload 7, 2) := by decide +kernel
theorem dX10_days_78 : decode cX10_days 78 = .ok (.if_icmp .ge 22, 3) := by decide +kernel
theorem dX10_days_81 : decode cX10_days 81 = .ok (.aload_n 0, 1) := by decide +kernel
theorem dX10_days_82 : decode cX10_days 82 = .ok (.getfield 19, 3) := by decide +kernel
theorem dX10_days_85 : decode cX10_days 85 = .ok (.iload 8, 2) := by decide +kernel
theorem dX10_days_87 : decode cX10_days 87 = .ok (.aload_n 0, 1) := by decide +kernel
theorem dX10_days_88 : decode cX10_days 88 = .ok (.bipush 6, 2) := by decide +kernel
theorem dX10_days_90 : decode cX10_days 90 = .ok (.invokevirtual 196, 3) := by decide +kernel
theorem dX10_days_93 : decode cX10_days 93 = .ok (.iastore, 1) := by decide +kernel
theorem dX10_days_94 : decode cX10_days 94 = .ok (.iinc 8 1, 3) := by decide +kernel
theorem dX10_days_97 : decode cX10_days 97 = .ok (.goto (-23), 3) := by decide +kernel
theorem dX10_days_100 : decode cX10_days 100 = .ok (.aload_n 0, 1) := by decide +kernel
theorem dX10_days_101 : decode cX10_days 101 = .ok (.aload_n 0, 1) := by decide +kernel
theorem dX10_days_102 : decode cX10_days 102 = .ok (.getfield 19, 3) := by decide +kernel
theorem dX10_days_105 : decode cX10_days 105 = .ok (.iload 7, 2) := by decide +kernel
theorem dX10_days_107 : decode cX10_days 107 = .ok (.aload_n 0, 1) := by decide +kernel
theorem dX10_days_108 : decode cX10_days 108 = .ok (.getfield 16, 3) := by decide +kernel
theorem dX10_days_111 : decode cX10_days 111 = .ok (.aload_n 0, 1) := by decide +kernel
theorem dX10_days_112 : decode cX10_days 112 = .ok (.aload_n 0, 1) := by decide +kernel
theorem dX10_days_113 : decode cX10_days 113 = .ok (.getfield 78, 3) := by decide +kernel
theorem dX10_days_116 : decode cX10_days 116 = .ok (.invokevirtual 196, 3) := by decide +kernel
theorem dX10_days_119 : decode cX10_days 119 = .ok (.iaload, 1) := by decide +kernel
theorem dX10_days_120 : decode cX10_days 120 = .ok (.iconst 0, 1) := by decide +kernel
theorem dX10_days_121 : decode cX10_days 121 = .ok (.aload_n 0, 1) := by decide +kernel
theorem dX10_days_122 : decode cX10_days 122 = .ok (.getfield 72, 3) := by decide +kernel
theorem dX10_days_125 : decode cX10_days 125 = .ok (.invokevirtual 133, 3) := by decide +kernel
theorem dX10_days_128 : decode cX10_days 128 = .ok (.iload 4, 2) := by decide +kernel
theorem dX10_days_130 : decode cX10_days 130 = .ok (.aload_n 0, 1) := by decide +kernel
theorem dX10_days_131 : decode cX10_days 131 = .ok (.getfield 100, 3) := by decide +kernel
theorem dX10_days_134 : decode cX10_days 134 = .ok (.ifCond .eq 7, 3) := by decide +kernel
theorem dX10_days_137 : decode cX10_days 137 = .ok (.iconst 1, 1) := by decide +kernel
theorem dX10_days_138 : decode cX10_days 138 = .ok (.goto 4, 3) := by decide +kernel
theorem dX10_days_141 : decode cX10_days 141 = .ok (.iconst 0, 1) := by decide +kernel
theorem dX10_days_142 : decode cX10_days 142 = .ok (.iadd, 1) := by decide +kernel
theorem dX10_days_143 : decode cX10_days 143 = .ok (.istore 4, 2) := by decide +kernel
theorem dX10_days_145 : decode cX10_days 145 = .ok (.iload 5, 2) := by decide +kernel
theorem dX10_days_147 : decode cX10_days 147 = .ok (.aload_n 0, 1) := by decide +kernel
theorem dX10_days_148 : decode cX10_days 148 = .ok (.getfield 87, 3) := by decide +kernel
theorem dX10_days_151 : decode cX10_days 151 = .ok (.iadd, 1) := by decide +kernel
theorem dX10_days_152 : decode cX10_days 152 = .ok (.istore 5, 2) := by decide +kernel
theorem dX10_days_154 : decode cX10_days 154 = .ok (.iinc 6 1, 3) := by decide +kernel
theorem dX10_days_157 : decode cX10_days 157 = .ok (.goto (-102), 3) := by decide +kernel
theorem dX10_days_160 : decode cX10_days 160 = .ok (.iload_n 3, 1) := by decide +kernel
theorem dX10_days_161 : decode cX10_days 161 = .ok (.ifCond .ne 8, 3) := by decide +kernel
theorem dX10_days_164 : decode cX10_days 164 = .ok (.iload 4, 2) := by decide +kernel
theorem dX10_days_166 : decode cX10_days 166 = .ok (.goto 21, 3) := by decide +kernel
theorem dX10_days_169 : decode cX10_days 169 = .ok (.iload_n 3, 1) := by decide +kernel
theorem dX10_days_170 : decode cX10_days 170 = .ok (.iconst 1, 1) := by decide +kernel
theorem dX10_days_171 : decode cX10_days 171 = .ok (.if_icmp .ne 12, 3) := by decide +kernel
theorem dX10_days_174 : decode cX10_days 174 = .ok (.sipush 1000, 3) := by decide +kernel
theorem dX10_days_177 : decode cX10_days 177 = .ok (.iload 5, 2) := by decide +kernel
theorem dX10_days_179 : decode cX10_days 179 = .ok (.iadd, 1) := by decide +kernel
theorem dX10_days_180 : decode cX10_days 180 = .ok (.goto 7, 3) := by decide +kernel
theorem dX10_days_183 : decode cX10_days 183 = .ok (.aload_n 0, 1) := by decide +kernel
theorem dX10_days_184 : decode cX10_days 184 = .ok (.getfield 184, 3) := by decide +kernel
theorem dX10_days_187 : decode cX10_days 187 = .ok (.ireturn, 1) := by decide +kernel
theorem dX10_image_0 : decode cX10_image 0 = .ok (.aload_n 0, 1) := by decide +kernel
theorem dX10_image_1 : decode cX10_image 1 = .ok (.getfield 69, 3) := by decide +kernel
theorem dX10_image_4 : decode cX10_image 4 = .ok (.ifCond .ne 6, 3) := by decide +kernel
theorem dX10_image_7 : decode cX10_image 7 = .ok (.bipush (-103), 2) := by decide +kernel
theorem dX10_image_9 : decode cX10_image 9 = .ok (.ireturn, 1) := by decide +kernel
theorem dX10_image_10 : decode cX10_image 10 = .ok (.aload_n 0, 1) := by decide +kernel
theorem dX10_image_11 : decode cX10_image 11 = .ok (.getfield 13, 3) := by decide +kernel
theorem dX10_image_14 : decode cX10_image 14 = .ok (.aload_n 0, 1) := by decide +kernel
theorem dX10_image_15 : decode cX10_image 15 = .ok (.getfield 28, 3) := by decide +kernel
theorem dX10_image_18 : decode cX10_image 18 = .ok (.invokestatic 199, 3) := by decide +kernel
theorem dX10_image_21 : decode cX10_image 21 = .ok (.aload_n 0, 1) := by decide +kernel
theorem dX10_image_22 : decode cX10_image 22 = .ok (.getfield 22, 3) := by decide +kernel
theorem dX10_image_25 : decode cX10_image 25 = .ok (.aload_n 0, 1) := by decide +kernel
theorem dX10_image_26 : decode cX10_image 26 = .ok (.getfield 31, 3) := by decide +kernel
theorem dX10_image_29 : decode cX10_image 29 = .ok (.invokestatic 199, 3) := by decide +kernel
theorem dX10_image_32 : decode cX10_image 32 = .ok (.aload_n 0, 1) := by decide +kernel
theorem dX10_image_33 : decode cX10_image 33 = .ok (.aload_n 0, 1) := by decide +kernel
theorem dX10_image_34 : decode cX10_image 34 = .ok (.getfield 72, 3) := by decide +kernel
theorem dX10_image_37 : decode cX10_image 37 = .ok (.putfield 203, 3) := by decide +kernel
theorem dX10_image_40 : decode cX10_image 40 = .ok (.aload_n 0, 1) := by decide +kernel
theorem dX10_image_41 : decode cX10_image 41 = .ok (.aload_n 0, 1) := by decide +kernel
theorem dX10_image_42 : decode cX10_image 42 = .ok (.getfield 75, 3) := by decide +kernel
theorem dX10_image_45 : decode cX10_image 45 = .ok (.putfield 206, 3) := by decide +kernel
theorem dX10_image_48 : decode cX10_image 48 = .ok (.aload_n 0, 1) := by decide +kernel
theorem dX10_image_49 : decode cX10_image 49 = .ok (.aload_n 0, 1) := by decide +kernel
theorem dX10_image_50 : decode cX10_image 50 = .ok (.getfield 78, 3) := by decide +kernel
theorem dX10_image_53 : decode cX10_image 53 = .ok (.putfield 209, 3) := by decide +kernel
theorem dX10_image_56 : decode cX10_image 56 = .ok (.aload_n 0, 1) := by decide +kernel
theorem dX10_image_57 : decode cX10_image 57 = .ok (.aload_n 0, 1) := by decide +kernel
theorem dX10_image_58 : decode cX10_image 58 = .ok (.getfield 81, 3) := by decide +kernel
theorem dX10_image_61 : decode cX10_image 61 = .ok (.putfield 212, 3) := by decide +kernel
theorem dX10_image_64 : decode cX10_image 64 = .ok (.aload_n 0, 1) := by decide +kernel
theorem dX10_image_65 : decode cX10_image 65 = .ok (.aload_n 0, 1) := by decide +kernel
theorem dX10_image_66 : decode cX10_image 66 = .ok (.getfield 84, 3) := by decide +kernel
theorem dX10_image_69 : decode cX10_image 69 = .ok (.putfield 34, 3) := by decide +kernel
theorem dX10_image_72 : decode cX10_image 72 = .ok (.aload_n 0, 1) := by decide +kernel
theorem dX10_image_73 : decode cX10_image 73 = .ok (.getfield 69, 3) := by decide +kernel
theorem dX10_image_76 : decode cX10_image 76 = .ok (.ireturn, 1) := by decide +kernel
theorem dX10_restore_0 : decode cX10_restore 0 = .ok (.aload_n 0, 1) := by decide +kernel
theorem dX10_restore_1 : decode cX10_restore 1 = .ok (.getfield 34, 3) := by decide +kernel
theorem dX10_restore_4 : decode cX10_restore 4 = .ok (.aload_n 0, 1) := by decide +kernel
theorem dX10_restore_5 : decode cX10_restore 5 = .ok (.getfield 84, 3) := by decide +kernel
theorem dX10_restore_8 : decode cX10_restore 8 = .ok (.if_icmp .eq 6, 3) := by decide +kernel
theorem dX10_restore_11 : decode cX10_restore 11 = .ok (.bipush (-103), 2) := by decide +kernel
theorem dX10_restore_13 : decode cX10_restore 13 = .ok (.ireturn, 1) := by decide +kernel
theorem dX10_restore_14 : decode cX10_restore 14 = .ok (.aload_n 0, 1) := by decide +kernel
theorem dX10_restore_15 : decode cX10_restore 15 = .ok (.getfield 28, 3) := by decide +kernel
theorem dX10_restore_18 : decode cX10_restore 18 = .ok (.aload_n 0, 1) := by decide +kernel
theorem dX10_restore_19 : decode cX10_restore 19 = .ok (.getfield 13, 3) := by decide +kernel
theorem dX10_restore_22 : decode cX10_restore 22 = .ok (.invokestatic 199, 3) := by decide +kernel
theorem dX10_restore_25 : decode cX10_restore 25 = .ok (.aload_n 0, 1) := by decide +kernel
theorem dX10_restore_26 : decode cX10_restore 26 = .ok (.getfield 31, 3) := by decide +kernel
theorem dX10_restore_29 : decode cX10_restore 29 = .ok (.aload_n 0, 1) := by decide +kernel
theorem dX10_restore_30 : decode cX10_restore 30 = .ok (.getfield 22, 3) := by decide +kernel
theorem dX10_restore_33 : decode cX10_restore 33 = .ok (.invokestatic 199, 3) := by decide +kernel
theorem dX10_restore_36 : decode cX10_restore 36 = .ok (.aload_n 0, 1) := by decide +kernel
theorem dX10_restore_37 : decode cX10_restore 37 = .ok (.aload_n 0, 1) := by decide +kernel
theorem dX10_restore_38 : decode cX10_restore 38 = .ok (.getfield 203, 3) := by decide +kernel
theorem dX10_restore_41 : decode cX10_restore 41 = .ok (.putfield 72, 3) := by decide +kernel
theorem dX10_restore_44 : decode cX10_restore 44 = .ok (.aload_n 0, 1) := by decide +kernel
theorem dX10_restore_45 : decode cX10_restore 45 = .ok (.aload_n 0, 1) := by decide +kernel
theorem dX10_restore_46 : decode cX10_restore 46 = .ok (.getfield 206, 3) := by decide +kernel
theorem dX10_restore_49 : decode cX10_restore 49 = .ok (.putfield 75, 3) := by decide +kernel
theorem dX10_restore_52 : decode cX10_restore 52 = .ok (.aload_n 0, 1) := by decide +kernel
theorem dX10_restore_53 : decode cX10_restore 53 = .ok (.aload_n 0, 1) := by decide +kernel
theorem dX10_restore_54 : decode cX10_restore 54 = .ok (.getfield 209, 3) := by decide +kernel
theorem dX10_restore_57 : decode cX10_restore 57 = .ok (.putfield 78, 3) := by decide +kernel
theorem dX10_restore_60 : decode cX10_restore 60 = .ok (.aload_n 0, 1) := by decide +kernel
theorem dX10_restore_61 : decode cX10_restore 61 = .ok (.aload_n 0, 1) := by decide +kernel
theorem dX10_restore_62 : decode cX10_restore 62 = .ok (.getfield 212, 3) := by decide +kernel
theorem dX10_restore_65 : decode cX10_restore 65 = .ok (.putfield 81, 3) := by decide +kernel
theorem dX10_restore_68 : decode cX10_restore 68 = .ok (.aload_n 0, 1) := by decide +kernel
theorem dX10_restore_69 : decode cX10_restore 69 = .ok (.getfield 69, 3) := by decide +kernel
theorem dX10_restore_72 : decode cX10_restore 72 = .ok (.ireturn, 1) := by decide +kernel
theorem dX10_shutMany_0 : decode cX10_shutMany 0 = .ok (.iconst 0, 1) := by decide +kernel
theorem dX10_shutMany_1 : decode cX10_shutMany 1 = .ok (.istore_n 1, 1) := by decide +kernel
theorem dX10_shutMany_2 : decode cX10_shutMany 2 = .ok (.iconst 0, 1) := by decide +kernel
theorem dX10_shutMany_3 : decode cX10_shutMany 3 = .ok (.istore_n 2, 1) := by decide +kernel
theorem dX10_shutMany_4 : decode cX10_shutMany 4 = .ok (.iload_n 2, 1) := by decide +kernel
theorem dX10_shutMany_5 : decode cX10_shutMany 5 = .ok (.aload_n 0, 1) := by decide +kernel
theorem dX10_shutMany_6 : decode cX10_shutMany 6 = .ok (.getfield 78, 3) := by decide +kernel
theorem dX10_shutMany_9 : decode cX10_shutMany 9 = .ok (.if_icmp .ge 18, 3) := by decide +kernel
theorem dX10_shutMany_12 : decode cX10_shutMany 12 = .ok (.iload_n 1, 1) := by decide +kernel
theorem dX10_shutMany_13 : decode cX10_shutMany 13 = .ok (.aload_n 0, 1) := by decide +kernel
theorem dX10_shutMany_14 : decode cX10_shutMany 14 = .ok (.iload_n 2, 1) := by decide +kernel
theorem dX10_shutMany_15 : decode cX10_shutMany 15 = .ok (.iconst 3, 1) := by decide +kernel
theorem dX10_shutMany_16 : decode cX10_shutMany 16 = .ok (.invokevirtual 140, 3) := by decide +kernel
theorem dX10_shutMany_19 : decode cX10_shutMany 19 = .ok (.iadd, 1) := by decide +kernel
theorem dX10_shutMany_20 : decode cX10_shutMany 20 = .ok (.istore_n 1, 1) := by decide +kernel
theorem dX10_shutMany_21 : decode cX10_shutMany 21 = .ok (.iinc 2 1, 3) := by decide +kernel
theorem dX10_shutMany_24 : decode cX10_shutMany 24 = .ok (.goto (-20), 3) := by decide +kernel
theorem dX10_shutMany_27 : decode cX10_shutMany 27 = .ok (.iload_n 1, 1) := by decide +kernel
theorem dX10_shutMany_28 : decode cX10_shutMany 28 = .ok (.ireturn, 1) := by decide +kernel
theorem dX10_countOf_0 : decode cX10_countOf 0 = .ok (.iload_n 1, 1) := by decide +kernel
theorem dX10_countOf_1 : decode cX10_countOf 1 = .ok (.tableswitch 96 0 8 #[51, 56, 61, 66, 71, 76, 81, 86, 91], 51) := by decide +kernel
theorem dX10_countOf_52 : decode cX10_countOf 52 = .ok (.aload_n 0, 1) := by decide +kernel
theorem dX10_countOf_53 : decode cX10_countOf 53 = .ok (.getfield 69, 3) := by decide +kernel
theorem dX10_countOf_56 : decode cX10_countOf 56 = .ok (.ireturn, 1) := by decide +kernel
theorem dX10_countOf_57 : decode cX10_countOf 57 = .ok (.aload_n 0, 1) := by decide +kernel
theorem dX10_countOf_58 : decode cX10_countOf 58 = .ok (.getfield 72, 3) := by decide +kernel
theorem dX10_countOf_61 : decode cX10_countOf 61 = .ok (.ireturn, 1) := by decide +kernel
theorem dX10_countOf_62 : decode cX10_countOf 62 = .ok (.aload_n 0, 1) := by decide +kernel
theorem dX10_countOf_63 : decode cX10_countOf 63 = .ok (.getfield 78, 3) := by decide +kernel
theorem dX10_countOf_66 : decode cX10_countOf 66 = .ok (.ireturn, 1) := by decide +kernel
theorem dX10_countOf_67 : decode cX10_countOf 67 = .ok (.aload_n 0, 1) := by decide +kernel
theorem dX10_countOf_68 : decode cX10_countOf 68 = .ok (.invokevirtual 215, 3) := by decide +kernel
theorem dX10_countOf_71 : decode cX10_countOf 71 = .ok (.ireturn, 1) := by decide +kernel
theorem dX10_countOf_72 : decode cX10_countOf 72 = .ok (.aload_n 0, 1) := by decide +kernel
theorem dX10_countOf_73 : decode cX10_countOf 73 = .ok (.getfield 75, 3) := by decide +kernel
theorem dX10_countOf_76 : decode cX10_countOf 76 = .ok (.ireturn, 1) := by decide +kernel
theorem dX10_countOf_77 : decode cX10_countOf 77 = .ok (.aload_n 0, 1) := by decide +kernel
theorem dX10_countOf_78 : decode cX10_countOf 78 = .ok (.getfield 81, 3) := by decide +kernel
theorem dX10_countOf_81 : decode cX10_countOf 81 = .ok (.ireturn, 1) := by decide +kernel
theorem dX10_countOf_82 : decode cX10_countOf 82 = .ok (.aload_n 0, 1) := by decide +kernel
theorem dX10_countOf_83 : decode cX10_countOf 83 = .ok (.getfield 44, 3) := by decide +kernel
theorem dX10_countOf_86 : decode cX10_countOf 86 = .ok (.ireturn, 1) := by decide +kernel
theorem dX10_countOf_87 : decode cX10_countOf 87 = .ok (.aload_n 0, 1) := by decide +kernel
theorem dX10_countOf_88 : decode cX10_countOf 88 = .ok (.getfield 84, 3) := by decide +kernel
theorem dX10_countOf_91 : decode cX10_countOf 91 = .ok (.ireturn, 1) := by decide +kernel
theorem dX10_countOf_92 : decode cX10_countOf 92 = .ok (.aload_n 0, 1) := by decide +kernel
theorem dX10_countOf_93 : decode cX10_countOf 93 = .ok (.getfield 151, 3) := by decide +kernel
theorem dX10_countOf_96 : decode cX10_countOf 96 = .ok (.ireturn, 1) := by decide +kernel
theorem dX10_countOf_97 : decode cX10_countOf 97 = .ok (.bipush (-102), 2) := by decide +kernel
theorem dX10_countOf_99 : decode cX10_countOf 99 = .ok (.ireturn, 1) := by decide +kernel
theorem dX10_count_0 : decode cX10_count 0 = .ok (.aload_n 0, 1) := by decide +kernel
theorem dX10_count_1 : decode cX10_count 1 = .ok (.iload_n 1, 1) := by decide +kernel
theorem dX10_count_2 : decode cX10_count 2 = .ok (.invokevirtual 218, 3) := by decide +kernel
theorem dX10_count_5 : decode cX10_count 5 = .ok (.ireturn, 1) := by decide +kernel
theorem dX10_say_0 : decode cX10_say 0 = .ok (.aload_n 0, 1) := by decide +kernel
theorem dX10_say_1 : decode cX10_say 1 = .ok (.ldc2_w 221, 3) := by decide +kernel
theorem dX10_say_4 : decode cX10_say 4 = .ok (.aload_n 0, 1) := by decide +kernel
theorem dX10_say_5 : decode cX10_say 5 = .ok (.getfield 223, 3) := by decide +kernel
theorem dX10_say_8 : decode cX10_say 8 = .ok (.lmul, 1) := by decide +kernel
theorem dX10_say_9 : decode cX10_say 9 = .ok (.lload_n 1, 1) := by decide +kernel
theorem dX10_say_10 : decode cX10_say 10 = .ok (.ladd, 1) := by decide +kernel
theorem dX10_say_11 : decode cX10_say 11 = .ok (.putfield 223, 3) := by decide +kernel
theorem dX10_say_14 : decode cX10_say 14 = .ok (.return_, 1) := by decide +kernel
theorem dX10_digest_0 : decode cX10_digest 0 = .ok (.aload_n 0, 1) := by decide +kernel
theorem dX10_digest_1 : decode cX10_digest 1 = .ok (.ldc2_w 227, 3) := by decide +kernel
theorem dX10_digest_4 : decode cX10_digest 4 = .ok (.putfield 223, 3) := by decide +kernel
theorem dX10_digest_7 : decode cX10_digest 7 = .ok (.iconst 0, 1) := by decide +kernel
theorem dX10_digest_8 : decode cX10_digest 8 = .ok (.istore_n 1, 1) := by decide +kernel
theorem dX10_digest_9 : decode cX10_digest 9 = .ok (.iload_n 1, 1) := by decide +kernel
theorem dX10_digest_10 : decode cX10_digest 10 = .ok (.aload_n 0, 1) := by decide +kernel
theorem dX10_digest_11 : decode cX10_digest 11 = .ok (.getfield 69, 3) := by decide +kernel
theorem dX10_digest_14 : decode cX10_digest 14 = .ok (.if_icmp .ge 33, 3) := by decide +kernel
theorem dX10_digest_17 : decode cX10_digest 17 = .ok (.iconst 0, 1) := by decide +kernel
theorem dX10_digest_18 : decode cX10_digest 18 = .ok (.istore_n 2, 1) := by decide +kernel
theorem dX10_digest_19 : decode cX10_digest 19 = .ok (.iload_n 2, 1) := by decide +kernel
theorem dX10_digest_20 : decode cX10_digest 20 = .ok (.iconst 3, 1) := by decide +kernel
theorem dX10_digest_21 : decode cX10_digest 21 = .ok (.if_icmp .ge 20, 3) := by decide +kernel
theorem dX10_digest_24 : decode cX10_digest 24 = .ok (.aload_n 0, 1) := by decide +kernel
theorem dX10_digest_25 : decode cX10_digest 25 = .ok (.aload_n 0, 1) := by decide +kernel
theorem dX10_digest_26 : decode cX10_digest 26 = .ok (.iload_n 1, 1) := by decide +kernel
theorem dX10_digest_27 : decode cX10_digest 27 = .ok (.iload_n 2, 1) := by decide +kernel
theorem dX10_digest_28 : decode cX10_digest 28 = .ok (.invokevirtual 121, 3) := by decide +kernel
theorem dX10_digest_31 : decode cX10_digest 31 = .ok (.i2l, 1) := by decide +kernel
theorem dX10_digest_32 : decode cX10_digest 32 = .ok (.invokevirtual 229, 3) := by decide +kernel
theorem dX10_digest_35 : decode cX10_digest 35 = .ok (.iinc 2 1, 3) := by decide +kernel
theorem dX10_digest_38 : decode cX10_digest 38 = .ok (.goto (-19), 3) := by decide +kernel
theorem dX10_digest_41 : decode cX10_digest 41 = .ok (.iinc 1 1, 3) := by decide +kernel
theorem dX10_digest_44 : decode cX10_digest 44 = .ok (.goto (-35), 3) := by decide +kernel
theorem dX10_digest_47 : decode cX10_digest 47 = .ok (.iconst 0, 1) := by decide +kernel
theorem dX10_digest_48 : decode cX10_digest 48 = .ok (.istore_n 1, 1) := by decide +kernel
theorem dX10_digest_49 : decode cX10_digest 49 = .ok (.iload_n 1, 1) := by decide +kernel
theorem dX10_digest_50 : decode cX10_digest 50 = .ok (.aload_n 0, 1) := by decide +kernel
theorem dX10_digest_51 : decode cX10_digest 51 = .ok (.getfield 78, 3) := by decide +kernel
theorem dX10_digest_54 : decode cX10_digest 54 = .ok (.if_icmp .ge 34, 3) := by decide +kernel
theorem dX10_digest_57 : decode cX10_digest 57 = .ok (.iconst 0, 1) := by decide +kernel
theorem dX10_digest_58 : decode cX10_digest 58 = .ok (.istore_n 2, 1) := by decide +kernel
theorem dX10_digest_59 : decode cX10_digest 59 = .ok (.iload_n 2, 1) := by decide +kernel
theorem dX10_digest_60 : decode cX10_digest 60 = .ok (.bipush 7, 2) := by decide +kernel
theorem dX10_digest_62 : decode cX10_digest 62 = .ok (.if_icmp .ge 20, 3) := by decide +kernel
theorem dX10_digest_65 : decode cX10_digest 65 = .ok (.aload_n 0, 1) := by decide +kernel
theorem dX10_digest_66 : decode cX10_digest 66 = .ok (.aload_n 0, 1) := by decide +kernel
theorem dX10_digest_67 : decode cX10_digest 67 = .ok (.iload_n 1, 1) := by decide +kernel
theorem dX10_digest_68 : decode cX10_digest 68 = .ok (.iload_n 2, 1) := by decide +kernel
theorem dX10_digest_69 : decode cX10_digest 69 = .ok (.invokevirtual 140, 3) := by decide +kernel
theorem dX10_digest_72 : decode cX10_digest 72 = .ok (.i2l, 1) := by decide +kernel
theorem dX10_digest_73 : decode cX10_digest 73 = .ok (.invokevirtual 229, 3) := by decide +kernel
theorem dX10_digest_76 : decode cX10_digest 76 = .ok (.iinc 2 1, 3) := by decide +kernel
theorem dX10_digest_79 : decode cX10_digest 79 = .ok (.goto (-20), 3) := by decide +kernel
theorem dX10_digest_82 : decode cX10_digest 82 = .ok (.iinc 1 1, 3) := by decide +kernel
theorem dX10_digest_85 : decode cX10_digest 85 = .ok (.goto (-36), 3) := by decide +kernel
theorem dX10_digest_88 : decode cX10_digest 88 = .ok (.aload_n 0, 1) := by decide +kernel
theorem dX10_digest_89 : decode cX10_digest 89 = .ok (.aload_n 0, 1) := by decide +kernel
theorem dX10_digest_90 : decode cX10_digest 90 = .ok (.invokevirtual 173, 3) := by decide +kernel
theorem dX10_digest_93 : decode cX10_digest 93 = .ok (.i2l, 1) := by decide +kernel
theorem dX10_digest_94 : decode cX10_digest 94 = .ok (.invokevirtual 229, 3) := by decide +kernel
theorem dX10_digest_97 : decode cX10_digest 97 = .ok (.aload_n 0, 1) := by decide +kernel
theorem dX10_digest_98 : decode cX10_digest 98 = .ok (.getfield 69, 3) := by decide +kernel
theorem dX10_digest_101 : decode cX10_digest 101 = .ok (.ifCond .le 24, 3) := by decide +kernel
theorem dX10_digest_104 : decode cX10_digest 104 = .ok (.aload_n 0, 1) := by decide +kernel
theorem dX10_digest_105 : decode cX10_digest 105 = .ok (.aload_n 0, 1) := by decide +kernel
theorem dX10_digest_106 : decode cX10_digest 106 = .ok (.invokevirtual 179, 3) := by decide +kernel
theorem dX10_digest_109 : decode cX10_digest 109 = .ok (.i2l, 1) := by decide +kernel
theorem dX10_digest_110 : decode cX10_digest 110 = .ok (.invokevirtual 229, 3) := by decide +kernel
theorem dX10_digest_113 : decode cX10_digest 113 = .ok (.aload_n 0, 1) := by decide +kernel
theorem dX10_digest_114 : decode cX10_digest 114 = .ok (.aload_n 0, 1) := by decide +kernel
theorem dX10_digest_115 : decode cX10_digest 115 = .ok (.iconst 0, 1) := by decide +kernel
theorem dX10_digest_116 : decode cX10_digest 116 = .ok (.iconst 3, 1) := by decide +kernel
theorem dX10_digest_117 : decode cX10_digest 117 = .ok (.iconst 1, 1) := by decide +kernel
theorem dX10_digest_118 : decode cX10_digest 118 = .ok (.invokevirtual 166, 3) := by decide +kernel
theorem dX10_digest_121 : decode cX10_digest 121 = .ok (.i2l, 1) := by decide +kernel
theorem dX10_digest_122 : decode cX10_digest 122 = .ok (.invokevirtual 229, 3) := by decide +kernel
theorem dX10_digest_125 : decode cX10_digest 125 = .ok (.iconst 0, 1) := by decide +kernel
theorem dX10_digest_126 : decode cX10_digest 126 = .ok (.istore_n 1, 1) := by decide +kernel
theorem dX10_digest_127 : decode cX10_digest 127 = .ok (.iload_n 1, 1) := by decide +kernel
theorem dX10_digest_128 : decode cX10_digest 128 = .ok (.aload_n 0, 1) := by decide +kernel
theorem dX10_digest_129 : decode cX10_digest 129 = .ok (.getfield 44, 3) := by decide +kernel
theorem dX10_digest_132 : decode cX10_digest 132 = .ok (.if_icmp .ge 20, 3) := by decide +kernel
theorem dX10_digest_135 : decode cX10_digest 135 = .ok (.aload_n 0, 1) := by decide +kernel
theorem dX10_digest_136 : decode cX10_digest 136 = .ok (.aload_n 0, 1) := by decide +kernel
theorem dX10_digest_137 : decode cX10_digest 137 = .ok (.getfield 7, 3) := by decide +kernel
theorem dX10_digest_140 : decode cX10_digest 140 = .ok (.iload_n 1, 1) := by decide +kernel
theorem dX10_digest_141 : decode cX10_digest 141 = .ok (.iaload, 1) := by decide +kernel
theorem dX10_digest_142 : decode cX10_digest 142 = .ok (.i2l, 1) := by decide +kernel
theorem dX10_digest_143 : decode cX10_digest 143 = .ok (.invokevirtual 229, 3) := by decide +kernel
theorem dX10_digest_146 : decode cX10_digest 146 = .ok (.iinc 1 1, 3) := by decide +kernel
theorem dX10_digest_149 : decode cX10_digest 149 = .ok (.goto (-22), 3) := by decide +kernel
theorem dX10_digest_152 : decode cX10_digest 152 = .ok (.iconst 0, 1) := by decide +kernel
theorem dX10_digest_153 : decode cX10_digest 153 = .ok (.istore_n 1, 1) := by decide +kernel
theorem dX10_digest_154 : decode cX10_digest 154 = .ok (.iload_n 1, 1) := by decide +kernel
theorem dX10_digest_155 : decode cX10_digest 155 = .ok (.bipush 9, 2) := by decide +kernel
theorem dX10_digest_157 : decode cX10_digest 157 = .ok (.if_icmp .ge 19, 3) := by decide +kernel
theorem dX10_digest_160 : decode cX10_digest 160 = .ok (.aload_n 0, 1) := by decide +kernel
theorem dX10_digest_161 : decode cX10_digest 161 = .ok (.aload_n 0, 1) := by decide +kernel
theorem dX10_digest_162 : decode cX10_digest 162 = .ok (.iload_n 1, 1) := by decide +kernel
theorem dX10_digest_163 : decode cX10_digest 163 = .ok (.invokevirtual 218, 3) := by decide +kernel
theorem dX10_digest_166 : decode cX10_digest 166 = .ok (.i2l, 1) := by decide +kernel
theorem dX10_digest_167 : decode cX10_digest 167 = .ok (.invokevirtual 229, 3) := by decide +kernel
theorem dX10_digest_170 : decode cX10_digest 170 = .ok (.iinc 1 1, 3) := by decide +kernel
theorem dX10_digest_173 : decode cX10_digest 173 = .ok (.goto (-19), 3) := by decide +kernel
theorem dX10_digest_176 : decode cX10_digest 176 = .ok (.aload_n 0, 1) := by decide +kernel
theorem dX10_digest_177 : decode cX10_digest 177 = .ok (.getfield 223, 3) := by decide +kernel
theorem dX10_digest_180 : decode cX10_digest 180 = .ok (.lreturn, 1) := by decide +kernel
theorem dJ7_fill_53178_0 : decode cJ7_fill_53178 0 = .ok (.iconst 0, 1) := by decide +kernel
theorem dJ7_fill_53178_1 : decode cJ7_fill_53178 1 = .ok (.istore_n 2, 1) := by decide +kernel
theorem dJ7_fill_53178_2 : decode cJ7_fill_53178 2 = .ok (.aload_n 0, 1) := by decide +kernel
theorem dJ7_fill_53178_3 : decode cJ7_fill_53178 3 = .ok (.arraylength, 1) := by decide +kernel
theorem dJ7_fill_53178_4 : decode cJ7_fill_53178 4 = .ok (.istore_n 3, 1) := by decide +kernel
theorem dJ7_fill_53178_5 : decode cJ7_fill_53178 5 = .ok (.iload_n 2, 1) := by decide +kernel
theorem dJ7_fill_53178_6 : decode cJ7_fill_53178 6 = .ok (.iload_n 3, 1) := by decide +kernel
theorem dJ7_fill_53178_7 : decode cJ7_fill_53178 7 = .ok (.if_icmp .ge 13, 3) := by decide +kernel
theorem dJ7_fill_53178_10 : decode cJ7_fill_53178 10 = .ok (.aload_n 0, 1) := by decide +kernel
theorem dJ7_fill_53178_11 : decode cJ7_fill_53178 11 = .ok (.iload_n 2, 1) := by decide +kernel
theorem dJ7_fill_53178_12 : decode cJ7_fill_53178 12 = .ok (.iload_n 1, 1) := by decide +kernel
theorem dJ7_fill_53178_13 : decode cJ7_fill_53178 13 = .ok (.iastore, 1) := by decide +kernel
theorem dJ7_fill_53178_14 : decode cJ7_fill_53178 14 = .ok (.iinc 2 1, 3) := by decide +kernel
theorem dJ7_fill_53178_17 : decode cJ7_fill_53178 17 = .ok (.goto (-12), 3) := by decide +kernel
theorem dJ7_fill_53178_20 : decode cJ7_fill_53178 20 = .ok (.return_, 1) := by decide +kernel
theorem dL_law_0 : decode cL_law 0 = .ok (.new 7, 3) := by decide +kernel
theorem dL_law_3 : decode cL_law 3 = .ok (.dup, 1) := by decide +kernel
theorem dL_law_4 : decode cL_law 4 = .ok (.invokespecial 9, 3) := by decide +kernel
theorem dL_law_7 : decode cL_law 7 = .ok (.astore_n 1, 1) := by decide +kernel
theorem dL_law_8 : decode cL_law 8 = .ok (.new 10, 3) := by decide +kernel
theorem dL_law_11 : decode cL_law 11 = .ok (.dup, 1) := by decide +kernel
theorem dL_law_12 : decode cL_law 12 = .ok (.invokespecial 12, 3) := by decide +kernel
theorem dL_law_15 : decode cL_law 15 = .ok (.astore_n 2, 1) := by decide +kernel
theorem dL_law_16 : decode cL_law 16 = .ok (.iconst 0, 1) := by decide +kernel
theorem dL_law_17 : decode cL_law 17 = .ok (.istore_n 3, 1) := by decide +kernel
theorem dL_law_18 : decode cL_law 18 = .ok (.iload_n 3, 1) := by decide +kernel
theorem dL_law_19 : decode cL_law 19 = .ok (.aload_n 0, 1) := by decide +kernel
theorem dL_law_20 : decode cL_law 20 = .ok (.arraylength, 1) := by decide +kernel
theorem dL_law_21 : decode cL_law 21 = .ok (.iconst 5, 1) := by decide +kernel
theorem dL_law_22 : decode cL_law 22 = .ok (.isub, 1) := by decide +kernel
theorem dL_law_23 : decode cL_law 23 = .ok (.if_icmp .gt 645, 3) := by decide +kernel
theorem dL_law_26 : decode cL_law 26 = .ok (.aload_n 0, 1) := by decide +kernel
theorem dL_law_27 : decode cL_law 27 = .ok (.iload_n 3, 1) := by decide +kernel
theorem dL_law_28 : decode cL_law 28 = .ok (.iaload, 1) := by decide +kernel
theorem dL_law_29 : decode cL_law 29 = .ok (.bipush 31, 2) := by decide +kernel
theorem dL_law_31 : decode cL_law 31 = .ok (.iand, 1) := by decide +kernel
theorem dL_law_32 : decode cL_law 32 = .ok (.tableswitch 630 0 20 #[100, 123, 136, 149, 162, 195, 228, 251, 274, 307, 340, 393, 436, 485, 498, 511, 524, 567, 580, 593, 616], 100) := by decide +kernel
theorem dL_law_132 : decode cL_law 132 = .ok (.aload_n 1, 1) := by decide +kernel
theorem dL_law_133 : decode cL_law 133 = .ok (.aload_n 0, 1) := by decide +kernel
theorem dL_law_134 : decode cL_law 134 = .ok (.iload_n 3, 1) := by decide +kernel
theorem dL_law_135 : decode cL_law 135 = .ok (.iconst 1, 1) := by decide +kernel
theorem dL_law_136 : decode cL_law 136 = .ok (.iadd, 1) := by decide +kernel
theorem dL_law_137 : decode cL_law 137 = .ok (.iaload, 1) := by decide +kernel
theorem dL_law_138 : decode cL_law 138 = .ok (.invokevirtual 13, 3) := by decide +kernel
theorem dL_law_141 : decode cL_law 141 = .ok (.aload_n 2, 1) := by decide +kernel
theorem dL_law_142 : decode cL_law 142 = .ok (.aload_n 0, 1) := by decide +kernel
theorem dL_law_143 : decode cL_law 143 = .ok (.iload_n 3, 1) := by decide +kernel
theorem dL_law_144 : decode cL_law 144 = .ok (.iconst 1, 1) := by decide +kernel
theorem dL_law_145 : decode cL_law 145 = .ok (.iadd, 1) := by decide +kernel
theorem dL_law_146 : decode cL_law 146 = .ok (.iaload, 1) := by decide +kernel
theorem dL_law_147 : decode cL_law 147 = .ok (.invokevirtual 17, 3) := by decide +kernel
theorem dL_law_150 : decode cL_law 150 = .ok (.if_icmp .eq 512, 3) := by decide +kernel
theorem dL_law_153 : decode cL_law 153 = .ok (.iconst 0, 1) := by decide +kernel
theorem dL_law_154 : decode cL_law 154 = .ok (.ireturn, 1) := by decide +kernel
theorem dL_law_155 : decode cL_law 155 = .ok (.aload_n 1, 1) := by decide +kernel
theorem dL_law_156 : decode cL_law 156 = .ok (.invokevirtual 18, 3) := by decide +kernel
theorem dL_law_159 : decode cL_law 159 = .ok (.aload_n 2, 1) := by decide +kernel
theorem dL_law_160 : decode cL_law 160 = .ok (.invokevirtual 22, 3) := by decide +kernel
theorem dL_law_163 : decode cL_law 163 = .ok (.if_icmp .eq 499, 3) := by decide +kernel
theorem dL_law_166 : decode cL_law 166 = .ok (.iconst 0, 1) := by decide +kernel
theorem dL_law_167 : decode cL_law 167 = .ok (.ireturn, 1) := by decide +kernel
theorem dL_law_168 : decode cL_law 168 = .ok (.aload_n 1, 1) := by decide +kernel
theorem dL_law_169 : decode cL_law 169 = .ok (.invokevirtual 23, 3) := by decide +kernel
theorem dL_law_172 : decode cL_law 172 = .ok (.aload_n 2, 1) := by decide +kernel
theorem dL_law_173 : decode cL_law 173 = .ok (.invokevirtual 26, 3) := by decide +kernel
theorem dL_law_176 : decode cL_law 176 = .ok (.if_icmp .eq 486, 3) := by decide +kernel
theorem dL_law_179 : decode cL_law 179 = .ok (.iconst 0, 1) := by decide +kernel
theorem dL_law_180 : decode cL_law 180 = .ok (.ireturn, 1) := by decide +kernel
theorem dL_law_181 : decode cL_law 181 = .ok (.aload_n 1, 1) := by decide +kernel
theorem dL_law_182 : decode cL_law 182 = .ok (.invokevirtual 27, 3) := by decide +kernel
theorem dL_law_185 : decode cL_law 185 = .ok (.aload_n 2, 1) := by decide +kernel
theorem dL_law_186 : decode cL_law 186 = .ok (.invokevirtual 30, 3) := by decide +kernel
theorem dL_law_189 : decode cL_law 189 = .ok (.if_icmp .eq 473, 3) := by decide +kernel
theorem dL_law_192 : decode cL_law 192 = .ok (.iconst 0, 1) := by decide +kernel
theorem dL_law_193 : decode cL_law 193 = .ok (.ireturn, 1) := by decide +kernel
theorem dL_law_194 : decode cL_law 194 = .ok (.aload_n 1, 1) := by decide +kernel
theorem dL_law_195 : decode cL_law 195 = .ok (.aload_n 0, 1) := by decide +kernel
theorem dL_law_196 : decode cL_law 196 = .ok (.iload_n 3, 1) := by decide +kernel
theorem dL_law_197 : decode cL_law 197 = .ok (.iconst 1, 1) := by decide +kernel
theorem dL_law_198 : decode cL_law 198 = .ok (.iadd, 1) := by decide +kernel
theorem dL_law_199 : decode cL_law 199 = .ok (.iaload, 1) := by decide +kernel
theorem dL_law_200 : decode cL_law 200 = .ok (.aload_n 0, 1) := by decide +kernel
theorem dL_law_201 : decode cL_law 201 = .ok (.iload_n 3, 1) := by decide +kernel
theorem dL_law_202 : decode cL_law 202 = .ok (.iconst 2, 1) := by decide +kernel
theorem dL_law_203 : decode cL_law 203 = .ok (.iadd, 1) := by decide +kernel
theorem dL_law_204 : decode cL_law 204 = .ok (.iaload, 1) := by decide +kernel
theorem dL_law_205 : decode cL_law 205 = .ok (.invokevirtual 31, 3) := by decide +kernel
theorem dL_law_208 : decode cL_law 208 = .ok (.aload_n 2, 1) := by decide +kernel
theorem dL_law_209 : decode cL_law 209 = .ok (.aload_n 0, 1) := by decide +kernel
theorem dL_law_210 : decode cL_law 210 = .ok (.iload_n 3, 1) := by decide +kernel
theorem dL_law_211 : decode cL_law 211 = .ok (.iconst 1, 1) := by decide +kernel
theorem dL_law_212 : decode cL_law 212 = .ok (.iadd, 1) := by decide +kernel
theorem dL_law_213 : decode cL_law 213 = .ok (.iaload, 1) := by decide +kernel
theorem dL_law_214 : decode cL_law 214 = .ok (.aload_n 0, 1) := by decide +kernel
theorem dL_law_215 : decode cL_law 215 = .ok (.iload_n 3, 1) := by decide +kernel
theorem dL_law_216 : decode cL_law 216 = .ok (.iconst 2, 1) := by decide +kernel
theorem dL_law_217 : decode cL_law 217 = .ok (.iadd, 1) := by decide +kernel
theorem dL_law_218 : decode cL_law 218 = .ok (.iaload, 1) := by decide +kernel
theorem dL_law_219 : decode cL_law 219 = .ok (.invokevirtual 35, 3) := by decide +kernel
theorem dL_law_222 : decode cL_law 222 = .ok (.if_icmp .eq 440, 3) := by decide +kernel
theorem dL_law_225 : decode cL_law 225 = .ok (.iconst 0, 1) := by decide +kernel
theorem dL_law_226 : decode cL_law 226 = .ok (.ireturn, 1) := by decide +kernel
theorem dL_law_227 : decode cL_law 227 = .ok (.aload_n 1, 1) := by decide +kernel
theorem dL_law_228 : decode cL_law 228 = .ok (.aload_n 0, 1) := by decide +kernel
theorem dL_law_229 : decode cL_law 229 = .ok (.iload_n 3, 1) := by decide +kernel
theorem dL_law_230 : decode cL_law 230 = .ok (.iconst 1, 1) := by decide +kernel
theorem dL_law_231 : decode cL_law 231 = .ok (.iadd, 1) := by decide +kernel
theorem dL_law_232 : decode cL_law 232 = .ok (.iaload, 1) := by decide +kernel
theorem dL_law_233 : decode cL_law 233 = .ok (.aload_n 0, 1) := by decide +kernel
theorem dL_law_234 : decode cL_law 234 = .ok (.iload_n 3, 1) := by decide +kernel
theorem dL_law_235 : decode cL_law 235 = .ok (.iconst 2, 1) := by decide +kernel
theorem dL_law_236 : decode cL_law 236 = .ok (.iadd, 1) := by decide +kernel
theorem dL_law_237 : decode cL_law 237 = .ok (.iaload, 1) := by decide +kernel
theorem dL_law_238 : decode cL_law 238 = .ok (.invokevirtual 36, 3) := by decide +kernel
theorem dL_law_241 : decode cL_law 241 = .ok (.aload_n 2, 1) := by decide +kernel
theorem dL_law_242 : decode cL_law 242 = .ok (.aload_n 0, 1) := by decide +kernel
theorem dL_law_243 : decode cL_law 243 = .ok (.iload_n 3, 1) := by decide +kernel
theorem dL_law_244 : decode cL_law 244 = .ok (.iconst 1, 1) := by decide +kernel
theorem dL_law_245 : decode cL_law 245 = .ok (.iadd, 1) := by decide +kernel
theorem dL_law_246 : decode cL_law 246 = .ok (.iaload, 1) := by decide +kernel
theorem dL_law_247 : decode cL_law 247 = .ok (.aload_n 0, 1) := by decide +kernel
theorem dL_law_248 : decode cL_law 248 = .ok (.iload_n 3, 1) := by decide +kernel
theorem dL_law_249 : decode cL_law 249 = .ok (.iconst 2, 1) := by decide +kernel
theorem dL_law_250 : decode cL_law 250 = .ok (.iadd, 1) := by decide +kernel
theorem dL_law_251 : decode cL_law 251 = .ok (.iaload, 1) := by decide +kernel
theorem dL_law_252 : decode cL_law 252 = .ok (.invokevirtual 39, 3) := by decide +kernel
theorem dL_law_255 : decode cL_law 255 = .ok (.if_icmp .eq 407, 3) := by decide +kernel
theorem dL_law_258 : decode cL_law 258 = .ok (.iconst 0, 1) := by decide +kernel
theorem dL_law_259 : decode cL_law 259 = .ok (.ireturn, 1) := by decide +kernel
theorem dL_law_260 : decode cL_law 260 = .ok (.aload_n 1, 1) := by decide +kernel
theorem dL_law_261 : decode cL_law 261 = .ok (.aload_n 0, 1) := by decide +kernel
theorem dL_law_262 : decode cL_law 262 = .ok (.iload_n 3, 1) := by decide +kernel
theorem dL_law_263 : decode cL_law 263 = .ok (.iconst 1, 1) := by decide +kernel
theorem dL_law_264 : decode cL_law 264 = .ok (.iadd, 1) := by decide +kernel
theorem dL_law_265 : decode cL_law 265 = .ok (.iaload, 1) := by decide +kernel
theorem dL_law_266 : decode cL_law 266 = .ok (.invokevirtual 40, 3) := by decide +kernel
theorem dL_law_269 : decode cL_law 269 = .ok (.aload_n 2, 1) := by decide +kernel
theorem dL_law_270 : decode cL_law 270 = .ok (.aload_n 0, 1) := by decide +kernel
theorem dL_law_271 : decode cL_law 271 = .ok (.iload_n 3, 1) := by decide +kernel
theorem dL_law_272 : decode cL_law 272 = .ok (.iconst 1, 1) := by decide +kernel
theorem dL_law_273 : decode cL_law 273 = .ok (.iadd, 1) := by decide +kernel
theorem dL_law_274 : decode cL_law 274 = .ok (.iaload, 1) := by decide +kernel
theorem dL_law_275 : decode cL_law 275 = .ok (.invokevirtual 43, 3) := by decide +kernel
theorem dL_law_278 : decode cL_law 278 = .ok (.if_icmp .eq 384, 3) := by decide +kernel
theorem dL_law_281 : decode cL_law 281 = .ok (.iconst 0, 1) := by decide +kernel
theorem dL_law_282 : decode cL_law 282 = .ok (.ireturn, 1) := by decide +kernel
theorem dL_law_283 : decode cL_law 283 = .ok (.aload_n 1, 1) := by decide +kernel
theorem dL_law_284 : decode cL_law 284 = .ok (.aload_n 0, 1) := by decide +kernel
theorem dL_law_285 : decode cL_law 285 = .ok (.iload_n 3, 1) := by decide +kernel
theorem dL_law_286 : decode cL_law 286 = .ok (.iconst 1, 1) := by decide +kernel
theorem dL_law_287 : decode cL_law 287 = .ok (.iadd, 1) := by decide +kernel
theorem dL_law_288 : decode cL_law 288 = .ok (.iaload, 1) := by decide +kernel
theorem dL_law_289 : decode cL_law 289 = .ok (.invokevirtual 44, 3) := by decide +kernel
theorem dL_law_292 : decode cL_law 292 = .ok (.aload_n 2, 1) := by decide +kernel
theorem dL_law_293 : decode cL_law 293 = .ok (.aload_n 0, 1) := by decide +kernel
theorem dL_law_294 : decode cL_law 294 = .ok (.iload_n 3, 1) := by decide +kernel
theorem dL_law_295 : decode cL_law 295 = .ok (.iconst 1, 1) := by decide +kernel
theorem dL_law_296 : decode cL_law 296 = .ok (.iadd, 1) := by decide +kernel
theorem dL_law_297 : decode cL_law 297 = .ok (.iaload, 1) := by decide +kernel
theorem dL_law_298 : decode cL_law 298 = .ok (.invokevirtual 47, 3) := by decide +kernel
theorem dL_law_301 : decode cL_law 301 = .ok (.if_icmp .eq 361, 3) := by decide +kernel
theorem dL_law_304 : decode cL_law 304 = .ok (.iconst 0, 1) := by decide +kernel
theorem dL_law_305 : decode cL_law 305 = .ok (.ireturn, 1) := by decide +kernel
theorem dL_law_306 : decode cL_law 306 = .ok (.aload_n 1, 1) := by decide +kernel
theorem dL_law_307 : decode cL_law 307 = .ok (.aload_n 0, 1) := by decide +kernel
theorem dL_law_308 : decode cL_law 308 = .ok (.iload_n 3, 1) := by decide +kernel
theorem dL_law_309 : decode cL_law 309 = .ok (.iconst 1, 1) := by decide +kernel
theorem dL_law_310 : decode cL_law 310 = .ok (.iadd, 1) := by decide +kernel
theorem dL_law_311 : decode cL_law 311 = .ok (.iaload, 1) := by decide +kernel
theorem dL_law_312 : decode cL_law 312 = .ok (.aload_n 0, 1) := by decide +kernel
theorem dL_law_313 : decode cL_law 313 = .ok (.iload_n 3, 1) := by decide +kernel
theorem dL_law_314 : decode cL_law 314 = .ok (.iconst 2, 1) := by decide +kernel
theorem dL_law_315 : decode cL_law 315 = .ok (.iadd, 1) := by decide +kernel
theorem dL_law_316 : decode cL_law 316 = .ok (.iaload, 1) := by decide +kernel
theorem dL_law_317 : decode cL_law 317 = .ok (.invokevirtual 48, 3) := by decide +kernel
theorem dL_law_320 : decode cL_law 320 = .ok (.aload_n 2, 1) := by decide +kernel
theorem dL_law_321 : decode cL_law 321 = .ok (.aload_n 0, 1) := by decide +kernel
theorem dL_law_322 : decode cL_law 322 = .ok (.iload_n 3, 1) := by decide +kernel
theorem dL_law_323 : decode cL_law 323 = .ok (.iconst 1, 1) := by decide +kernel
theorem dL_law_324 : decode cL_law 324 = .ok (.iadd, 1) := by decide +kernel
theorem dL_law_325 : decode cL_law 325 = .ok (.iaload, 1) := by decide +kernel
theorem dL_law_326 : decode cL_law 326 = .ok (.aload_n 0, 1) := by decide +kernel
theorem dL_law_327 : decode cL_law 327 = .ok (.iload_n 3, 1) := by decide +kernel
theorem dL_law_328 : decode cL_law 328 = .ok (.iconst 2, 1) := by decide +kernel
theorem dL_law_329 : decode cL_law 329 = .ok (.iadd, 1) := by decide +kernel
theorem dL_law_330 : decode cL_law 330 = .ok (.iaload, 1) := by decide +kernel
theorem dL_law_331 : decode cL_law 331 = .ok (.invokevirtual 51, 3) := by decide +kernel
theorem dL_law_334 : decode cL_law 334 = .ok (.if_icmp .eq 328, 3) := by decide +kernel
theorem dL_law_337 : decode cL_law 337 = .ok (.iconst 0, 1) := by decide +kernel
theorem dL_law_338 : decode cL_law 338 = .ok (.ireturn, 1) := by decide +kernel
theorem dL_law_339 : decode cL_law 339 = .ok (.aload_n 1, 1) := by decide +kernel
theorem dL_law_340 : decode cL_law 340 = .ok (.aload_n 0, 1) := by decide +kernel
theorem dL_law_341 : decode cL_law 341 = .ok (.iload_n 3, 1) := by decide +kernel
theorem dL_law_342 : decode cL_law 342 = .ok (.iconst 1, 1) := by decide +kernel
theorem dL_law_343 : decode cL_law 343 = .ok (.iadd, 1) := by decide +kernel
theorem dL_law_344 : decode cL_law 344 = .ok (.iaload, 1) := by decide +kernel
theorem dL_law_345 : decode cL_law 345 = .ok (.aload_n 0, 1) := by decide +kernel
theorem dL_law_346 : decode cL_law 346 = .ok (.iload_n 3, 1) := by decide +kernel
theorem dL_law_347 : decode cL_law 347 = .ok (.iconst 2, 1) := by decide +kernel
theorem dL_law_348 : decode cL_law 348 = .ok (.iadd, 1) := by decide +kernel
theorem dL_law_349 : decode cL_law 349 = .ok (.iaload, 1) := by decide +kernel
theorem dL_law_350 : decode cL_law 350 = .ok (.invokevirtual 52, 3) := by decide +kernel
theorem dL_law_353 : decode cL_law 353 = .ok (.aload_n 2, 1) := by decide +kernel
theorem dL_law_354 : decode cL_law 354 = .ok (.aload_n 0, 1) := by decide +kernel
theorem dL_law_355 : decode cL_law 355 = .ok (.iload_n 3, 1) := by decide +kernel
theorem dL_law_356 : decode cL_law 356 = .ok (.iconst 1, 1) := by decide +kernel
theorem dL_law_357 : decode cL_law 357 = .ok (.iadd, 1) := by decide +kernel
theorem dL_law_358 : decode cL_law 358 = .ok (.iaload, 1) := by decide +kernel
theorem dL_law_359 : decode cL_law 359 = .ok (.aload_n 0, 1) := by decide +kernel
theorem dL_law_360 : decode cL_law 360 = .ok (.iload_n 3, 1) := by decide +kernel
theorem dL_law_361 : decode cL_law 361 = .ok (.iconst 2, 1) := by decide +kernel
theorem dL_law_362 : decode cL_law 362 = .ok (.iadd, 1) := by decide +kernel
theorem dL_law_363 : decode cL_law 363 = .ok (.iaload, 1) := by decide +kernel
theorem dL_law_364 : decode cL_law 364 = .ok (.invokevirtual 55, 3) := by decide +kernel
theorem dL_law_367 : decode cL_law 367 = .ok (.if_icmp .eq 295, 3) := by decide +kernel
theorem dL_law_370 : decode cL_law 370 = .ok (.iconst 0, 1) := by decide +kernel
theorem dL_law_371 : decode cL_law 371 = .ok (.ireturn, 1) := by decide +kernel
theorem dL_law_372 : decode cL_law 372 = .ok (.aload_n 1, 1) := by decide +kernel
theorem dL_law_373 : decode cL_law 373 = .ok (.aload_n 0, 1) := by decide +kernel
theorem dL_law_374 : decode cL_law 374 = .ok (.iload_n 3, 1) := by decide +kernel
theorem dL_law_375 : decode cL_law 375 = .ok (.iconst 1, 1) := by decide +kernel
theorem dL_law_376 : decode cL_law 376 = .ok (.iadd, 1) := by decide +kernel
theorem dL_law_377 : decode cL_law 377 = .ok (.iaload, 1) := by decide +kernel
theorem dL_law_378 : decode cL_law 378 = .ok (.aload_n 0, 1) := by decide +kernel
theorem dL_law_379 : decode cL_law 379 = .ok (.iload_n 3, 1) := by decide +kernel
theorem dL_law_380 : decode cL_law 380 = .ok (.iconst 2, 1) := by decide +kernel
theorem dL_law_381 : decode cL_law 381 = .ok (.iadd, 1) := by decide +kernel
theorem dL_law_382 : decode cL_law 382 = .ok (.iaload, 1) := by decide +kernel
theorem dL_law_383 : decode cL_law 383 = .ok (.aload_n 0, 1) := by decide +kernel
theorem dL_law_384 : decode cL_law 384 = .ok (.iload_n 3, 1) := by decide +kernel
theorem dL_law_385 : decode cL_law 385 = .ok (.iconst 3, 1) := by decide +kernel
theorem dL_law_386 : decode cL_law 386 = .ok (.iadd, 1) := by decide +kernel
theorem dL_law_387 : decode cL_law 387 = .ok (.iaload, 1) := by decide +kernel
theorem dL_law_388 : decode cL_law 388 = .ok (.aload_n 0, 1) := by decide +kernel
theorem dL_law_389 : decode cL_law 389 = .ok (.iload_n 3, 1) := by decide +kernel
theorem dL_law_390 : decode cL_law 390 = .ok (.iconst 4, 1) := by decide +kernel
theorem dL_law_391 : decode cL_law 391 = .ok (.iadd, 1) := by decide +kernel
theorem dL_law_392 : decode cL_law 392 = .ok (.iaload, 1) := by decide +kernel
theorem dL_law_393 : decode cL_law 393 = .ok (.invokevirtual 56, 3) := by decide +kernel
theorem dL_law_396 : decode cL_law 396 = .ok (.aload_n 2, 1) := by decide +kernel
theorem dL_law_397 : decode cL_law 397 = .ok (.aload_n 0, 1) := by decide +kernel
theorem dL_law_398 : decode cL_law 398 = .ok (.iload_n 3, 1) := by decide +kernel
theorem dL_law_399 : decode cL_law 399 = .ok (.iconst 1, 1) := by decide +kernel
theorem dL_law_400 : decode cL_law 400 = .ok (.iadd, 1) := by decide +kernel
theorem dL_law_401 : decode cL_law 401 = .ok (.iaload, 1) := by decide +kernel
theorem dL_law_402 : decode cL_law 402 = .ok (.aload_n 0, 1) := by decide +kernel
theorem dL_law_403 : decode cL_law 403 = .ok (.iload_n 3, 1) := by decide +kernel
theorem dL_law_404 : decode cL_law 404 = .ok (.iconst 2, 1) := by decide +kernel
theorem dL_law_405 : decode cL_law 405 = .ok (.iadd, 1) := by decide +kernel
theorem dL_law_406 : decode cL_law 406 = .ok (.iaload, 1) := by decide +kernel
theorem dL_law_407 : decode cL_law 407 = .ok (.aload_n 0, 1) := by decide +kernel
theorem dL_law_408 : decode cL_law 408 = .ok (.iload_n 3, 1) := by decide +kernel
theorem dL_law_409 : decode cL_law 409 = .ok (.iconst 3, 1) := by decide +kernel
theorem dL_law_410 : decode cL_law 410 = .ok (.iadd, 1) := by decide +kernel
theorem dL_law_411 : decode cL_law 411 = .ok (.iaload, 1) := by decide +kernel
theorem dL_law_412 : decode cL_law 412 = .ok (.aload_n 0, 1) := by decide +kernel
theorem dL_law_413 : decode cL_law 413 = .ok (.iload_n 3, 1) := by decide +kernel
theorem dL_law_414 : decode cL_law 414 = .ok (.iconst 4, 1) := by decide +kernel
theorem dL_law_415 : decode cL_law 415 = .ok (.iadd, 1) := by decide +kernel
theorem dL_law_416 : decode cL_law 416 = .ok (.iaload, 1) := by decide +kernel
theorem dL_law_417 : decode cL_law 417 = .ok (.invokevirtual 60, 3) := by decide +kernel
theorem dL_law_420 : decode cL_law 420 = .ok (.if_icmp .eq 242, 3) := by decide +kernel
theorem dL_law_423 : decode cL_law 423 = .ok (.iconst 0, 1) := by decide +kernel
theorem dL_law_424 : decode cL_law 424 = .ok (.ireturn, 1) := by decide +kernel
theorem dL_law_425 : decode cL_law 425 = .ok (.aload_n 1, 1) := by decide +kernel
theorem dL_law_426 : decode cL_law 426 = .ok (.aload_n 0, 1) := by decide +kernel
theorem dL_law_427 : decode cL_law 427 = .ok (.iload_n 3, 1) := by decide +kernel
theorem dL_law_428 : decode cL_law 428 = .ok (.iconst 1, 1) := by decide +kernel
theorem dL_law_429 : decode cL_law 429 = .ok (.iadd, 1) := by decide +kernel
theorem dL_law_430 : decode cL_law 430 = .ok (.iaload, 1) := by decide +kernel
theorem dL_law_431 : decode cL_law 431 = .ok (.aload_n 0, 1) := by decide +kernel
theorem dL_law_432 : decode cL_law 432 = .ok (.iload_n 3, 1) := by decide +kernel
theorem dL_law_433 : decode cL_law 433 = .ok (.iconst 2, 1) := by decide +kernel
theorem dL_law_434 : decode cL_law 434 = .ok (.iadd, 1) := by decide +kernel
theorem dL_law_435 : decode cL_law 435 = .ok (.iaload, 1) := by decide +kernel
theorem dL_law_436 : decode cL_law 436 = .ok (.aload_n 0, 1) := by decide +kernel
theorem dL_law_437 : decode cL_law 437 = .ok (.iload_n 3, 1) := by decide +kernel
theorem dL_law_438 : decode cL_law 438 = .ok (.iconst 3, 1) := by decide +kernel
theorem dL_law_439 : decode cL_law 439 = .ok (.iadd, 1) := by decide +kernel
theorem dL_law_440 : decode cL_law 440 = .ok (.iaload, 1) := by decide +kernel
theorem dL_law_441 : decode cL_law 441 = .ok (.invokevirtual 61, 3) := by decide +kernel
theorem dL_law_444 : decode cL_law 444 = .ok (.aload_n 2, 1) := by decide +kernel
theorem dL_law_445 : decode cL_law 445 = .ok (.aload_n 0, 1) := by decide +kernel
theorem dL_law_446 : decode cL_law 446 = .ok (.iload_n 3, 1) := by decide +kernel
theorem dL_law_447 : decode cL_law 447 = .ok (.iconst 1, 1) := by decide +kernel
theorem dL_law_448 : decode cL_law 448 = .ok (.iadd, 1) := by decide +kernel
theorem dL_law_449 : decode cL_law 449 = .ok (.iaload, 1) := by decide +kernel
theorem dL_law_450 : decode cL_law 450 = .ok (.aload_n 0, 1) := by decide +kernel
theorem dL_law_451 : decode cL_law 451 = .ok (.iload_n 3, 1) := by decide +kernel
theorem dL_law_452 : decode cL_law 452 = .ok (.iconst 2, 1) := by decide +kernel
theorem dL_law_453 : decode cL_law 453 = .ok (.iadd, 1) := by decide +kernel
theorem dL_law_454 : decode cL_law 454 = .ok (.iaload, 1) := by decide +kernel
theorem dL_law_455 : decode cL_law 455 = .ok (.aload_n 0, 1) := by decide +kernel
theorem dL_law_456 : decode cL_law 456 = .ok (.iload_n 3, 1) := by decide +kernel
theorem dL_law_457 : decode cL_law 457 = .ok (.iconst 3, 1) := by decide +kernel
theorem dL_law_458 : decode cL_law 458 = .ok (.iadd, 1) := by decide +kernel
theorem dL_law_459 : decode cL_law 459 = .ok (.iaload, 1) := by decide +kernel
theorem dL_law_460 : decode cL_law 460 = .ok (.invokevirtual 65, 3) := by decide +kernel
theorem dL_law_463 : decode cL_law 463 = .ok (.if_icmp .eq 199, 3) := by decide +kernel
theorem dL_law_466 : decode cL_law 466 = .ok (.iconst 0, 1) := by decide +kernel
theorem dL_law_467 : decode cL_law 467 = .ok (.ireturn, 1) := by decide +kernel
theorem dL_law_468 : decode cL_law 468 = .ok (.aload_n 1, 1) := by decide +kernel
theorem dL_law_469 : decode cL_law 469 = .ok (.aload_n 0, 1) := by decide +kernel
theorem dL_law_470 : decode cL_law 470 = .ok (.iload_n 3, 1) := by decide +kernel
theorem dL_law_471 : decode cL_law 471 = .ok (.iconst 1, 1) := by decide +kernel
theorem dL_law_472 : decode cL_law 472 = .ok (.iadd, 1) := by decide +kernel
theorem dL_law_473 : decode cL_law 473 = .ok (.iaload, 1) := by decide +kernel
theorem dL_law_474 : decode cL_law 474 = .ok (.aload_n 0, 1) := by decide +kernel
theorem dL_law_475 : decode cL_law 475 = .ok (.iload_n 3, 1) := by decide +kernel
theorem dL_law_476 : decode cL_law 476 = .ok (.iconst 2, 1) := by decide +kernel
theorem dL_law_477 : decode cL_law 477 = .ok (.iadd, 1) := by decide +kernel
theorem dL_law_478 : decode cL_law 478 = .ok (.iaload, 1) := by decide +kernel
theorem dL_law_479 : decode cL_law 479 = .ok (.ifCond .eq 7, 3) := by decide +kernel
theorem dL_law_482 : decode cL_law 482 = .ok (.iconst 1, 1) := by decide +kernel
theorem dL_law_483 : decode cL_law 483 = .ok (.goto 4, 3) := by decide +kernel
theorem dL_law_486 : decode cL_law 486 = .ok (.iconst 0, 1) := by decide +kernel
theorem dL_law_487 : decode cL_law 487 = .ok (.invokevirtual 66, 3) := by decide +kernel
theorem dL_law_490 : decode cL_law 490 = .ok (.aload_n 2, 1) := by decide +kernel
theorem dL_law_491 : decode cL_law 491 = .ok (.aload_n 0, 1) := by decide +kernel
theorem dL_law_492 : decode cL_law 492 = .ok (.iload_n 3, 1) := by decide +kernel
theorem dL_law_493 : decode cL_law 493 = .ok (.iconst 1, 1) := by decide +kernel
theorem dL_law_494 : decode cL_law 494 = .ok (.iadd, 1) := by decide +kernel
theorem dL_law_495 : decode cL_law 495 = .ok (.iaload, 1) := by decide +kernel
theorem dL_law_496 : decode cL_law 496 = .ok (.aload_n 0, 1) := by decide +kernel
theorem dL_law_497 : decode cL_law 497 = .ok (.iload_n 3, 1) := by decide +kernel
theorem dL_law_498 : decode cL_law 498 = .ok (.iconst 2, 1) := by decide +kernel
theorem dL_law_499 : decode cL_law 499 = .ok (.iadd, 1) := by decide +kernel
theorem dL_law_500 : decode cL_law 500 = .ok (.iaload, 1) := by decide +kernel
theorem dL_law_501 : decode cL_law 501 = .ok (.ifCond .eq 7, 3) := by decide +kernel
theorem dL_law_504 : decode cL_law 504 = .ok (.iconst 1, 1) := by decide +kernel
theorem dL_law_505 : decode cL_law 505 = .ok (.goto 4, 3) := by decide +kernel
theorem dL_law_508 : decode cL_law 508 = .ok (.iconst 0, 1) := by decide +kernel
theorem dL_law_509 : decode cL_law 509 = .ok (.invokevirtual 70, 3) := by decide +kernel
theorem dL_law_512 : decode cL_law 512 = .ok (.if_icmp .eq 150, 3) := by decide +kernel
theorem dL_law_515 : decode cL_law 515 = .ok (.iconst 0, 1) := by decide +kernel
theorem dL_law_516 : decode cL_law 516 = .ok (.ireturn, 1) := by decide +kernel
theorem dL_law_517 : decode cL_law 517 = .ok (.aload_n 1, 1) := by decide +kernel
theorem dL_law_518 : decode cL_law 518 = .ok (.invokevirtual 71, 3) := by decide +kernel
theorem dL_law_521 : decode cL_law 521 = .ok (.aload_n 2, 1) := by decide +kernel
theorem dL_law_522 : decode cL_law 522 = .ok (.invokevirtual 74, 3) := by decide +kernel
theorem dL_law_525 : decode cL_law 525 = .ok (.if_icmp .eq 137, 3) := by decide +kernel
theorem dL_law_528 : decode cL_law 528 = .ok (.iconst 0, 1) := by decide +kernel
theorem dL_law_529 : decode cL_law 529 = .ok (.ireturn, 1) := by decide +kernel
theorem dL_law_530 : decode cL_law 530 = .ok (.aload_n 1, 1) := by decide +kernel
theorem dL_law_531 : decode cL_law 531 = .ok (.invokevirtual 75, 3) := by decide +kernel
theorem dL_law_534 : decode cL_law 534 = .ok (.aload_n 2, 1) := by decide +kernel
theorem dL_law_535 : decode cL_law 535 = .ok (.invokevirtual 78, 3) := by decide +kernel
theorem dL_law_538 : decode cL_law 538 = .ok (.if_icmp .eq 124, 3) := by decide +kernel
theorem dL_law_541 : decode cL_law 541 = .ok (.iconst 0, 1) := by decide +kernel
theorem dL_law_542 : decode cL_law 542 = .ok (.ireturn, 1) := by decide +kernel
theorem dL_law_543 : decode cL_law 543 = .ok (.aload_n 1, 1) := by decide +kernel
theorem dL_law_544 : decode cL_law 544 = .ok (.invokevirtual 79, 3) := by decide +kernel
theorem dL_law_547 : decode cL_law 547 = .ok (.aload_n 2, 1) := by decide +kernel
theorem dL_law_548 : decode cL_law 548 = .ok (.invokevirtual 82, 3) := by decide +kernel
theorem dL_law_551 : decode cL_law 551 = .ok (.if_icmp .eq 111, 3) := by decide +kernel
theorem dL_law_554 : decode cL_law 554 = .ok (.iconst 0, 1) := by decide +kernel
theorem dL_law_555 : decode cL_law 555 = .ok (.ireturn, 1) := by decide +kernel
theorem dL_law_556 : decode cL_law 556 = .ok (.aload_n 1, 1) := by decide +kernel
theorem dL_law_557 : decode cL_law 557 = .ok (.aload_n 0, 1) := by decide +kernel
theorem dL_law_558 : decode cL_law 558 = .ok (.iload_n 3, 1) := by decide +kernel
theorem dL_law_559 : decode cL_law 559 = .ok (.iconst 1, 1) := by decide +kernel
theorem dL_law_560 : decode cL_law 560 = .ok (.iadd, 1) := by decide +kernel
theorem dL_law_561 : decode cL_law 561 = .ok (.iaload, 1) := by decide +kernel
theorem dL_law_562 : decode cL_law 562 = .ok (.aload_n 0, 1) := by decide +kernel
theorem dL_law_563 : decode cL_law 563 = .ok (.iload_n 3, 1) := by decide +kernel
theorem dL_law_564 : decode cL_law 564 = .ok (.iconst 2, 1) := by decide +kernel
theorem dL_law_565 : decode cL_law 565 = .ok (.iadd, 1) := by decide +kernel
theorem dL_law_566 : decode cL_law 566 = .ok (.iaload, 1) := by decide +kernel
theorem dL_law_567 : decode cL_law 567 = .ok (.aload_n 0, 1) := by decide +kernel
theorem dL_law_568 : decode cL_law 568 = .ok (.iload_n 3, 1) := by decide +kernel
theorem dL_law_569 : decode cL_law 569 = .ok (.iconst 3, 1) := by decide +kernel
theorem dL_law_570 : decode cL_law 570 = .ok (.iadd, 1) := by decide +kernel
theorem dL_law_571 : decode cL_law 571 = .ok (.iaload, 1) := by decide +kernel
theorem dL_law_572 : decode cL_law 572 = .ok (.invokevirtual 83, 3) := by decide +kernel
theorem dL_law_575 : decode cL_law 575 = .ok (.aload_n 2, 1) := by decide +kernel
theorem dL_law_576 : decode cL_law 576 = .ok (.aload_n 0, 1) := by decide +kernel
theorem dL_law_577 : decode cL_law 577 = .ok (.iload_n 3, 1) := by decide +kernel
theorem dL_law_578 : decode cL_law 578 = .ok (.iconst 1, 1) := by decide +kernel
theorem dL_law_579 : decode cL_law 579 = .ok (.iadd, 1) := by decide +kernel
theorem dL_law_580 : decode cL_law 580 = .ok (.iaload, 1) := by decide +kernel
theorem dL_law_581 : decode cL_law 581 = .ok (.aload_n 0, 1) := by decide +kernel
theorem dL_law_582 : decode cL_law 582 = .ok (.iload_n 3, 1) := by decide +kernel
theorem dL_law_583 : decode cL_law 583 = .ok (.iconst 2, 1) := by decide +kernel
theorem dL_law_584 : decode cL_law 584 = .ok (.iadd, 1) := by decide +kernel
theorem dL_law_585 : decode cL_law 585 = .ok (.iaload, 1) := by decide +kernel
theorem dL_law_586 : decode cL_law 586 = .ok (.aload_n 0, 1) := by decide +kernel
theorem dL_law_587 : decode cL_law 587 = .ok (.iload_n 3, 1) := by decide +kernel
theorem dL_law_588 : decode cL_law 588 = .ok (.iconst 3, 1) := by decide +kernel
theorem dL_law_589 : decode cL_law 589 = .ok (.iadd, 1) := by decide +kernel
theorem dL_law_590 : decode cL_law 590 = .ok (.iaload, 1) := by decide +kernel
theorem dL_law_591 : decode cL_law 591 = .ok (.invokevirtual 86, 3) := by decide +kernel
theorem dL_law_594 : decode cL_law 594 = .ok (.if_icmp .eq 68, 3) := by decide +kernel
theorem dL_law_597 : decode cL_law 597 = .ok (.iconst 0, 1) := by decide +kernel
theorem dL_law_598 : decode cL_law 598 = .ok (.ireturn, 1) := by decide +kernel
theorem dL_law_599 : decode cL_law 599 = .ok (.aload_n 1, 1) := by decide +kernel
theorem dL_law_600 : decode cL_law 600 = .ok (.invokevirtual 87, 3) := by decide +kernel
theorem dL_law_603 : decode cL_law 603 = .ok (.aload_n 2, 1) := by decide +kernel
theorem dL_law_604 : decode cL_law 604 = .ok (.invokevirtual 90, 3) := by decide +kernel
theorem dL_law_607 : decode cL_law 607 = .ok (.if_icmp .eq 55, 3) := by decide +kernel
theorem dL_law_610 : decode cL_law 610 = .ok (.iconst 0, 1) := by decide +kernel
theorem dL_law_611 : decode cL_law 611 = .ok (.ireturn, 1) := by decide +kernel
theorem dL_law_612 : decode cL_law 612 = .ok (.aload_n 1, 1) := by decide +kernel
theorem dL_law_613 : decode cL_law 613 = .ok (.invokevirtual 91, 3) := by decide +kernel
theorem dL_law_616 : decode cL_law 616 = .ok (.aload_n 2, 1) := by decide +kernel
theorem dL_law_617 : decode cL_law 617 = .ok (.invokevirtual 94, 3) := by decide +kernel
theorem dL_law_620 : decode cL_law 620 = .ok (.if_icmp .eq 42, 3) := by decide +kernel
theorem dL_law_623 : decode cL_law 623 = .ok (.iconst 0, 1) := by decide +kernel
theorem dL_law_624 : decode cL_law 624 = .ok (.ireturn, 1) := by decide +kernel
theorem dL_law_625 : decode cL_law 625 = .ok (.aload_n 1, 1) := by decide +kernel
theorem dL_law_626 : decode cL_law 626 = .ok (.aload_n 0, 1) := by decide +kernel
theorem dL_law_627 : decode cL_law 627 = .ok (.iload_n 3, 1) := by decide +kernel
theorem dL_law_628 : decode cL_law 628 = .ok (.iconst 1, 1) := by decide +kernel
theorem dL_law_629 : decode cL_law 629 = .ok (.iadd, 1) := by decide +kernel
theorem dL_law_630 : decode cL_law 630 = .ok (.iaload, 1) := by decide +kernel
theorem dL_law_631 : decode cL_law 631 = .ok (.invokevirtual 95, 3) := by decide +kernel
theorem dL_law_634 : decode cL_law 634 = .ok (.aload_n 2, 1) := by decide +kernel
theorem dL_law_635 : decode cL_law 635 = .ok (.aload_n 0, 1) := by decide +kernel
theorem dL_law_636 : decode cL_law 636 = .ok (.iload_n 3, 1) := by decide +kernel
theorem dL_law_637 : decode cL_law 637 = .ok (.iconst 1, 1) := by decide +kernel
theorem dL_law_638 : decode cL_law 638 = .ok (.iadd, 1) := by decide +kernel
theorem dL_law_639 : decode cL_law 639 = .ok (.iaload, 1) := by decide +kernel
theorem dL_law_640 : decode cL_law 640 = .ok (.invokevirtual 98, 3) := by decide +kernel
theorem dL_law_643 : decode cL_law 643 = .ok (.if_icmp .eq 19, 3) := by decide +kernel
theorem dL_law_646 : decode cL_law 646 = .ok (.iconst 0, 1) := by decide +kernel
theorem dL_law_647 : decode cL_law 647 = .ok (.ireturn, 1) := by decide +kernel
theorem dL_law_648 : decode cL_law 648 = .ok (.aload_n 1, 1) := by decide +kernel
theorem dL_law_649 : decode cL_law 649 = .ok (.invokevirtual 99, 3) := by decide +kernel
theorem dL_law_652 : decode cL_law 652 = .ok (.aload_n 2, 1) := by decide +kernel
theorem dL_law_653 : decode cL_law 653 = .ok (.invokevirtual 103, 3) := by decide +kernel
theorem dL_law_656 : decode cL_law 656 = .ok (.lcmp, 1) := by decide +kernel
theorem dL_law_657 : decode cL_law 657 = .ok (.ifCond .eq 5, 3) := by decide +kernel
theorem dL_law_660 : decode cL_law 660 = .ok (.iconst 0, 1) := by decide +kernel
theorem dL_law_661 : decode cL_law 661 = .ok (.ireturn, 1) := by decide +kernel
theorem dL_law_662 : decode cL_law 662 = .ok (.iinc 3 5, 3) := by decide +kernel
theorem dL_law_665 : decode cL_law 665 = .ok (.goto (-647), 3) := by decide +kernel
theorem dL_law_668 : decode cL_law 668 = .ok (.iconst 1, 1) := by decide +kernel
theorem dL_law_669 : decode cL_law 669 = .ok (.ireturn, 1) := by decide +kernel
