theorem dX8_fillFrom_2 : decode cX8_fillFrom 2 = .ok (.getfield 12, 3) := by decide +kernel
theorem dX8_fillFrom_5 : decode cX8_fillFrom 5 = .ok (.getfield 53, 3) := by decide +kernel
theorem dX8_fillFrom_8 : decode cX8_fillFrom 8 = .ok (.if_icmp .lt 8, 3) := by decide +kernel
theorem dX8_fillFrom_11 : decode cX8_fillFrom 11 = .ok (.aload_n 0, 1) := by decide +kernel
theorem dX8_fillFrom_12 : decode cX8_fillFrom 12 = .ok (.invokevirtual 56, 3) := by decide +kernel
theorem dX8_fillFrom_15 : decode cX8_fillFrom 15 = .ok (.ireturn, 1) := by decide +kernel
theorem dX8_fillFrom_16 : decode cX8_fillFrom 16 = .ok (.iload_n 1, 1) := by decide +kernel
theorem dX8_fillFrom_17 : decode cX8_fillFrom 17 = .ok (.ifCond .lt 14, 3) := by decide +kernel
theorem dX8_fillFrom_20 : decode cX8_fillFrom 20 = .ok (.iload_n 1, 1) := by decide +kernel
theorem dX8_fillFrom_21 : decode cX8_fillFrom 21 = .ok (.iconst 1, 1) := by decide +kernel
theorem dX8_fillFrom_22 : decode cX8_fillFrom 22 = .ok (.iadd, 1) := by decide +kernel
theorem dX8_fillFrom_23 : decode cX8_fillFrom 23 = .ok (.aload_n 0, 1) := by decide +kernel
theorem dX8_fillFrom_24 : decode cX8_fillFrom 24 = .ok (.getfield 25, 3) := by decide +kernel
theorem dX8_fillFrom_27 : decode cX8_fillFrom 27 = .ok (.arraylength, 1) := by decide +kernel
theorem dX8_fillFrom_28 : decode cX8_fillFrom 28 = .ok (.if_icmp .lt 5, 3) := by decide +kernel
theorem dX8_fillFrom_31 : decode cX8_fillFrom 31 = .ok (.iconst 0, 1) := by decide +kernel
theorem dX8_fillFrom_32 : decode cX8_fillFrom 32 = .ok (.ireturn, 1) := by decide +kernel
theorem dX8_fillFrom_33 : decode cX8_fillFrom 33 = .ok (.aload_n 0, 1) := by decide +kernel
theorem dX8_fillFrom_34 : decode cX8_fillFrom 34 = .ok (.getfield 25, 3) := by decide +kernel
theorem dX8_fillFrom_37 : decode cX8_fillFrom 37 = .ok (.iload_n 1, 1) := by decide +kernel
theorem dX8_fillFrom_38 : decode cX8_fillFrom 38 = .ok (.aaload, 1) := by decide +kernel
theorem dX8_fillFrom_39 : decode cX8_fillFrom 39 = .ok (.astore_n 2, 1) := by decide +kernel
theorem dX8_fillFrom_40 : decode cX8_fillFrom 40 = .ok (.aload_n 0, 1) := by decide +kernel
theorem dX8_fillFrom_41 : decode cX8_fillFrom 41 = .ok (.getfield 25, 3) := by decide +kernel
theorem dX8_fillFrom_44 : decode cX8_fillFrom 44 = .ok (.iload_n 1, 1) := by decide +kernel
theorem dX8_fillFrom_45 : decode cX8_fillFrom 45 = .ok (.iconst 1, 1) := by decide +kernel
theorem dX8_fillFrom_46 : decode cX8_fillFrom 46 = .ok (.iadd, 1) := by decide +kernel
theorem dX8_fillFrom_47 : decode cX8_fillFrom 47 = .ok (.aaload, 1) := by decide +kernel
theorem dX8_fillFrom_48 : decode cX8_fillFrom 48 = .ok (.astore_n 3, 1) := by decide +kernel
theorem dX8_fillFrom_49 : decode cX8_fillFrom 49 = .ok (.aload_n 2, 1) := by decide +kernel
theorem dX8_fillFrom_50 : decode cX8_fillFrom 50 = .ok (.ifnull 7, 3) := by decide +kernel
theorem dX8_fillFrom_53 : decode cX8_fillFrom 53 = .ok (.aload_n 3, 1) := by decide +kernel
theorem dX8_fillFrom_54 : decode cX8_fillFrom 54 = .ok (.ifnonnull 5, 3) := by decide +kernel
theorem dX8_fillFrom_57 : decode cX8_fillFrom 57 = .ok (.iconst 0, 1) := by decide +kernel
theorem dX8_fillFrom_58 : decode cX8_fillFrom 58 = .ok (.ireturn, 1) := by decide +kernel
theorem dX8_fillFrom_59 : decode cX8_fillFrom 59 = .ok (.iconst 0, 1) := by decide +kernel
theorem dX8_fillFrom_60 : decode cX8_fillFrom 60 = .ok (.istore 4, 2) := by decide +kernel
theorem dX8_fillFrom_62 : decode cX8_fillFrom 62 = .ok (.iload 4, 2) := by decide +kernel
theorem dX8_fillFrom_64 : decode cX8_fillFrom 64 = .ok (.bipush 6, 2) := by decide +kernel
theorem dX8_fillFrom_66 : decode cX8_fillFrom 66 = .ok (.if_icmp .ge 66, 3) := by decide +kernel
theorem dX8_fillFrom_69 : decode cX8_fillFrom 69 = .ok (.aload_n 3, 1) := by decide +kernel
theorem dX8_fillFrom_70 : decode cX8_fillFrom 70 = .ok (.aload_n 2, 1) := by decide +kernel
theorem dX8_fillFrom_71 : decode cX8_fillFrom 71 = .ok (.invokevirtual 60, 3) := by decide +kernel
theorem dX8_fillFrom_74 : decode cX8_fillFrom 74 = .ok (.aload_n 3, 1) := by decide +kernel
theorem dX8_fillFrom_75 : decode cX8_fillFrom 75 = .ok (.iload 4, 2) := by decide +kernel
theorem dX8_fillFrom_77 : decode cX8_fillFrom 77 = .ok (.invokevirtual 64, 3) := by decide +kernel
theorem dX8_fillFrom_80 : decode cX8_fillFrom 80 = .ok (.aload_n 3, 1) := by decide +kernel
theorem dX8_fillFrom_81 : decode cX8_fillFrom 81 = .ok (.getfield 67, 3) := by decide +kernel
theorem dX8_fillFrom_84 : decode cX8_fillFrom 84 = .ok (.ifCond .ne 42, 3) := by decide +kernel
theorem dX8_fillFrom_87 : decode cX8_fillFrom 87 = .ok (.aload_n 0, 1) := by decide +kernel
theorem dX8_fillFrom_88 : decode cX8_fillFrom 88 = .ok (.aload_n 3, 1) := by decide +kernel
theorem dX8_fillFrom_89 : decode cX8_fillFrom 89 = .ok (.getfield 71, 3) := by decide +kernel
theorem dX8_fillFrom_92 : decode cX8_fillFrom 92 = .ok (.iload_n 1, 1) := by decide +kernel
theorem dX8_fillFrom_93 : decode cX8_fillFrom 93 = .ok (.iconst 1, 1) := by decide +kernel
theorem dX8_fillFrom_94 : decode cX8_fillFrom 94 = .ok (.iadd, 1) := by decide +kernel
theorem dX8_fillFrom_95 : decode cX8_fillFrom 95 = .ok (.invokevirtual 74, 3) := by decide +kernel
theorem dX8_fillFrom_98 : decode cX8_fillFrom 98 = .ok (.ifCond .ne 6, 3) := by decide +kernel
theorem dX8_fillFrom_101 : decode cX8_fillFrom 101 = .ok (.goto 25, 3) := by decide +kernel
theorem dX8_fillFrom_104 : decode cX8_fillFrom 104 = .ok (.aload_n 0, 1) := by decide +kernel
theorem dX8_fillFrom_105 : decode cX8_fillFrom 105 = .ok (.getfield 12, 3) := by decide +kernel
theorem dX8_fillFrom_108 : decode cX8_fillFrom 108 = .ok (.iload_n 1, 1) := by decide +kernel
theorem dX8_fillFrom_109 : decode cX8_fillFrom 109 = .ok (.iload 4, 2) := by decide +kernel
theorem dX8_fillFrom_111 : decode cX8_fillFrom 111 = .ok (.invokevirtual 78, 3) := by decide +kernel
theorem dX8_fillFrom_114 : decode cX8_fillFrom 114 = .ok (.aload_n 0, 1) := by decide +kernel
theorem dX8_fillFrom_115 : decode cX8_fillFrom 115 = .ok (.iload_n 1, 1) := by decide +kernel
theorem dX8_fillFrom_116 : decode cX8_fillFrom 116 = .ok (.iconst 1, 1) := by decide +kernel
theorem dX8_fillFrom_117 : decode cX8_fillFrom 117 = .ok (.iadd, 1) := by decide +kernel
theorem dX8_fillFrom_118 : decode cX8_fillFrom 118 = .ok (.invokestatic 49, 3) := by decide +kernel
theorem dX8_fillFrom_121 : decode cX8_fillFrom 121 = .ok (.ifCond .eq 5, 3) := by decide +kernel
theorem dX8_fillFrom_124 : decode cX8_fillFrom 124 = .ok (.iconst 1, 1) := by decide +kernel
theorem dX8_fillFrom_125 : decode cX8_fillFrom 125 = .ok (.ireturn, 1) := by decide +kernel
theorem dX8_fillFrom_126 : decode cX8_fillFrom 126 = .ok (.iinc 4 1, 3) := by decide +kernel
theorem dX8_fillFrom_129 : decode cX8_fillFrom 129 = .ok (.goto (-67), 3) := by decide +kernel
theorem dX8_fillFrom_132 : decode cX8_fillFrom 132 = .ok (.iconst 0, 1) := by decide +kernel
theorem dX8_fillFrom_133 : decode cX8_fillFrom 133 = .ok (.ireturn, 1) := by decide +kernel
theorem dX8_canReachTop_0 : decode cX8_canReachTop 0 = .ok (.aload_n 0, 1) := by decide +kernel
theorem dX8_canReachTop_1 : decode cX8_canReachTop 1 = .ok (.getfield 36, 3) := by decide +kernel
theorem dX8_canReachTop_4 : decode cX8_canReachTop 4 = .ok (.invokestatic 82, 3) := by decide +kernel
theorem dX8_canReachTop_7 : decode cX8_canReachTop 7 = .ok (.iload_n 1, 1) := by decide +kernel
theorem dX8_canReachTop_8 : decode cX8_canReachTop 8 = .ok (.invokestatic 82, 3) := by decide +kernel
theorem dX8_canReachTop_11 : decode cX8_canReachTop 11 = .ok (.isub, 1) := by decide +kernel
theorem dX8_canReachTop_12 : decode cX8_canReachTop 12 = .ok (.invokestatic 82, 3) := by decide +kernel
theorem dX8_canReachTop_15 : decode cX8_canReachTop 15 = .ok (.aload_n 0, 1) := by decide +kernel
theorem dX8_canReachTop_16 : decode cX8_canReachTop 16 = .ok (.getfield 12, 3) := by decide +kernel
theorem dX8_canReachTop_19 : decode cX8_canReachTop 19 = .ok (.getfield 53, 3) := by decide +kernel
theorem dX8_canReachTop_22 : decode cX8_canReachTop 22 = .ok (.iload_n 2, 1) := by decide +kernel
theorem dX8_canReachTop_23 : decode cX8_canReachTop 23 = .ok (.isub, 1) := by decide +kernel
theorem dX8_canReachTop_24 : decode cX8_canReachTop 24 = .ok (.if_icmp .gt 7, 3) := by decide +kernel
theorem dX8_canReachTop_27 : decode cX8_canReachTop 27 = .ok (.iconst 1, 1) := by decide +kernel
theorem dX8_canReachTop_28 : decode cX8_canReachTop 28 = .ok (.goto 4, 3) := by decide +kernel
theorem dX8_canReachTop_31 : decode cX8_canReachTop 31 = .ok (.iconst 0, 1) := by decide +kernel
theorem dX8_canReachTop_32 : decode cX8_canReachTop 32 = .ok (.ireturn, 1) := by decide +kernel
theorem dX8_fits_0 : decode cX8_fits 0 = .ok (.aload_n 0, 1) := by decide +kernel
theorem dX8_fits_1 : decode cX8_fits 1 = .ok (.getfield 12, 3) := by decide +kernel
theorem dX8_fits_4 : decode cX8_fits 4 = .ok (.getfield 53, 3) := by decide +kernel
theorem dX8_fits_7 : decode cX8_fits 7 = .ok (.istore_n 1, 1) := by decide +kernel
theorem dX8_fits_8 : decode cX8_fits 8 = .ok (.iload_n 1, 1) := by decide +kernel
theorem dX8_fits_9 : decode cX8_fits 9 = .ok (.ifCond .lt 12, 3) := by decide +kernel
theorem dX8_fits_12 : decode cX8_fits 12 = .ok (.iload_n 1, 1) := by decide +kernel
theorem dX8_fits_13 : decode cX8_fits 13 = .ok (.aload_n 0, 1) := by decide +kernel
theorem dX8_fits_14 : decode cX8_fits 14 = .ok (.getfield 25, 3) := by decide +kernel
theorem dX8_fits_17 : decode cX8_fits 17 = .ok (.arraylength, 1) := by decide +kernel
theorem dX8_fits_18 : decode cX8_fits 18 = .ok (.if_icmp .lt 5, 3) := by decide +kernel
theorem dX8_fits_21 : decode cX8_fits 21 = .ok (.iconst 0, 1) := by decide +kernel
theorem dX8_fits_22 : decode cX8_fits 22 = .ok (.ireturn, 1) := by decide +kernel
theorem dX8_fits_23 : decode cX8_fits 23 = .ok (.aload_n 0, 1) := by decide +kernel
theorem dX8_fits_24 : decode cX8_fits 24 = .ok (.getfield 25, 3) := by decide +kernel
theorem dX8_fits_27 : decode cX8_fits 27 = .ok (.iload_n 1, 1) := by decide +kernel
theorem dX8_fits_28 : decode cX8_fits 28 = .ok (.aaload, 1) := by decide +kernel
theorem dX8_fits_29 : decode cX8_fits 29 = .ok (.astore_n 2, 1) := by decide +kernel
theorem dX8_fits_30 : decode cX8_fits 30 = .ok (.aload_n 2, 1) := by decide +kernel
theorem dX8_fits_31 : decode cX8_fits 31 = .ok (.ifnull 14, 3) := by decide +kernel
theorem dX8_fits_34 : decode cX8_fits 34 = .ok (.aload_n 2, 1) := by decide +kernel
theorem dX8_fits_35 : decode cX8_fits 35 = .ok (.getfield 71, 3) := by decide +kernel
theorem dX8_fits_38 : decode cX8_fits 38 = .ok (.aload_n 0, 1) := by decide +kernel
theorem dX8_fits_39 : decode cX8_fits 39 = .ok (.getfield 36, 3) := by decide +kernel
theorem dX8_fits_42 : decode cX8_fits 42 = .ok (.if_icmp .eq 5, 3) := by decide +kernel
theorem dX8_fits_45 : decode cX8_fits 45 = .ok (.iconst 0, 1) := by decide +kernel
theorem dX8_fits_46 : decode cX8_fits 46 = .ok (.ireturn, 1) := by decide +kernel
theorem dX8_fits_47 : decode cX8_fits 47 = .ok (.aload_n 0, 1) := by decide +kernel
theorem dX8_fits_48 : decode cX8_fits 48 = .ok (.getfield 21, 3) := by decide +kernel
theorem dX8_fits_51 : decode cX8_fits 51 = .ok (.aload_n 0, 1) := by decide +kernel
theorem dX8_fits_52 : decode cX8_fits 52 = .ok (.getfield 29, 3) := by decide +kernel
theorem dX8_fits_55 : decode cX8_fits 55 = .ok (.invokevirtual 46, 3) := by decide +kernel
theorem dX8_fits_58 : decode cX8_fits 58 = .ok (.aload_n 0, 1) := by decide +kernel
theorem dX8_fits_59 : decode cX8_fits 59 = .ok (.getfield 21, 3) := by decide +kernel
theorem dX8_fits_62 : decode cX8_fits 62 = .ok (.aload_n 0, 1) := by decide +kernel
theorem dX8_fits_63 : decode cX8_fits 63 = .ok (.getfield 12, 3) := by decide +kernel
theorem dX8_fits_66 : decode cX8_fits 66 = .ok (.aload_n 0, 1) := by decide +kernel
theorem dX8_fits_67 : decode cX8_fits 67 = .ok (.getfield 12, 3) := by decide +kernel
theorem dX8_fits_70 : decode cX8_fits 70 = .ok (.getfield 53, 3) := by decide +kernel
theorem dX8_fits_73 : decode cX8_fits 73 = .ok (.aload_n 0, 1) := by decide +kernel
theorem dX8_fits_74 : decode cX8_fits 74 = .ok (.getfield 29, 3) := by decide +kernel
theorem dX8_fits_77 : decode cX8_fits 77 = .ok (.iconst 2, 1) := by decide +kernel
theorem dX8_fits_78 : decode cX8_fits 78 = .ok (.if_icmp .ne 7, 3) := by decide +kernel
theorem dX8_fits_81 : decode cX8_fits 81 = .ok (.iconst 1, 1) := by decide +kernel
theorem dX8_fits_82 : decode cX8_fits 82 = .ok (.goto 4, 3) := by decide +kernel
theorem dX8_fits_85 : decode cX8_fits 85 = .ok (.iconst 0, 1) := by decide +kernel
theorem dX8_fits_86 : decode cX8_fits 86 = .ok (.invokevirtual 88, 3) := by decide +kernel
theorem dX8_fits_89 : decode cX8_fits 89 = .ok (.aload_n 0, 1) := by decide +kernel
theorem dX8_fits_90 : decode cX8_fits 90 = .ok (.getfield 21, 3) := by decide +kernel
theorem dX8_fits_93 : decode cX8_fits 93 = .ok (.getfield 67, 3) := by decide +kernel
theorem dX8_fits_96 : decode cX8_fits 96 = .ok (.ifCond .ne 21, 3) := by decide +kernel
theorem dX8_fits_99 : decode cX8_fits 99 = .ok (.aload_n 0, 1) := by decide +kernel
theorem dX8_fits_100 : decode cX8_fits 100 = .ok (.getfield 21, 3) := by decide +kernel
theorem dX8_fits_103 : decode cX8_fits 103 = .ok (.getfield 71, 3) := by decide +kernel
theorem dX8_fits_106 : decode cX8_fits 106 = .ok (.aload_n 0, 1) := by decide +kernel
theorem dX8_fits_107 : decode cX8_fits 107 = .ok (.getfield 33, 3) := by decide +kernel
theorem dX8_fits_110 : decode cX8_fits 110 = .ok (.if_icmp .ne 7, 3) := by decide +kernel
theorem dX8_fits_113 : decode cX8_fits 113 = .ok (.iconst 1, 1) := by decide +kernel
theorem dX8_fits_114 : decode cX8_fits 114 = .ok (.goto 4, 3) := by decide +kernel
theorem dX8_fits_117 : decode cX8_fits 117 = .ok (.iconst 0, 1) := by decide +kernel
theorem dX8_fits_118 : decode cX8_fits 118 = .ok (.ireturn, 1) := by decide +kernel
theorem dX9_init_0 : decode cX9_init 0 = .ok (.aload_n 0, 1) := by decide +kernel
theorem dX9_init_1 : decode cX9_init 1 = .ok (.invokespecial 1, 3) := by decide +kernel
theorem dX9_init_4 : decode cX9_init 4 = .ok (.aload_n 0, 1) := by decide +kernel
theorem dX9_init_5 : decode cX9_init 5 = .ok (.new 7, 3) := by decide +kernel
theorem dX9_init_8 : decode cX9_init 8 = .ok (.dup, 1) := by decide +kernel
theorem dX9_init_9 : decode cX9_init 9 = .ok (.invokespecial 9, 3) := by decide +kernel
theorem dX9_init_12 : decode cX9_init 12 = .ok (.putfield 10, 3) := by decide +kernel
theorem dX9_init_15 : decode cX9_init 15 = .ok (.aload_n 0, 1) := by decide +kernel
theorem dX9_init_16 : decode cX9_init 16 = .ok (.new 16, 3) := by decide +kernel
theorem dX9_init_19 : decode cX9_init 19 = .ok (.dup, 1) := by decide +kernel
theorem dX9_init_20 : decode cX9_init 20 = .ok (.invokespecial 18, 3) := by decide +kernel
theorem dX9_init_23 : decode cX9_init 23 = .ok (.putfield 19, 3) := by decide +kernel
theorem dX9_init_26 : decode cX9_init 26 = .ok (.aload_n 0, 1) := by decide +kernel
theorem dX9_init_27 : decode cX9_init 27 = .ok (.new 23, 3) := by decide +kernel
theorem dX9_init_30 : decode cX9_init 30 = .ok (.dup, 1) := by decide +kernel
theorem dX9_init_31 : decode cX9_init 31 = .ok (.invokespecial 25, 3) := by decide +kernel
theorem dX9_init_34 : decode cX9_init 34 = .ok (.putfield 26, 3) := by decide +kernel
theorem dX9_init_37 : decode cX9_init 37 = .ok (.aload_n 0, 1) := by decide +kernel
theorem dX9_init_38 : decode cX9_init 38 = .ok (.new 30, 3) := by decide +kernel
theorem dX9_init_41 : decode cX9_init 41 = .ok (.dup, 1) := by decide +kernel
theorem dX9_init_42 : decode cX9_init 42 = .ok (.invokespecial 32, 3) := by decide +kernel
theorem dX9_init_45 : decode cX9_init 45 = .ok (.putfield 33, 3) := by decide +kernel
theorem dX9_init_48 : decode cX9_init 48 = .ok (.aload_n 0, 1) := by decide +kernel
theorem dX9_init_49 : decode cX9_init 49 = .ok (.new 37, 3) := by decide +kernel
theorem dX9_init_52 : decode cX9_init 52 = .ok (.dup, 1) := by decide +kernel
theorem dX9_init_53 : decode cX9_init 53 = .ok (.invokespecial 39, 3) := by decide +kernel
theorem dX9_init_56 : decode cX9_init 56 = .ok (.putfield 40, 3) := by decide +kernel
theorem dX9_init_59 : decode cX9_init 59 = .ok (.aload_n 0, 1) := by decide +kernel
theorem dX9_init_60 : decode cX9_init 60 = .ok (.new 44, 3) := by decide +kernel
theorem dX9_init_63 : decode cX9_init 63 = .ok (.dup, 1) := by decide +kernel
theorem dX9_init_64 : decode cX9_init 64 = .ok (.invokespecial 46, 3) := by decide +kernel
theorem dX9_init_67 : decode cX9_init 67 = .ok (.putfield 47, 3) := by decide +kernel
theorem dX9_init_70 : decode cX9_init 70 = .ok (.aload_n 0, 1) := by decide +kernel
theorem dX9_init_71 : decode cX9_init 71 = .ok (.new 51, 3) := by decide +kernel
theorem dX9_init_74 : decode cX9_init 74 = .ok (.dup, 1) := by decide +kernel
theorem dX9_init_75 : decode cX9_init 75 = .ok (.invokespecial 53, 3) := by decide +kernel
theorem dX9_init_78 : decode cX9_init 78 = .ok (.putfield 54, 3) := by decide +kernel
theorem dX9_init_81 : decode cX9_init 81 = .ok (.aload_n 0, 1) := by decide +kernel
theorem dX9_init_82 : decode cX9_init 82 = .ok (.new 58, 3) := by decide +kernel
theorem dX9_init_85 : decode cX9_init 85 = .ok (.dup, 1) := by decide +kernel
theorem dX9_init_86 : decode cX9_init 86 = .ok (.invokespecial 60, 3) := by decide +kernel
theorem dX9_init_89 : decode cX9_init 89 = .ok (.putfield 61, 3) := by decide +kernel
theorem dX9_init_92 : decode cX9_init 92 = .ok (.aload_n 0, 1) := by decide +kernel
theorem dX9_init_93 : decode cX9_init 93 = .ok (.new 65, 3) := by decide +kernel
theorem dX9_init_96 : decode cX9_init 96 = .ok (.dup, 1) := by decide +kernel
theorem dX9_init_97 : decode cX9_init 97 = .ok (.invokespecial 67, 3) := by decide +kernel
theorem dX9_init_100 : decode cX9_init 100 = .ok (.putfield 68, 3) := by decide +kernel
theorem dX9_init_103 : decode cX9_init 103 = .ok (.aload_n 0, 1) := by decide +kernel
theorem dX9_init_104 : decode cX9_init 104 = .ok (.bipush 10, 2) := by decide +kernel
theorem dX9_init_106 : decode cX9_init 106 = .ok (.newarray .int, 2) := by decide +kernel
theorem dX9_init_108 : decode cX9_init 108 = .ok (.putfield 72, 3) := by decide +kernel
theorem dX9_init_111 : decode cX9_init 111 = .ok (.return_, 1) := by decide +kernel
theorem dX9_letter_0 : decode cX9_letter 0 = .ok (.iload_n 1, 1) := by decide +kernel
theorem dX9_letter_1 : decode cX9_letter 1 = .ok (.iconst 1, 1) := by decide +kernel
theorem dX9_letter_2 : decode cX9_letter 2 = .ok (.if_icmp .lt 9, 3) := by decide +kernel
theorem dX9_letter_5 : decode cX9_letter 5 = .ok (.iload_n 1, 1) := by decide +kernel
theorem dX9_letter_6 : decode cX9_letter 6 = .ok (.bipush 126, 2) := by decide +kernel
theorem dX9_letter_8 : decode cX9_letter 8 = .ok (.if_icmp .le 6, 3) := by decide +kernel
theorem dX9_letter_11 : decode cX9_letter 11 = .ok (.bipush (-102), 2) := by decide +kernel
theorem dX9_letter_13 : decode cX9_letter 13 = .ok (.ireturn, 1) := by decide +kernel
theorem dX9_letter_14 : decode cX9_letter 14 = .ok (.aload_n 0, 1) := by decide +kernel
theorem dX9_letter_15 : decode cX9_letter 15 = .ok (.getfield 10, 3) := by decide +kernel
theorem dX9_letter_18 : decode cX9_letter 18 = .ok (.getfield 76, 3) := by decide +kernel
theorem dX9_letter_21 : decode cX9_letter 21 = .ok (.bipush 12, 2) := by decide +kernel
theorem dX9_letter_23 : decode cX9_letter 23 = .ok (.if_icmp .lt 6, 3) := by decide +kernel
theorem dX9_letter_26 : decode cX9_letter 26 = .ok (.bipush (-104), 2) := by decide +kernel
theorem dX9_letter_28 : decode cX9_letter 28 = .ok (.ireturn, 1) := by decide +kernel
theorem dX9_letter_29 : decode cX9_letter 29 = .ok (.aload_n 0, 1) := by decide +kernel
theorem dX9_letter_30 : decode cX9_letter 30 = .ok (.getfield 10, 3) := by decide +kernel
theorem dX9_letter_33 : decode cX9_letter 33 = .ok (.iload_n 1, 1) := by decide +kernel
theorem dX9_letter_34 : decode cX9_letter 34 = .ok (.invokevirtual 80, 3) := by decide +kernel
theorem dX9_letter_37 : decode cX9_letter 37 = .ok (.aload_n 0, 1) := by decide +kernel
theorem dX9_letter_38 : decode cX9_letter 38 = .ok (.getfield 10, 3) := by decide +kernel
theorem dX9_letter_41 : decode cX9_letter 41 = .ok (.getfield 76, 3) := by decide +kernel
theorem dX9_letter_44 : decode cX9_letter 44 = .ok (.ireturn, 1) := by decide +kernel
theorem dX9_blank_0 : decode cX9_blank 0 = .ok (.aload_n 0, 1) := by decide +kernel
theorem dX9_blank_1 : decode cX9_blank 1 = .ok (.getfield 10, 3) := by decide +kernel
theorem dX9_blank_4 : decode cX9_blank 4 = .ok (.getfield 76, 3) := by decide +kernel
theorem dX9_blank_7 : decode cX9_blank 7 = .ok (.istore_n 1, 1) := by decide +kernel
theorem dX9_blank_8 : decode cX9_blank 8 = .ok (.aload_n 0, 1) := by decide +kernel
theorem dX9_blank_9 : decode cX9_blank 9 = .ok (.getfield 10, 3) := by decide +kernel
theorem dX9_blank_12 : decode cX9_blank 12 = .ok (.invokevirtual 84, 3) := by decide +kernel
theorem dX9_blank_15 : decode cX9_blank 15 = .ok (.iload_n 1, 1) := by decide +kernel
theorem dX9_blank_16 : decode cX9_blank 16 = .ok (.ireturn, 1) := by decide +kernel
theorem dX9_fault_0 : decode cX9_fault 0 = .ok (.aload_n 0, 1) := by decide +kernel
theorem dX9_fault_1 : decode cX9_fault 1 = .ok (.getfield 10, 3) := by decide +kernel
theorem dX9_fault_4 : decode cX9_fault 4 = .ok (.invokevirtual 87, 3) := by decide +kernel
theorem dX9_fault_7 : decode cX9_fault 7 = .ok (.ireturn, 1) := by decide +kernel
theorem dX9_take_0 : decode cX9_take 0 = .ok (.aload_n 0, 1) := by decide +kernel
theorem dX9_take_1 : decode cX9_take 1 = .ok (.getfield 10, 3) := by decide +kernel
theorem dX9_take_4 : decode cX9_take 4 = .ok (.invokevirtual 91, 3) := by decide +kernel
theorem dX9_take_7 : decode cX9_take 7 = .ok (.ifCond .ne 6, 3) := by decide +kernel
theorem dX9_take_10 : decode cX9_take 10 = .ok (.bipush (-103), 2) := by decide +kernel
theorem dX9_take_12 : decode cX9_take 12 = .ok (.ireturn, 1) := by decide +kernel
theorem dX9_take_13 : decode cX9_take 13 = .ok (.aload_n 0, 1) := by decide +kernel
theorem dX9_take_14 : decode cX9_take 14 = .ok (.getfield 10, 3) := by decide +kernel
theorem dX9_take_17 : decode cX9_take 17 = .ok (.aload_n 0, 1) := by decide +kernel
theorem dX9_take_18 : decode cX9_take 18 = .ok (.getfield 19, 3) := by decide +kernel
theorem dX9_take_21 : decode cX9_take 21 = .ok (.invokevirtual 95, 3) := by decide +kernel
theorem dX9_take_24 : decode cX9_take 24 = .ok (.aload_n 0, 1) := by decide +kernel
theorem dX9_take_25 : decode cX9_take 25 = .ok (.getfield 10, 3) := by decide +kernel
theorem dX9_take_28 : decode cX9_take 28 = .ok (.invokevirtual 84, 3) := by decide +kernel
theorem dX9_take_31 : decode cX9_take 31 = .ok (.aload_n 0, 1) := by decide +kernel
theorem dX9_take_32 : decode cX9_take 32 = .ok (.getfield 26, 3) := by decide +kernel
theorem dX9_take_35 : decode cX9_take 35 = .ok (.iconst 0, 1) := by decide +kernel
theorem dX9_take_36 : decode cX9_take 36 = .ok (.putfield 99, 3) := by decide +kernel
theorem dX9_take_39 : decode cX9_take 39 = .ok (.aload_n 0, 1) := by decide +kernel
theorem dX9_take_40 : decode cX9_take 40 = .ok (.getfield 33, 3) := by decide +kernel
theorem dX9_take_43 : decode cX9_take 43 = .ok (.invokevirtual 100, 3) := by decide +kernel
theorem dX9_take_46 : decode cX9_take 46 = .ok (.aload_n 0, 1) := by decide +kernel
theorem dX9_take_47 : decode cX9_take 47 = .ok (.iconst 0, 1) := by decide +kernel
theorem dX9_take_48 : decode cX9_take 48 = .ok (.putfield 101, 3) := by decide +kernel
theorem dX9_take_51 : decode cX9_take 51 = .ok (.aload_n 0, 1) := by decide +kernel
theorem dX9_take_52 : decode cX9_take 52 = .ok (.getfield 40, 3) := by decide +kernel
theorem dX9_take_55 : decode cX9_take 55 = .ok (.iconst 0, 1) := by decide +kernel
theorem dX9_take_56 : decode cX9_take 56 = .ok (.putfield 104, 3) := by decide +kernel
theorem dX9_take_59 : decode cX9_take 59 = .ok (.aload_n 0, 1) := by decide +kernel
theorem dX9_take_60 : decode cX9_take 60 = .ok (.dup, 1) := by decide +kernel
theorem dX9_take_61 : decode cX9_take 61 = .ok (.getfield 108, 3) := by decide +kernel
theorem dX9_take_64 : decode cX9_take 64 = .ok (.iconst 1, 1) := by decide +kernel
theorem dX9_take_65 : decode cX9_take 65 = .ok (.iadd, 1) := by decide +kernel
theorem dX9_take_66 : decode cX9_take 66 = .ok (.putfield 108, 3) := by decide +kernel
theorem dX9_take_69 : decode cX9_take 69 = .ok (.aload_n 0, 1) := by decide +kernel
theorem dX9_take_70 : decode cX9_take 70 = .ok (.getfield 19, 3) := by decide +kernel
theorem dX9_take_73 : decode cX9_take 73 = .ok (.getfield 111, 3) := by decide +kernel
theorem dX9_take_76 : decode cX9_take 76 = .ok (.ireturn, 1) := by decide +kernel
theorem dX9_word_0 : decode cX9_word 0 = .ok (.aload_n 0, 1) := by decide +kernel
theorem dX9_word_1 : decode cX9_word 1 = .ok (.getfield 19, 3) := by decide +kernel
theorem dX9_word_4 : decode cX9_word 4 = .ok (.iload_n 1, 1) := by decide +kernel
theorem dX9_word_5 : decode cX9_word 5 = .ok (.invokevirtual 112, 3) := by decide +kernel
theorem dX9_word_8 : decode cX9_word 8 = .ok (.ifCond .ne 6, 3) := by decide +kernel
theorem dX9_word_11 : decode cX9_word 11 = .ok (.bipush (-101), 2) := by decide +kernel
theorem dX9_word_13 : decode cX9_word 13 = .ok (.ireturn, 1) := by decide +kernel
theorem dX9_word_14 : decode cX9_word 14 = .ok (.iload_n 2, 1) := by decide +kernel
theorem dX9_word_15 : decode cX9_word 15 = .ok (.ifCond .lt 8, 3) := by decide +kernel
theorem dX9_word_18 : decode cX9_word 18 = .ok (.iload_n 2, 1) := by decide +kernel
theorem dX9_word_19 : decode cX9_word 19 = .ok (.iconst 2, 1) := by decide +kernel
theorem dX9_word_20 : decode cX9_word 20 = .ok (.if_icmp .le 6, 3) := by decide +kernel
theorem dX9_word_23 : decode cX9_word 23 = .ok (.bipush (-102), 2) := by decide +kernel
theorem dX9_word_25 : decode cX9_word 25 = .ok (.ireturn, 1) := by decide +kernel
theorem dX9_word_26 : decode cX9_word 26 = .ok (.iload_n 2, 1) := by decide +kernel
theorem dX9_word_27 : decode cX9_word 27 = .ok (.ifCond .ne 12, 3) := by decide +kernel
theorem dX9_word_30 : decode cX9_word 30 = .ok (.aload_n 0, 1) := by decide +kernel
theorem dX9_word_31 : decode cX9_word 31 = .ok (.getfield 19, 3) := by decide +kernel
theorem dX9_word_34 : decode cX9_word 34 = .ok (.iload_n 1, 1) := by decide +kernel
theorem dX9_word_35 : decode cX9_word 35 = .ok (.invokevirtual 116, 3) := by decide +kernel
theorem dX9_word_38 : decode cX9_word 38 = .ok (.ireturn, 1) := by decide +kernel
theorem dX9_word_39 : decode cX9_word 39 = .ok (.iload_n 2, 1) := by decide +kernel
theorem dX9_word_40 : decode cX9_word 40 = .ok (.iconst 2, 1) := by decide +kernel
theorem dX9_word_41 : decode cX9_word 41 = .ok (.if_icmp .ne 7, 3) := by decide +kernel
theorem dX9_word_44 : decode cX9_word 44 = .ok (.iconst 1, 1) := by decide +kernel
theorem dX9_word_45 : decode cX9_word 45 = .ok (.goto 4, 3) := by decide +kernel
theorem dX9_word_48 : decode cX9_word 48 = .ok (.iconst 0, 1) := by decide +kernel
theorem dX9_word_49 : decode cX9_word 49 = .ok (.istore_n 3, 1) := by decide +kernel
theorem dX9_word_50 : decode cX9_word 50 = .ok (.aload_n 0, 1) := by decide +kernel
theorem dX9_word_51 : decode cX9_word 51 = .ok (.getfield 47, 3) := by decide +kernel
theorem dX9_word_54 : decode cX9_word 54 = .ok (.iconst (-1), 1) := by decide +kernel
theorem dX9_word_55 : decode cX9_word 55 = .ok (.invokevirtual 120, 3) := by decide +kernel
theorem dX9_word_58 : decode cX9_word 58 = .ok (.aload_n 0, 1) := by decide +kernel
theorem dX9_word_59 : decode cX9_word 59 = .ok (.getfield 47, 3) := by decide +kernel
theorem dX9_word_62 : decode cX9_word 62 = .ok (.aload_n 0, 1) := by decide +kernel
theorem dX9_word_63 : decode cX9_word 63 = .ok (.getfield 19, 3) := by decide +kernel
theorem dX9_word_66 : decode cX9_word 66 = .ok (.iload_n 3, 1) := by decide +kernel
theorem dX9_word_67 : decode cX9_word 67 = .ok (.ifCond .eq 9, 3) := by decide +kernel
theorem dX9_word_70 : decode cX9_word 70 = .ok (.iload_n 1, 1) := by decide +kernel
theorem dX9_word_71 : decode cX9_word 71 = .ok (.iconst 1, 1) := by decide +kernel
theorem dX9_word_72 : decode cX9_word 72 = .ok (.iadd, 1) := by decide +kernel
theorem dX9_word_73 : decode cX9_word 73 = .ok (.goto 12, 3) := by decide +kernel
theorem dX9_word_76 : decode cX9_word 76 = .ok (.aload_n 0, 1) := by decide +kernel
theorem dX9_word_77 : decode cX9_word 77 = .ok (.getfield 19, 3) := by decide +kernel
theorem dX9_word_80 : decode cX9_word 80 = .ok (.getfield 111, 3) := by decide +kernel
theorem dX9_word_83 : decode cX9_word 83 = .ok (.iload_n 1, 1) := by decide +kernel
theorem dX9_word_84 : decode cX9_word 84 = .ok (.isub, 1) := by decide +kernel
theorem dX9_word_85 : decode cX9_word 85 = .ok (.iload_n 3, 1) := by decide +kernel
theorem dX9_word_86 : decode cX9_word 86 = .ok (.invokevirtual 123, 3) := by decide +kernel
theorem dX9_word_89 : decode cX9_word 89 = .ok (.aload_n 0, 1) := by decide +kernel
theorem dX9_word_90 : decode cX9_word 90 = .ok (.getfield 47, 3) := by decide +kernel
theorem dX9_word_93 : decode cX9_word 93 = .ok (.getfield 127, 3) := by decide +kernel
theorem dX9_word_96 : decode cX9_word 96 = .ok (.bipush 100, 2) := by decide +kernel
theorem dX9_word_98 : decode cX9_word 98 = .ok (.iadd, 1) := by decide +kernel
theorem dX9_word_99 : decode cX9_word 99 = .ok (.ireturn, 1) := by decide +kernel
theorem dX9_change_0 : decode cX9_change 0 = .ok (.aload_n 0, 1) := by decide +kernel
theorem dX9_change_1 : decode cX9_change 1 = .ok (.getfield 19, 3) := by decide +kernel
theorem dX9_change_4 : decode cX9_change 4 = .ok (.iload_n 1, 1) := by decide +kernel
theorem dX9_change_5 : decode cX9_change 5 = .ok (.invokevirtual 112, 3) := by decide +kernel
theorem dX9_change_8 : decode cX9_change 8 = .ok (.ifCond .ne 6, 3) := by decide +kernel
theorem dX9_change_11 : decode cX9_change 11 = .ok (.bipush (-101), 2) := by decide +kernel
theorem dX9_change_13 : decode cX9_change 13 = .ok (.ireturn, 1) := by decide +kernel
theorem dX9_change_14 : decode cX9_change 14 = .ok (.iload_n 2, 1) := by decide +kernel
theorem dX9_change_15 : decode cX9_change 15 = .ok (.invokestatic 130, 3) := by decide +kernel
theorem dX9_change_18 : decode cX9_change 18 = .ok (.ifCond .ne 6, 3) := by decide +kernel
theorem dX9_change_21 : decode cX9_change 21 = .ok (.bipush (-102), 2) := by decide +kernel
theorem dX9_change_23 : decode cX9_change 23 = .ok (.ireturn, 1) := by decide +kernel
theorem dX9_change_24 : decode cX9_change 24 = .ok (.aload_n 0, 1) := by decide +kernel
theorem dX9_change_25 : decode cX9_change 25 = .ok (.getfield 19, 3) := by decide +kernel
theorem dX9_change_28 : decode cX9_change 28 = .ok (.iload_n 1, 1) := by decide +kernel
theorem dX9_change_29 : decode cX9_change 29 = .ok (.invokevirtual 116, 3) := by decide +kernel
theorem dX9_change_32 : decode cX9_change 32 = .ok (.istore_n 3, 1) := by decide +kernel
theorem dX9_change_33 : decode cX9_change 33 = .ok (.aload_n 0, 1) := by decide +kernel
theorem dX9_change_34 : decode cX9_change 34 = .ok (.getfield 19, 3) := by decide +kernel
theorem dX9_change_37 : decode cX9_change 37 = .ok (.iload_n 1, 1) := by decide +kernel
theorem dX9_change_38 : decode cX9_change 38 = .ok (.iload_n 2, 1) := by decide +kernel
theorem dX9_change_39 : decode cX9_change 39 = .ok (.invokevirtual 133, 3) := by decide +kernel
theorem dX9_change_42 : decode cX9_change 42 = .ok (.aload_n 0, 1) := by decide +kernel
theorem dX9_change_43 : decode cX9_change 43 = .ok (.dup, 1) := by decide +kernel
theorem dX9_change_44 : decode cX9_change 44 = .ok (.getfield 101, 3) := by decide +kernel
theorem dX9_change_47 : decode cX9_change 47 = .ok (.iconst 1, 1) := by decide +kernel
theorem dX9_change_48 : decode cX9_change 48 = .ok (.iadd, 1) := by decide +kernel
theorem dX9_change_49 : decode cX9_change 49 = .ok (.putfield 101, 3) := by decide +kernel
theorem dX9_change_52 : decode cX9_change 52 = .ok (.iload_n 3, 1) := by decide +kernel
theorem dX9_change_53 : decode cX9_change 53 = .ok (.ireturn, 1) := by decide +kernel
theorem dX9_snow_0 : decode cX9_snow 0 = .ok (.iload_n 1, 1) := by decide +kernel
theorem dX9_snow_1 : decode cX9_snow 1 = .ok (.iconst 1, 1) := by decide +kernel
theorem dX9_snow_2 : decode cX9_snow 2 = .ok (.if_icmp .lt 9, 3) := by decide +kernel
theorem dX9_snow_5 : decode cX9_snow 5 = .ok (.iload_n 1, 1) := by decide +kernel
theorem dX9_snow_6 : decode cX9_snow 6 = .ok (.bipush 9, 2) := by decide +kernel
theorem dX9_snow_8 : decode cX9_snow 8 = .ok (.if_icmp .le 6, 3) := by decide +kernel
theorem dX9_snow_11 : decode cX9_snow 11 = .ok (.bipush (-102), 2) := by decide +kernel
theorem dX9_snow_13 : decode cX9_snow 13 = .ok (.ireturn, 1) := by decide +kernel
theorem dX9_snow_14 : decode cX9_snow 14 = .ok (.aload_n 0, 1) := by decide +kernel
theorem dX9_snow_15 : decode cX9_snow 15 = .ok (.invokevirtual 137, 3) := by decide +kernel
theorem dX9_snow_18 : decode cX9_snow 18 = .ok (.ifCond .eq 6, 3) := by decide +kernel
theorem dX9_snow_21 : decode cX9_snow 21 = .ok (.bipush (-103), 2) := by decide +kernel
theorem dX9_snow_23 : decode cX9_snow 23 = .ok (.ireturn, 1) := by decide +kernel
theorem dX9_snow_24 : decode cX9_snow 24 = .ok (.aload_n 0, 1) := by decide +kernel
theorem dX9_snow_25 : decode cX9_snow 25 = .ok (.getfield 19, 3) := by decide +kernel
theorem dX9_snow_28 : decode cX9_snow 28 = .ok (.getfield 140, 3) := by decide +kernel
theorem dX9_snow_31 : decode cX9_snow 31 = .ok (.istore_n 2, 1) := by decide +kernel
theorem dX9_snow_32 : decode cX9_snow 32 = .ok (.aload_n 0, 1) := by decide +kernel
theorem dX9_snow_33 : decode cX9_snow 33 = .ok (.getfield 19, 3) := by decide +kernel
theorem dX9_snow_36 : decode cX9_snow 36 = .ok (.iload_n 1, 1) := by decide +kernel
theorem dX9_snow_37 : decode cX9_snow 37 = .ok (.putfield 140, 3) := by decide +kernel
theorem dX9_snow_40 : decode cX9_snow 40 = .ok (.iload_n 2, 1) := by decide +kernel
theorem dX9_snow_41 : decode cX9_snow 41 = .ok (.ireturn, 1) := by decide +kernel
theorem dX9_listener_0 : decode cX9_listener 0 = .ok (.iload_n 1, 1) := by decide +kernel
theorem dX9_listener_1 : decode cX9_listener 1 = .ok (.invokestatic 143, 3) := by decide +kernel
theorem dX9_listener_4 : decode cX9_listener 4 = .ok (.ifCond .ne 6, 3) := by decide +kernel
theorem dX9_listener_7 : decode cX9_listener 7 = .ok (.bipush (-102), 2) := by decide +kernel
theorem dX9_listener_9 : decode cX9_listener 9 = .ok (.ireturn, 1) := by decide +kernel
theorem dX9_listener_10 : decode cX9_listener 10 = .ok (.aload_n 0, 1) := by decide +kernel
theorem dX9_listener_11 : decode cX9_listener 11 = .ok (.invokevirtual 137, 3) := by decide +kernel
theorem dX9_listener_14 : decode cX9_listener 14 = .ok (.ifCond .eq 6, 3) := by decide +kernel
theorem dX9_listener_17 : decode cX9_listener 17 = .ok (.bipush (-103), 2) := by decide +kernel
theorem dX9_listener_19 : decode cX9_listener 19 = .ok (.ireturn, 1) := by decide +kernel
theorem dX9_listener_20 : decode cX9_listener 20 = .ok (.aload_n 0, 1) := by decide +kernel
theorem dX9_listener_21 : decode cX9_listener 21 = .ok (.getfield 26, 3) := by decide +kernel
theorem dX9_listener_24 : decode cX9_listener 24 = .ok (.getfield 99, 3) := by decide +kernel
theorem dX9_listener_27 : decode cX9_listener 27 = .ok (.iconst 4, 1) := by decide +kernel
theorem dX9_listener_28 : decode cX9_listener 28 = .ok (.if_icmp .lt 6, 3) := by decide +kernel
theorem dX9_listener_31 : decode cX9_listener 31 = .ok (.bipush (-104), 2) := by decide +kernel
theorem dX9_listener_33 : decode cX9_listener 33 = .ok (.ireturn, 1) := by decide +kernel
theorem dX9_listener_34 : decode cX9_listener 34 = .ok (.aload_n 0, 1) := by decide +kernel
theorem dX9_listener_35 : decode cX9_listener 35 = .ok (.getfield 26, 3) := by decide +kernel
theorem dX9_listener_38 : decode cX9_listener 38 = .ok (.iload_n 1, 1) := by decide +kernel
theorem dX9_listener_39 : decode cX9_listener 39 = .ok (.invokevirtual 146, 3) := by decide +kernel
theorem dX9_listener_42 : decode cX9_listener 42 = .ok (.aload_n 0, 1) := by decide +kernel
theorem dX9_listener_43 : decode cX9_listener 43 = .ok (.getfield 26, 3) := by decide +kernel
theorem dX9_listener_46 : decode cX9_listener 46 = .ok (.getfield 99, 3) := by decide +kernel
theorem dX9_listener_49 : decode cX9_listener 49 = .ok (.iconst 1, 1) := by decide +kernel
theorem dX9_listener_50 : decode cX9_listener 50 = .ok (.isub, 1) := by decide +kernel
theorem dX9_listener_51 : decode cX9_listener 51 = .ok (.ireturn, 1) := by decide +kernel
theorem dX9_about_0 : decode cX9_about 0 = .ok (.aload_n 0, 1) := by decide +kernel
theorem dX9_about_1 : decode cX9_about 1 = .ok (.getfield 26, 3) := by decide +kernel
theorem dX9_about_4 : decode cX9_about 4 = .ok (.iload_n 1, 1) := by decide +kernel
theorem dX9_about_5 : decode cX9_about 5 = .ok (.invokevirtual 147, 3) := by decide +kernel
theorem dX9_about_8 : decode cX9_about 8 = .ok (.ifCond .ne 6, 3) := by decide +kernel
theorem dX9_about_11 : decode cX9_about 11 = .ok (.bipush (-101), 2) := by decide +kernel
theorem dX9_about_13 : decode cX9_about 13 = .ok (.ireturn, 1) := by decide +kernel
theorem dX9_about_14 : decode cX9_about 14 = .ok (.iload_n 2, 1) := by decide +kernel
theorem dX9_about_15 : decode cX9_about 15 = .ok (.ifCond .lt 9, 3) := by decide +kernel
theorem dX9_about_18 : decode cX9_about 18 = .ok (.iload_n 2, 1) := by decide +kernel
theorem dX9_about_19 : decode cX9_about 19 = .ok (.bipush 6, 2) := by decide +kernel
theorem dX9_about_21 : decode cX9_about 21 = .ok (.if_icmp .le 6, 3) := by decide +kernel
theorem dX9_about_24 : decode cX9_about 24 = .ok (.bipush (-102), 2) := by decide +kernel
theorem dX9_about_26 : decode cX9_about 26 = .ok (.ireturn, 1) := by decide +kernel
theorem dX9_about_27 : decode cX9_about 27 = .ok (.aload_n 0, 1) := by decide +kernel
theorem dX9_about_28 : decode cX9_about 28 = .ok (.getfield 26, 3) := by decide +kernel
theorem dX9_about_31 : decode cX9_about 31 = .ok (.iload_n 1, 1) := by decide +kernel
theorem dX9_about_32 : decode cX9_about 32 = .ok (.invokevirtual 148, 3) := by decide +kernel
theorem dX9_about_35 : decode cX9_about 35 = .ok (.istore_n 3, 1) := by decide +kernel
theorem dX9_about_36 : decode cX9_about 36 = .ok (.iload_n 2, 1) := by decide +kernel
theorem dX9_about_37 : decode cX9_about 37 = .ok (.ifCond .ne 5, 3) := by decide +kernel
theorem dX9_about_40 : decode cX9_about 40 = .ok (.iload_n 3, 1) := by decide +kernel
theorem dX9_about_41 : decode cX9_about 41 = .ok (.ireturn, 1) := by decide +kernel
theorem dX9_about_42 : decode cX9_about 42 = .ok (.iload_n 2, 1) := by decide +kernel
theorem dX9_about_43 : decode cX9_about 43 = .ok (.iconst 3, 1) := by decide +kernel
theorem dX9_about_44 : decode cX9_about 44 = .ok (.if_icmp .le 7, 3) := by decide +kernel
theorem dX9_about_47 : decode cX9_about 47 = .ok (.iconst 1, 1) := by decide +kernel
theorem dX9_about_48 : decode cX9_about 48 = .ok (.goto 4, 3) := by decide +kernel
theorem dX9_about_51 : decode cX9_about 51 = .ok (.iconst 0, 1) := by decide +kernel
theorem dX9_about_52 : decode cX9_about 52 = .ok (.istore 4, 2) := by decide +kernel
theorem dX9_about_54 : decode cX9_about 54 = .ok (.aload_n 0, 1) := by decide +kernel
theorem dX9_about_55 : decode cX9_about 55 = .ok (.getfield 47, 3) := by decide +kernel
theorem dX9_about_58 : decode cX9_about 58 = .ok (.iload_n 3, 1) := by decide +kernel
theorem dX9_about_59 : decode cX9_about 59 = .ok (.aload_n 0, 1) := by decide +kernel
theorem dX9_about_60 : decode cX9_about 60 = .ok (.getfield 19, 3) := by decide +kernel
theorem dX9_about_63 : decode cX9_about 63 = .ok (.iload 4, 2) := by decide +kernel
theorem dX9_about_65 : decode cX9_about 65 = .ok (.invokevirtual 151, 3) := by decide +kernel
theorem dX9_about_68 : decode cX9_about 68 = .ok (.iload 4, 2) := by decide +kernel
theorem dX9_about_70 : decode cX9_about 70 = .ok (.ifCond .eq 9, 3) := by decide +kernel
theorem dX9_about_73 : decode cX9_about 73 = .ok (.iload_n 2, 1) := by decide +kernel
theorem dX9_about_74 : decode cX9_about 74 = .ok (.iconst 3, 1) := by decide +kernel
theorem dX9_about_75 : decode cX9_about 75 = .ok (.isub, 1) := by decide +kernel
theorem dX9_about_76 : decode cX9_about 76 = .ok (.goto 4, 3) := by decide +kernel
theorem dX9_about_79 : decode cX9_about 79 = .ok (.iload_n 2, 1) := by decide +kernel
theorem dX9_about_80 : decode cX9_about 80 = .ok (.istore 5, 2) := by decide +kernel
theorem dX9_about_82 : decode cX9_about 82 = .ok (.iload 5, 2) := by decide +kernel
theorem dX9_about_84 : decode cX9_about 84 = .ok (.iconst 1, 1) := by decide +kernel
theorem dX9_about_85 : decode cX9_about 85 = .ok (.if_icmp .ne 11, 3) := by decide +kernel
theorem dX9_about_88 : decode cX9_about 88 = .ok (.aload_n 0, 1) := by decide +kernel
theorem dX9_about_89 : decode cX9_about 89 = .ok (.getfield 47, 3) := by decide +kernel
theorem dX9_about_92 : decode cX9_about 92 = .ok (.getfield 155, 3) := by decide +kernel
theorem dX9_about_95 : decode cX9_about 95 = .ok (.ireturn, 1) := by decide +kernel
theorem dX9_about_96 : decode cX9_about 96 = .ok (.iload 5, 2) := by decide +kernel
theorem dX9_about_98 : decode cX9_about 98 = .ok (.iconst 2, 1) := by decide +kernel
theorem dX9_about_99 : decode cX9_about 99 = .ok (.if_icmp .ne 14, 3) := by decide +kernel
theorem dX9_about_102 : decode cX9_about 102 = .ok (.aload_n 0, 1) := by decide +kernel
theorem dX9_about_103 : decode cX9_about 103 = .ok (.getfield 47, 3) := by decide +kernel
theorem dX9_about_106 : decode cX9_about 106 = .ok (.getfield 127, 3) := by decide +kernel
theorem dX9_about_109 : decode cX9_about 109 = .ok (.bipush 100, 2) := by decide +kernel
theorem dX9_about_111 : decode cX9_about 111 = .ok (.iadd, 1) := by decide +kernel
theorem dX9_about_112 : decode cX9_about 112 = .ok (.ireturn, 1) := by decide +kernel
theorem dX9_about_113 : decode cX9_about 113 = .ok (.aload_n 0, 1) := by decide +kernel
theorem dX9_about_114 : decode cX9_about 114 = .ok (.getfield 47, 3) := by decide +kernel
theorem dX9_about_117 : decode cX9_about 117 = .ok (.getfield 158, 3) := by decide +kernel
theorem dX9_about_120 : decode cX9_about 120 = .ok (.ifCond .eq 7, 3) := by decide +kernel
theorem dX9_about_123 : decode cX9_about 123 = .ok (.iconst 1, 1) := by decide +kernel
theorem dX9_about_124 : decode cX9_about 124 = .ok (.goto 4, 3) := by decide +kernel
theorem dX9_about_127 : decode cX9_about 127 = .ok (.iconst 0, 1) := by decide +kernel
theorem dX9_about_128 : decode cX9_about 128 = .ok (.ireturn, 1) := by decide +kernel
theorem dX9_as_0 : decode cX9_as 0 = .ok (.aload_n 0, 1) := by decide +kernel
theorem dX9_as_1 : decode cX9_as 1 = .ok (.getfield 26, 3) := by decide +kernel
theorem dX9_as_4 : decode cX9_as 4 = .ok (.iload_n 1, 1) := by decide +kernel
theorem dX9_as_5 : decode cX9_as 5 = .ok (.invokevirtual 147, 3) := by decide +kernel
theorem dX9_as_8 : decode cX9_as 8 = .ok (.ifCond .ne 6, 3) := by decide +kernel
theorem dX9_as_11 : decode cX9_as 11 = .ok (.bipush (-101), 2) := by decide +kernel
theorem dX9_as_13 : decode cX9_as 13 = .ok (.ireturn, 1) := by decide +kernel
theorem dX9_as_14 : decode cX9_as 14 = .ok (.iload_n 2, 1) := by decide +kernel
theorem dX9_as_15 : decode cX9_as 15 = .ok (.invokestatic 143, 3) := by decide +kernel
theorem dX9_as_18 : decode cX9_as 18 = .ok (.ifCond .ne 6, 3) := by decide +kernel
theorem dX9_as_21 : decode cX9_as 21 = .ok (.bipush (-102), 2) := by decide +kernel
theorem dX9_as_23 : decode cX9_as 23 = .ok (.ireturn, 1) := by decide +kernel
theorem dX9_as_24 : decode cX9_as 24 = .ok (.aload_n 0, 1) := by decide +kernel
theorem dX9_as_25 : decode cX9_as 25 = .ok (.getfield 26, 3) := by decide +kernel
theorem dX9_as_28 : decode cX9_as 28 = .ok (.iload_n 1, 1) := by decide +kernel
theorem dX9_as_29 : decode cX9_as 29 = .ok (.invokevirtual 148, 3) := by decide +kernel
theorem dX9_as_32 : decode cX9_as 32 = .ok (.iload_n 2, 1) := by decide +kernel
theorem dX9_as_33 : decode cX9_as 33 = .ok (.invokestatic 161, 3) := by decide +kernel
theorem dX9_as_36 : decode cX9_as 36 = .ok (.ifCond .eq 7, 3) := by decide +kernel
theorem dX9_as_39 : decode cX9_as 39 = .ok (.iload_n 1, 1) := by decide +kernel
theorem dX9_as_40 : decode cX9_as 40 = .ok (.goto 4, 3) := by decide +kernel
theorem dX9_as_43 : decode cX9_as 43 = .ok (.iconst (-1), 1) := by decide +kernel
theorem dX9_as_44 : decode cX9_as 44 = .ok (.ireturn, 1) := by decide +kernel
theorem dX9_write_0 : decode cX9_write 0 = .ok (.iload_n 1, 1) := by decide +kernel
theorem dX9_write_1 : decode cX9_write 1 = .ok (.invokestatic 143, 3) := by decide +kernel
theorem dX9_write_4 : decode cX9_write 4 = .ok (.ifCond .eq 17, 3) := by decide +kernel
theorem dX9_write_7 : decode cX9_write 7 = .ok (.iload_n 2, 1) := by decide +kernel
theorem dX9_write_8 : decode cX9_write 8 = .ok (.invokestatic 165, 3) := by decide +kernel
theorem dX9_write_11 : decode cX9_write 11 = .ok (.ifCond .eq 10, 3) := by decide +kernel
theorem dX9_write_14 : decode cX9_write 14 = .ok (.iload_n 3, 1) := by decide +kernel
theorem dX9_write_15 : decode cX9_write 15 = .ok (.invokestatic 165, 3) := by decide +kernel
theorem dX9_write_18 : decode cX9_write 18 = .ok (.ifCond .ne 6, 3) := by decide +kernel
theorem dX9_write_21 : decode cX9_write 21 = .ok (.bipush (-102), 2) := by decide +kernel
theorem dX9_write_23 : decode cX9_write 23 = .ok (.ireturn, 1) := by decide +kernel
theorem dX9_write_24 : decode cX9_write 24 = .ok (.iload 4, 2) := by decide +kernel
theorem dX9_write_26 : decode cX9_write 26 = .ok (.bipush 10, 2) := by decide +kernel
theorem dX9_write_28 : decode cX9_write 28 = .ok (.isub, 1) := by decide +kernel
theorem dX9_write_29 : decode cX9_write 29 = .ok (.istore 5, 2) := by decide +kernel
theorem dX9_write_31 : decode cX9_write 31 = .ok (.iload 4, 2) := by decide +kernel
theorem dX9_write_33 : decode cX9_write 33 = .ok (.bipush 10, 2) := by decide +kernel
theorem dX9_write_35 : decode cX9_write 35 = .ok (.if_icmp .lt 13, 3) := by decide +kernel
theorem dX9_write_38 : decode cX9_write 38 = .ok (.iload 5, 2) := by decide +kernel
theorem dX9_write_40 : decode cX9_write 40 = .ok (.iconst 5, 1) := by decide +kernel
theorem dX9_write_41 : decode cX9_write 41 = .ok (.if_icmp .ge 7, 3) := by decide +kernel
theorem dX9_write_44 : decode cX9_write 44 = .ok (.iconst 1, 1) := by decide +kernel
theorem dX9_write_45 : decode cX9_write 45 = .ok (.goto 4, 3) := by decide +kernel
theorem dX9_write_48 : decode cX9_write 48 = .ok (.iconst 0, 1) := by decide +kernel
theorem dX9_write_49 : decode cX9_write 49 = .ok (.istore 6, 2) := by decide +kernel
theorem dX9_write_51 : decode cX9_write 51 = .ok (.iload 4, 2) := by decide +kernel
theorem dX9_write_53 : decode cX9_write 53 = .ok (.ifCond .eq 11, 3) := by decide +kernel
theorem dX9_write_56 : decode cX9_write 56 = .ok (.iload 6, 2) := by decide +kernel
theorem dX9_write_58 : decode cX9_write 58 = .ok (.ifCond .ne 6, 3) := by decide +kernel
theorem dX9_write_61 : decode cX9_write 61 = .ok (.bipush (-102), 2) := by decide +kernel
theorem dX9_write_63 : decode cX9_write 63 = .ok (.ireturn, 1) := by decide +kernel
theorem dX9_write_64 : decode cX9_write 64 = .ok (.aload_n 0, 1) := by decide +kernel
theorem dX9_write_65 : decode cX9_write 65 = .ok (.getfield 168, 3) := by decide +kernel
theorem dX9_write_68 : decode cX9_write 68 = .ok (.bipush 20, 2) := by decide +kernel
theorem dX9_write_70 : decode cX9_write 70 = .ok (.if_icmp .lt 6, 3) := by decide +kernel
theorem dX9_write_73 : decode cX9_write 73 = .ok (.bipush (-103), 2) := by decide +kernel
theorem dX9_write_75 : decode cX9_write 75 = .ok (.ireturn, 1) := by decide +kernel
theorem dX9_write_76 : decode cX9_write 76 = .ok (.aload_n 0, 1) := by decide +kernel
theorem dX9_write_77 : decode cX9_write 77 = .ok (.dup, 1) := by decide +kernel
theorem dX9_write_78 : decode cX9_write 78 = .ok (.getfield 168, 3) := by decide +kernel
theorem dX9_write_81 : decode cX9_write 81 = .ok (.iconst 1, 1) := by decide +kernel
theorem dX9_write_82 : decode cX9_write 82 = .ok (.iadd, 1) := by decide +kernel
theorem dX9_write_83 : decode cX9_write 83 = .ok (.putfield 168, 3) := by decide +kernel
theorem dX9_write_86 : decode cX9_write 86 = .ok (.aload_n 0, 1) := by decide +kernel
theorem dX9_write_87 : decode cX9_write 87 = .ok (.getfield 54, 3) := by decide +kernel
theorem dX9_write_90 : decode cX9_write 90 = .ok (.iload_n 1, 1) := by decide +kernel
theorem dX9_write_91 : decode cX9_write 91 = .ok (.iload_n 2, 1) := by decide +kernel
theorem dX9_write_92 : decode cX9_write 92 = .ok (.iload_n 3, 1) := by decide +kernel
theorem dX9_write_93 : decode cX9_write 93 = .ok (.invokevirtual 171, 3) := by decide +kernel
theorem dX9_write_96 : decode cX9_write 96 = .ok (.ifCond .ne 5, 3) := by decide +kernel
theorem dX9_write_99 : decode cX9_write 99 = .ok (.iconst (-1), 1) := by decide +kernel
theorem dX9_write_100 : decode cX9_write 100 = .ok (.ireturn, 1) := by decide +kernel
theorem dX9_write_101 : decode cX9_write 101 = .ok (.iload 6, 2) := by decide +kernel
theorem dX9_write_103 : decode cX9_write 103 = .ok (.ifCond .eq 18, 3) := by decide +kernel
theorem dX9_write_106 : decode cX9_write 106 = .ok (.aload_n 0, 1) := by decide +kernel
theorem dX9_write_107 : decode cX9_write 107 = .ok (.getfield 54, 3) := by decide +kernel
theorem dX9_write_110 : decode cX9_write 110 = .ok (.getfield 175, 3) := by decide +kernel
theorem dX9_write_113 : decode cX9_write 113 = .ok (.iload 5, 2) := by decide +kernel
theorem dX9_write_115 : decode cX9_write 115 = .ok (.invokevirtual 116, 3) := by decide +kernel
theorem dX9_write_118 : decode cX9_write 118 = .ok (.goto 13, 3) := by decide +kernel
theorem dX9_write_121 : decode cX9_write 121 = .ok (.aload_n 0, 1) := by decide +kernel
theorem dX9_write_122 : decode cX9_write 122 = .ok (.getfield 54, 3) := by decide +kernel
theorem dX9_write_125 : decode cX9_write 125 = .ok (.getfield 175, 3) := by decide +kernel
theorem dX9_write_128 : decode cX9_write 128 = .ok (.getfield 111, 3) := by decide +kernel
theorem dX9_write_131 : decode cX9_write 131 = .ok (.ireturn, 1) := by decide +kernel
theorem dX9_rest_0 : decode cX9_rest 0 = .ok (.iload_n 1, 1) := by decide +kernel
theorem dX9_rest_1 : decode cX9_rest 1 = .ok (.ifCond .lt 14, 3) := by decide +kernel
theorem dX9_rest_4 : decode cX9_rest 4 = .ok (.iload_n 1, 1) := by decide +kernel
theorem dX9_rest_5 : decode cX9_rest 5 = .ok (.aload_n 0, 1) := by decide +kernel
theorem dX9_rest_6 : decode cX9_rest 6 = .ok (.getfield 19, 3) := by decide +kernel
theorem dX9_rest_9 : decode cX9_rest 9 = .ok (.getfield 111, 3) := by decide +kernel
theorem dX9_rest_12 : decode cX9_rest 12 = .ok (.if_icmp .le 6, 3) := by decide +kernel
theorem dX9_rest_15 : decode cX9_rest 15 = .ok (.bipush (-102), 2) := by decide +kernel
theorem dX9_rest_17 : decode cX9_rest 17 = .ok (.ireturn, 1) := by decide +kernel
theorem dX9_rest_18 : decode cX9_rest 18 = .ok (.iload_n 2, 1) := by decide +kernel
theorem dX9_rest_19 : decode cX9_rest 19 = .ok (.iconst 1, 1) := by decide +kernel
theorem dX9_rest_20 : decode cX9_rest 20 = .ok (.if_icmp .lt 15, 3) := by decide +kernel
theorem dX9_rest_23 : decode cX9_rest 23 = .ok (.iload_n 2, 1) := by decide +kernel
theorem dX9_rest_24 : decode cX9_rest 24 = .ok (.iload_n 1, 1) := by decide +kernel
theorem dX9_rest_25 : decode cX9_rest 25 = .ok (.if_icmp .lt 10, 3) := by decide +kernel
theorem dX9_rest_28 : decode cX9_rest 28 = .ok (.iload_n 2, 1) := by decide +kernel
theorem dX9_rest_29 : decode cX9_rest 29 = .ok (.iload_n 1, 1) := by decide +kernel
theorem dX9_rest_30 : decode cX9_rest 30 = .ok (.iconst 5, 1) := by decide +kernel
theorem dX9_rest_31 : decode cX9_rest 31 = .ok (.iadd, 1) := by decide +kernel
theorem dX9_rest_32 : decode cX9_rest 32 = .ok (.if_icmp .le 6, 3) := by decide +kernel
theorem dX9_rest_35 : decode cX9_rest 35 = .ok (.bipush (-102), 2) := by decide +kernel
theorem dX9_rest_37 : decode cX9_rest 37 = .ok (.ireturn, 1) := by decide +kernel
theorem dX9_rest_38 : decode cX9_rest 38 = .ok (.iload_n 3, 1) := by decide +kernel
theorem dX9_rest_39 : decode cX9_rest 39 = .ok (.bipush (-20), 2) := by decide +kernel
theorem dX9_rest_41 : decode cX9_rest 41 = .ok (.if_icmp .lt 9, 3) := by decide +kernel
theorem dX9_rest_44 : decode cX9_rest 44 = .ok (.iload_n 3, 1) := by decide +kernel
theorem dX9_rest_45 : decode cX9_rest 45 = .ok (.bipush 20, 2) := by decide +kernel
theorem dX9_rest_47 : decode cX9_rest 47 = .ok (.if_icmp .le 6, 3) := by decide +kernel
theorem dX9_rest_50 : decode cX9_rest 50 = .ok (.bipush (-102), 2) := by decide +kernel
theorem dX9_rest_52 : decode cX9_rest 52 = .ok (.ireturn, 1) := by decide +kernel
theorem dX9_rest_53 : decode cX9_rest 53 = .ok (.aload_n 0, 1) := by decide +kernel
theorem dX9_rest_54 : decode cX9_rest 54 = .ok (.invokevirtual 137, 3) := by decide +kernel
theorem dX9_rest_57 : decode cX9_rest 57 = .ok (.ifCond .eq 6, 3) := by decide +kernel
theorem dX9_rest_60 : decode cX9_rest 60 = .ok (.bipush (-103), 2) := by decide +kernel
theorem dX9_rest_62 : decode cX9_rest 62 = .ok (.ireturn, 1) := by decide +kernel
theorem dX9_rest_63 : decode cX9_rest 63 = .ok (.aload_n 0, 1) := by decide +kernel
theorem dX9_rest_64 : decode cX9_rest 64 = .ok (.getfield 61, 3) := by decide +kernel
theorem dX9_rest_67 : decode cX9_rest 67 = .ok (.aload_n 0, 1) := by decide +kernel
theorem dX9_rest_68 : decode cX9_rest 68 = .ok (.getfield 19, 3) := by decide +kernel
theorem dX9_rest_71 : decode cX9_rest 71 = .ok (.iload_n 1, 1) := by decide +kernel
theorem dX9_rest_72 : decode cX9_rest 72 = .ok (.iload_n 2, 1) := by decide +kernel
theorem dX9_rest_73 : decode cX9_rest 73 = .ok (.iload_n 3, 1) := by decide +kernel
theorem dX9_rest_74 : decode cX9_rest 74 = .ok (.invokevirtual 178, 3) := by decide +kernel
theorem dX9_rest_77 : decode cX9_rest 77 = .ok (.ireturn, 1) := by decide +kernel
theorem dX9_tell_0 : decode cX9_tell 0 = .ok (.iload_n 1, 1) := by decide +kernel
theorem dX9_tell_1 : decode cX9_tell 1 = .ok (.ifCond .lt 9, 3) := by decide +kernel
theorem dX9_tell_4 : decode cX9_tell 4 = .ok (.iload_n 1, 1) := by decide +kernel
theorem dX9_tell_5 : decode cX9_tell 5 = .ok (.bipush 9, 2) := by decide +kernel
theorem dX9_tell_7 : decode cX9_tell 7 = .ok (.if_icmp .le 6, 3) := by decide +kernel
theorem dX9_tell_10 : decode cX9_tell 10 = .ok (.bipush (-102), 2) := by decide +kernel
theorem dX9_tell_12 : decode cX9_tell 12 = .ok (.ireturn, 1) := by decide +kernel
theorem dX9_tell_13 : decode cX9_tell 13 = .ok (.aload_n 0, 1) := by decide +kernel
theorem dX9_tell_14 : decode cX9_tell 14 = .ok (.invokevirtual 137, 3) := by decide +kernel
theorem dX9_tell_17 : decode cX9_tell 17 = .ok (.ifCond .eq 6, 3) := by decide +kernel
theorem dX9_tell_20 : decode cX9_tell 20 = .ok (.bipush (-103), 2) := by decide +kernel
theorem dX9_tell_22 : decode cX9_tell 22 = .ok (.ireturn, 1) := by decide +kernel
theorem dX9_tell_23 : decode cX9_tell 23 = .ok (.aload_n 0, 1) := by decide +kernel
theorem dX9_tell_24 : decode cX9_tell 24 = .ok (.getfield 33, 3) := by decide +kernel
theorem dX9_tell_27 : decode cX9_tell 27 = .ok (.getfield 182, 3) := by decide +kernel
theorem dX9_tell_30 : decode cX9_tell 30 = .ok (.bipush 6, 2) := by decide +kernel
theorem dX9_tell_32 : decode cX9_tell 32 = .ok (.if_icmp .lt 6, 3) := by decide +kernel
theorem dX9_tell_35 : decode cX9_tell 35 = .ok (.bipush (-104), 2) := by decide +kernel
theorem dX9_tell_37 : decode cX9_tell 37 = .ok (.ireturn, 1) := by decide +kernel
theorem dX9_tell_38 : decode cX9_tell 38 = .ok (.aload_n 0, 1) := by decide +kernel
theorem dX9_tell_39 : decode cX9_tell 39 = .ok (.getfield 33, 3) := by decide +kernel
theorem dX9_tell_42 : decode cX9_tell 42 = .ok (.aload_n 0, 1) := by decide +kernel
theorem dX9_tell_43 : decode cX9_tell 43 = .ok (.iload_n 1, 1) := by decide +kernel
theorem dX9_tell_44 : decode cX9_tell 44 = .ok (.iload_n 2, 1) := by decide +kernel
theorem dX9_tell_45 : decode cX9_tell 45 = .ok (.invokevirtual 183, 3) := by decide +kernel
theorem dX9_tell_48 : decode cX9_tell 48 = .ok (.invokevirtual 187, 3) := by decide +kernel
theorem dX9_tell_51 : decode cX9_tell 51 = .ok (.aload_n 0, 1) := by decide +kernel
theorem dX9_tell_52 : decode cX9_tell 52 = .ok (.getfield 33, 3) := by decide +kernel
theorem dX9_tell_55 : decode cX9_tell 55 = .ok (.getfield 182, 3) := by decide +kernel
theorem dX9_tell_58 : decode cX9_tell 58 = .ok (.ireturn, 1) := by decide +kernel
theorem dX9_forget_0 : decode cX9_forget 0 = .ok (.aload_n 0, 1) := by decide +kernel
theorem dX9_forget_1 : decode cX9_forget 1 = .ok (.getfield 33, 3) := by decide +kernel
theorem dX9_forget_4 : decode cX9_forget 4 = .ok (.getfield 182, 3) := by decide +kernel
theorem dX9_forget_7 : decode cX9_forget 7 = .ok (.istore_n 1, 1) := by decide +kernel
theorem dX9_forget_8 : decode cX9_forget 8 = .ok (.aload_n 0, 1) := by decide +kernel
theorem dX9_forget_9 : decode cX9_forget 9 = .ok (.getfield 33, 3) := by decide +kernel
theorem dX9_forget_12 : decode cX9_forget 12 = .ok (.invokevirtual 100, 3) := by decide +kernel
theorem dX9_forget_15 : decode cX9_forget 15 = .ok (.iload_n 1, 1) := by decide +kernel
theorem dX9_forget_16 : decode cX9_forget 16 = .ok (.ireturn, 1) := by decide +kernel
theorem dX9_which_0 : decode cX9_which 0 = .ok (.aload_n 0, 1) := by decide +kernel
theorem dX9_which_1 : decode cX9_which 1 = .ok (.getfield 33, 3) := by decide +kernel
theorem dX9_which_4 : decode cX9_which 4 = .ok (.invokevirtual 188, 3) := by decide +kernel
theorem dX9_which_7 : decode cX9_which 7 = .ok (.ireturn, 1) := by decide +kernel
theorem dX9_ask_0 : decode cX9_ask 0 = .ok (.aload_n 0, 1) := by decide +kernel
theorem dX9_ask_1 : decode cX9_ask 1 = .ok (.invokevirtual 137, 3) := by decide +kernel
theorem dX9_ask_4 : decode cX9_ask 4 = .ok (.ifCond .eq 6, 3) := by decide +kernel
theorem dX9_ask_7 : decode cX9_ask 7 = .ok (.bipush (-103), 2) := by decide +kernel
theorem dX9_ask_9 : decode cX9_ask 9 = .ok (.ireturn, 1) := by decide +kernel
theorem dX9_ask_10 : decode cX9_ask 10 = .ok (.aload_n 0, 1) := by decide +kernel
theorem dX9_ask_11 : decode cX9_ask 11 = .ok (.getfield 33, 3) := by decide +kernel
theorem dX9_ask_14 : decode cX9_ask 14 = .ok (.invokevirtual 188, 3) := by decide +kernel
theorem dX9_ask_17 : decode cX9_ask 17 = .ok (.istore_n 1, 1) := by decide +kernel
theorem dX9_ask_18 : decode cX9_ask 18 = .ok (.iload_n 1, 1) := by decide +kernel
theorem dX9_ask_19 : decode cX9_ask 19 = .ok (.ifCond .ne 5, 3) := by decide +kernel
theorem dX9_ask_22 : decode cX9_ask 22 = .ok (.iconst (-1), 1) := by decide +kernel
theorem dX9_ask_23 : decode cX9_ask 23 = .ok (.ireturn, 1) := by decide +kernel
theorem dX9_ask_24 : decode cX9_ask 24 = .ok (.aload_n 0, 1) := by decide +kernel
theorem dX9_ask_25 : decode cX9_ask 25 = .ok (.iload_n 1, 1) := by decide +kernel
theorem dX9_ask_26 : decode cX9_ask 26 = .ok (.iconst 1, 1) := by decide +kernel
theorem dX9_ask_27 : decode cX9_ask 27 = .ok (.invokevirtual 191, 3) := by decide +kernel
theorem dX9_ask_30 : decode cX9_ask 30 = .ok (.aload_n 0, 1) := by decide +kernel
theorem dX9_ask_31 : decode cX9_ask 31 = .ok (.iload_n 1, 1) := by decide +kernel
theorem dX9_ask_32 : decode cX9_ask 32 = .ok (.iconst 0, 1) := by decide +kernel
theorem dX9_ask_33 : decode cX9_ask 33 = .ok (.invokevirtual 191, 3) := by decide +kernel
theorem dX9_ask_36 : decode cX9_ask 36 = .ok (.if_icmp .ge 7, 3) := by decide +kernel
theorem dX9_ask_39 : decode cX9_ask 39 = .ok (.iconst 1, 1) := by decide +kernel
theorem dX9_ask_40 : decode cX9_ask 40 = .ok (.goto 4, 3) := by decide +kernel
theorem dX9_ask_43 : decode cX9_ask 43 = .ok (.iconst 0, 1) := by decide +kernel
theorem dX9_ask_44 : decode cX9_ask 44 = .ok (.ireturn, 1) := by decide +kernel
theorem dX9_days_0 : decode cX9_days 0 = .ok (.iload_n 1, 1) := by decide +kernel
theorem dX9_days_1 : decode cX9_days 1 = .ok (.iconst 1, 1) := by decide +kernel
theorem dX9_days_2 : decode cX9_days 2 = .ok (.if_icmp .lt 22, 3) := by decide +kernel
theorem dX9_days_5 : decode cX9_days 5 = .ok (.iload_n 1, 1) := by decide +kernel
theorem dX9_days_6 : decode cX9_days 6 = .ok (.bipush 40, 2) := by decide +kernel
theorem dX9_days_8 : decode cX9_days 8 = .ok (.if_icmp .gt 16, 3) := by decide +kernel
theorem dX9_days_11 : decode cX9_days 11 = .ok (.iload_n 2, 1) := by decide +kernel
theorem dX9_days_12 : decode cX9_days 12 = .ok (.ifCond .lt 12, 3) := by decide +kernel
theorem dX9_days_15 : decode cX9_days 15 = .ok (.iload_n 3, 1) := by decide +kernel
theorem dX9_days_16 : decode cX9_days 16 = .ok (.ifCond .lt 8, 3) := by decide +kernel
theorem dX9_days_19 : decode cX9_days 19 = .ok (.iload_n 3, 1) := by decide +kernel
theorem dX9_days_20 : decode cX9_days 20 = .ok (.iconst 2, 1) := by decide +kernel
theorem dX9_days_21 : decode cX9_days 21 = .ok (.if_icmp .le 6, 3) := by decide +kernel
theorem dX9_days_24 : decode cX9_days 24 = .ok (.bipush (-102), 2) := by decide +kernel
theorem dX9_days_26 : decode cX9_days 26 = .ok (.ireturn, 1) := by decide +kernel
theorem dX9_days_27 : decode cX9_days 27 = .ok (.aload_n 0, 1) := by decide +kernel
theorem dX9_days_28 : decode cX9_days 28 = .ok (.getfield 26, 3) := by decide +kernel
theorem dX9_days_31 : decode cX9_days 31 = .ok (.getfield 99, 3) := by decide +kernel
theorem dX9_days_34 : decode cX9_days 34 = .ok (.ifCond .ne 6, 3) := by decide +kernel
theorem dX9_days_37 : decode cX9_days 37 = .ok (.bipush (-103), 2) := by decide +kernel
theorem dX9_days_39 : decode cX9_days 39 = .ok (.ireturn, 1) := by decide +kernel
theorem dX9_days_40 : decode cX9_days 40 = .ok (.aload_n 0, 1) := by decide +kernel
theorem dX9_days_41 : decode cX9_days 41 = .ok (.getfield 68, 3) := by decide +kernel
theorem dX9_days_44 : decode cX9_days 44 = .ok (.iload_n 1, 1) := by decide +kernel
theorem dX9_days_45 : decode cX9_days 45 = .ok (.iload_n 2, 1) := by decide +kernel
theorem dX9_days_46 : decode cX9_days 46 = .ok (.aload_n 0, 1) := by decide +kernel
theorem dX9_days_47 : decode cX9_days 47 = .ok (.getfield 26, 3) := by decide +kernel
theorem dX9_days_50 : decode cX9_days 50 = .ok (.aload_n 0, 1) := by decide +kernel
theorem dX9_days_51 : decode cX9_days 51 = .ok (.getfield 19, 3) := by decide +kernel
theorem dX9_days_54 : decode cX9_days 54 = .ok (.getfield 140, 3) := by decide +kernel
theorem dX9_days_57 : decode cX9_days 57 = .ok (.invokevirtual 194, 3) := by decide +kernel
theorem dX9_days_60 : decode cX9_days 60 = .ok (.iload_n 3, 1) := by decide +kernel
theorem dX9_days_61 : decode cX9_days 61 = .ok (.ifCond .ne 11, 3) := by decide +kernel
theorem dX9_days_64 : decode cX9_days 64 = .ok (.aload_n 0, 1) := by decide +kernel
theorem dX9_days_65 : decode cX9_days 65 = .ok (.getfield 68, 3) := by decide +kernel
theorem dX9_days_68 : decode cX9_days 68 = .ok (.getfield 198, 3) := by decide +kernel
theorem dX9_days_71 : decode cX9_days 71 = .ok (.ireturn, 1) := by decide +kernel
theorem dX9_days_72 : decode cX9_days 72 = .ok (.iload_n 3, 1) := by decide +kernel
theorem dX9_days_73 : decode cX9_days 73 = .ok (.iconst 1, 1) := by decide +kernel
theorem dX9_days_74 : decode cX9_days 74 = .ok (.if_icmp .ne 15, 3) := by decide +kernel
theorem dX9_days_77 : decode cX9_days 77 = .ok (.aload_n 0, 1) := by decide +kernel
theorem dX9_days_78 : decode cX9_days 78 = .ok (.getfield 68, 3) := by decide +kernel
theorem dX9_days_81 : decode cX9_days 81 = .ok (.getfield 200, 3) := by decide +kernel
theorem dX9_days_84 : decode cX9_days 84 = .ok (.sipush 1000, 3) := by decide +kernel
theorem dX9_days_87 : decode cX9_days 87 = .ok (.iadd, 1) := by decide +kernel
theorem dX9_days_88 : decode cX9_days 88 = .ok (.ireturn, 1) := by decide +kernel
theorem dX9_days_89 : decode cX9_days 89 = .ok (.aload_n 0, 1) := by decide +kernel
theorem dX9_days_90 : decode cX9_days 90 = .ok (.getfield 68, 3) := by decide +kernel
theorem dX9_days_93 : decode cX9_days 93 = .ok (.getfield 203, 3) := by decide +kernel
theorem dX9_days_96 : decode cX9_days 96 = .ok (.ireturn, 1) := by decide +kernel
theorem dX9_image_0 : decode cX9_image 0 = .ok (.aload_n 0, 1) := by decide +kernel
theorem dX9_image_1 : decode cX9_image 1 = .ok (.invokevirtual 137, 3) := by decide +kernel
theorem dX9_image_4 : decode cX9_image 4 = .ok (.ifCond .eq 6, 3) := by decide +kernel
theorem dX9_image_7 : decode cX9_image 7 = .ok (.bipush (-103), 2) := by decide +kernel
theorem dX9_image_9 : decode cX9_image 9 = .ok (.ireturn, 1) := by decide +kernel
theorem dX9_image_10 : decode cX9_image 10 = .ok (.aload_n 0, 1) := by decide +kernel
theorem dX9_image_11 : decode cX9_image 11 = .ok (.getfield 40, 3) := by decide +kernel
theorem dX9_image_14 : decode cX9_image 14 = .ok (.getfield 206, 3) := by decide +kernel
theorem dX9_image_17 : decode cX9_image 17 = .ok (.aload_n 0, 1) := by decide +kernel
theorem dX9_image_18 : decode cX9_image 18 = .ok (.getfield 19, 3) := by decide +kernel
theorem dX9_image_21 : decode cX9_image 21 = .ok (.invokevirtual 209, 3) := by decide +kernel
theorem dX9_image_24 : decode cX9_image 24 = .ok (.aload_n 0, 1) := by decide +kernel
theorem dX9_image_25 : decode cX9_image 25 = .ok (.getfield 40, 3) := by decide +kernel
theorem dX9_image_28 : decode cX9_image 28 = .ok (.getfield 212, 3) := by decide +kernel
theorem dX9_image_31 : decode cX9_image 31 = .ok (.aload_n 0, 1) := by decide +kernel
theorem dX9_image_32 : decode cX9_image 32 = .ok (.getfield 33, 3) := by decide +kernel
theorem dX9_image_35 : decode cX9_image 35 = .ok (.invokevirtual 213, 3) := by decide +kernel
theorem dX9_image_38 : decode cX9_image 38 = .ok (.aload_n 0, 1) := by decide +kernel
theorem dX9_image_39 : decode cX9_image 39 = .ok (.getfield 40, 3) := by decide +kernel
theorem dX9_image_42 : decode cX9_image 42 = .ok (.aload_n 0, 1) := by decide +kernel
theorem dX9_image_43 : decode cX9_image 43 = .ok (.getfield 26, 3) := by decide +kernel
theorem dX9_image_46 : decode cX9_image 46 = .ok (.getfield 99, 3) := by decide +kernel
theorem dX9_image_49 : decode cX9_image 49 = .ok (.putfield 216, 3) := by decide +kernel
theorem dX9_image_52 : decode cX9_image 52 = .ok (.aload_n 0, 1) := by decide +kernel
theorem dX9_image_53 : decode cX9_image 53 = .ok (.getfield 40, 3) := by decide +kernel
theorem dX9_image_56 : decode cX9_image 56 = .ok (.aload_n 0, 1) := by decide +kernel
theorem dX9_image_57 : decode cX9_image 57 = .ok (.getfield 101, 3) := by decide +kernel
theorem dX9_image_60 : decode cX9_image 60 = .ok (.putfield 219, 3) := by decide +kernel
theorem dX9_image_63 : decode cX9_image 63 = .ok (.aload_n 0, 1) := by decide +kernel
theorem dX9_image_64 : decode cX9_image 64 = .ok (.getfield 40, 3) := by decide +kernel
theorem dX9_image_67 : decode cX9_image 67 = .ok (.iconst 1, 1) := by decide +kernel
theorem dX9_image_68 : decode cX9_image 68 = .ok (.putfield 104, 3) := by decide +kernel
theorem dX9_image_71 : decode cX9_image 71 = .ok (.aload_n 0, 1) := by decide +kernel
theorem dX9_image_72 : decode cX9_image 72 = .ok (.getfield 19, 3) := by decide +kernel
theorem dX9_image_75 : decode cX9_image 75 = .ok (.getfield 111, 3) := by decide +kernel
theorem dX9_image_78 : decode cX9_image 78 = .ok (.ireturn, 1) := by decide +kernel
theorem dX9_restore_0 : decode cX9_restore 0 = .ok (.aload_n 0, 1) := by decide +kernel
theorem dX9_restore_1 : decode cX9_restore 1 = .ok (.getfield 40, 3) := by decide +kernel
theorem dX9_restore_4 : decode cX9_restore 4 = .ok (.getfield 104, 3) := by decide +kernel
theorem dX9_restore_7 : decode cX9_restore 7 = .ok (.ifCond .ne 6, 3) := by decide +kernel
theorem dX9_restore_10 : decode cX9_restore 10 = .ok (.bipush (-103), 2) := by decide +kernel
theorem dX9_restore_12 : decode cX9_restore 12 = .ok (.ireturn, 1) := by decide +kernel
theorem dX9_restore_13 : decode cX9_restore 13 = .ok (.aload_n 0, 1) := by decide +kernel
theorem dX9_restore_14 : decode cX9_restore 14 = .ok (.getfield 19, 3) := by decide +kernel
theorem dX9_restore_17 : decode cX9_restore 17 = .ok (.aload_n 0, 1) := by decide +kernel
theorem dX9_restore_18 : decode cX9_restore 18 = .ok (.getfield 40, 3) := by decide +kernel
theorem dX9_restore_21 : decode cX9_restore 21 = .ok (.getfield 206, 3) := by decide +kernel
theorem dX9_restore_24 : decode cX9_restore 24 = .ok (.invokevirtual 209, 3) := by decide +kernel
theorem dX9_restore_27 : decode cX9_restore 27 = .ok (.aload_n 0, 1) := by decide +kernel
theorem dX9_restore_28 : decode cX9_restore 28 = .ok (.getfield 33, 3) := by decide +kernel
theorem dX9_restore_31 : decode cX9_restore 31 = .ok (.aload_n 0, 1) := by decide +kernel
theorem dX9_restore_32 : decode cX9_restore 32 = .ok (.getfield 40, 3) := by decide +kernel
theorem dX9_restore_35 : decode cX9_restore 35 = .ok (.getfield 212, 3) := by decide +kernel
theorem dX9_restore_38 : decode cX9_restore 38 = .ok (.invokevirtual 213, 3) := by decide +kernel
theorem dX9_restore_41 : decode cX9_restore 41 = .ok (.aload_n 0, 1) := by decide +kernel
theorem dX9_restore_42 : decode cX9_restore 42 = .ok (.getfield 26, 3) := by decide +kernel
theorem dX9_restore_45 : decode cX9_restore 45 = .ok (.aload_n 0, 1) := by decide +kernel
theorem dX9_restore_46 : decode cX9_restore 46 = .ok (.getfield 40, 3) := by decide +kernel
theorem dX9_restore_49 : decode cX9_restore 49 = .ok (.getfield 216, 3) := by decide +kernel
theorem dX9_restore_52 : decode cX9_restore 52 = .ok (.putfield 99, 3) := by decide +kernel
theorem dX9_restore_55 : decode cX9_restore 55 = .ok (.aload_n 0, 1) := by decide +kernel
theorem dX9_restore_56 : decode cX9_restore 56 = .ok (.aload_n 0, 1) := by decide +kernel
theorem dX9_restore_57 : decode cX9_restore 57 = .ok (.getfield 40, 3) := by decide +kernel
theorem dX9_restore_60 : decode cX9_restore 60 = .ok (.getfield 219, 3) := by decide +kernel
theorem dX9_restore_63 : decode cX9_restore 63 = .ok (.putfield 101, 3) := by decide +kernel
theorem dX9_restore_66 : decode cX9_restore 66 = .ok (.aload_n 0, 1) := by decide +kernel
theorem dX9_restore_67 : decode cX9_restore 67 = .ok (.getfield 19, 3) := by decide +kernel
theorem dX9_restore_70 : decode cX9_restore 70 = .ok (.getfield 111, 3) := by decide +kernel
theorem dX9_restore_73 : decode cX9_restore 73 = .ok (.ireturn, 1) := by decide +kernel
theorem dX9_count_0 : decode cX9_count 0 = .ok (.iload_n 1, 1) := by decide +kernel
theorem dX9_count_1 : decode cX9_count 1 = .ok (.tableswitch 111 0 8 #[51, 59, 67, 75, 80, 85, 93, 101, 106], 51) := by decide +kernel
theorem dX9_count_52 : decode cX9_count 52 = .ok (.aload_n 0, 1) := by decide +kernel
theorem dX9_count_53 : decode cX9_count 53 = .ok (.getfield 19, 3) := by decide +kernel
theorem dX9_count_56 : decode cX9_count 56 = .ok (.getfield 111, 3) := by decide +kernel
theorem dX9_count_59 : decode cX9_count 59 = .ok (.ireturn, 1) := by decide +kernel
theorem dX9_count_60 : decode cX9_count 60 = .ok (.aload_n 0, 1) := by decide +kernel
theorem dX9_count_61 : decode cX9_count 61 = .ok (.getfield 19, 3) := by decide +kernel
theorem dX9_count_64 : decode cX9_count 64 = .ok (.getfield 140, 3) := by decide +kernel
theorem dX9_count_67 : decode cX9_count 67 = .ok (.ireturn, 1) := by decide +kernel
theorem dX9_count_68 : decode cX9_count 68 = .ok (.aload_n 0, 1) := by decide +kernel
theorem dX9_count_69 : decode cX9_count 69 = .ok (.getfield 26, 3) := by decide +kernel
theorem dX9_count_72 : decode cX9_count 72 = .ok (.getfield 99, 3) := by decide +kernel
theorem dX9_count_75 : decode cX9_count 75 = .ok (.ireturn, 1) := by decide +kernel
theorem dX9_count_76 : decode cX9_count 76 = .ok (.aload_n 0, 1) := by decide +kernel
theorem dX9_count_77 : decode cX9_count 77 = .ok (.invokevirtual 220, 3) := by decide +kernel
theorem dX9_count_80 : decode cX9_count 80 = .ok (.ireturn, 1) := by decide +kernel
theorem dX9_count_81 : decode cX9_count 81 = .ok (.aload_n 0, 1) := by decide +kernel
theorem dX9_count_82 : decode cX9_count 82 = .ok (.getfield 101, 3) := by decide +kernel
theorem dX9_count_85 : decode cX9_count 85 = .ok (.ireturn, 1) := by decide +kernel
theorem dX9_count_86 : decode cX9_count 86 = .ok (.aload_n 0, 1) := by decide +kernel
theorem dX9_count_87 : decode cX9_count 87 = .ok (.getfield 33, 3) := by decide +kernel
theorem dX9_count_90 : decode cX9_count 90 = .ok (.getfield 182, 3) := by decide +kernel
theorem dX9_count_93 : decode cX9_count 93 = .ok (.ireturn, 1) := by decide +kernel
theorem dX9_count_94 : decode cX9_count 94 = .ok (.aload_n 0, 1) := by decide +kernel
theorem dX9_count_95 : decode cX9_count 95 = .ok (.getfield 10, 3) := by decide +kernel
theorem dX9_count_98 : decode cX9_count 98 = .ok (.getfield 76, 3) := by decide +kernel
theorem dX9_count_101 : decode cX9_count 101 = .ok (.ireturn, 1) := by decide +kernel
theorem dX9_count_102 : decode cX9_count 102 = .ok (.aload_n 0, 1) := by decide +kernel
theorem dX9_count_103 : decode cX9_count 103 = .ok (.getfield 108, 3) := by decide +kernel
theorem dX9_count_106 : decode cX9_count 106 = .ok (.ireturn, 1) := by decide +kernel
theorem dX9_count_107 : decode cX9_count 107 = .ok (.aload_n 0, 1) := by decide +kernel
theorem dX9_count_108 : decode cX9_count 108 = .ok (.getfield 168, 3) := by decide +kernel
theorem dX9_count_111 : decode cX9_count 111 = .ok (.ireturn, 1) := by decide +kernel
theorem dX9_count_112 : decode cX9_count 112 = .ok (.bipush (-102), 2) := by decide +kernel
theorem dX9_count_114 : decode cX9_count 114 = .ok (.ireturn, 1) := by decide +kernel
theorem dX9_digest_0 : decode cX9_digest 0 = .ok (.ldc2_w 223, 3) := by decide +kernel
theorem dX9_digest_3 : decode cX9_digest 3 = .ok (.lstore_n 1, 1) := by decide +kernel
theorem dX9_digest_4 : decode cX9_digest 4 = .ok (.iconst 0, 1) := by decide +kernel
theorem dX9_digest_5 : decode cX9_digest 5 = .ok (.istore_n 3, 1) := by decide +kernel
theorem dX9_digest_6 : decode cX9_digest 6 = .ok (.iload_n 3, 1) := by decide +kernel
theorem dX9_digest_7 : decode cX9_digest 7 = .ok (.aload_n 0, 1) := by decide +kernel
theorem dX9_digest_8 : decode cX9_digest 8 = .ok (.getfield 19, 3) := by decide +kernel
theorem dX9_digest_11 : decode cX9_digest 11 = .ok (.getfield 111, 3) := by decide +kernel
theorem dX9_digest_14 : decode cX9_digest 14 = .ok (.if_icmp .ge 39, 3) := by decide +kernel
theorem dX9_digest_17 : decode cX9_digest 17 = .ok (.iconst 0, 1) := by decide +kernel
theorem dX9_digest_18 : decode cX9_digest 18 = .ok (.istore 4, 2) := by decide +kernel
theorem dX9_digest_20 : decode cX9_digest 20 = .ok (.iload 4, 2) := by decide +kernel
theorem dX9_digest_22 : decode cX9_digest 22 = .ok (.iconst 2, 1) := by decide +kernel
theorem dX9_digest_23 : decode cX9_digest 23 = .ok (.if_icmp .gt 24, 3) := by decide +kernel
theorem dX9_digest_26 : decode cX9_digest 26 = .ok (.ldc2_w 225, 3) := by decide +kernel
theorem dX9_digest_29 : decode cX9_digest 29 = .ok (.lload_n 1, 1) := by decide +kernel
theorem dX9_digest_30 : decode cX9_digest 30 = .ok (.lmul, 1) := by decide +kernel
theorem dX9_digest_31 : decode cX9_digest 31 = .ok (.aload_n 0, 1) := by decide +kernel
theorem dX9_digest_32 : decode cX9_digest 32 = .ok (.iload_n 3, 1) := by decide +kernel
theorem dX9_digest_33 : decode cX9_digest 33 = .ok (.iload 4, 2) := by decide +kernel
theorem dX9_digest_35 : decode cX9_digest 35 = .ok (.invokevirtual 227, 3) := by decide +kernel
theorem dX9_digest_38 : decode cX9_digest 38 = .ok (.i2l, 1) := by decide +kernel
theorem dX9_digest_39 : decode cX9_digest 39 = .ok (.ladd, 1) := by decide +kernel
theorem dX9_digest_40 : decode cX9_digest 40 = .ok (.lstore_n 1, 1) := by decide +kernel
theorem dX9_digest_41 : decode cX9_digest 41 = .ok (.iinc 4 1, 3) := by decide +kernel
theorem dX9_digest_44 : decode cX9_digest 44 = .ok (.goto (-24), 3) := by decide +kernel
theorem dX9_digest_47 : decode cX9_digest 47 = .ok (.iinc 3 1, 3) := by decide +kernel
theorem dX9_digest_50 : decode cX9_digest 50 = .ok (.goto (-44), 3) := by decide +kernel
theorem dX9_digest_53 : decode cX9_digest 53 = .ok (.iconst 0, 1) := by decide +kernel
theorem dX9_digest_54 : decode cX9_digest 54 = .ok (.istore_n 3, 1) := by decide +kernel
theorem dX9_digest_55 : decode cX9_digest 55 = .ok (.iload_n 3, 1) := by decide +kernel
theorem dX9_digest_56 : decode cX9_digest 56 = .ok (.aload_n 0, 1) := by decide +kernel
theorem dX9_digest_57 : decode cX9_digest 57 = .ok (.getfield 26, 3) := by decide +kernel
theorem dX9_digest_60 : decode cX9_digest 60 = .ok (.getfield 99, 3) := by decide +kernel
theorem dX9_digest_63 : decode cX9_digest 63 = .ok (.if_icmp .ge 40, 3) := by decide +kernel
theorem dX9_digest_66 : decode cX9_digest 66 = .ok (.iconst 0, 1) := by decide +kernel
theorem dX9_digest_67 : decode cX9_digest 67 = .ok (.istore 4, 2) := by decide +kernel
theorem dX9_digest_69 : decode cX9_digest 69 = .ok (.iload 4, 2) := by decide +kernel
theorem dX9_digest_71 : decode cX9_digest 71 = .ok (.bipush 6, 2) := by decide +kernel
theorem dX9_digest_73 : decode cX9_digest 73 = .ok (.if_icmp .gt 24, 3) := by decide +kernel
theorem dX9_digest_76 : decode cX9_digest 76 = .ok (.ldc2_w 225, 3) := by decide +kernel
theorem dX9_digest_79 : decode cX9_digest 79 = .ok (.lload_n 1, 1) := by decide +kernel
theorem dX9_digest_80 : decode cX9_digest 80 = .ok (.lmul, 1) := by decide +kernel
theorem dX9_digest_81 : decode cX9_digest 81 = .ok (.aload_n 0, 1) := by decide +kernel
theorem dX9_digest_82 : decode cX9_digest 82 = .ok (.iload_n 3, 1) := by decide +kernel
theorem dX9_digest_83 : decode cX9_digest 83 = .ok (.iload 4, 2) := by decide +kernel
theorem dX9_digest_85 : decode cX9_digest 85 = .ok (.invokevirtual 231, 3) := by decide +kernel
theorem dX9_digest_88 : decode cX9_digest 88 = .ok (.i2l, 1) := by decide +kernel
theorem dX9_digest_89 : decode cX9_digest 89 = .ok (.ladd, 1) := by decide +kernel
theorem dX9_digest_90 : decode cX9_digest 90 = .ok (.lstore_n 1, 1) := by decide +kernel
theorem dX9_digest_91 : decode cX9_digest 91 = .ok (.iinc 4 1, 3) := by decide +kernel
theorem dX9_digest_94 : decode cX9_digest 94 = .ok (.goto (-25), 3) := by decide +kernel
theorem dX9_digest_97 : decode cX9_digest 97 = .ok (.iinc 3 1, 3) := by decide +kernel
theorem dX9_digest_100 : decode cX9_digest 100 = .ok (.goto (-45), 3) := by decide +kernel
theorem dX9_digest_103 : decode cX9_digest 103 = .ok (.ldc2_w 225, 3) := by decide +kernel
theorem dX9_digest_106 : decode cX9_digest 106 = .ok (.lload_n 1, 1) := by decide +kernel
theorem dX9_digest_107 : decode cX9_digest 107 = .ok (.lmul, 1) := by decide +kernel
theorem dX9_digest_108 : decode cX9_digest 108 = .ok (.aload_n 0, 1) := by decide +kernel
theorem dX9_digest_109 : decode cX9_digest 109 = .ok (.invokevirtual 234, 3) := by decide +kernel
theorem dX9_digest_112 : decode cX9_digest 112 = .ok (.i2l, 1) := by decide +kernel
theorem dX9_digest_113 : decode cX9_digest 113 = .ok (.ladd, 1) := by decide +kernel
theorem dX9_digest_114 : decode cX9_digest 114 = .ok (.lstore_n 1, 1) := by decide +kernel
theorem dX9_digest_115 : decode cX9_digest 115 = .ok (.aload_n 0, 1) := by decide +kernel
theorem dX9_digest_116 : decode cX9_digest 116 = .ok (.invokevirtual 137, 3) := by decide +kernel
theorem dX9_digest_119 : decode cX9_digest 119 = .ok (.ifCond .ne 30, 3) := by decide +kernel
theorem dX9_digest_122 : decode cX9_digest 122 = .ok (.ldc2_w 225, 3) := by decide +kernel
theorem dX9_digest_125 : decode cX9_digest 125 = .ok (.lload_n 1, 1) := by decide +kernel
theorem dX9_digest_126 : decode cX9_digest 126 = .ok (.lmul, 1) := by decide +kernel
theorem dX9_digest_127 : decode cX9_digest 127 = .ok (.aload_n 0, 1) := by decide +kernel
theorem dX9_digest_128 : decode cX9_digest 128 = .ok (.invokevirtual 237, 3) := by decide +kernel
theorem dX9_digest_131 : decode cX9_digest 131 = .ok (.i2l, 1) := by decide +kernel
theorem dX9_digest_132 : decode cX9_digest 132 = .ok (.ladd, 1) := by decide +kernel
theorem dX9_digest_133 : decode cX9_digest 133 = .ok (.lstore_n 1, 1) := by decide +kernel
theorem dX9_digest_134 : decode cX9_digest 134 = .ok (.ldc2_w 225, 3) := by decide +kernel
theorem dX9_digest_137 : decode cX9_digest 137 = .ok (.lload_n 1, 1) := by decide +kernel
theorem dX9_digest_138 : decode cX9_digest 138 = .ok (.lmul, 1) := by decide +kernel
theorem dX9_digest_139 : decode cX9_digest 139 = .ok (.aload_n 0, 1) := by decide +kernel
theorem dX9_digest_140 : decode cX9_digest 140 = .ok (.iconst 0, 1) := by decide +kernel
theorem dX9_digest_141 : decode cX9_digest 141 = .ok (.iconst 3, 1) := by decide +kernel
theorem dX9_digest_142 : decode cX9_digest 142 = .ok (.iconst 1, 1) := by decide +kernel
theorem dX9_digest_143 : decode cX9_digest 143 = .ok (.invokevirtual 240, 3) := by decide +kernel
theorem dX9_digest_146 : decode cX9_digest 146 = .ok (.i2l, 1) := by decide +kernel
theorem dX9_digest_147 : decode cX9_digest 147 = .ok (.ladd, 1) := by decide +kernel
theorem dX9_digest_148 : decode cX9_digest 148 = .ok (.lstore_n 1, 1) := by decide +kernel
theorem dX9_digest_149 : decode cX9_digest 149 = .ok (.iconst 0, 1) := by decide +kernel
theorem dX9_digest_150 : decode cX9_digest 150 = .ok (.istore_n 3, 1) := by decide +kernel
theorem dX9_digest_151 : decode cX9_digest 151 = .ok (.iload_n 3, 1) := by decide +kernel
theorem dX9_digest_152 : decode cX9_digest 152 = .ok (.aload_n 0, 1) := by decide +kernel
theorem dX9_digest_153 : decode cX9_digest 153 = .ok (.getfield 10, 3) := by decide +kernel
theorem dX9_digest_156 : decode cX9_digest 156 = .ok (.getfield 76, 3) := by decide +kernel
theorem dX9_digest_159 : decode cX9_digest 159 = .ok (.if_icmp .ge 25, 3) := by decide +kernel
theorem dX9_digest_162 : decode cX9_digest 162 = .ok (.ldc2_w 225, 3) := by decide +kernel
theorem dX9_digest_165 : decode cX9_digest 165 = .ok (.lload_n 1, 1) := by decide +kernel
theorem dX9_digest_166 : decode cX9_digest 166 = .ok (.lmul, 1) := by decide +kernel
theorem dX9_digest_167 : decode cX9_digest 167 = .ok (.aload_n 0, 1) := by decide +kernel
theorem dX9_digest_168 : decode cX9_digest 168 = .ok (.getfield 10, 3) := by decide +kernel
theorem dX9_digest_171 : decode cX9_digest 171 = .ok (.iload_n 3, 1) := by decide +kernel
theorem dX9_digest_172 : decode cX9_digest 172 = .ok (.invokevirtual 244, 3) := by decide +kernel
theorem dX9_digest_175 : decode cX9_digest 175 = .ok (.i2l, 1) := by decide +kernel
theorem dX9_digest_176 : decode cX9_digest 176 = .ok (.ladd, 1) := by decide +kernel
theorem dX9_digest_177 : decode cX9_digest 177 = .ok (.lstore_n 1, 1) := by decide +kernel
theorem dX9_digest_178 : decode cX9_digest 178 = .ok (.iinc 3 1, 3) := by decide +kernel
theorem dX9_digest_181 : decode cX9_digest 181 = .ok (.goto (-30), 3) := by decide +kernel
theorem dX9_digest_184 : decode cX9_digest 184 = .ok (.iconst 0, 1) := by decide +kernel
theorem dX9_digest_185 : decode cX9_digest 185 = .ok (.istore_n 3, 1) := by decide +kernel
theorem dX9_digest_186 : decode cX9_digest 186 = .ok (.iload_n 3, 1) := by decide +kernel
theorem dX9_digest_187 : decode cX9_digest 187 = .ok (.bipush 8, 2) := by decide +kernel
theorem dX9_digest_189 : decode cX9_digest 189 = .ok (.if_icmp .gt 22, 3) := by decide +kernel
theorem dX9_digest_192 : decode cX9_digest 192 = .ok (.ldc2_w 225, 3) := by decide +kernel
theorem dX9_digest_195 : decode cX9_digest 195 = .ok (.lload_n 1, 1) := by decide +kernel
theorem dX9_digest_196 : decode cX9_digest 196 = .ok (.lmul, 1) := by decide +kernel
theorem dX9_digest_197 : decode cX9_digest 197 = .ok (.aload_n 0, 1) := by decide +kernel
theorem dX9_digest_198 : decode cX9_digest 198 = .ok (.iload_n 3, 1) := by decide +kernel
theorem dX9_digest_199 : decode cX9_digest 199 = .ok (.invokevirtual 247, 3) := by decide +kernel
theorem dX9_digest_202 : decode cX9_digest 202 = .ok (.i2l, 1) := by decide +kernel
theorem dX9_digest_203 : decode cX9_digest 203 = .ok (.ladd, 1) := by decide +kernel
theorem dX9_digest_204 : decode cX9_digest 204 = .ok (.lstore_n 1, 1) := by decide +kernel
theorem dX9_digest_205 : decode cX9_digest 205 = .ok (.iinc 3 1, 3) := by decide +kernel
theorem dX9_digest_208 : decode cX9_digest 208 = .ok (.goto (-22), 3) := by decide +kernel
theorem dX9_digest_211 : decode cX9_digest 211 = .ok (.lload_n 1, 1) := by decide +kernel
theorem dX9_digest_212 : decode cX9_digest 212 = .ok (.lreturn, 1) := by decide +kernel
theorem dX9_noLetter_0 : decode cX9_noLetter 0 = .ok (.aload_n 0, 1) := by decide +kernel
theorem dX9_noLetter_1 : decode cX9_noLetter 1 = .ok (.getfield 19, 3) := by decide +kernel
theorem dX9_noLetter_4 : decode cX9_noLetter 4 = .ok (.getfield 111, 3) := by decide +kernel
theorem dX9_noLetter_7 : decode cX9_noLetter 7 = .ok (.ifCond .ne 7, 3) := by decide +kernel
theorem dX9_noLetter_10 : decode cX9_noLetter 10 = .ok (.iconst 1, 1) := by decide +kernel
theorem dX9_noLetter_11 : decode cX9_noLetter 11 = .ok (.goto 4, 3) := by decide +kernel
theorem dX9_noLetter_14 : decode cX9_noLetter 14 = .ok (.iconst 0, 1) := by decide +kernel
theorem dX9_noLetter_15 : decode cX9_noLetter 15 = .ok (.ireturn, 1) := by decide +kernel
theorem dX9_howManyShut_0 : decode cX9_howManyShut 0 = .ok (.iconst 0, 1) := by decide +kernel
theorem dX9_howManyShut_1 : decode cX9_howManyShut 1 = .ok (.istore_n 1, 1) := by decide +kernel
theorem dX9_howManyShut_2 : decode cX9_howManyShut 2 = .ok (.iconst 0, 1) := by decide +kernel
theorem dX9_howManyShut_3 : decode cX9_howManyShut 3 = .ok (.istore_n 2, 1) := by decide +kernel
theorem dX9_howManyShut_4 : decode cX9_howManyShut 4 = .ok (.iload_n 2, 1) := by decide +kernel
theorem dX9_howManyShut_5 : decode cX9_howManyShut 5 = .ok (.aload_n 0, 1) := by decide +kernel
theorem dX9_howManyShut_6 : decode cX9_howManyShut 6 = .ok (.getfield 26, 3) := by decide +kernel
theorem dX9_howManyShut_9 : decode cX9_howManyShut 9 = .ok (.getfield 99, 3) := by decide +kernel
theorem dX9_howManyShut_12 : decode cX9_howManyShut 12 = .ok (.if_icmp .ge 42, 3) := by decide +kernel
theorem dX9_howManyShut_15 : decode cX9_howManyShut 15 = .ok (.aload_n 0, 1) := by decide +kernel
theorem dX9_howManyShut_16 : decode cX9_howManyShut 16 = .ok (.getfield 47, 3) := by decide +kernel
theorem dX9_howManyShut_19 : decode cX9_howManyShut 19 = .ok (.aload_n 0, 1) := by decide +kernel
theorem dX9_howManyShut_20 : decode cX9_howManyShut 20 = .ok (.getfield 26, 3) := by decide +kernel
theorem dX9_howManyShut_23 : decode cX9_howManyShut 23 = .ok (.iload_n 2, 1) := by decide +kernel
theorem dX9_howManyShut_24 : decode cX9_howManyShut 24 = .ok (.invokevirtual 148, 3) := by decide +kernel
theorem dX9_howManyShut_27 : decode cX9_howManyShut 27 = .ok (.aload_n 0, 1) := by decide +kernel
theorem dX9_howManyShut_28 : decode cX9_howManyShut 28 = .ok (.getfield 19, 3) := by decide +kernel
theorem dX9_howManyShut_31 : decode cX9_howManyShut 31 = .ok (.iconst 0, 1) := by decide +kernel
theorem dX9_howManyShut_32 : decode cX9_howManyShut 32 = .ok (.invokevirtual 151, 3) := by decide +kernel
theorem dX9_howManyShut_35 : decode cX9_howManyShut 35 = .ok (.aload_n 0, 1) := by decide +kernel
theorem dX9_howManyShut_36 : decode cX9_howManyShut 36 = .ok (.getfield 47, 3) := by decide +kernel
theorem dX9_howManyShut_39 : decode cX9_howManyShut 39 = .ok (.getfield 158, 3) := by decide +kernel
theorem dX9_howManyShut_42 : decode cX9_howManyShut 42 = .ok (.ifCond .eq 6, 3) := by decide +kernel
theorem dX9_howManyShut_45 : decode cX9_howManyShut 45 = .ok (.iinc 1 1, 3) := by decide +kernel
theorem dX9_howManyShut_48 : decode cX9_howManyShut 48 = .ok (.iinc 2 1, 3) := by decide +kernel
theorem dX9_howManyShut_51 : decode cX9_howManyShut 51 = .ok (.goto (-47), 3) := by decide +kernel
theorem dX9_howManyShut_54 : decode cX9_howManyShut 54 = .ok (.iload_n 1, 1) := by decide +kernel
theorem dX9_howManyShut_55 : decode cX9_howManyShut 55 = .ok (.ireturn, 1) := by decide +kernel
theorem dX9_kindsThatHear_0 : decode cX9_kindsThatHear 0 = .ok (.iconst 0, 1) := by decide +kernel
theorem dX9_kindsThatHear_1 : decode cX9_kindsThatHear 1 = .ok (.istore_n 3, 1) := by decide +kernel
theorem dX9_kindsThatHear_2 : decode cX9_kindsThatHear 2 = .ok (.iconst 0, 1) := by decide +kernel
theorem dX9_kindsThatHear_3 : decode cX9_kindsThatHear 3 = .ok (.istore 4, 2) := by decide +kernel
theorem dX9_kindsThatHear_5 : decode cX9_kindsThatHear 5 = .ok (.iload 4, 2) := by decide +kernel
theorem dX9_kindsThatHear_7 : decode cX9_kindsThatHear 7 = .ok (.iconst 5, 1) := by decide +kernel
theorem dX9_kindsThatHear_8 : decode cX9_kindsThatHear 8 = .ok (.if_icmp .ge 41, 3) := by decide +kernel
theorem dX9_kindsThatHear_11 : decode cX9_kindsThatHear 11 = .ok (.aload_n 0, 1) := by decide +kernel
theorem dX9_kindsThatHear_12 : decode cX9_kindsThatHear 12 = .ok (.getfield 47, 3) := by decide +kernel
theorem dX9_kindsThatHear_15 : decode cX9_kindsThatHear 15 = .ok (.iload 4, 2) := by decide +kernel
theorem dX9_kindsThatHear_17 : decode cX9_kindsThatHear 17 = .ok (.aload_n 0, 1) := by decide +kernel
theorem dX9_kindsThatHear_18 : decode cX9_kindsThatHear 18 = .ok (.getfield 19, 3) := by decide +kernel
theorem dX9_kindsThatHear_21 : decode cX9_kindsThatHear 21 = .ok (.iload_n 2, 1) := by decide +kernel
theorem dX9_kindsThatHear_22 : decode cX9_kindsThatHear 22 = .ok (.invokevirtual 151, 3) := by decide +kernel
theorem dX9_kindsThatHear_25 : decode cX9_kindsThatHear 25 = .ok (.aload_n 0, 1) := by decide +kernel
theorem dX9_kindsThatHear_26 : decode cX9_kindsThatHear 26 = .ok (.getfield 47, 3) := by decide +kernel
theorem dX9_kindsThatHear_29 : decode cX9_kindsThatHear 29 = .ok (.getfield 155, 3) := by decide +kernel
theorem dX9_kindsThatHear_32 : decode cX9_kindsThatHear 32 = .ok (.iload_n 1, 1) := by decide +kernel
theorem dX9_kindsThatHear_33 : decode cX9_kindsThatHear 33 = .ok (.if_icmp .ne 10, 3) := by decide +kernel
theorem dX9_kindsThatHear_36 : decode cX9_kindsThatHear 36 = .ok (.iload_n 3, 1) := by decide +kernel
theorem dX9_kindsThatHear_37 : decode cX9_kindsThatHear 37 = .ok (.iconst 1, 1) := by decide +kernel
theorem dX9_kindsThatHear_38 : decode cX9_kindsThatHear 38 = .ok (.iload 4, 2) := by decide +kernel
theorem dX9_kindsThatHear_40 : decode cX9_kindsThatHear 40 = .ok (.ishl, 1) := by decide +kernel
theorem dX9_kindsThatHear_41 : decode cX9_kindsThatHear 41 = .ok (.ior, 1) := by decide +kernel
theorem dX9_kindsThatHear_42 : decode cX9_kindsThatHear 42 = .ok (.istore_n 3, 1) := by decide +kernel
theorem dX9_kindsThatHear_43 : decode cX9_kindsThatHear 43 = .ok (.iinc 4 1, 3) := by decide +kernel
theorem dX9_kindsThatHear_46 : decode cX9_kindsThatHear 46 = .ok (.goto (-41), 3) := by decide +kernel
theorem dX9_kindsThatHear_49 : decode cX9_kindsThatHear 49 = .ok (.iload_n 3, 1) := by decide +kernel
theorem dX9_kindsThatHear_50 : decode cX9_kindsThatHear 50 = .ok (.ireturn, 1) := by decide +kernel
theorem dX9_mostAlike_0 : decode cX9_mostAlike 0 = .ok (.aload_n 0, 1) := by decide +kernel
theorem dX9_mostAlike_1 : decode cX9_mostAlike 1 = .ok (.getfield 72, 3) := by decide +kernel
theorem dX9_mostAlike_4 : decode cX9_mostAlike 4 = .ok (.iconst 0, 1) := by decide +kernel
theorem dX9_mostAlike_5 : decode cX9_mostAlike 5 = .ok (.invokestatic 250, 3) := by decide +kernel
theorem dX9_mostAlike_8 : decode cX9_mostAlike 8 = .ok (.iconst 0, 1) := by decide +kernel
theorem dX9_mostAlike_9 : decode cX9_mostAlike 9 = .ok (.istore_n 3, 1) := by decide +kernel
theorem dX9_mostAlike_10 : decode cX9_mostAlike 10 = .ok (.iconst 0, 1) := by decide +kernel
theorem dX9_mostAlike_11 : decode cX9_mostAlike 11 = .ok (.istore 4, 2) := by decide +kernel
theorem dX9_mostAlike_13 : decode cX9_mostAlike 13 = .ok (.iload 4, 2) := by decide +kernel
theorem dX9_mostAlike_15 : decode cX9_mostAlike 15 = .ok (.iconst 5, 1) := by decide +kernel
theorem dX9_mostAlike_16 : decode cX9_mostAlike 16 = .ok (.if_icmp .ge 85, 3) := by decide +kernel
theorem dX9_mostAlike_19 : decode cX9_mostAlike 19 = .ok (.iload_n 1, 1) := by decide +kernel
theorem dX9_mostAlike_20 : decode cX9_mostAlike 20 = .ok (.iconst 1, 1) := by decide +kernel
theorem dX9_mostAlike_21 : decode cX9_mostAlike 21 = .ok (.iload 4, 2) := by decide +kernel
theorem dX9_mostAlike_23 : decode cX9_mostAlike 23 = .ok (.ishl, 1) := by decide +kernel
theorem dX9_mostAlike_24 : decode cX9_mostAlike 24 = .ok (.iand, 1) := by decide +kernel
theorem dX9_mostAlike_25 : decode cX9_mostAlike 25 = .ok (.ifCond .ne 6, 3) := by decide +kernel
theorem dX9_mostAlike_28 : decode cX9_mostAlike 28 = .ok (.goto 67, 3) := by decide +kernel
theorem dX9_mostAlike_31 : decode cX9_mostAlike 31 = .ok (.aload_n 0, 1) := by decide +kernel
