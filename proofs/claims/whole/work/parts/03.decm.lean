theorem dX5_init_0 : decode cX5_init 0 = .ok (.aload_n 0, 1) := by decide +kernel
theorem dX5_init_1 : decode cX5_init 1 = .ok (.invokespecial 1, 3) := by decide +kernel
theorem dX5_init_4 : decode cX5_init 4 = .ok (.aload_n 0, 1) := by decide +kernel
theorem dX5_init_5 : decode cX5_init 5 = .ok (.sipush 16384, 3) := by decide +kernel
theorem dX5_init_8 : decode cX5_init 8 = .ok (.newarray .int, 2) := by decide +kernel
theorem dX5_init_10 : decode cX5_init 10 = .ok (.putfield 7, 3) := by decide +kernel
theorem dX5_init_13 : decode cX5_init 13 = .ok (.aload_n 0, 1) := by decide +kernel
theorem dX5_init_14 : decode cX5_init 14 = .ok (.sipush 256, 3) := by decide +kernel
theorem dX5_init_17 : decode cX5_init 17 = .ok (.newarray .boolean, 2) := by decide +kernel
theorem dX5_init_19 : decode cX5_init 19 = .ok (.putfield 13, 3) := by decide +kernel
theorem dX5_init_22 : decode cX5_init 22 = .ok (.aload_n 0, 1) := by decide +kernel
theorem dX5_init_23 : decode cX5_init 23 = .ok (.sipush 256, 3) := by decide +kernel
theorem dX5_init_26 : decode cX5_init 26 = .ok (.newarray .int, 2) := by decide +kernel
theorem dX5_init_28 : decode cX5_init 28 = .ok (.putfield 17, 3) := by decide +kernel
theorem dX5_init_31 : decode cX5_init 31 = .ok (.aload_n 0, 1) := by decide +kernel
theorem dX5_init_32 : decode cX5_init 32 = .ok (.sipush 256, 3) := by decide +kernel
theorem dX5_init_35 : decode cX5_init 35 = .ok (.newarray .int, 2) := by decide +kernel
theorem dX5_init_37 : decode cX5_init 37 = .ok (.putfield 20, 3) := by decide +kernel
theorem dX5_init_40 : decode cX5_init 40 = .ok (.aload_n 0, 1) := by decide +kernel
theorem dX5_init_41 : decode cX5_init 41 = .ok (.sipush 256, 3) := by decide +kernel
theorem dX5_init_44 : decode cX5_init 44 = .ok (.newarray .boolean, 2) := by decide +kernel
theorem dX5_init_46 : decode cX5_init 46 = .ok (.putfield 23, 3) := by decide +kernel
theorem dX5_init_49 : decode cX5_init 49 = .ok (.aload_n 0, 1) := by decide +kernel
theorem dX5_init_50 : decode cX5_init 50 = .ok (.sipush 256, 3) := by decide +kernel
theorem dX5_init_53 : decode cX5_init 53 = .ok (.newarray .int, 2) := by decide +kernel
theorem dX5_init_55 : decode cX5_init 55 = .ok (.putfield 26, 3) := by decide +kernel
theorem dX5_init_58 : decode cX5_init 58 = .ok (.aload_n 0, 1) := by decide +kernel
theorem dX5_init_59 : decode cX5_init 59 = .ok (.sipush 16384, 3) := by decide +kernel
theorem dX5_init_62 : decode cX5_init 62 = .ok (.newarray .int, 2) := by decide +kernel
theorem dX5_init_64 : decode cX5_init 64 = .ok (.putfield 29, 3) := by decide +kernel
theorem dX5_init_67 : decode cX5_init 67 = .ok (.aload_n 0, 1) := by decide +kernel
theorem dX5_init_68 : decode cX5_init 68 = .ok (.sipush 256, 3) := by decide +kernel
theorem dX5_init_71 : decode cX5_init 71 = .ok (.newarray .int, 2) := by decide +kernel
theorem dX5_init_73 : decode cX5_init 73 = .ok (.putfield 32, 3) := by decide +kernel
theorem dX5_init_76 : decode cX5_init 76 = .ok (.aload_n 0, 1) := by decide +kernel
theorem dX5_init_77 : decode cX5_init 77 = .ok (.bipush 12, 2) := by decide +kernel
theorem dX5_init_79 : decode cX5_init 79 = .ok (.newarray .int, 2) := by decide +kernel
theorem dX5_init_81 : decode cX5_init 81 = .ok (.putfield 35, 3) := by decide +kernel
theorem dX5_init_84 : decode cX5_init 84 = .ok (.aload_n 0, 1) := by decide +kernel
theorem dX5_init_85 : decode cX5_init 85 = .ok (.bipush 12, 2) := by decide +kernel
theorem dX5_init_87 : decode cX5_init 87 = .ok (.newarray .int, 2) := by decide +kernel
theorem dX5_init_89 : decode cX5_init 89 = .ok (.putfield 38, 3) := by decide +kernel
theorem dX5_init_92 : decode cX5_init 92 = .ok (.aload_n 0, 1) := by decide +kernel
theorem dX5_init_93 : decode cX5_init 93 = .ok (.bipush 12, 2) := by decide +kernel
theorem dX5_init_95 : decode cX5_init 95 = .ok (.newarray .int, 2) := by decide +kernel
theorem dX5_init_97 : decode cX5_init 97 = .ok (.putfield 41, 3) := by decide +kernel
theorem dX5_init_100 : decode cX5_init 100 = .ok (.aload_n 0, 1) := by decide +kernel
theorem dX5_init_101 : decode cX5_init 101 = .ok (.bipush 12, 2) := by decide +kernel
theorem dX5_init_103 : decode cX5_init 103 = .ok (.newarray .int, 2) := by decide +kernel
theorem dX5_init_105 : decode cX5_init 105 = .ok (.putfield 44, 3) := by decide +kernel
theorem dX5_init_108 : decode cX5_init 108 = .ok (.aload_n 0, 1) := by decide +kernel
theorem dX5_init_109 : decode cX5_init 109 = .ok (.bipush 12, 2) := by decide +kernel
theorem dX5_init_111 : decode cX5_init 111 = .ok (.newarray .int, 2) := by decide +kernel
theorem dX5_init_113 : decode cX5_init 113 = .ok (.putfield 47, 3) := by decide +kernel
theorem dX5_init_116 : decode cX5_init 116 = .ok (.aload_n 0, 1) := by decide +kernel
theorem dX5_init_117 : decode cX5_init 117 = .ok (.iconst (-1), 1) := by decide +kernel
theorem dX5_init_118 : decode cX5_init 118 = .ok (.putfield 50, 3) := by decide +kernel
theorem dX5_init_121 : decode cX5_init 121 = .ok (.iconst 0, 1) := by decide +kernel
theorem dX5_init_122 : decode cX5_init 122 = .ok (.istore_n 1, 1) := by decide +kernel
theorem dX5_init_123 : decode cX5_init 123 = .ok (.iload_n 1, 1) := by decide +kernel
theorem dX5_init_124 : decode cX5_init 124 = .ok (.bipush 6, 2) := by decide +kernel
theorem dX5_init_126 : decode cX5_init 126 = .ok (.if_icmp .ge 32, 3) := by decide +kernel
theorem dX5_init_129 : decode cX5_init 129 = .ok (.bipush 8, 2) := by decide +kernel
theorem dX5_init_131 : decode cX5_init 131 = .ok (.iload_n 1, 1) := by decide +kernel
theorem dX5_init_132 : decode cX5_init 132 = .ok (.ishl, 1) := by decide +kernel
theorem dX5_init_133 : decode cX5_init 133 = .ok (.istore_n 2, 1) := by decide +kernel
theorem dX5_init_134 : decode cX5_init 134 = .ok (.aload_n 0, 1) := by decide +kernel
theorem dX5_init_135 : decode cX5_init 135 = .ok (.iload_n 2, 1) := by decide +kernel
theorem dX5_init_136 : decode cX5_init 136 = .ok (.iload_n 2, 1) := by decide +kernel
theorem dX5_init_137 : decode cX5_init 137 = .ok (.bipush 64, 2) := by decide +kernel
theorem dX5_init_139 : decode cX5_init 139 = .ok (.if_icmp .ge 7, 3) := by decide +kernel
theorem dX5_init_142 : decode cX5_init 142 = .ok (.iload_n 2, 1) := by decide +kernel
theorem dX5_init_143 : decode cX5_init 143 = .ok (.goto 5, 3) := by decide +kernel
theorem dX5_init_146 : decode cX5_init 146 = .ok (.bipush 64, 2) := by decide +kernel
theorem dX5_init_148 : decode cX5_init 148 = .ok (.invokevirtual 54, 3) := by decide +kernel
theorem dX5_init_151 : decode cX5_init 151 = .ok (.istore_n 3, 1) := by decide +kernel
theorem dX5_init_152 : decode cX5_init 152 = .ok (.iinc 1 1, 3) := by decide +kernel
theorem dX5_init_155 : decode cX5_init 155 = .ok (.goto (-32), 3) := by decide +kernel
theorem dX5_init_158 : decode cX5_init 158 = .ok (.return_, 1) := by decide +kernel
theorem dX5_in_0 : decode cX5_in 0 = .ok (.iload_n 0, 1) := by decide +kernel
theorem dX5_in_1 : decode cX5_in 1 = .ok (.iload_n 1, 1) := by decide +kernel
theorem dX5_in_2 : decode cX5_in 2 = .ok (.if_icmp .lt 12, 3) := by decide +kernel
theorem dX5_in_5 : decode cX5_in 5 = .ok (.iload_n 0, 1) := by decide +kernel
theorem dX5_in_6 : decode cX5_in 6 = .ok (.iload_n 2, 1) := by decide +kernel
theorem dX5_in_7 : decode cX5_in 7 = .ok (.if_icmp .gt 7, 3) := by decide +kernel
theorem dX5_in_10 : decode cX5_in 10 = .ok (.iconst 1, 1) := by decide +kernel
theorem dX5_in_11 : decode cX5_in 11 = .ok (.goto 4, 3) := by decide +kernel
theorem dX5_in_14 : decode cX5_in 14 = .ok (.iconst 0, 1) := by decide +kernel
theorem dX5_in_15 : decode cX5_in 15 = .ok (.ireturn, 1) := by decide +kernel
theorem dX5_usable_0 : decode cX5_usable 0 = .ok (.aload_n 0, 1) := by decide +kernel
theorem dX5_usable_1 : decode cX5_usable 1 = .ok (.getfield 58, 3) := by decide +kernel
theorem dX5_usable_4 : decode cX5_usable 4 = .ok (.ifCond .ne 25, 3) := by decide +kernel
theorem dX5_usable_7 : decode cX5_usable 7 = .ok (.iload_n 1, 1) := by decide +kernel
theorem dX5_usable_8 : decode cX5_usable 8 = .ok (.iconst 0, 1) := by decide +kernel
theorem dX5_usable_9 : decode cX5_usable 9 = .ok (.sipush 255, 3) := by decide +kernel
theorem dX5_usable_12 : decode cX5_usable 12 = .ok (.invokestatic 62, 3) := by decide +kernel
theorem dX5_usable_15 : decode cX5_usable 15 = .ok (.ifCond .eq 14, 3) := by decide +kernel
theorem dX5_usable_18 : decode cX5_usable 18 = .ok (.iload_n 2, 1) := by decide +kernel
theorem dX5_usable_19 : decode cX5_usable 19 = .ok (.iload_n 1, 1) := by decide +kernel
theorem dX5_usable_20 : decode cX5_usable 20 = .ok (.sipush 255, 3) := by decide +kernel
theorem dX5_usable_23 : decode cX5_usable 23 = .ok (.invokestatic 62, 3) := by decide +kernel
theorem dX5_usable_26 : decode cX5_usable 26 = .ok (.ifCond .ne 5, 3) := by decide +kernel
theorem dX5_usable_29 : decode cX5_usable 29 = .ok (.iconst 0, 1) := by decide +kernel
theorem dX5_usable_30 : decode cX5_usable 30 = .ok (.ireturn, 1) := by decide +kernel
theorem dX5_usable_31 : decode cX5_usable 31 = .ok (.iload_n 1, 1) := by decide +kernel
theorem dX5_usable_32 : decode cX5_usable 32 = .ok (.istore_n 3, 1) := by decide +kernel
theorem dX5_usable_33 : decode cX5_usable 33 = .ok (.iload_n 3, 1) := by decide +kernel
theorem dX5_usable_34 : decode cX5_usable 34 = .ok (.iload_n 2, 1) := by decide +kernel
theorem dX5_usable_35 : decode cX5_usable 35 = .ok (.if_icmp .gt 16, 3) := by decide +kernel
theorem dX5_usable_38 : decode cX5_usable 38 = .ok (.aload_n 0, 1) := by decide +kernel
theorem dX5_usable_39 : decode cX5_usable 39 = .ok (.getfield 13, 3) := by decide +kernel
theorem dX5_usable_42 : decode cX5_usable 42 = .ok (.iload_n 3, 1) := by decide +kernel
theorem dX5_usable_43 : decode cX5_usable 43 = .ok (.iconst 1, 1) := by decide +kernel
theorem dX5_usable_44 : decode cX5_usable 44 = .ok (.bastore, 1) := by decide +kernel
theorem dX5_usable_45 : decode cX5_usable 45 = .ok (.iinc 3 1, 3) := by decide +kernel
theorem dX5_usable_48 : decode cX5_usable 48 = .ok (.goto (-15), 3) := by decide +kernel
theorem dX5_usable_51 : decode cX5_usable 51 = .ok (.iconst 1, 1) := by decide +kernel
theorem dX5_usable_52 : decode cX5_usable 52 = .ok (.ireturn, 1) := by decide +kernel
theorem dX5_usablePages_0 : decode cX5_usablePages 0 = .ok (.iconst 0, 1) := by decide +kernel
theorem dX5_usablePages_1 : decode cX5_usablePages 1 = .ok (.istore_n 1, 1) := by decide +kernel
theorem dX5_usablePages_2 : decode cX5_usablePages 2 = .ok (.iconst 0, 1) := by decide +kernel
theorem dX5_usablePages_3 : decode cX5_usablePages 3 = .ok (.istore_n 2, 1) := by decide +kernel
theorem dX5_usablePages_4 : decode cX5_usablePages 4 = .ok (.iload_n 2, 1) := by decide +kernel
theorem dX5_usablePages_5 : decode cX5_usablePages 5 = .ok (.sipush 256, 3) := by decide +kernel
theorem dX5_usablePages_8 : decode cX5_usablePages 8 = .ok (.if_icmp .ge 26, 3) := by decide +kernel
theorem dX5_usablePages_11 : decode cX5_usablePages 11 = .ok (.aload_n 0, 1) := by decide +kernel
theorem dX5_usablePages_12 : decode cX5_usablePages 12 = .ok (.getfield 13, 3) := by decide +kernel
theorem dX5_usablePages_15 : decode cX5_usablePages 15 = .ok (.iload_n 2, 1) := by decide +kernel
theorem dX5_usablePages_16 : decode cX5_usablePages 16 = .ok (.baload, 1) := by decide +kernel
theorem dX5_usablePages_17 : decode cX5_usablePages 17 = .ok (.ifCond .eq 9, 3) := by decide +kernel
theorem dX5_usablePages_20 : decode cX5_usablePages 20 = .ok (.iload_n 1, 1) := by decide +kernel
theorem dX5_usablePages_21 : decode cX5_usablePages 21 = .ok (.iconst 1, 1) := by decide +kernel
theorem dX5_usablePages_22 : decode cX5_usablePages 22 = .ok (.iadd, 1) := by decide +kernel
theorem dX5_usablePages_23 : decode cX5_usablePages 23 = .ok (.goto 4, 3) := by decide +kernel
theorem dX5_usablePages_26 : decode cX5_usablePages 26 = .ok (.iload_n 1, 1) := by decide +kernel
theorem dX5_usablePages_27 : decode cX5_usablePages 27 = .ok (.istore_n 1, 1) := by decide +kernel
theorem dX5_usablePages_28 : decode cX5_usablePages 28 = .ok (.iinc 2 1, 3) := by decide +kernel
theorem dX5_usablePages_31 : decode cX5_usablePages 31 = .ok (.goto (-27), 3) := by decide +kernel
theorem dX5_usablePages_34 : decode cX5_usablePages 34 = .ok (.iload_n 1, 1) := by decide +kernel
theorem dX5_usablePages_35 : decode cX5_usablePages 35 = .ok (.ireturn, 1) := by decide +kernel
theorem dX5_areUsable_0 : decode cX5_areUsable 0 = .ok (.iconst 1, 1) := by decide +kernel
theorem dX5_areUsable_1 : decode cX5_areUsable 1 = .ok (.istore_n 3, 1) := by decide +kernel
theorem dX5_areUsable_2 : decode cX5_areUsable 2 = .ok (.iload_n 1, 1) := by decide +kernel
theorem dX5_areUsable_3 : decode cX5_areUsable 3 = .ok (.istore 4, 2) := by decide +kernel
theorem dX5_areUsable_5 : decode cX5_areUsable 5 = .ok (.iload 4, 2) := by decide +kernel
theorem dX5_areUsable_7 : decode cX5_areUsable 7 = .ok (.iload_n 1, 1) := by decide +kernel
theorem dX5_areUsable_8 : decode cX5_areUsable 8 = .ok (.iload_n 2, 1) := by decide +kernel
theorem dX5_areUsable_9 : decode cX5_areUsable 9 = .ok (.iadd, 1) := by decide +kernel
theorem dX5_areUsable_10 : decode cX5_areUsable 10 = .ok (.if_icmp .ge 37, 3) := by decide +kernel
theorem dX5_areUsable_13 : decode cX5_areUsable 13 = .ok (.iload_n 3, 1) := by decide +kernel
theorem dX5_areUsable_14 : decode cX5_areUsable 14 = .ok (.ifCond .eq 25, 3) := by decide +kernel
theorem dX5_areUsable_17 : decode cX5_areUsable 17 = .ok (.iload 4, 2) := by decide +kernel
theorem dX5_areUsable_19 : decode cX5_areUsable 19 = .ok (.sipush 256, 3) := by decide +kernel
theorem dX5_areUsable_22 : decode cX5_areUsable 22 = .ok (.if_icmp .ge 17, 3) := by decide +kernel
theorem dX5_areUsable_25 : decode cX5_areUsable 25 = .ok (.aload_n 0, 1) := by decide +kernel
theorem dX5_areUsable_26 : decode cX5_areUsable 26 = .ok (.getfield 13, 3) := by decide +kernel
theorem dX5_areUsable_29 : decode cX5_areUsable 29 = .ok (.iload 4, 2) := by decide +kernel
theorem dX5_areUsable_31 : decode cX5_areUsable 31 = .ok (.baload, 1) := by decide +kernel
theorem dX5_areUsable_32 : decode cX5_areUsable 32 = .ok (.ifCond .eq 7, 3) := by decide +kernel
theorem dX5_areUsable_35 : decode cX5_areUsable 35 = .ok (.iconst 1, 1) := by decide +kernel
theorem dX5_areUsable_36 : decode cX5_areUsable 36 = .ok (.goto 4, 3) := by decide +kernel
theorem dX5_areUsable_39 : decode cX5_areUsable 39 = .ok (.iconst 0, 1) := by decide +kernel
theorem dX5_areUsable_40 : decode cX5_areUsable 40 = .ok (.istore_n 3, 1) := by decide +kernel
theorem dX5_areUsable_41 : decode cX5_areUsable 41 = .ok (.iinc 4 1, 3) := by decide +kernel
theorem dX5_areUsable_44 : decode cX5_areUsable 44 = .ok (.goto (-39), 3) := by decide +kernel
theorem dX5_areUsable_47 : decode cX5_areUsable 47 = .ok (.iload_n 3, 1) := by decide +kernel
theorem dX5_areUsable_48 : decode cX5_areUsable 48 = .ok (.ireturn, 1) := by decide +kernel
theorem dX5_start_0 : decode cX5_start 0 = .ok (.aload_n 0, 1) := by decide +kernel
theorem dX5_start_1 : decode cX5_start 1 = .ok (.getfield 58, 3) := by decide +kernel
theorem dX5_start_4 : decode cX5_start 4 = .ok (.ifCond .eq 5, 3) := by decide +kernel
theorem dX5_start_7 : decode cX5_start 7 = .ok (.iconst (-1), 1) := by decide +kernel
theorem dX5_start_8 : decode cX5_start 8 = .ok (.ireturn, 1) := by decide +kernel
theorem dX5_start_9 : decode cX5_start 9 = .ok (.aload_n 0, 1) := by decide +kernel
theorem dX5_start_10 : decode cX5_start 10 = .ok (.iconst 1, 1) := by decide +kernel
theorem dX5_start_11 : decode cX5_start 11 = .ok (.putfield 58, 3) := by decide +kernel
theorem dX5_start_14 : decode cX5_start 14 = .ok (.iconst 0, 1) := by decide +kernel
theorem dX5_start_15 : decode cX5_start 15 = .ok (.istore_n 1, 1) := by decide +kernel
theorem dX5_start_16 : decode cX5_start 16 = .ok (.iload_n 1, 1) := by decide +kernel
theorem dX5_start_17 : decode cX5_start 17 = .ok (.sipush 256, 3) := by decide +kernel
theorem dX5_start_20 : decode cX5_start 20 = .ok (.if_icmp .ge 62, 3) := by decide +kernel
theorem dX5_start_23 : decode cX5_start 23 = .ok (.aload_n 0, 1) := by decide +kernel
theorem dX5_start_24 : decode cX5_start 24 = .ok (.getfield 13, 3) := by decide +kernel
theorem dX5_start_27 : decode cX5_start 27 = .ok (.iload_n 1, 1) := by decide +kernel
theorem dX5_start_28 : decode cX5_start 28 = .ok (.baload, 1) := by decide +kernel
theorem dX5_start_29 : decode cX5_start 29 = .ok (.ifCond .eq 47, 3) := by decide +kernel
theorem dX5_start_32 : decode cX5_start 32 = .ok (.bipush 6, 2) := by decide +kernel
theorem dX5_start_34 : decode cX5_start 34 = .ok (.istore_n 2, 1) := by decide +kernel
theorem dX5_start_35 : decode cX5_start 35 = .ok (.iload_n 1, 1) := by decide +kernel
theorem dX5_start_36 : decode cX5_start 36 = .ok (.iconst 1, 1) := by decide +kernel
theorem dX5_start_37 : decode cX5_start 37 = .ok (.iload_n 2, 1) := by decide +kernel
theorem dX5_start_38 : decode cX5_start 38 = .ok (.ishl, 1) := by decide +kernel
theorem dX5_start_39 : decode cX5_start 39 = .ok (.irem, 1) := by decide +kernel
theorem dX5_start_40 : decode cX5_start 40 = .ok (.ifCond .ne 14, 3) := by decide +kernel
theorem dX5_start_43 : decode cX5_start 43 = .ok (.aload_n 0, 1) := by decide +kernel
theorem dX5_start_44 : decode cX5_start 44 = .ok (.iload_n 1, 1) := by decide +kernel
theorem dX5_start_45 : decode cX5_start 45 = .ok (.iconst 1, 1) := by decide +kernel
theorem dX5_start_46 : decode cX5_start 46 = .ok (.iload_n 2, 1) := by decide +kernel
theorem dX5_start_47 : decode cX5_start 47 = .ok (.ishl, 1) := by decide +kernel
theorem dX5_start_48 : decode cX5_start 48 = .ok (.invokevirtual 66, 3) := by decide +kernel
theorem dX5_start_51 : decode cX5_start 51 = .ok (.ifCond .ne 9, 3) := by decide +kernel
theorem dX5_start_54 : decode cX5_start 54 = .ok (.iinc 2 (-1), 3) := by decide +kernel
theorem dX5_start_57 : decode cX5_start 57 = .ok (.goto (-22), 3) := by decide +kernel
theorem dX5_start_60 : decode cX5_start 60 = .ok (.aload_n 0, 1) := by decide +kernel
theorem dX5_start_61 : decode cX5_start 61 = .ok (.iload_n 1, 1) := by decide +kernel
theorem dX5_start_62 : decode cX5_start 62 = .ok (.iload_n 2, 1) := by decide +kernel
theorem dX5_start_63 : decode cX5_start 63 = .ok (.iconst 0, 1) := by decide +kernel
theorem dX5_start_64 : decode cX5_start 64 = .ok (.invokevirtual 70, 3) := by decide +kernel
theorem dX5_start_67 : decode cX5_start 67 = .ok (.iload_n 1, 1) := by decide +kernel
theorem dX5_start_68 : decode cX5_start 68 = .ok (.iconst 1, 1) := by decide +kernel
theorem dX5_start_69 : decode cX5_start 69 = .ok (.iload_n 2, 1) := by decide +kernel
theorem dX5_start_70 : decode cX5_start 70 = .ok (.ishl, 1) := by decide +kernel
theorem dX5_start_71 : decode cX5_start 71 = .ok (.iadd, 1) := by decide +kernel
theorem dX5_start_72 : decode cX5_start 72 = .ok (.istore_n 1, 1) := by decide +kernel
theorem dX5_start_73 : decode cX5_start 73 = .ok (.goto (-57), 3) := by decide +kernel
theorem dX5_start_76 : decode cX5_start 76 = .ok (.iinc 1 1, 3) := by decide +kernel
theorem dX5_start_79 : decode cX5_start 79 = .ok (.goto (-63), 3) := by decide +kernel
theorem dX5_start_82 : decode cX5_start 82 = .ok (.aload_n 0, 1) := by decide +kernel
theorem dX5_start_83 : decode cX5_start 83 = .ok (.invokevirtual 74, 3) := by decide +kernel
theorem dX5_start_86 : decode cX5_start 86 = .ok (.ireturn, 1) := by decide +kernel
theorem dX5_makeBlock_0 : decode cX5_makeBlock 0 = .ok (.iload_n 1, 1) := by decide +kernel
theorem dX5_makeBlock_1 : decode cX5_makeBlock 1 = .ok (.istore 4, 2) := by decide +kernel
theorem dX5_makeBlock_3 : decode cX5_makeBlock 3 = .ok (.iload 4, 2) := by decide +kernel
theorem dX5_makeBlock_5 : decode cX5_makeBlock 5 = .ok (.iload_n 1, 1) := by decide +kernel
theorem dX5_makeBlock_6 : decode cX5_makeBlock 6 = .ok (.iconst 1, 1) := by decide +kernel
theorem dX5_makeBlock_7 : decode cX5_makeBlock 7 = .ok (.iload_n 2, 1) := by decide +kernel
theorem dX5_makeBlock_8 : decode cX5_makeBlock 8 = .ok (.ishl, 1) := by decide +kernel
theorem dX5_makeBlock_9 : decode cX5_makeBlock 9 = .ok (.iadd, 1) := by decide +kernel
theorem dX5_makeBlock_10 : decode cX5_makeBlock 10 = .ok (.if_icmp .ge 17, 3) := by decide +kernel
theorem dX5_makeBlock_13 : decode cX5_makeBlock 13 = .ok (.aload_n 0, 1) := by decide +kernel
theorem dX5_makeBlock_14 : decode cX5_makeBlock 14 = .ok (.getfield 17, 3) := by decide +kernel
theorem dX5_makeBlock_17 : decode cX5_makeBlock 17 = .ok (.iload 4, 2) := by decide +kernel
theorem dX5_makeBlock_19 : decode cX5_makeBlock 19 = .ok (.iload_n 1, 1) := by decide +kernel
theorem dX5_makeBlock_20 : decode cX5_makeBlock 20 = .ok (.iastore, 1) := by decide +kernel
theorem dX5_makeBlock_21 : decode cX5_makeBlock 21 = .ok (.iinc 4 1, 3) := by decide +kernel
theorem dX5_makeBlock_24 : decode cX5_makeBlock 24 = .ok (.goto (-21), 3) := by decide +kernel
theorem dX5_makeBlock_27 : decode cX5_makeBlock 27 = .ok (.aload_n 0, 1) := by decide +kernel
theorem dX5_makeBlock_28 : decode cX5_makeBlock 28 = .ok (.getfield 20, 3) := by decide +kernel
theorem dX5_makeBlock_31 : decode cX5_makeBlock 31 = .ok (.iload_n 1, 1) := by decide +kernel
theorem dX5_makeBlock_32 : decode cX5_makeBlock 32 = .ok (.iload_n 2, 1) := by decide +kernel
theorem dX5_makeBlock_33 : decode cX5_makeBlock 33 = .ok (.iastore, 1) := by decide +kernel
theorem dX5_makeBlock_34 : decode cX5_makeBlock 34 = .ok (.aload_n 0, 1) := by decide +kernel
theorem dX5_makeBlock_35 : decode cX5_makeBlock 35 = .ok (.getfield 23, 3) := by decide +kernel
theorem dX5_makeBlock_38 : decode cX5_makeBlock 38 = .ok (.iload_n 1, 1) := by decide +kernel
theorem dX5_makeBlock_39 : decode cX5_makeBlock 39 = .ok (.iload_n 3, 1) := by decide +kernel
theorem dX5_makeBlock_40 : decode cX5_makeBlock 40 = .ok (.bastore, 1) := by decide +kernel
theorem dX5_makeBlock_41 : decode cX5_makeBlock 41 = .ok (.aload_n 0, 1) := by decide +kernel
theorem dX5_makeBlock_42 : decode cX5_makeBlock 42 = .ok (.getfield 26, 3) := by decide +kernel
theorem dX5_makeBlock_45 : decode cX5_makeBlock 45 = .ok (.iload_n 1, 1) := by decide +kernel
theorem dX5_makeBlock_46 : decode cX5_makeBlock 46 = .ok (.iconst (-1), 1) := by decide +kernel
theorem dX5_makeBlock_47 : decode cX5_makeBlock 47 = .ok (.iastore, 1) := by decide +kernel
theorem dX5_makeBlock_48 : decode cX5_makeBlock 48 = .ok (.return_, 1) := by decide +kernel
theorem dX5_isFirst_0 : decode cX5_isFirst 0 = .ok (.aload_n 0, 1) := by decide +kernel
theorem dX5_isFirst_1 : decode cX5_isFirst 1 = .ok (.getfield 58, 3) := by decide +kernel
theorem dX5_isFirst_4 : decode cX5_isFirst 4 = .ok (.ifCond .eq 37, 3) := by decide +kernel
theorem dX5_isFirst_7 : decode cX5_isFirst 7 = .ok (.iload_n 1, 1) := by decide +kernel
theorem dX5_isFirst_8 : decode cX5_isFirst 8 = .ok (.iconst 0, 1) := by decide +kernel
theorem dX5_isFirst_9 : decode cX5_isFirst 9 = .ok (.sipush 255, 3) := by decide +kernel
theorem dX5_isFirst_12 : decode cX5_isFirst 12 = .ok (.invokestatic 62, 3) := by decide +kernel
theorem dX5_isFirst_15 : decode cX5_isFirst 15 = .ok (.ifCond .eq 26, 3) := by decide +kernel
theorem dX5_isFirst_18 : decode cX5_isFirst 18 = .ok (.aload_n 0, 1) := by decide +kernel
theorem dX5_isFirst_19 : decode cX5_isFirst 19 = .ok (.getfield 13, 3) := by decide +kernel
theorem dX5_isFirst_22 : decode cX5_isFirst 22 = .ok (.iload_n 1, 1) := by decide +kernel
theorem dX5_isFirst_23 : decode cX5_isFirst 23 = .ok (.baload, 1) := by decide +kernel
theorem dX5_isFirst_24 : decode cX5_isFirst 24 = .ok (.ifCond .eq 17, 3) := by decide +kernel
theorem dX5_isFirst_27 : decode cX5_isFirst 27 = .ok (.aload_n 0, 1) := by decide +kernel
theorem dX5_isFirst_28 : decode cX5_isFirst 28 = .ok (.getfield 17, 3) := by decide +kernel
theorem dX5_isFirst_31 : decode cX5_isFirst 31 = .ok (.iload_n 1, 1) := by decide +kernel
theorem dX5_isFirst_32 : decode cX5_isFirst 32 = .ok (.iaload, 1) := by decide +kernel
theorem dX5_isFirst_33 : decode cX5_isFirst 33 = .ok (.iload_n 1, 1) := by decide +kernel
theorem dX5_isFirst_34 : decode cX5_isFirst 34 = .ok (.if_icmp .ne 7, 3) := by decide +kernel
theorem dX5_isFirst_37 : decode cX5_isFirst 37 = .ok (.iconst 1, 1) := by decide +kernel
theorem dX5_isFirst_38 : decode cX5_isFirst 38 = .ok (.goto 4, 3) := by decide +kernel
theorem dX5_isFirst_41 : decode cX5_isFirst 41 = .ok (.iconst 0, 1) := by decide +kernel
theorem dX5_isFirst_42 : decode cX5_isFirst 42 = .ok (.ireturn, 1) := by decide +kernel
theorem dX5_isFree_0 : decode cX5_isFree 0 = .ok (.aload_n 0, 1) := by decide +kernel
theorem dX5_isFree_1 : decode cX5_isFree 1 = .ok (.iload_n 1, 1) := by decide +kernel
theorem dX5_isFree_2 : decode cX5_isFree 2 = .ok (.invokevirtual 78, 3) := by decide +kernel
theorem dX5_isFree_5 : decode cX5_isFree 5 = .ok (.ifCond .eq 16, 3) := by decide +kernel
theorem dX5_isFree_8 : decode cX5_isFree 8 = .ok (.aload_n 0, 1) := by decide +kernel
theorem dX5_isFree_9 : decode cX5_isFree 9 = .ok (.getfield 23, 3) := by decide +kernel
theorem dX5_isFree_12 : decode cX5_isFree 12 = .ok (.iload_n 1, 1) := by decide +kernel
theorem dX5_isFree_13 : decode cX5_isFree 13 = .ok (.baload, 1) := by decide +kernel
theorem dX5_isFree_14 : decode cX5_isFree 14 = .ok (.ifCond .ne 7, 3) := by decide +kernel
theorem dX5_isFree_17 : decode cX5_isFree 17 = .ok (.iconst 1, 1) := by decide +kernel
theorem dX5_isFree_18 : decode cX5_isFree 18 = .ok (.goto 4, 3) := by decide +kernel
theorem dX5_isFree_21 : decode cX5_isFree 21 = .ok (.iconst 0, 1) := by decide +kernel
theorem dX5_isFree_22 : decode cX5_isFree 22 = .ok (.ireturn, 1) := by decide +kernel
theorem dX5_freePageCount_0 : decode cX5_freePageCount 0 = .ok (.iconst 0, 1) := by decide +kernel
theorem dX5_freePageCount_1 : decode cX5_freePageCount 1 = .ok (.istore_n 1, 1) := by decide +kernel
theorem dX5_freePageCount_2 : decode cX5_freePageCount 2 = .ok (.iconst 0, 1) := by decide +kernel
theorem dX5_freePageCount_3 : decode cX5_freePageCount 3 = .ok (.istore_n 2, 1) := by decide +kernel
theorem dX5_freePageCount_4 : decode cX5_freePageCount 4 = .ok (.iload_n 2, 1) := by decide +kernel
theorem dX5_freePageCount_5 : decode cX5_freePageCount 5 = .ok (.sipush 256, 3) := by decide +kernel
theorem dX5_freePageCount_8 : decode cX5_freePageCount 8 = .ok (.if_icmp .ge 32, 3) := by decide +kernel
theorem dX5_freePageCount_11 : decode cX5_freePageCount 11 = .ok (.aload_n 0, 1) := by decide +kernel
theorem dX5_freePageCount_12 : decode cX5_freePageCount 12 = .ok (.iload_n 2, 1) := by decide +kernel
theorem dX5_freePageCount_13 : decode cX5_freePageCount 13 = .ok (.invokevirtual 82, 3) := by decide +kernel
theorem dX5_freePageCount_16 : decode cX5_freePageCount 16 = .ok (.ifCond .eq 16, 3) := by decide +kernel
theorem dX5_freePageCount_19 : decode cX5_freePageCount 19 = .ok (.iload_n 1, 1) := by decide +kernel
theorem dX5_freePageCount_20 : decode cX5_freePageCount 20 = .ok (.iconst 1, 1) := by decide +kernel
theorem dX5_freePageCount_21 : decode cX5_freePageCount 21 = .ok (.aload_n 0, 1) := by decide +kernel
theorem dX5_freePageCount_22 : decode cX5_freePageCount 22 = .ok (.getfield 20, 3) := by decide +kernel
theorem dX5_freePageCount_25 : decode cX5_freePageCount 25 = .ok (.iload_n 2, 1) := by decide +kernel
theorem dX5_freePageCount_26 : decode cX5_freePageCount 26 = .ok (.iaload, 1) := by decide +kernel
theorem dX5_freePageCount_27 : decode cX5_freePageCount 27 = .ok (.ishl, 1) := by decide +kernel
theorem dX5_freePageCount_28 : decode cX5_freePageCount 28 = .ok (.iadd, 1) := by decide +kernel
theorem dX5_freePageCount_29 : decode cX5_freePageCount 29 = .ok (.goto 4, 3) := by decide +kernel
theorem dX5_freePageCount_32 : decode cX5_freePageCount 32 = .ok (.iload_n 1, 1) := by decide +kernel
theorem dX5_freePageCount_33 : decode cX5_freePageCount 33 = .ok (.istore_n 1, 1) := by decide +kernel
theorem dX5_freePageCount_34 : decode cX5_freePageCount 34 = .ok (.iinc 2 1, 3) := by decide +kernel
theorem dX5_freePageCount_37 : decode cX5_freePageCount 37 = .ok (.goto (-33), 3) := by decide +kernel
theorem dX5_freePageCount_40 : decode cX5_freePageCount 40 = .ok (.iload_n 1, 1) := by decide +kernel
theorem dX5_freePageCount_41 : decode cX5_freePageCount 41 = .ok (.ireturn, 1) := by decide +kernel
theorem dX5_takeBlock_0 : decode cX5_takeBlock 0 = .ok (.aload_n 0, 1) := by decide +kernel
theorem dX5_takeBlock_1 : decode cX5_takeBlock 1 = .ok (.getfield 50, 3) := by decide +kernel
theorem dX5_takeBlock_4 : decode cX5_takeBlock 4 = .ok (.ifCond .ne 7, 3) := by decide +kernel
theorem dX5_takeBlock_7 : decode cX5_takeBlock 7 = .ok (.iconst 1, 1) := by decide +kernel
theorem dX5_takeBlock_8 : decode cX5_takeBlock 8 = .ok (.goto 4, 3) := by decide +kernel
theorem dX5_takeBlock_11 : decode cX5_takeBlock 11 = .ok (.iconst 0, 1) := by decide +kernel
theorem dX5_takeBlock_12 : decode cX5_takeBlock 12 = .ok (.istore_n 2, 1) := by decide +kernel
theorem dX5_takeBlock_13 : decode cX5_takeBlock 13 = .ok (.aload_n 0, 1) := by decide +kernel
theorem dX5_takeBlock_14 : decode cX5_takeBlock 14 = .ok (.aload_n 0, 1) := by decide +kernel
theorem dX5_takeBlock_15 : decode cX5_takeBlock 15 = .ok (.getfield 50, 3) := by decide +kernel
theorem dX5_takeBlock_18 : decode cX5_takeBlock 18 = .ok (.ifCond .ge 7, 3) := by decide +kernel
theorem dX5_takeBlock_21 : decode cX5_takeBlock 21 = .ok (.iconst (-1), 1) := by decide +kernel
theorem dX5_takeBlock_22 : decode cX5_takeBlock 22 = .ok (.goto 9, 3) := by decide +kernel
theorem dX5_takeBlock_25 : decode cX5_takeBlock 25 = .ok (.aload_n 0, 1) := by decide +kernel
theorem dX5_takeBlock_26 : decode cX5_takeBlock 26 = .ok (.getfield 50, 3) := by decide +kernel
theorem dX5_takeBlock_29 : decode cX5_takeBlock 29 = .ok (.iconst 1, 1) := by decide +kernel
theorem dX5_takeBlock_30 : decode cX5_takeBlock 30 = .ok (.isub, 1) := by decide +kernel
theorem dX5_takeBlock_31 : decode cX5_takeBlock 31 = .ok (.putfield 50, 3) := by decide +kernel
theorem dX5_takeBlock_34 : decode cX5_takeBlock 34 = .ok (.iconst (-1), 1) := by decide +kernel
theorem dX5_takeBlock_35 : decode cX5_takeBlock 35 = .ok (.istore_n 3, 1) := by decide +kernel
theorem dX5_takeBlock_36 : decode cX5_takeBlock 36 = .ok (.iload_n 1, 1) := by decide +kernel
theorem dX5_takeBlock_37 : decode cX5_takeBlock 37 = .ok (.istore 4, 2) := by decide +kernel
theorem dX5_takeBlock_39 : decode cX5_takeBlock 39 = .ok (.iload 4, 2) := by decide +kernel
theorem dX5_takeBlock_41 : decode cX5_takeBlock 41 = .ok (.bipush 6, 2) := by decide +kernel
theorem dX5_takeBlock_43 : decode cX5_takeBlock 43 = .ok (.if_icmp .gt 57, 3) := by decide +kernel
theorem dX5_takeBlock_46 : decode cX5_takeBlock 46 = .ok (.iload_n 3, 1) := by decide +kernel
theorem dX5_takeBlock_47 : decode cX5_takeBlock 47 = .ok (.ifCond .ge 53, 3) := by decide +kernel
theorem dX5_takeBlock_50 : decode cX5_takeBlock 50 = .ok (.sipush 255, 3) := by decide +kernel
theorem dX5_takeBlock_53 : decode cX5_takeBlock 53 = .ok (.istore 5, 2) := by decide +kernel
theorem dX5_takeBlock_55 : decode cX5_takeBlock 55 = .ok (.iload 5, 2) := by decide +kernel
theorem dX5_takeBlock_57 : decode cX5_takeBlock 57 = .ok (.ifCond .lt 37, 3) := by decide +kernel
theorem dX5_takeBlock_60 : decode cX5_takeBlock 60 = .ok (.aload_n 0, 1) := by decide +kernel
theorem dX5_takeBlock_61 : decode cX5_takeBlock 61 = .ok (.iload 5, 2) := by decide +kernel
theorem dX5_takeBlock_63 : decode cX5_takeBlock 63 = .ok (.invokevirtual 82, 3) := by decide +kernel
theorem dX5_takeBlock_66 : decode cX5_takeBlock 66 = .ok (.ifCond .eq 20, 3) := by decide +kernel
theorem dX5_takeBlock_69 : decode cX5_takeBlock 69 = .ok (.aload_n 0, 1) := by decide +kernel
theorem dX5_takeBlock_70 : decode cX5_takeBlock 70 = .ok (.getfield 20, 3) := by decide +kernel
theorem dX5_takeBlock_73 : decode cX5_takeBlock 73 = .ok (.iload 5, 2) := by decide +kernel
theorem dX5_takeBlock_75 : decode cX5_takeBlock 75 = .ok (.iaload, 1) := by decide +kernel
theorem dX5_takeBlock_76 : decode cX5_takeBlock 76 = .ok (.iload 4, 2) := by decide +kernel
theorem dX5_takeBlock_78 : decode cX5_takeBlock 78 = .ok (.if_icmp .ne 8, 3) := by decide +kernel
theorem dX5_takeBlock_81 : decode cX5_takeBlock 81 = .ok (.iload 5, 2) := by decide +kernel
theorem dX5_takeBlock_83 : decode cX5_takeBlock 83 = .ok (.goto 4, 3) := by decide +kernel
theorem dX5_takeBlock_86 : decode cX5_takeBlock 86 = .ok (.iload_n 3, 1) := by decide +kernel
theorem dX5_takeBlock_87 : decode cX5_takeBlock 87 = .ok (.istore_n 3, 1) := by decide +kernel
theorem dX5_takeBlock_88 : decode cX5_takeBlock 88 = .ok (.iinc 5 (-1), 3) := by decide +kernel
theorem dX5_takeBlock_91 : decode cX5_takeBlock 91 = .ok (.goto (-36), 3) := by decide +kernel
theorem dX5_takeBlock_94 : decode cX5_takeBlock 94 = .ok (.iinc 4 1, 3) := by decide +kernel
theorem dX5_takeBlock_97 : decode cX5_takeBlock 97 = .ok (.goto (-58), 3) := by decide +kernel
theorem dX5_takeBlock_100 : decode cX5_takeBlock 100 = .ok (.iload_n 2, 1) := by decide +kernel
theorem dX5_takeBlock_101 : decode cX5_takeBlock 101 = .ok (.ifCond .ne 7, 3) := by decide +kernel
theorem dX5_takeBlock_104 : decode cX5_takeBlock 104 = .ok (.iload_n 3, 1) := by decide +kernel
theorem dX5_takeBlock_105 : decode cX5_takeBlock 105 = .ok (.ifCond .ge 15, 3) := by decide +kernel
theorem dX5_takeBlock_108 : decode cX5_takeBlock 108 = .ok (.aload_n 0, 1) := by decide +kernel
theorem dX5_takeBlock_109 : decode cX5_takeBlock 109 = .ok (.dup, 1) := by decide +kernel
theorem dX5_takeBlock_110 : decode cX5_takeBlock 110 = .ok (.getfield 85, 3) := by decide +kernel
theorem dX5_takeBlock_113 : decode cX5_takeBlock 113 = .ok (.iconst 1, 1) := by decide +kernel
theorem dX5_takeBlock_114 : decode cX5_takeBlock 114 = .ok (.iadd, 1) := by decide +kernel
theorem dX5_takeBlock_115 : decode cX5_takeBlock 115 = .ok (.putfield 85, 3) := by decide +kernel
theorem dX5_takeBlock_118 : decode cX5_takeBlock 118 = .ok (.iconst (-1), 1) := by decide +kernel
theorem dX5_takeBlock_119 : decode cX5_takeBlock 119 = .ok (.ireturn, 1) := by decide +kernel
theorem dX5_takeBlock_120 : decode cX5_takeBlock 120 = .ok (.aload_n 0, 1) := by decide +kernel
theorem dX5_takeBlock_121 : decode cX5_takeBlock 121 = .ok (.getfield 20, 3) := by decide +kernel
theorem dX5_takeBlock_124 : decode cX5_takeBlock 124 = .ok (.iload_n 3, 1) := by decide +kernel
theorem dX5_takeBlock_125 : decode cX5_takeBlock 125 = .ok (.iaload, 1) := by decide +kernel
theorem dX5_takeBlock_126 : decode cX5_takeBlock 126 = .ok (.istore 4, 2) := by decide +kernel
theorem dX5_takeBlock_128 : decode cX5_takeBlock 128 = .ok (.iload 4, 2) := by decide +kernel
theorem dX5_takeBlock_130 : decode cX5_takeBlock 130 = .ok (.iload_n 1, 1) := by decide +kernel
theorem dX5_takeBlock_131 : decode cX5_takeBlock 131 = .ok (.if_icmp .le 22, 3) := by decide +kernel
theorem dX5_takeBlock_134 : decode cX5_takeBlock 134 = .ok (.iinc 4 (-1), 3) := by decide +kernel
theorem dX5_takeBlock_137 : decode cX5_takeBlock 137 = .ok (.aload_n 0, 1) := by decide +kernel
theorem dX5_takeBlock_138 : decode cX5_takeBlock 138 = .ok (.iload_n 3, 1) := by decide +kernel
theorem dX5_takeBlock_139 : decode cX5_takeBlock 139 = .ok (.iconst 1, 1) := by decide +kernel
theorem dX5_takeBlock_140 : decode cX5_takeBlock 140 = .ok (.iload 4, 2) := by decide +kernel
theorem dX5_takeBlock_142 : decode cX5_takeBlock 142 = .ok (.ishl, 1) := by decide +kernel
theorem dX5_takeBlock_143 : decode cX5_takeBlock 143 = .ok (.iadd, 1) := by decide +kernel
theorem dX5_takeBlock_144 : decode cX5_takeBlock 144 = .ok (.iload 4, 2) := by decide +kernel
theorem dX5_takeBlock_146 : decode cX5_takeBlock 146 = .ok (.iconst 0, 1) := by decide +kernel
theorem dX5_takeBlock_147 : decode cX5_takeBlock 147 = .ok (.invokevirtual 70, 3) := by decide +kernel
theorem dX5_takeBlock_150 : decode cX5_takeBlock 150 = .ok (.goto (-22), 3) := by decide +kernel
theorem dX5_takeBlock_153 : decode cX5_takeBlock 153 = .ok (.aload_n 0, 1) := by decide +kernel
theorem dX5_takeBlock_154 : decode cX5_takeBlock 154 = .ok (.iload_n 3, 1) := by decide +kernel
theorem dX5_takeBlock_155 : decode cX5_takeBlock 155 = .ok (.iload_n 1, 1) := by decide +kernel
theorem dX5_takeBlock_156 : decode cX5_takeBlock 156 = .ok (.iconst 1, 1) := by decide +kernel
theorem dX5_takeBlock_157 : decode cX5_takeBlock 157 = .ok (.invokevirtual 70, 3) := by decide +kernel
theorem dX5_takeBlock_160 : decode cX5_takeBlock 160 = .ok (.aload_n 0, 1) := by decide +kernel
theorem dX5_takeBlock_161 : decode cX5_takeBlock 161 = .ok (.dup, 1) := by decide +kernel
theorem dX5_takeBlock_162 : decode cX5_takeBlock 162 = .ok (.getfield 88, 3) := by decide +kernel
theorem dX5_takeBlock_165 : decode cX5_takeBlock 165 = .ok (.iconst 1, 1) := by decide +kernel
theorem dX5_takeBlock_166 : decode cX5_takeBlock 166 = .ok (.iadd, 1) := by decide +kernel
theorem dX5_takeBlock_167 : decode cX5_takeBlock 167 = .ok (.putfield 88, 3) := by decide +kernel
theorem dX5_takeBlock_170 : decode cX5_takeBlock 170 = .ok (.aload_n 0, 1) := by decide +kernel
theorem dX5_takeBlock_171 : decode cX5_takeBlock 171 = .ok (.invokevirtual 74, 3) := by decide +kernel
theorem dX5_takeBlock_174 : decode cX5_takeBlock 174 = .ok (.aload_n 0, 1) := by decide +kernel
theorem dX5_takeBlock_175 : decode cX5_takeBlock 175 = .ok (.invokevirtual 91, 3) := by decide +kernel
theorem dX5_takeBlock_178 : decode cX5_takeBlock 178 = .ok (.isub, 1) := by decide +kernel
theorem dX5_takeBlock_179 : decode cX5_takeBlock 179 = .ok (.istore 5, 2) := by decide +kernel
theorem dX5_takeBlock_181 : decode cX5_takeBlock 181 = .ok (.aload_n 0, 1) := by decide +kernel
theorem dX5_takeBlock_182 : decode cX5_takeBlock 182 = .ok (.iload 5, 2) := by decide +kernel
theorem dX5_takeBlock_184 : decode cX5_takeBlock 184 = .ok (.aload_n 0, 1) := by decide +kernel
theorem dX5_takeBlock_185 : decode cX5_takeBlock 185 = .ok (.getfield 94, 3) := by decide +kernel
theorem dX5_takeBlock_188 : decode cX5_takeBlock 188 = .ok (.if_icmp .le 8, 3) := by decide +kernel
theorem dX5_takeBlock_191 : decode cX5_takeBlock 191 = .ok (.iload 5, 2) := by decide +kernel
theorem dX5_takeBlock_193 : decode cX5_takeBlock 193 = .ok (.goto 7, 3) := by decide +kernel
theorem dX5_takeBlock_196 : decode cX5_takeBlock 196 = .ok (.aload_n 0, 1) := by decide +kernel
theorem dX5_takeBlock_197 : decode cX5_takeBlock 197 = .ok (.getfield 94, 3) := by decide +kernel
theorem dX5_takeBlock_200 : decode cX5_takeBlock 200 = .ok (.putfield 94, 3) := by decide +kernel
theorem dX5_takeBlock_203 : decode cX5_takeBlock 203 = .ok (.iload_n 3, 1) := by decide +kernel
theorem dX5_takeBlock_204 : decode cX5_takeBlock 204 = .ok (.ireturn, 1) := by decide +kernel
theorem dX5_giveBlock_0 : decode cX5_giveBlock 0 = .ok (.iconst 1, 1) := by decide +kernel
theorem dX5_giveBlock_1 : decode cX5_giveBlock 1 = .ok (.aload_n 0, 1) := by decide +kernel
theorem dX5_giveBlock_2 : decode cX5_giveBlock 2 = .ok (.getfield 20, 3) := by decide +kernel
theorem dX5_giveBlock_5 : decode cX5_giveBlock 5 = .ok (.iload_n 1, 1) := by decide +kernel
theorem dX5_giveBlock_6 : decode cX5_giveBlock 6 = .ok (.iaload, 1) := by decide +kernel
theorem dX5_giveBlock_7 : decode cX5_giveBlock 7 = .ok (.ishl, 1) := by decide +kernel
theorem dX5_giveBlock_8 : decode cX5_giveBlock 8 = .ok (.istore_n 2, 1) := by decide +kernel
theorem dX5_giveBlock_9 : decode cX5_giveBlock 9 = .ok (.iload_n 1, 1) := by decide +kernel
theorem dX5_giveBlock_10 : decode cX5_giveBlock 10 = .ok (.istore_n 3, 1) := by decide +kernel
theorem dX5_giveBlock_11 : decode cX5_giveBlock 11 = .ok (.aload_n 0, 1) := by decide +kernel
theorem dX5_giveBlock_12 : decode cX5_giveBlock 12 = .ok (.getfield 20, 3) := by decide +kernel
theorem dX5_giveBlock_15 : decode cX5_giveBlock 15 = .ok (.iload_n 1, 1) := by decide +kernel
theorem dX5_giveBlock_16 : decode cX5_giveBlock 16 = .ok (.iaload, 1) := by decide +kernel
theorem dX5_giveBlock_17 : decode cX5_giveBlock 17 = .ok (.istore 4, 2) := by decide +kernel
theorem dX5_giveBlock_19 : decode cX5_giveBlock 19 = .ok (.aload_n 0, 1) := by decide +kernel
theorem dX5_giveBlock_20 : decode cX5_giveBlock 20 = .ok (.iload_n 3, 1) := by decide +kernel
theorem dX5_giveBlock_21 : decode cX5_giveBlock 21 = .ok (.iload 4, 2) := by decide +kernel
theorem dX5_giveBlock_23 : decode cX5_giveBlock 23 = .ok (.iconst 0, 1) := by decide +kernel
theorem dX5_giveBlock_24 : decode cX5_giveBlock 24 = .ok (.invokevirtual 70, 3) := by decide +kernel
theorem dX5_giveBlock_27 : decode cX5_giveBlock 27 = .ok (.iconst 1, 1) := by decide +kernel
theorem dX5_giveBlock_28 : decode cX5_giveBlock 28 = .ok (.istore 5, 2) := by decide +kernel
theorem dX5_giveBlock_30 : decode cX5_giveBlock 30 = .ok (.iload 5, 2) := by decide +kernel
theorem dX5_giveBlock_32 : decode cX5_giveBlock 32 = .ok (.ifCond .eq 78, 3) := by decide +kernel
theorem dX5_giveBlock_35 : decode cX5_giveBlock 35 = .ok (.iload_n 3, 1) := by decide +kernel
theorem dX5_giveBlock_36 : decode cX5_giveBlock 36 = .ok (.iconst 1, 1) := by decide +kernel
theorem dX5_giveBlock_37 : decode cX5_giveBlock 37 = .ok (.iload 4, 2) := by decide +kernel
theorem dX5_giveBlock_39 : decode cX5_giveBlock 39 = .ok (.ishl, 1) := by decide +kernel
theorem dX5_giveBlock_40 : decode cX5_giveBlock 40 = .ok (.ixor, 1) := by decide +kernel
theorem dX5_giveBlock_41 : decode cX5_giveBlock 41 = .ok (.istore 6, 2) := by decide +kernel
theorem dX5_giveBlock_43 : decode cX5_giveBlock 43 = .ok (.iload 4, 2) := by decide +kernel
theorem dX5_giveBlock_45 : decode cX5_giveBlock 45 = .ok (.bipush 6, 2) := by decide +kernel
theorem dX5_giveBlock_47 : decode cX5_giveBlock 47 = .ok (.if_icmp .ge 28, 3) := by decide +kernel
theorem dX5_giveBlock_50 : decode cX5_giveBlock 50 = .ok (.aload_n 0, 1) := by decide +kernel
theorem dX5_giveBlock_51 : decode cX5_giveBlock 51 = .ok (.iload 6, 2) := by decide +kernel
theorem dX5_giveBlock_53 : decode cX5_giveBlock 53 = .ok (.invokevirtual 82, 3) := by decide +kernel
theorem dX5_giveBlock_56 : decode cX5_giveBlock 56 = .ok (.ifCond .eq 19, 3) := by decide +kernel
theorem dX5_giveBlock_59 : decode cX5_giveBlock 59 = .ok (.aload_n 0, 1) := by decide +kernel
theorem dX5_giveBlock_60 : decode cX5_giveBlock 60 = .ok (.getfield 20, 3) := by decide +kernel
theorem dX5_giveBlock_63 : decode cX5_giveBlock 63 = .ok (.iload 6, 2) := by decide +kernel
theorem dX5_giveBlock_65 : decode cX5_giveBlock 65 = .ok (.iaload, 1) := by decide +kernel
theorem dX5_giveBlock_66 : decode cX5_giveBlock 66 = .ok (.iload 4, 2) := by decide +kernel
theorem dX5_giveBlock_68 : decode cX5_giveBlock 68 = .ok (.if_icmp .ne 7, 3) := by decide +kernel
theorem dX5_giveBlock_71 : decode cX5_giveBlock 71 = .ok (.iconst 1, 1) := by decide +kernel
theorem dX5_giveBlock_72 : decode cX5_giveBlock 72 = .ok (.goto 4, 3) := by decide +kernel
theorem dX5_giveBlock_75 : decode cX5_giveBlock 75 = .ok (.iconst 0, 1) := by decide +kernel
theorem dX5_giveBlock_76 : decode cX5_giveBlock 76 = .ok (.istore 5, 2) := by decide +kernel
theorem dX5_giveBlock_78 : decode cX5_giveBlock 78 = .ok (.iload 5, 2) := by decide +kernel
theorem dX5_giveBlock_80 : decode cX5_giveBlock 80 = .ok (.ifCond .eq 27, 3) := by decide +kernel
theorem dX5_giveBlock_83 : decode cX5_giveBlock 83 = .ok (.iload 6, 2) := by decide +kernel
theorem dX5_giveBlock_85 : decode cX5_giveBlock 85 = .ok (.iload_n 3, 1) := by decide +kernel
theorem dX5_giveBlock_86 : decode cX5_giveBlock 86 = .ok (.if_icmp .ge 8, 3) := by decide +kernel
theorem dX5_giveBlock_89 : decode cX5_giveBlock 89 = .ok (.iload 6, 2) := by decide +kernel
theorem dX5_giveBlock_91 : decode cX5_giveBlock 91 = .ok (.goto 4, 3) := by decide +kernel
theorem dX5_giveBlock_94 : decode cX5_giveBlock 94 = .ok (.iload_n 3, 1) := by decide +kernel
theorem dX5_giveBlock_95 : decode cX5_giveBlock 95 = .ok (.istore_n 3, 1) := by decide +kernel
theorem dX5_giveBlock_96 : decode cX5_giveBlock 96 = .ok (.iinc 4 1, 3) := by decide +kernel
theorem dX5_giveBlock_99 : decode cX5_giveBlock 99 = .ok (.aload_n 0, 1) := by decide +kernel
theorem dX5_giveBlock_100 : decode cX5_giveBlock 100 = .ok (.iload_n 3, 1) := by decide +kernel
theorem dX5_giveBlock_101 : decode cX5_giveBlock 101 = .ok (.iload 4, 2) := by decide +kernel
theorem dX5_giveBlock_103 : decode cX5_giveBlock 103 = .ok (.iconst 0, 1) := by decide +kernel
theorem dX5_giveBlock_104 : decode cX5_giveBlock 104 = .ok (.invokevirtual 70, 3) := by decide +kernel
theorem dX5_giveBlock_107 : decode cX5_giveBlock 107 = .ok (.goto (-77), 3) := by decide +kernel
theorem dX5_giveBlock_110 : decode cX5_giveBlock 110 = .ok (.aload_n 0, 1) := by decide +kernel
theorem dX5_giveBlock_111 : decode cX5_giveBlock 111 = .ok (.dup, 1) := by decide +kernel
theorem dX5_giveBlock_112 : decode cX5_giveBlock 112 = .ok (.getfield 97, 3) := by decide +kernel
theorem dX5_giveBlock_115 : decode cX5_giveBlock 115 = .ok (.iconst 1, 1) := by decide +kernel
theorem dX5_giveBlock_116 : decode cX5_giveBlock 116 = .ok (.iadd, 1) := by decide +kernel
theorem dX5_giveBlock_117 : decode cX5_giveBlock 117 = .ok (.putfield 97, 3) := by decide +kernel
theorem dX5_giveBlock_120 : decode cX5_giveBlock 120 = .ok (.iload_n 2, 1) := by decide +kernel
theorem dX5_giveBlock_121 : decode cX5_giveBlock 121 = .ok (.ireturn, 1) := by decide +kernel
theorem dX5_pages_0 : decode cX5_pages 0 = .ok (.aload_n 0, 1) := by decide +kernel
theorem dX5_pages_1 : decode cX5_pages 1 = .ok (.getfield 58, 3) := by decide +kernel
theorem dX5_pages_4 : decode cX5_pages 4 = .ok (.ifCond .eq 21, 3) := by decide +kernel
theorem dX5_pages_7 : decode cX5_pages 7 = .ok (.iload_n 1, 1) := by decide +kernel
theorem dX5_pages_8 : decode cX5_pages 8 = .ok (.iconst 0, 1) := by decide +kernel
theorem dX5_pages_9 : decode cX5_pages 9 = .ok (.bipush 6, 2) := by decide +kernel
theorem dX5_pages_11 : decode cX5_pages 11 = .ok (.invokestatic 62, 3) := by decide +kernel
theorem dX5_pages_14 : decode cX5_pages 14 = .ok (.ifCond .eq 11, 3) := by decide +kernel
theorem dX5_pages_17 : decode cX5_pages 17 = .ok (.aload_n 0, 1) := by decide +kernel
theorem dX5_pages_18 : decode cX5_pages 18 = .ok (.iload_n 1, 1) := by decide +kernel
theorem dX5_pages_19 : decode cX5_pages 19 = .ok (.invokevirtual 100, 3) := by decide +kernel
theorem dX5_pages_22 : decode cX5_pages 22 = .ok (.goto 4, 3) := by decide +kernel
theorem dX5_pages_25 : decode cX5_pages 25 = .ok (.iconst (-1), 1) := by decide +kernel
theorem dX5_pages_26 : decode cX5_pages 26 = .ok (.ireturn, 1) := by decide +kernel
theorem dX5_faultOfPage_0 : decode cX5_faultOfPage 0 = .ok (.aload_n 0, 1) := by decide +kernel
theorem dX5_faultOfPage_1 : decode cX5_faultOfPage 1 = .ok (.iload_n 1, 1) := by decide +kernel
theorem dX5_faultOfPage_2 : decode cX5_faultOfPage 2 = .ok (.invokevirtual 78, 3) := by decide +kernel
theorem dX5_faultOfPage_5 : decode cX5_faultOfPage 5 = .ok (.ifCond .ne 6, 3) := by decide +kernel
theorem dX5_faultOfPage_8 : decode cX5_faultOfPage 8 = .ok (.bipush (-2), 2) := by decide +kernel
theorem dX5_faultOfPage_10 : decode cX5_faultOfPage 10 = .ok (.ireturn, 1) := by decide +kernel
theorem dX5_faultOfPage_11 : decode cX5_faultOfPage 11 = .ok (.aload_n 0, 1) := by decide +kernel
theorem dX5_faultOfPage_12 : decode cX5_faultOfPage 12 = .ok (.getfield 23, 3) := by decide +kernel
theorem dX5_faultOfPage_15 : decode cX5_faultOfPage 15 = .ok (.iload_n 1, 1) := by decide +kernel
theorem dX5_faultOfPage_16 : decode cX5_faultOfPage 16 = .ok (.baload, 1) := by decide +kernel
theorem dX5_faultOfPage_17 : decode cX5_faultOfPage 17 = .ok (.ifCond .ne 8, 3) := by decide +kernel
theorem dX5_faultOfPage_20 : decode cX5_faultOfPage 20 = .ok (.bipush (-3), 2) := by decide +kernel
theorem dX5_faultOfPage_22 : decode cX5_faultOfPage 22 = .ok (.goto 18, 3) := by decide +kernel
theorem dX5_faultOfPage_25 : decode cX5_faultOfPage 25 = .ok (.aload_n 0, 1) := by decide +kernel
theorem dX5_faultOfPage_26 : decode cX5_faultOfPage 26 = .ok (.getfield 26, 3) := by decide +kernel
theorem dX5_faultOfPage_29 : decode cX5_faultOfPage 29 = .ok (.iload_n 1, 1) := by decide +kernel
theorem dX5_faultOfPage_30 : decode cX5_faultOfPage 30 = .ok (.iaload, 1) := by decide +kernel
theorem dX5_faultOfPage_31 : decode cX5_faultOfPage 31 = .ok (.ifCond .lt 8, 3) := by decide +kernel
theorem dX5_faultOfPage_34 : decode cX5_faultOfPage 34 = .ok (.bipush (-2), 2) := by decide +kernel
theorem dX5_faultOfPage_36 : decode cX5_faultOfPage 36 = .ok (.goto 4, 3) := by decide +kernel
theorem dX5_faultOfPage_39 : decode cX5_faultOfPage 39 = .ok (.iconst 0, 1) := by decide +kernel
theorem dX5_faultOfPage_40 : decode cX5_faultOfPage 40 = .ok (.ireturn, 1) := by decide +kernel
theorem dX5_freePages_0 : decode cX5_freePages 0 = .ok (.aload_n 0, 1) := by decide +kernel
theorem dX5_freePages_1 : decode cX5_freePages 1 = .ok (.iload_n 1, 1) := by decide +kernel
theorem dX5_freePages_2 : decode cX5_freePages 2 = .ok (.invokevirtual 104, 3) := by decide +kernel
theorem dX5_freePages_5 : decode cX5_freePages 5 = .ok (.istore_n 2, 1) := by decide +kernel
theorem dX5_freePages_6 : decode cX5_freePages 6 = .ok (.iload_n 2, 1) := by decide +kernel
theorem dX5_freePages_7 : decode cX5_freePages 7 = .ok (.ifCond .ge 7, 3) := by decide +kernel
theorem dX5_freePages_10 : decode cX5_freePages 10 = .ok (.iload_n 2, 1) := by decide +kernel
theorem dX5_freePages_11 : decode cX5_freePages 11 = .ok (.goto 8, 3) := by decide +kernel
theorem dX5_freePages_14 : decode cX5_freePages 14 = .ok (.aload_n 0, 1) := by decide +kernel
theorem dX5_freePages_15 : decode cX5_freePages 15 = .ok (.iload_n 1, 1) := by decide +kernel
theorem dX5_freePages_16 : decode cX5_freePages 16 = .ok (.invokevirtual 107, 3) := by decide +kernel
theorem dX5_freePages_19 : decode cX5_freePages 19 = .ok (.ireturn, 1) := by decide +kernel
theorem dX5_addCache_0 : decode cX5_addCache 0 = .ok (.aload_n 0, 1) := by decide +kernel
theorem dX5_addCache_1 : decode cX5_addCache 1 = .ok (.getfield 35, 3) := by decide +kernel
theorem dX5_addCache_4 : decode cX5_addCache 4 = .ok (.aload_n 0, 1) := by decide +kernel
theorem dX5_addCache_5 : decode cX5_addCache 5 = .ok (.getfield 110, 3) := by decide +kernel
theorem dX5_addCache_8 : decode cX5_addCache 8 = .ok (.iload_n 1, 1) := by decide +kernel
theorem dX5_addCache_9 : decode cX5_addCache 9 = .ok (.iastore, 1) := by decide +kernel
theorem dX5_addCache_10 : decode cX5_addCache 10 = .ok (.aload_n 0, 1) := by decide +kernel
theorem dX5_addCache_11 : decode cX5_addCache 11 = .ok (.getfield 38, 3) := by decide +kernel
theorem dX5_addCache_14 : decode cX5_addCache 14 = .ok (.aload_n 0, 1) := by decide +kernel
theorem dX5_addCache_15 : decode cX5_addCache 15 = .ok (.getfield 110, 3) := by decide +kernel
theorem dX5_addCache_18 : decode cX5_addCache 18 = .ok (.iload_n 2, 1) := by decide +kernel
theorem dX5_addCache_19 : decode cX5_addCache 19 = .ok (.iastore, 1) := by decide +kernel
theorem dX5_addCache_20 : decode cX5_addCache 20 = .ok (.aload_n 0, 1) := by decide +kernel
theorem dX5_addCache_21 : decode cX5_addCache 21 = .ok (.getfield 41, 3) := by decide +kernel
theorem dX5_addCache_24 : decode cX5_addCache 24 = .ok (.aload_n 0, 1) := by decide +kernel
theorem dX5_addCache_25 : decode cX5_addCache 25 = .ok (.getfield 110, 3) := by decide +kernel
theorem dX5_addCache_28 : decode cX5_addCache 28 = .ok (.iload_n 1, 1) := by decide +kernel
theorem dX5_addCache_29 : decode cX5_addCache 29 = .ok (.iload_n 2, 1) := by decide +kernel
theorem dX5_addCache_30 : decode cX5_addCache 30 = .ok (.iadd, 1) := by decide +kernel
theorem dX5_addCache_31 : decode cX5_addCache 31 = .ok (.iconst 1, 1) := by decide +kernel
theorem dX5_addCache_32 : decode cX5_addCache 32 = .ok (.isub, 1) := by decide +kernel
theorem dX5_addCache_33 : decode cX5_addCache 33 = .ok (.iload_n 2, 1) := by decide +kernel
theorem dX5_addCache_34 : decode cX5_addCache 34 = .ok (.idiv, 1) := by decide +kernel
theorem dX5_addCache_35 : decode cX5_addCache 35 = .ok (.iload_n 2, 1) := by decide +kernel
theorem dX5_addCache_36 : decode cX5_addCache 36 = .ok (.imul, 1) := by decide +kernel
theorem dX5_addCache_37 : decode cX5_addCache 37 = .ok (.iastore, 1) := by decide +kernel
theorem dX5_addCache_38 : decode cX5_addCache 38 = .ok (.iconst 0, 1) := by decide +kernel
theorem dX5_addCache_39 : decode cX5_addCache 39 = .ok (.istore_n 3, 1) := by decide +kernel
theorem dX5_addCache_40 : decode cX5_addCache 40 = .ok (.iload_n 3, 1) := by decide +kernel
theorem dX5_addCache_41 : decode cX5_addCache 41 = .ok (.iconst 4, 1) := by decide +kernel
theorem dX5_addCache_42 : decode cX5_addCache 42 = .ok (.if_icmp .ge 27, 3) := by decide +kernel
theorem dX5_addCache_45 : decode cX5_addCache 45 = .ok (.bipush 64, 2) := by decide +kernel
theorem dX5_addCache_47 : decode cX5_addCache 47 = .ok (.iload_n 3, 1) := by decide +kernel
theorem dX5_addCache_48 : decode cX5_addCache 48 = .ok (.ishl, 1) := by decide +kernel
theorem dX5_addCache_49 : decode cX5_addCache 49 = .ok (.aload_n 0, 1) := by decide +kernel
theorem dX5_addCache_50 : decode cX5_addCache 50 = .ok (.getfield 41, 3) := by decide +kernel
theorem dX5_addCache_53 : decode cX5_addCache 53 = .ok (.aload_n 0, 1) := by decide +kernel
theorem dX5_addCache_54 : decode cX5_addCache 54 = .ok (.getfield 110, 3) := by decide +kernel
theorem dX5_addCache_57 : decode cX5_addCache 57 = .ok (.iaload, 1) := by decide +kernel
theorem dX5_addCache_58 : decode cX5_addCache 58 = .ok (.idiv, 1) := by decide +kernel
theorem dX5_addCache_59 : decode cX5_addCache 59 = .ok (.iconst 4, 1) := by decide +kernel
theorem dX5_addCache_60 : decode cX5_addCache 60 = .ok (.if_icmp .ge 9, 3) := by decide +kernel
theorem dX5_addCache_63 : decode cX5_addCache 63 = .ok (.iinc 3 1, 3) := by decide +kernel
theorem dX5_addCache_66 : decode cX5_addCache 66 = .ok (.goto (-26), 3) := by decide +kernel
theorem dX5_addCache_69 : decode cX5_addCache 69 = .ok (.aload_n 0, 1) := by decide +kernel
theorem dX5_addCache_70 : decode cX5_addCache 70 = .ok (.getfield 44, 3) := by decide +kernel
theorem dX5_addCache_73 : decode cX5_addCache 73 = .ok (.aload_n 0, 1) := by decide +kernel
theorem dX5_addCache_74 : decode cX5_addCache 74 = .ok (.getfield 110, 3) := by decide +kernel
theorem dX5_addCache_77 : decode cX5_addCache 77 = .ok (.iload_n 3, 1) := by decide +kernel
theorem dX5_addCache_78 : decode cX5_addCache 78 = .ok (.iastore, 1) := by decide +kernel
theorem dX5_addCache_79 : decode cX5_addCache 79 = .ok (.aload_n 0, 1) := by decide +kernel
theorem dX5_addCache_80 : decode cX5_addCache 80 = .ok (.getfield 47, 3) := by decide +kernel
theorem dX5_addCache_83 : decode cX5_addCache 83 = .ok (.aload_n 0, 1) := by decide +kernel
theorem dX5_addCache_84 : decode cX5_addCache 84 = .ok (.getfield 110, 3) := by decide +kernel
theorem dX5_addCache_87 : decode cX5_addCache 87 = .ok (.iconst (-1), 1) := by decide +kernel
theorem dX5_addCache_88 : decode cX5_addCache 88 = .ok (.iastore, 1) := by decide +kernel
theorem dX5_addCache_89 : decode cX5_addCache 89 = .ok (.aload_n 0, 1) := by decide +kernel
theorem dX5_addCache_90 : decode cX5_addCache 90 = .ok (.dup, 1) := by decide +kernel
theorem dX5_addCache_91 : decode cX5_addCache 91 = .ok (.getfield 110, 3) := by decide +kernel
theorem dX5_addCache_94 : decode cX5_addCache 94 = .ok (.iconst 1, 1) := by decide +kernel
theorem dX5_addCache_95 : decode cX5_addCache 95 = .ok (.iadd, 1) := by decide +kernel
theorem dX5_addCache_96 : decode cX5_addCache 96 = .ok (.putfield 110, 3) := by decide +kernel
theorem dX5_addCache_99 : decode cX5_addCache 99 = .ok (.aload_n 0, 1) := by decide +kernel
theorem dX5_addCache_100 : decode cX5_addCache 100 = .ok (.getfield 110, 3) := by decide +kernel
theorem dX5_addCache_103 : decode cX5_addCache 103 = .ok (.iconst 1, 1) := by decide +kernel
theorem dX5_addCache_104 : decode cX5_addCache 104 = .ok (.isub, 1) := by decide +kernel
theorem dX5_addCache_105 : decode cX5_addCache 105 = .ok (.ireturn, 1) := by decide +kernel
theorem dX5_cache_0 : decode cX5_cache 0 = .ok (.aload_n 0, 1) := by decide +kernel
theorem dX5_cache_1 : decode cX5_cache 1 = .ok (.getfield 58, 3) := by decide +kernel
theorem dX5_cache_4 : decode cX5_cache 4 = .ok (.ifCond .eq 45, 3) := by decide +kernel
theorem dX5_cache_7 : decode cX5_cache 7 = .ok (.iload_n 1, 1) := by decide +kernel
theorem dX5_cache_8 : decode cX5_cache 8 = .ok (.iconst 1, 1) := by decide +kernel
theorem dX5_cache_9 : decode cX5_cache 9 = .ok (.sipush 1024, 3) := by decide +kernel
theorem dX5_cache_12 : decode cX5_cache 12 = .ok (.invokestatic 62, 3) := by decide +kernel
theorem dX5_cache_15 : decode cX5_cache 15 = .ok (.ifCond .eq 34, 3) := by decide +kernel
theorem dX5_cache_18 : decode cX5_cache 18 = .ok (.iload_n 2, 1) := by decide +kernel
theorem dX5_cache_19 : decode cX5_cache 19 = .ok (.iconst 1, 1) := by decide +kernel
theorem dX5_cache_20 : decode cX5_cache 20 = .ok (.bipush 64, 2) := by decide +kernel
theorem dX5_cache_22 : decode cX5_cache 22 = .ok (.invokestatic 62, 3) := by decide +kernel
theorem dX5_cache_25 : decode cX5_cache 25 = .ok (.ifCond .eq 24, 3) := by decide +kernel
theorem dX5_cache_28 : decode cX5_cache 28 = .ok (.iload_n 2, 1) := by decide +kernel
theorem dX5_cache_29 : decode cX5_cache 29 = .ok (.iload_n 2, 1) := by decide +kernel
theorem dX5_cache_30 : decode cX5_cache 30 = .ok (.iconst 1, 1) := by decide +kernel
theorem dX5_cache_31 : decode cX5_cache 31 = .ok (.isub, 1) := by decide +kernel
theorem dX5_cache_32 : decode cX5_cache 32 = .ok (.iand, 1) := by decide +kernel
theorem dX5_cache_33 : decode cX5_cache 33 = .ok (.ifCond .ne 16, 3) := by decide +kernel
theorem dX5_cache_36 : decode cX5_cache 36 = .ok (.aload_n 0, 1) := by decide +kernel
theorem dX5_cache_37 : decode cX5_cache 37 = .ok (.getfield 110, 3) := by decide +kernel
theorem dX5_cache_40 : decode cX5_cache 40 = .ok (.bipush 12, 2) := by decide +kernel
theorem dX5_cache_42 : decode cX5_cache 42 = .ok (.if_icmp .ge 7, 3) := by decide +kernel
theorem dX5_cache_45 : decode cX5_cache 45 = .ok (.iconst 1, 1) := by decide +kernel
theorem dX5_cache_46 : decode cX5_cache 46 = .ok (.goto 4, 3) := by decide +kernel
theorem dX5_cache_49 : decode cX5_cache 49 = .ok (.iconst 0, 1) := by decide +kernel
theorem dX5_cache_50 : decode cX5_cache 50 = .ok (.istore_n 3, 1) := by decide +kernel
theorem dX5_cache_51 : decode cX5_cache 51 = .ok (.iload_n 3, 1) := by decide +kernel
theorem dX5_cache_52 : decode cX5_cache 52 = .ok (.ifCond .eq 12, 3) := by decide +kernel
theorem dX5_cache_55 : decode cX5_cache 55 = .ok (.aload_n 0, 1) := by decide +kernel
theorem dX5_cache_56 : decode cX5_cache 56 = .ok (.iload_n 1, 1) := by decide +kernel
theorem dX5_cache_57 : decode cX5_cache 57 = .ok (.iload_n 2, 1) := by decide +kernel
theorem dX5_cache_58 : decode cX5_cache 58 = .ok (.invokevirtual 54, 3) := by decide +kernel
theorem dX5_cache_61 : decode cX5_cache 61 = .ok (.goto 4, 3) := by decide +kernel
theorem dX5_cache_64 : decode cX5_cache 64 = .ok (.iconst (-1), 1) := by decide +kernel
theorem dX5_cache_65 : decode cX5_cache 65 = .ok (.ireturn, 1) := by decide +kernel
theorem dX5_objectsOf_0 : decode cX5_objectsOf 0 = .ok (.bipush 64, 2) := by decide +kernel
theorem dX5_objectsOf_2 : decode cX5_objectsOf 2 = .ok (.aload_n 0, 1) := by decide +kernel
theorem dX5_objectsOf_3 : decode cX5_objectsOf 3 = .ok (.getfield 44, 3) := by decide +kernel
theorem dX5_objectsOf_6 : decode cX5_objectsOf 6 = .ok (.iload_n 1, 1) := by decide +kernel
theorem dX5_objectsOf_7 : decode cX5_objectsOf 7 = .ok (.iaload, 1) := by decide +kernel
theorem dX5_objectsOf_8 : decode cX5_objectsOf 8 = .ok (.ishl, 1) := by decide +kernel
theorem dX5_objectsOf_9 : decode cX5_objectsOf 9 = .ok (.aload_n 0, 1) := by decide +kernel
theorem dX5_objectsOf_10 : decode cX5_objectsOf 10 = .ok (.getfield 41, 3) := by decide +kernel
theorem dX5_objectsOf_13 : decode cX5_objectsOf 13 = .ok (.iload_n 1, 1) := by decide +kernel
theorem dX5_objectsOf_14 : decode cX5_objectsOf 14 = .ok (.iaload, 1) := by decide +kernel
theorem dX5_objectsOf_15 : decode cX5_objectsOf 15 = .ok (.idiv, 1) := by decide +kernel
theorem dX5_objectsOf_16 : decode cX5_objectsOf 16 = .ok (.ireturn, 1) := by decide +kernel
theorem dX5_isCache_0 : decode cX5_isCache 0 = .ok (.iload_n 1, 1) := by decide +kernel
theorem dX5_isCache_1 : decode cX5_isCache 1 = .ok (.iconst 0, 1) := by decide +kernel
theorem dX5_isCache_2 : decode cX5_isCache 2 = .ok (.aload_n 0, 1) := by decide +kernel
theorem dX5_isCache_3 : decode cX5_isCache 3 = .ok (.getfield 110, 3) := by decide +kernel
theorem dX5_isCache_6 : decode cX5_isCache 6 = .ok (.iconst 1, 1) := by decide +kernel
theorem dX5_isCache_7 : decode cX5_isCache 7 = .ok (.isub, 1) := by decide +kernel
theorem dX5_isCache_8 : decode cX5_isCache 8 = .ok (.invokestatic 62, 3) := by decide +kernel
theorem dX5_isCache_11 : decode cX5_isCache 11 = .ok (.ireturn, 1) := by decide +kernel
theorem dX5_liveOf_0 : decode cX5_liveOf 0 = .ok (.aload_n 0, 1) := by decide +kernel
theorem dX5_liveOf_1 : decode cX5_liveOf 1 = .ok (.aload_n 0, 1) := by decide +kernel
theorem dX5_liveOf_2 : decode cX5_liveOf 2 = .ok (.getfield 26, 3) := by decide +kernel
theorem dX5_liveOf_5 : decode cX5_liveOf 5 = .ok (.iload_n 1, 1) := by decide +kernel
theorem dX5_liveOf_6 : decode cX5_liveOf 6 = .ok (.iaload, 1) := by decide +kernel
theorem dX5_liveOf_7 : decode cX5_liveOf 7 = .ok (.invokevirtual 113, 3) := by decide +kernel
theorem dX5_liveOf_10 : decode cX5_liveOf 10 = .ok (.aload_n 0, 1) := by decide +kernel
theorem dX5_liveOf_11 : decode cX5_liveOf 11 = .ok (.getfield 32, 3) := by decide +kernel
theorem dX5_liveOf_14 : decode cX5_liveOf 14 = .ok (.iload_n 1, 1) := by decide +kernel
theorem dX5_liveOf_15 : decode cX5_liveOf 15 = .ok (.iaload, 1) := by decide +kernel
theorem dX5_liveOf_16 : decode cX5_liveOf 16 = .ok (.isub, 1) := by decide +kernel
theorem dX5_liveOf_17 : decode cX5_liveOf 17 = .ok (.ireturn, 1) := by decide +kernel
theorem dX5_newSlab_0 : decode cX5_newSlab 0 = .ok (.aload_n 0, 1) := by decide +kernel
theorem dX5_newSlab_1 : decode cX5_newSlab 1 = .ok (.aload_n 0, 1) := by decide +kernel
theorem dX5_newSlab_2 : decode cX5_newSlab 2 = .ok (.getfield 44, 3) := by decide +kernel
theorem dX5_newSlab_5 : decode cX5_newSlab 5 = .ok (.iload_n 1, 1) := by decide +kernel
theorem dX5_newSlab_6 : decode cX5_newSlab 6 = .ok (.iaload, 1) := by decide +kernel
theorem dX5_newSlab_7 : decode cX5_newSlab 7 = .ok (.invokevirtual 100, 3) := by decide +kernel
theorem dX5_newSlab_10 : decode cX5_newSlab 10 = .ok (.istore_n 2, 1) := by decide +kernel
theorem dX5_newSlab_11 : decode cX5_newSlab 11 = .ok (.iload_n 2, 1) := by decide +kernel
theorem dX5_newSlab_12 : decode cX5_newSlab 12 = .ok (.ifCond .lt 56, 3) := by decide +kernel
theorem dX5_newSlab_15 : decode cX5_newSlab 15 = .ok (.aload_n 0, 1) := by decide +kernel
theorem dX5_newSlab_16 : decode cX5_newSlab 16 = .ok (.getfield 26, 3) := by decide +kernel
theorem dX5_newSlab_19 : decode cX5_newSlab 19 = .ok (.iload_n 2, 1) := by decide +kernel
theorem dX5_newSlab_20 : decode cX5_newSlab 20 = .ok (.iload_n 1, 1) := by decide +kernel
theorem dX5_newSlab_21 : decode cX5_newSlab 21 = .ok (.iastore, 1) := by decide +kernel
theorem dX5_newSlab_22 : decode cX5_newSlab 22 = .ok (.aload_n 0, 1) := by decide +kernel
theorem dX5_newSlab_23 : decode cX5_newSlab 23 = .ok (.iload_n 1, 1) := by decide +kernel
theorem dX5_newSlab_24 : decode cX5_newSlab 24 = .ok (.invokevirtual 113, 3) := by decide +kernel
theorem dX5_newSlab_27 : decode cX5_newSlab 27 = .ok (.istore_n 3, 1) := by decide +kernel
theorem dX5_newSlab_28 : decode cX5_newSlab 28 = .ok (.iconst 0, 1) := by decide +kernel
theorem dX5_newSlab_29 : decode cX5_newSlab 29 = .ok (.istore 4, 2) := by decide +kernel
theorem dX5_newSlab_31 : decode cX5_newSlab 31 = .ok (.iload 4, 2) := by decide +kernel
theorem dX5_newSlab_33 : decode cX5_newSlab 33 = .ok (.iload_n 3, 1) := by decide +kernel
theorem dX5_newSlab_34 : decode cX5_newSlab 34 = .ok (.if_icmp .ge 27, 3) := by decide +kernel
theorem dX5_newSlab_37 : decode cX5_newSlab 37 = .ok (.aload_n 0, 1) := by decide +kernel
theorem dX5_newSlab_38 : decode cX5_newSlab 38 = .ok (.getfield 29, 3) := by decide +kernel
theorem dX5_newSlab_41 : decode cX5_newSlab 41 = .ok (.bipush 64, 2) := by decide +kernel
theorem dX5_newSlab_43 : decode cX5_newSlab 43 = .ok (.iload_n 2, 1) := by decide +kernel
theorem dX5_newSlab_44 : decode cX5_newSlab 44 = .ok (.imul, 1) := by decide +kernel
theorem dX5_newSlab_45 : decode cX5_newSlab 45 = .ok (.iload 4, 2) := by decide +kernel
theorem dX5_newSlab_47 : decode cX5_newSlab 47 = .ok (.iadd, 1) := by decide +kernel
theorem dX5_newSlab_48 : decode cX5_newSlab 48 = .ok (.iload_n 3, 1) := by decide +kernel
theorem dX5_newSlab_49 : decode cX5_newSlab 49 = .ok (.iconst 1, 1) := by decide +kernel
theorem dX5_newSlab_50 : decode cX5_newSlab 50 = .ok (.isub, 1) := by decide +kernel
theorem dX5_newSlab_51 : decode cX5_newSlab 51 = .ok (.iload 4, 2) := by decide +kernel
theorem dX5_newSlab_53 : decode cX5_newSlab 53 = .ok (.isub, 1) := by decide +kernel
theorem dX5_newSlab_54 : decode cX5_newSlab 54 = .ok (.iastore, 1) := by decide +kernel
theorem dX5_newSlab_55 : decode cX5_newSlab 55 = .ok (.iinc 4 1, 3) := by decide +kernel
theorem dX5_newSlab_58 : decode cX5_newSlab 58 = .ok (.goto (-27), 3) := by decide +kernel
theorem dX5_newSlab_61 : decode cX5_newSlab 61 = .ok (.aload_n 0, 1) := by decide +kernel
theorem dX5_newSlab_62 : decode cX5_newSlab 62 = .ok (.getfield 32, 3) := by decide +kernel
theorem dX5_newSlab_65 : decode cX5_newSlab 65 = .ok (.iload_n 2, 1) := by decide +kernel
theorem dX5_newSlab_66 : decode cX5_newSlab 66 = .ok (.iload_n 3, 1) := by decide +kernel
theorem dX5_newSlab_67 : decode cX5_newSlab 67 = .ok (.iastore, 1) := by decide +kernel
theorem dX5_newSlab_68 : decode cX5_newSlab 68 = .ok (.iload_n 2, 1) := by decide +kernel
theorem dX5_newSlab_69 : decode cX5_newSlab 69 = .ok (.ireturn, 1) := by decide +kernel
theorem dX5_isSlab_0 : decode cX5_isSlab 0 = .ok (.aload_n 0, 1) := by decide +kernel
theorem dX5_isSlab_1 : decode cX5_isSlab 1 = .ok (.iload_n 1, 1) := by decide +kernel
theorem dX5_isSlab_2 : decode cX5_isSlab 2 = .ok (.invokevirtual 78, 3) := by decide +kernel
theorem dX5_isSlab_5 : decode cX5_isSlab 5 = .ok (.ifCond .eq 26, 3) := by decide +kernel
theorem dX5_isSlab_8 : decode cX5_isSlab 8 = .ok (.aload_n 0, 1) := by decide +kernel
theorem dX5_isSlab_9 : decode cX5_isSlab 9 = .ok (.getfield 23, 3) := by decide +kernel
theorem dX5_isSlab_12 : decode cX5_isSlab 12 = .ok (.iload_n 1, 1) := by decide +kernel
theorem dX5_isSlab_13 : decode cX5_isSlab 13 = .ok (.baload, 1) := by decide +kernel
theorem dX5_isSlab_14 : decode cX5_isSlab 14 = .ok (.ifCond .eq 17, 3) := by decide +kernel
theorem dX5_isSlab_17 : decode cX5_isSlab 17 = .ok (.aload_n 0, 1) := by decide +kernel
theorem dX5_isSlab_18 : decode cX5_isSlab 18 = .ok (.getfield 26, 3) := by decide +kernel
theorem dX5_isSlab_21 : decode cX5_isSlab 21 = .ok (.iload_n 1, 1) := by decide +kernel
theorem dX5_isSlab_22 : decode cX5_isSlab 22 = .ok (.iaload, 1) := by decide +kernel
theorem dX5_isSlab_23 : decode cX5_isSlab 23 = .ok (.iload_n 2, 1) := by decide +kernel
theorem dX5_isSlab_24 : decode cX5_isSlab 24 = .ok (.if_icmp .ne 7, 3) := by decide +kernel
theorem dX5_isSlab_27 : decode cX5_isSlab 27 = .ok (.iconst 1, 1) := by decide +kernel
theorem dX5_isSlab_28 : decode cX5_isSlab 28 = .ok (.goto 4, 3) := by decide +kernel
theorem dX5_isSlab_31 : decode cX5_isSlab 31 = .ok (.iconst 0, 1) := by decide +kernel
theorem dX5_isSlab_32 : decode cX5_isSlab 32 = .ok (.ireturn, 1) := by decide +kernel
theorem dX5_take_0 : decode cX5_take 0 = .ok (.aload_n 0, 1) := by decide +kernel
theorem dX5_take_1 : decode cX5_take 1 = .ok (.getfield 58, 3) := by decide +kernel
theorem dX5_take_4 : decode cX5_take 4 = .ok (.ifCond .eq 11, 3) := by decide +kernel
theorem dX5_take_7 : decode cX5_take 7 = .ok (.aload_n 0, 1) := by decide +kernel
theorem dX5_take_8 : decode cX5_take 8 = .ok (.iload_n 1, 1) := by decide +kernel
theorem dX5_take_9 : decode cX5_take 9 = .ok (.invokevirtual 116, 3) := by decide +kernel
theorem dX5_take_12 : decode cX5_take 12 = .ok (.ifCond .ne 5, 3) := by decide +kernel
theorem dX5_take_15 : decode cX5_take 15 = .ok (.iconst (-1), 1) := by decide +kernel
theorem dX5_take_16 : decode cX5_take 16 = .ok (.ireturn, 1) := by decide +kernel
theorem dX5_take_17 : decode cX5_take 17 = .ok (.iconst (-1), 1) := by decide +kernel
theorem dX5_take_18 : decode cX5_take 18 = .ok (.istore_n 2, 1) := by decide +kernel
theorem dX5_take_19 : decode cX5_take 19 = .ok (.sipush 255, 3) := by decide +kernel
theorem dX5_take_22 : decode cX5_take 22 = .ok (.istore_n 3, 1) := by decide +kernel
theorem dX5_take_23 : decode cX5_take 23 = .ok (.iload_n 3, 1) := by decide +kernel
theorem dX5_take_24 : decode cX5_take 24 = .ok (.ifCond .lt 41, 3) := by decide +kernel
theorem dX5_take_27 : decode cX5_take 27 = .ok (.aload_n 0, 1) := by decide +kernel
theorem dX5_take_28 : decode cX5_take 28 = .ok (.iload_n 3, 1) := by decide +kernel
theorem dX5_take_29 : decode cX5_take 29 = .ok (.iload_n 1, 1) := by decide +kernel
theorem dX5_take_30 : decode cX5_take 30 = .ok (.invokevirtual 119, 3) := by decide +kernel
theorem dX5_take_33 : decode cX5_take 33 = .ok (.ifCond .eq 24, 3) := by decide +kernel
theorem dX5_take_36 : decode cX5_take 36 = .ok (.aload_n 0, 1) := by decide +kernel
theorem dX5_take_37 : decode cX5_take 37 = .ok (.getfield 32, 3) := by decide +kernel
theorem dX5_take_40 : decode cX5_take 40 = .ok (.iload_n 3, 1) := by decide +kernel
theorem dX5_take_41 : decode cX5_take 41 = .ok (.iaload, 1) := by decide +kernel
theorem dX5_take_42 : decode cX5_take 42 = .ok (.ifCond .le 15, 3) := by decide +kernel
theorem dX5_take_45 : decode cX5_take 45 = .ok (.aload_n 0, 1) := by decide +kernel
theorem dX5_take_46 : decode cX5_take 46 = .ok (.iload_n 3, 1) := by decide +kernel
theorem dX5_take_47 : decode cX5_take 47 = .ok (.invokevirtual 122, 3) := by decide +kernel
theorem dX5_take_50 : decode cX5_take 50 = .ok (.ifCond .le 7, 3) := by decide +kernel
theorem dX5_take_53 : decode cX5_take 53 = .ok (.iload_n 3, 1) := by decide +kernel
theorem dX5_take_54 : decode cX5_take 54 = .ok (.goto 4, 3) := by decide +kernel
theorem dX5_take_57 : decode cX5_take 57 = .ok (.iload_n 2, 1) := by decide +kernel
theorem dX5_take_58 : decode cX5_take 58 = .ok (.istore_n 2, 1) := by decide +kernel
theorem dX5_take_59 : decode cX5_take 59 = .ok (.iinc 3 (-1), 3) := by decide +kernel
theorem dX5_take_62 : decode cX5_take 62 = .ok (.goto (-39), 3) := by decide +kernel
theorem dX5_take_65 : decode cX5_take 65 = .ok (.iload_n 2, 1) := by decide +kernel
theorem dX5_take_66 : decode cX5_take 66 = .ok (.ifCond .ge 26, 3) := by decide +kernel
theorem dX5_take_69 : decode cX5_take 69 = .ok (.aload_n 0, 1) := by decide +kernel
theorem dX5_take_70 : decode cX5_take 70 = .ok (.getfield 47, 3) := by decide +kernel
theorem dX5_take_73 : decode cX5_take 73 = .ok (.iload_n 1, 1) := by decide +kernel
theorem dX5_take_74 : decode cX5_take 74 = .ok (.iaload, 1) := by decide +kernel
theorem dX5_take_75 : decode cX5_take 75 = .ok (.ifCond .lt 17, 3) := by decide +kernel
theorem dX5_take_78 : decode cX5_take 78 = .ok (.aload_n 0, 1) := by decide +kernel
theorem dX5_take_79 : decode cX5_take 79 = .ok (.getfield 47, 3) := by decide +kernel
theorem dX5_take_82 : decode cX5_take 82 = .ok (.iload_n 1, 1) := by decide +kernel
theorem dX5_take_83 : decode cX5_take 83 = .ok (.iaload, 1) := by decide +kernel
theorem dX5_take_84 : decode cX5_take 84 = .ok (.istore_n 2, 1) := by decide +kernel
theorem dX5_take_85 : decode cX5_take 85 = .ok (.aload_n 0, 1) := by decide +kernel
theorem dX5_take_86 : decode cX5_take 86 = .ok (.getfield 47, 3) := by decide +kernel
theorem dX5_take_89 : decode cX5_take 89 = .ok (.iload_n 1, 1) := by decide +kernel
theorem dX5_take_90 : decode cX5_take 90 = .ok (.iconst (-1), 1) := by decide +kernel
theorem dX5_take_91 : decode cX5_take 91 = .ok (.iastore, 1) := by decide +kernel
theorem dX5_take_92 : decode cX5_take 92 = .ok (.iload_n 2, 1) := by decide +kernel
theorem dX5_take_93 : decode cX5_take 93 = .ok (.ifCond .ge 11, 3) := by decide +kernel
theorem dX5_take_96 : decode cX5_take 96 = .ok (.aload_n 0, 1) := by decide +kernel
theorem dX5_take_97 : decode cX5_take 97 = .ok (.iload_n 1, 1) := by decide +kernel
theorem dX5_take_98 : decode cX5_take 98 = .ok (.invokevirtual 125, 3) := by decide +kernel
theorem dX5_take_101 : decode cX5_take 101 = .ok (.goto 4, 3) := by decide +kernel
theorem dX5_take_104 : decode cX5_take 104 = .ok (.iload_n 2, 1) := by decide +kernel
theorem dX5_take_105 : decode cX5_take 105 = .ok (.istore_n 2, 1) := by decide +kernel
theorem dX5_take_106 : decode cX5_take 106 = .ok (.iload_n 2, 1) := by decide +kernel
theorem dX5_take_107 : decode cX5_take 107 = .ok (.ifCond .ge 5, 3) := by decide +kernel
theorem dX5_take_110 : decode cX5_take 110 = .ok (.iconst (-1), 1) := by decide +kernel
theorem dX5_take_111 : decode cX5_take 111 = .ok (.ireturn, 1) := by decide +kernel
theorem dX5_take_112 : decode cX5_take 112 = .ok (.aload_n 0, 1) := by decide +kernel
theorem dX5_take_113 : decode cX5_take 113 = .ok (.getfield 32, 3) := by decide +kernel
theorem dX5_take_116 : decode cX5_take 116 = .ok (.iload_n 2, 1) := by decide +kernel
theorem dX5_take_117 : decode cX5_take 117 = .ok (.dup2, 1) := by decide +kernel
theorem dX5_take_118 : decode cX5_take 118 = .ok (.iaload, 1) := by decide +kernel
theorem dX5_take_119 : decode cX5_take 119 = .ok (.iconst 1, 1) := by decide +kernel
theorem dX5_take_120 : decode cX5_take 120 = .ok (.isub, 1) := by decide +kernel
theorem dX5_take_121 : decode cX5_take 121 = .ok (.iastore, 1) := by decide +kernel
theorem dX5_take_122 : decode cX5_take 122 = .ok (.bipush 64, 2) := by decide +kernel
theorem dX5_take_124 : decode cX5_take 124 = .ok (.iload_n 2, 1) := by decide +kernel
theorem dX5_take_125 : decode cX5_take 125 = .ok (.imul, 1) := by decide +kernel
theorem dX5_take_126 : decode cX5_take 126 = .ok (.aload_n 0, 1) := by decide +kernel
theorem dX5_take_127 : decode cX5_take 127 = .ok (.getfield 41, 3) := by decide +kernel
theorem dX5_take_130 : decode cX5_take 130 = .ok (.iload_n 1, 1) := by decide +kernel
theorem dX5_take_131 : decode cX5_take 131 = .ok (.iaload, 1) := by decide +kernel
theorem dX5_take_132 : decode cX5_take 132 = .ok (.aload_n 0, 1) := by decide +kernel
theorem dX5_take_133 : decode cX5_take 133 = .ok (.getfield 29, 3) := by decide +kernel
theorem dX5_take_136 : decode cX5_take 136 = .ok (.bipush 64, 2) := by decide +kernel
theorem dX5_take_138 : decode cX5_take 138 = .ok (.iload_n 2, 1) := by decide +kernel
theorem dX5_take_139 : decode cX5_take 139 = .ok (.imul, 1) := by decide +kernel
theorem dX5_take_140 : decode cX5_take 140 = .ok (.aload_n 0, 1) := by decide +kernel
theorem dX5_take_141 : decode cX5_take 141 = .ok (.getfield 32, 3) := by decide +kernel
theorem dX5_take_144 : decode cX5_take 144 = .ok (.iload_n 2, 1) := by decide +kernel
theorem dX5_take_145 : decode cX5_take 145 = .ok (.iaload, 1) := by decide +kernel
theorem dX5_take_146 : decode cX5_take 146 = .ok (.iadd, 1) := by decide +kernel
theorem dX5_take_147 : decode cX5_take 147 = .ok (.iaload, 1) := by decide +kernel
theorem dX5_take_148 : decode cX5_take 148 = .ok (.imul, 1) := by decide +kernel
theorem dX5_take_149 : decode cX5_take 149 = .ok (.iadd, 1) := by decide +kernel
theorem dX5_take_150 : decode cX5_take 150 = .ok (.ireturn, 1) := by decide +kernel
theorem dX5_slabAt_0 : decode cX5_slabAt 0 = .ok (.iload_n 1, 1) := by decide +kernel
theorem dX5_slabAt_1 : decode cX5_slabAt 1 = .ok (.bipush 64, 2) := by decide +kernel
theorem dX5_slabAt_3 : decode cX5_slabAt 3 = .ok (.idiv, 1) := by decide +kernel
theorem dX5_slabAt_4 : decode cX5_slabAt 4 = .ok (.istore_n 2, 1) := by decide +kernel
theorem dX5_slabAt_5 : decode cX5_slabAt 5 = .ok (.aload_n 0, 1) := by decide +kernel
theorem dX5_slabAt_6 : decode cX5_slabAt 6 = .ok (.getfield 58, 3) := by decide +kernel
theorem dX5_slabAt_9 : decode cX5_slabAt 9 = .ok (.ifCond .eq 23, 3) := by decide +kernel
theorem dX5_slabAt_12 : decode cX5_slabAt 12 = .ok (.iload_n 1, 1) := by decide +kernel
theorem dX5_slabAt_13 : decode cX5_slabAt 13 = .ok (.ifCond .lt 19, 3) := by decide +kernel
theorem dX5_slabAt_16 : decode cX5_slabAt 16 = .ok (.iload_n 2, 1) := by decide +kernel
theorem dX5_slabAt_17 : decode cX5_slabAt 17 = .ok (.sipush 256, 3) := by decide +kernel
theorem dX5_slabAt_20 : decode cX5_slabAt 20 = .ok (.if_icmp .ge 12, 3) := by decide +kernel
theorem dX5_slabAt_23 : decode cX5_slabAt 23 = .ok (.aload_n 0, 1) := by decide +kernel
theorem dX5_slabAt_24 : decode cX5_slabAt 24 = .ok (.getfield 13, 3) := by decide +kernel
theorem dX5_slabAt_27 : decode cX5_slabAt 27 = .ok (.iload_n 2, 1) := by decide +kernel
theorem dX5_slabAt_28 : decode cX5_slabAt 28 = .ok (.baload, 1) := by decide +kernel
theorem dX5_slabAt_29 : decode cX5_slabAt 29 = .ok (.ifCond .ne 5, 3) := by decide +kernel
theorem dX5_slabAt_32 : decode cX5_slabAt 32 = .ok (.iconst (-1), 1) := by decide +kernel
theorem dX5_slabAt_33 : decode cX5_slabAt 33 = .ok (.ireturn, 1) := by decide +kernel
theorem dX5_slabAt_34 : decode cX5_slabAt 34 = .ok (.aload_n 0, 1) := by decide +kernel
theorem dX5_slabAt_35 : decode cX5_slabAt 35 = .ok (.getfield 17, 3) := by decide +kernel
theorem dX5_slabAt_38 : decode cX5_slabAt 38 = .ok (.iload_n 2, 1) := by decide +kernel
theorem dX5_slabAt_39 : decode cX5_slabAt 39 = .ok (.iaload, 1) := by decide +kernel
theorem dX5_slabAt_40 : decode cX5_slabAt 40 = .ok (.istore_n 3, 1) := by decide +kernel
theorem dX5_slabAt_41 : decode cX5_slabAt 41 = .ok (.aload_n 0, 1) := by decide +kernel
theorem dX5_slabAt_42 : decode cX5_slabAt 42 = .ok (.getfield 23, 3) := by decide +kernel
theorem dX5_slabAt_45 : decode cX5_slabAt 45 = .ok (.iload_n 3, 1) := by decide +kernel
theorem dX5_slabAt_46 : decode cX5_slabAt 46 = .ok (.baload, 1) := by decide +kernel
theorem dX5_slabAt_47 : decode cX5_slabAt 47 = .ok (.ifCond .eq 16, 3) := by decide +kernel
theorem dX5_slabAt_50 : decode cX5_slabAt 50 = .ok (.aload_n 0, 1) := by decide +kernel
theorem dX5_slabAt_51 : decode cX5_slabAt 51 = .ok (.getfield 26, 3) := by decide +kernel
theorem dX5_slabAt_54 : decode cX5_slabAt 54 = .ok (.iload_n 3, 1) := by decide +kernel
theorem dX5_slabAt_55 : decode cX5_slabAt 55 = .ok (.iaload, 1) := by decide +kernel
theorem dX5_slabAt_56 : decode cX5_slabAt 56 = .ok (.ifCond .lt 7, 3) := by decide +kernel
theorem dX5_slabAt_59 : decode cX5_slabAt 59 = .ok (.iload_n 3, 1) := by decide +kernel
theorem dX5_slabAt_60 : decode cX5_slabAt 60 = .ok (.goto 4, 3) := by decide +kernel
theorem dX5_slabAt_63 : decode cX5_slabAt 63 = .ok (.iconst (-1), 1) := by decide +kernel
theorem dX5_slabAt_64 : decode cX5_slabAt 64 = .ok (.ireturn, 1) := by decide +kernel
theorem dX5_faultOfObject_0 : decode cX5_faultOfObject 0 = .ok (.aload_n 0, 1) := by decide +kernel
theorem dX5_faultOfObject_1 : decode cX5_faultOfObject 1 = .ok (.getfield 26, 3) := by decide +kernel
theorem dX5_faultOfObject_4 : decode cX5_faultOfObject 4 = .ok (.iload_n 1, 1) := by decide +kernel
theorem dX5_faultOfObject_5 : decode cX5_faultOfObject 5 = .ok (.iaload, 1) := by decide +kernel
theorem dX5_faultOfObject_6 : decode cX5_faultOfObject 6 = .ok (.istore_n 3, 1) := by decide +kernel
theorem dX5_faultOfObject_7 : decode cX5_faultOfObject 7 = .ok (.iload_n 2, 1) := by decide +kernel
theorem dX5_faultOfObject_8 : decode cX5_faultOfObject 8 = .ok (.bipush 64, 2) := by decide +kernel
theorem dX5_faultOfObject_10 : decode cX5_faultOfObject 10 = .ok (.iload_n 1, 1) := by decide +kernel
theorem dX5_faultOfObject_11 : decode cX5_faultOfObject 11 = .ok (.imul, 1) := by decide +kernel
theorem dX5_faultOfObject_12 : decode cX5_faultOfObject 12 = .ok (.isub, 1) := by decide +kernel
theorem dX5_faultOfObject_13 : decode cX5_faultOfObject 13 = .ok (.istore 4, 2) := by decide +kernel
theorem dX5_faultOfObject_15 : decode cX5_faultOfObject 15 = .ok (.iload 4, 2) := by decide +kernel
theorem dX5_faultOfObject_17 : decode cX5_faultOfObject 17 = .ok (.aload_n 0, 1) := by decide +kernel
theorem dX5_faultOfObject_18 : decode cX5_faultOfObject 18 = .ok (.getfield 41, 3) := by decide +kernel
theorem dX5_faultOfObject_21 : decode cX5_faultOfObject 21 = .ok (.iload_n 3, 1) := by decide +kernel
theorem dX5_faultOfObject_22 : decode cX5_faultOfObject 22 = .ok (.iaload, 1) := by decide +kernel
theorem dX5_faultOfObject_23 : decode cX5_faultOfObject 23 = .ok (.idiv, 1) := by decide +kernel
theorem dX5_faultOfObject_24 : decode cX5_faultOfObject 24 = .ok (.istore 5, 2) := by decide +kernel
theorem dX5_faultOfObject_26 : decode cX5_faultOfObject 26 = .ok (.iload 4, 2) := by decide +kernel
theorem dX5_faultOfObject_28 : decode cX5_faultOfObject 28 = .ok (.aload_n 0, 1) := by decide +kernel
theorem dX5_faultOfObject_29 : decode cX5_faultOfObject 29 = .ok (.getfield 41, 3) := by decide +kernel
theorem dX5_faultOfObject_32 : decode cX5_faultOfObject 32 = .ok (.iload_n 3, 1) := by decide +kernel
theorem dX5_faultOfObject_33 : decode cX5_faultOfObject 33 = .ok (.iaload, 1) := by decide +kernel
theorem dX5_faultOfObject_34 : decode cX5_faultOfObject 34 = .ok (.irem, 1) := by decide +kernel
theorem dX5_faultOfObject_35 : decode cX5_faultOfObject 35 = .ok (.ifCond .ne 13, 3) := by decide +kernel
theorem dX5_faultOfObject_38 : decode cX5_faultOfObject 38 = .ok (.iload 5, 2) := by decide +kernel
theorem dX5_faultOfObject_40 : decode cX5_faultOfObject 40 = .ok (.aload_n 0, 1) := by decide +kernel
theorem dX5_faultOfObject_41 : decode cX5_faultOfObject 41 = .ok (.iload_n 3, 1) := by decide +kernel
theorem dX5_faultOfObject_42 : decode cX5_faultOfObject 42 = .ok (.invokevirtual 113, 3) := by decide +kernel
theorem dX5_faultOfObject_45 : decode cX5_faultOfObject 45 = .ok (.if_icmp .lt 6, 3) := by decide +kernel
theorem dX5_faultOfObject_48 : decode cX5_faultOfObject 48 = .ok (.bipush (-2), 2) := by decide +kernel
theorem dX5_faultOfObject_50 : decode cX5_faultOfObject 50 = .ok (.ireturn, 1) := by decide +kernel
theorem dX5_faultOfObject_51 : decode cX5_faultOfObject 51 = .ok (.iconst 0, 1) := by decide +kernel
theorem dX5_faultOfObject_52 : decode cX5_faultOfObject 52 = .ok (.istore 6, 2) := by decide +kernel
theorem dX5_faultOfObject_54 : decode cX5_faultOfObject 54 = .ok (.iload 6, 2) := by decide +kernel
theorem dX5_faultOfObject_56 : decode cX5_faultOfObject 56 = .ok (.aload_n 0, 1) := by decide +kernel
theorem dX5_faultOfObject_57 : decode cX5_faultOfObject 57 = .ok (.getfield 32, 3) := by decide +kernel
theorem dX5_faultOfObject_60 : decode cX5_faultOfObject 60 = .ok (.iload_n 1, 1) := by decide +kernel
theorem dX5_faultOfObject_61 : decode cX5_faultOfObject 61 = .ok (.iaload, 1) := by decide +kernel
theorem dX5_faultOfObject_62 : decode cX5_faultOfObject 62 = .ok (.if_icmp .ge 29, 3) := by decide +kernel
theorem dX5_faultOfObject_65 : decode cX5_faultOfObject 65 = .ok (.aload_n 0, 1) := by decide +kernel
theorem dX5_faultOfObject_66 : decode cX5_faultOfObject 66 = .ok (.getfield 29, 3) := by decide +kernel
theorem dX5_faultOfObject_69 : decode cX5_faultOfObject 69 = .ok (.bipush 64, 2) := by decide +kernel
theorem dX5_faultOfObject_71 : decode cX5_faultOfObject 71 = .ok (.iload_n 1, 1) := by decide +kernel
theorem dX5_faultOfObject_72 : decode cX5_faultOfObject 72 = .ok (.imul, 1) := by decide +kernel
theorem dX5_faultOfObject_73 : decode cX5_faultOfObject 73 = .ok (.iload 6, 2) := by decide +kernel
theorem dX5_faultOfObject_75 : decode cX5_faultOfObject 75 = .ok (.iadd, 1) := by decide +kernel
theorem dX5_faultOfObject_76 : decode cX5_faultOfObject 76 = .ok (.iaload, 1) := by decide +kernel
theorem dX5_faultOfObject_77 : decode cX5_faultOfObject 77 = .ok (.iload 5, 2) := by decide +kernel
theorem dX5_faultOfObject_79 : decode cX5_faultOfObject 79 = .ok (.if_icmp .ne 6, 3) := by decide +kernel
theorem dX5_faultOfObject_82 : decode cX5_faultOfObject 82 = .ok (.bipush (-3), 2) := by decide +kernel
theorem dX5_faultOfObject_84 : decode cX5_faultOfObject 84 = .ok (.ireturn, 1) := by decide +kernel
theorem dX5_faultOfObject_85 : decode cX5_faultOfObject 85 = .ok (.iinc 6 1, 3) := by decide +kernel
theorem dX5_faultOfObject_88 : decode cX5_faultOfObject 88 = .ok (.goto (-34), 3) := by decide +kernel
theorem dX5_faultOfObject_91 : decode cX5_faultOfObject 91 = .ok (.iconst 0, 1) := by decide +kernel
theorem dX5_faultOfObject_92 : decode cX5_faultOfObject 92 = .ok (.ireturn, 1) := by decide +kernel
theorem dX5_give_0 : decode cX5_give 0 = .ok (.aload_n 0, 1) := by decide +kernel
theorem dX5_give_1 : decode cX5_give 1 = .ok (.iload_n 2, 1) := by decide +kernel
theorem dX5_give_2 : decode cX5_give 2 = .ok (.invokevirtual 128, 3) := by decide +kernel
theorem dX5_give_5 : decode cX5_give 5 = .ok (.istore_n 3, 1) := by decide +kernel
theorem dX5_give_6 : decode cX5_give 6 = .ok (.aload_n 0, 1) := by decide +kernel
theorem dX5_give_7 : decode cX5_give 7 = .ok (.iload_n 1, 1) := by decide +kernel
theorem dX5_give_8 : decode cX5_give 8 = .ok (.invokevirtual 116, 3) := by decide +kernel
theorem dX5_give_11 : decode cX5_give 11 = .ok (.ifCond .eq 17, 3) := by decide +kernel
theorem dX5_give_14 : decode cX5_give 14 = .ok (.iload_n 3, 1) := by decide +kernel
theorem dX5_give_15 : decode cX5_give 15 = .ok (.ifCond .lt 13, 3) := by decide +kernel
theorem dX5_give_18 : decode cX5_give 18 = .ok (.aload_n 0, 1) := by decide +kernel
theorem dX5_give_19 : decode cX5_give 19 = .ok (.getfield 26, 3) := by decide +kernel
theorem dX5_give_22 : decode cX5_give 22 = .ok (.iload_n 3, 1) := by decide +kernel
theorem dX5_give_23 : decode cX5_give 23 = .ok (.iaload, 1) := by decide +kernel
theorem dX5_give_24 : decode cX5_give 24 = .ok (.iload_n 1, 1) := by decide +kernel
theorem dX5_give_25 : decode cX5_give 25 = .ok (.if_icmp .eq 6, 3) := by decide +kernel
theorem dX5_give_28 : decode cX5_give 28 = .ok (.bipush (-2), 2) := by decide +kernel
theorem dX5_give_30 : decode cX5_give 30 = .ok (.ireturn, 1) := by decide +kernel
theorem dX5_give_31 : decode cX5_give 31 = .ok (.aload_n 0, 1) := by decide +kernel
theorem dX5_give_32 : decode cX5_give 32 = .ok (.iload_n 3, 1) := by decide +kernel
theorem dX5_give_33 : decode cX5_give 33 = .ok (.iload_n 2, 1) := by decide +kernel
theorem dX5_give_34 : decode cX5_give 34 = .ok (.invokevirtual 131, 3) := by decide +kernel
theorem dX5_give_37 : decode cX5_give 37 = .ok (.istore 4, 2) := by decide +kernel
theorem dX5_give_39 : decode cX5_give 39 = .ok (.iload 4, 2) := by decide +kernel
theorem dX5_give_41 : decode cX5_give 41 = .ok (.ifCond .ge 8, 3) := by decide +kernel
theorem dX5_give_44 : decode cX5_give 44 = .ok (.iload 4, 2) := by decide +kernel
theorem dX5_give_46 : decode cX5_give 46 = .ok (.goto 9, 3) := by decide +kernel
theorem dX5_give_49 : decode cX5_give 49 = .ok (.aload_n 0, 1) := by decide +kernel
theorem dX5_give_50 : decode cX5_give 50 = .ok (.iload_n 3, 1) := by decide +kernel
theorem dX5_give_51 : decode cX5_give 51 = .ok (.iload_n 2, 1) := by decide +kernel
theorem dX5_give_52 : decode cX5_give 52 = .ok (.invokevirtual 134, 3) := by decide +kernel
theorem dX5_give_55 : decode cX5_give 55 = .ok (.ireturn, 1) := by decide +kernel
theorem dX5_giveObject_0 : decode cX5_giveObject 0 = .ok (.aload_n 0, 1) := by decide +kernel
theorem dX5_giveObject_1 : decode cX5_giveObject 1 = .ok (.getfield 26, 3) := by decide +kernel
theorem dX5_giveObject_4 : decode cX5_giveObject 4 = .ok (.iload_n 1, 1) := by decide +kernel
theorem dX5_giveObject_5 : decode cX5_giveObject 5 = .ok (.iaload, 1) := by decide +kernel
theorem dX5_giveObject_6 : decode cX5_giveObject 6 = .ok (.istore_n 3, 1) := by decide +kernel
theorem dX5_giveObject_7 : decode cX5_giveObject 7 = .ok (.aload_n 0, 1) := by decide +kernel
theorem dX5_giveObject_8 : decode cX5_giveObject 8 = .ok (.getfield 29, 3) := by decide +kernel
theorem dX5_giveObject_11 : decode cX5_giveObject 11 = .ok (.bipush 64, 2) := by decide +kernel
theorem dX5_giveObject_13 : decode cX5_giveObject 13 = .ok (.iload_n 1, 1) := by decide +kernel
theorem dX5_giveObject_14 : decode cX5_giveObject 14 = .ok (.imul, 1) := by decide +kernel
theorem dX5_giveObject_15 : decode cX5_giveObject 15 = .ok (.aload_n 0, 1) := by decide +kernel
theorem dX5_giveObject_16 : decode cX5_giveObject 16 = .ok (.getfield 32, 3) := by decide +kernel
theorem dX5_giveObject_19 : decode cX5_giveObject 19 = .ok (.iload_n 1, 1) := by decide +kernel
theorem dX5_giveObject_20 : decode cX5_giveObject 20 = .ok (.iaload, 1) := by decide +kernel
theorem dX5_giveObject_21 : decode cX5_giveObject 21 = .ok (.iadd, 1) := by decide +kernel
theorem dX5_giveObject_22 : decode cX5_giveObject 22 = .ok (.iload_n 2, 1) := by decide +kernel
theorem dX5_giveObject_23 : decode cX5_giveObject 23 = .ok (.bipush 64, 2) := by decide +kernel
theorem dX5_giveObject_25 : decode cX5_giveObject 25 = .ok (.iload_n 1, 1) := by decide +kernel
theorem dX5_giveObject_26 : decode cX5_giveObject 26 = .ok (.imul, 1) := by decide +kernel
theorem dX5_giveObject_27 : decode cX5_giveObject 27 = .ok (.isub, 1) := by decide +kernel
theorem dX5_giveObject_28 : decode cX5_giveObject 28 = .ok (.aload_n 0, 1) := by decide +kernel
theorem dX5_giveObject_29 : decode cX5_giveObject 29 = .ok (.getfield 41, 3) := by decide +kernel
theorem dX5_giveObject_32 : decode cX5_giveObject 32 = .ok (.iload_n 3, 1) := by decide +kernel
theorem dX5_giveObject_33 : decode cX5_giveObject 33 = .ok (.iaload, 1) := by decide +kernel
theorem dX5_giveObject_34 : decode cX5_giveObject 34 = .ok (.idiv, 1) := by decide +kernel
theorem dX5_giveObject_35 : decode cX5_giveObject 35 = .ok (.iastore, 1) := by decide +kernel
theorem dX5_giveObject_36 : decode cX5_giveObject 36 = .ok (.aload_n 0, 1) := by decide +kernel
theorem dX5_giveObject_37 : decode cX5_giveObject 37 = .ok (.getfield 32, 3) := by decide +kernel
theorem dX5_giveObject_40 : decode cX5_giveObject 40 = .ok (.iload_n 1, 1) := by decide +kernel
theorem dX5_giveObject_41 : decode cX5_giveObject 41 = .ok (.dup2, 1) := by decide +kernel
theorem dX5_giveObject_42 : decode cX5_giveObject 42 = .ok (.iaload, 1) := by decide +kernel
theorem dX5_giveObject_43 : decode cX5_giveObject 43 = .ok (.iconst 1, 1) := by decide +kernel
theorem dX5_giveObject_44 : decode cX5_giveObject 44 = .ok (.iadd, 1) := by decide +kernel
theorem dX5_giveObject_45 : decode cX5_giveObject 45 = .ok (.iastore, 1) := by decide +kernel
theorem dX5_giveObject_46 : decode cX5_giveObject 46 = .ok (.aload_n 0, 1) := by decide +kernel
theorem dX5_giveObject_47 : decode cX5_giveObject 47 = .ok (.iload_n 1, 1) := by decide +kernel
theorem dX5_giveObject_48 : decode cX5_giveObject 48 = .ok (.invokevirtual 122, 3) := by decide +kernel
theorem dX5_giveObject_51 : decode cX5_giveObject 51 = .ok (.istore 4, 2) := by decide +kernel
theorem dX5_giveObject_53 : decode cX5_giveObject 53 = .ok (.iload 4, 2) := by decide +kernel
theorem dX5_giveObject_55 : decode cX5_giveObject 55 = .ok (.ifCond .ne 22, 3) := by decide +kernel
theorem dX5_giveObject_58 : decode cX5_giveObject 58 = .ok (.aload_n 0, 1) := by decide +kernel
theorem dX5_giveObject_59 : decode cX5_giveObject 59 = .ok (.getfield 47, 3) := by decide +kernel
theorem dX5_giveObject_62 : decode cX5_giveObject 62 = .ok (.iload_n 3, 1) := by decide +kernel
theorem dX5_giveObject_63 : decode cX5_giveObject 63 = .ok (.iaload, 1) := by decide +kernel
theorem dX5_giveObject_64 : decode cX5_giveObject 64 = .ok (.ifCond .ge 13, 3) := by decide +kernel
theorem dX5_giveObject_67 : decode cX5_giveObject 67 = .ok (.aload_n 0, 1) := by decide +kernel
theorem dX5_giveObject_68 : decode cX5_giveObject 68 = .ok (.getfield 47, 3) := by decide +kernel
theorem dX5_giveObject_71 : decode cX5_giveObject 71 = .ok (.iload_n 3, 1) := by decide +kernel
theorem dX5_giveObject_72 : decode cX5_giveObject 72 = .ok (.iload_n 1, 1) := by decide +kernel
theorem dX5_giveObject_73 : decode cX5_giveObject 73 = .ok (.iastore, 1) := by decide +kernel
theorem dX5_giveObject_74 : decode cX5_giveObject 74 = .ok (.goto 26, 3) := by decide +kernel
theorem dX5_giveObject_77 : decode cX5_giveObject 77 = .ok (.iload 4, 2) := by decide +kernel
theorem dX5_giveObject_79 : decode cX5_giveObject 79 = .ok (.ifCond .ne 21, 3) := by decide +kernel
theorem dX5_giveObject_82 : decode cX5_giveObject 82 = .ok (.aload_n 0, 1) := by decide +kernel
theorem dX5_giveObject_83 : decode cX5_giveObject 83 = .ok (.iload_n 1, 1) := by decide +kernel
theorem dX5_giveObject_84 : decode cX5_giveObject 84 = .ok (.invokevirtual 107, 3) := by decide +kernel
theorem dX5_giveObject_87 : decode cX5_giveObject 87 = .ok (.istore 5, 2) := by decide +kernel
theorem dX5_giveObject_89 : decode cX5_giveObject 89 = .ok (.iload 5, 2) := by decide +kernel
theorem dX5_giveObject_91 : decode cX5_giveObject 91 = .ok (.ifCond .le 7, 3) := by decide +kernel
theorem dX5_giveObject_94 : decode cX5_giveObject 94 = .ok (.iconst 0, 1) := by decide +kernel
theorem dX5_giveObject_95 : decode cX5_giveObject 95 = .ok (.goto 4, 3) := by decide +kernel
theorem dX5_giveObject_98 : decode cX5_giveObject 98 = .ok (.iconst (-1), 1) := by decide +kernel
theorem dX5_giveObject_99 : decode cX5_giveObject 99 = .ok (.ireturn, 1) := by decide +kernel
theorem dX5_giveObject_100 : decode cX5_giveObject 100 = .ok (.iload 4, 2) := by decide +kernel
theorem dX5_giveObject_102 : decode cX5_giveObject 102 = .ok (.ireturn, 1) := by decide +kernel
theorem dX5_shrink_0 : decode cX5_shrink 0 = .ok (.aload_n 0, 1) := by decide +kernel
theorem dX5_shrink_1 : decode cX5_shrink 1 = .ok (.iload_n 1, 1) := by decide +kernel
theorem dX5_shrink_2 : decode cX5_shrink 2 = .ok (.invokevirtual 116, 3) := by decide +kernel
theorem dX5_shrink_5 : decode cX5_shrink 5 = .ok (.ifCond .ne 5, 3) := by decide +kernel
theorem dX5_shrink_8 : decode cX5_shrink 8 = .ok (.iconst (-1), 1) := by decide +kernel
theorem dX5_shrink_9 : decode cX5_shrink 9 = .ok (.ireturn, 1) := by decide +kernel
theorem dX5_shrink_10 : decode cX5_shrink 10 = .ok (.aload_n 0, 1) := by decide +kernel
theorem dX5_shrink_11 : decode cX5_shrink 11 = .ok (.getfield 47, 3) := by decide +kernel
theorem dX5_shrink_14 : decode cX5_shrink 14 = .ok (.iload_n 1, 1) := by decide +kernel
theorem dX5_shrink_15 : decode cX5_shrink 15 = .ok (.iaload, 1) := by decide +kernel
theorem dX5_shrink_16 : decode cX5_shrink 16 = .ok (.istore_n 2, 1) := by decide +kernel
theorem dX5_shrink_17 : decode cX5_shrink 17 = .ok (.aload_n 0, 1) := by decide +kernel
theorem dX5_shrink_18 : decode cX5_shrink 18 = .ok (.getfield 47, 3) := by decide +kernel
theorem dX5_shrink_21 : decode cX5_shrink 21 = .ok (.iload_n 1, 1) := by decide +kernel
theorem dX5_shrink_22 : decode cX5_shrink 22 = .ok (.iconst (-1), 1) := by decide +kernel
theorem dX5_shrink_23 : decode cX5_shrink 23 = .ok (.iastore, 1) := by decide +kernel
theorem dX5_shrink_24 : decode cX5_shrink 24 = .ok (.iload_n 2, 1) := by decide +kernel
theorem dX5_shrink_25 : decode cX5_shrink 25 = .ok (.ifCond .ge 7, 3) := by decide +kernel
theorem dX5_shrink_28 : decode cX5_shrink 28 = .ok (.iconst 0, 1) := by decide +kernel
theorem dX5_shrink_29 : decode cX5_shrink 29 = .ok (.goto 8, 3) := by decide +kernel
theorem dX5_shrink_32 : decode cX5_shrink 32 = .ok (.aload_n 0, 1) := by decide +kernel
theorem dX5_shrink_33 : decode cX5_shrink 33 = .ok (.iload_n 2, 1) := by decide +kernel
theorem dX5_shrink_34 : decode cX5_shrink 34 = .ok (.invokevirtual 107, 3) := by decide +kernel
theorem dX5_shrink_37 : decode cX5_shrink 37 = .ok (.ireturn, 1) := by decide +kernel
theorem dX5_classOf_0 : decode cX5_classOf 0 = .ok (.iconst 0, 1) := by decide +kernel
theorem dX5_classOf_1 : decode cX5_classOf 1 = .ok (.istore_n 1, 1) := by decide +kernel
theorem dX5_classOf_2 : decode cX5_classOf 2 = .ok (.iload_n 1, 1) := by decide +kernel
theorem dX5_classOf_3 : decode cX5_classOf 3 = .ok (.bipush 6, 2) := by decide +kernel
theorem dX5_classOf_5 : decode cX5_classOf 5 = .ok (.if_icmp .ge 17, 3) := by decide +kernel
theorem dX5_classOf_8 : decode cX5_classOf 8 = .ok (.bipush 8, 2) := by decide +kernel
theorem dX5_classOf_10 : decode cX5_classOf 10 = .ok (.iload_n 1, 1) := by decide +kernel
theorem dX5_classOf_11 : decode cX5_classOf 11 = .ok (.ishl, 1) := by decide +kernel
theorem dX5_classOf_12 : decode cX5_classOf 12 = .ok (.iload_n 0, 1) := by decide +kernel
theorem dX5_classOf_13 : decode cX5_classOf 13 = .ok (.if_icmp .ge 9, 3) := by decide +kernel
theorem dX5_classOf_16 : decode cX5_classOf 16 = .ok (.iinc 1 1, 3) := by decide +kernel
theorem dX5_classOf_19 : decode cX5_classOf 19 = .ok (.goto (-17), 3) := by decide +kernel
theorem dX5_classOf_22 : decode cX5_classOf 22 = .ok (.iload_n 1, 1) := by decide +kernel
theorem dX5_classOf_23 : decode cX5_classOf 23 = .ok (.bipush 6, 2) := by decide +kernel
theorem dX5_classOf_25 : decode cX5_classOf 25 = .ok (.if_icmp .ge 12, 3) := by decide +kernel
theorem dX5_classOf_28 : decode cX5_classOf 28 = .ok (.iload_n 0, 1) := by decide +kernel
theorem dX5_classOf_29 : decode cX5_classOf 29 = .ok (.sipush 256, 3) := by decide +kernel
theorem dX5_classOf_32 : decode cX5_classOf 32 = .ok (.if_icmp .gt 5, 3) := by decide +kernel
theorem dX5_classOf_35 : decode cX5_classOf 35 = .ok (.iload_n 1, 1) := by decide +kernel
theorem dX5_classOf_36 : decode cX5_classOf 36 = .ok (.ireturn, 1) := by decide +kernel
theorem dX5_classOf_37 : decode cX5_classOf 37 = .ok (.iconst 0, 1) := by decide +kernel
theorem dX5_classOf_38 : decode cX5_classOf 38 = .ok (.istore_n 2, 1) := by decide +kernel
theorem dX5_classOf_39 : decode cX5_classOf 39 = .ok (.bipush 64, 2) := by decide +kernel
theorem dX5_classOf_41 : decode cX5_classOf 41 = .ok (.iload_n 2, 1) := by decide +kernel
theorem dX5_classOf_42 : decode cX5_classOf 42 = .ok (.ishl, 1) := by decide +kernel
theorem dX5_classOf_43 : decode cX5_classOf 43 = .ok (.iload_n 0, 1) := by decide +kernel
theorem dX5_classOf_44 : decode cX5_classOf 44 = .ok (.if_icmp .ge 9, 3) := by decide +kernel
theorem dX5_classOf_47 : decode cX5_classOf 47 = .ok (.iinc 2 1, 3) := by decide +kernel
theorem dX5_classOf_50 : decode cX5_classOf 50 = .ok (.goto (-11), 3) := by decide +kernel
theorem dX5_classOf_53 : decode cX5_classOf 53 = .ok (.bipush 6, 2) := by decide +kernel
theorem dX5_classOf_55 : decode cX5_classOf 55 = .ok (.iload_n 2, 1) := by decide +kernel
theorem dX5_classOf_56 : decode cX5_classOf 56 = .ok (.iadd, 1) := by decide +kernel
theorem dX5_classOf_57 : decode cX5_classOf 57 = .ok (.ireturn, 1) := by decide +kernel
theorem dX5_alloc_0 : decode cX5_alloc 0 = .ok (.aload_n 0, 1) := by decide +kernel
theorem dX5_alloc_1 : decode cX5_alloc 1 = .ok (.getfield 58, 3) := by decide +kernel
theorem dX5_alloc_4 : decode cX5_alloc 4 = .ok (.ifCond .eq 14, 3) := by decide +kernel
theorem dX5_alloc_7 : decode cX5_alloc 7 = .ok (.iload_n 1, 1) := by decide +kernel
theorem dX5_alloc_8 : decode cX5_alloc 8 = .ok (.iconst 1, 1) := by decide +kernel
theorem dX5_alloc_9 : decode cX5_alloc 9 = .ok (.sipush 4096, 3) := by decide +kernel
theorem dX5_alloc_12 : decode cX5_alloc 12 = .ok (.invokestatic 62, 3) := by decide +kernel
theorem dX5_alloc_15 : decode cX5_alloc 15 = .ok (.ifCond .ne 5, 3) := by decide +kernel
theorem dX5_alloc_18 : decode cX5_alloc 18 = .ok (.iconst (-1), 1) := by decide +kernel
theorem dX5_alloc_19 : decode cX5_alloc 19 = .ok (.ireturn, 1) := by decide +kernel
theorem dX5_alloc_20 : decode cX5_alloc 20 = .ok (.iload_n 1, 1) := by decide +kernel
theorem dX5_alloc_21 : decode cX5_alloc 21 = .ok (.invokestatic 137, 3) := by decide +kernel
theorem dX5_alloc_24 : decode cX5_alloc 24 = .ok (.istore_n 2, 1) := by decide +kernel
theorem dX5_alloc_25 : decode cX5_alloc 25 = .ok (.iload_n 2, 1) := by decide +kernel
theorem dX5_alloc_26 : decode cX5_alloc 26 = .ok (.bipush 6, 2) := by decide +kernel
theorem dX5_alloc_28 : decode cX5_alloc 28 = .ok (.if_icmp .ge 9, 3) := by decide +kernel
theorem dX5_alloc_31 : decode cX5_alloc 31 = .ok (.aload_n 0, 1) := by decide +kernel
theorem dX5_alloc_32 : decode cX5_alloc 32 = .ok (.iload_n 2, 1) := by decide +kernel
theorem dX5_alloc_33 : decode cX5_alloc 33 = .ok (.invokevirtual 140, 3) := by decide +kernel
theorem dX5_alloc_36 : decode cX5_alloc 36 = .ok (.ireturn, 1) := by decide +kernel
theorem dX5_alloc_37 : decode cX5_alloc 37 = .ok (.aload_n 0, 1) := by decide +kernel
theorem dX5_alloc_38 : decode cX5_alloc 38 = .ok (.iload_n 2, 1) := by decide +kernel
theorem dX5_alloc_39 : decode cX5_alloc 39 = .ok (.bipush 6, 2) := by decide +kernel
theorem dX5_alloc_41 : decode cX5_alloc 41 = .ok (.isub, 1) := by decide +kernel
theorem dX5_alloc_42 : decode cX5_alloc 42 = .ok (.invokevirtual 100, 3) := by decide +kernel
theorem dX5_alloc_45 : decode cX5_alloc 45 = .ok (.istore_n 3, 1) := by decide +kernel
theorem dX5_alloc_46 : decode cX5_alloc 46 = .ok (.iload_n 3, 1) := by decide +kernel
theorem dX5_alloc_47 : decode cX5_alloc 47 = .ok (.ifCond .ge 7, 3) := by decide +kernel
theorem dX5_alloc_50 : decode cX5_alloc 50 = .ok (.iconst (-1), 1) := by decide +kernel
theorem dX5_alloc_51 : decode cX5_alloc 51 = .ok (.goto 7, 3) := by decide +kernel
theorem dX5_alloc_54 : decode cX5_alloc 54 = .ok (.bipush 64, 2) := by decide +kernel
theorem dX5_alloc_56 : decode cX5_alloc 56 = .ok (.iload_n 3, 1) := by decide +kernel
theorem dX5_alloc_57 : decode cX5_alloc 57 = .ok (.imul, 1) := by decide +kernel
theorem dX5_alloc_58 : decode cX5_alloc 58 = .ok (.ireturn, 1) := by decide +kernel
theorem dX5_classAt_0 : decode cX5_classAt 0 = .ok (.aload_n 0, 1) := by decide +kernel
theorem dX5_classAt_1 : decode cX5_classAt 1 = .ok (.iload_n 1, 1) := by decide +kernel
theorem dX5_classAt_2 : decode cX5_classAt 2 = .ok (.invokevirtual 128, 3) := by decide +kernel
theorem dX5_classAt_5 : decode cX5_classAt 5 = .ok (.istore_n 2, 1) := by decide +kernel
theorem dX5_classAt_6 : decode cX5_classAt 6 = .ok (.iload_n 2, 1) := by decide +kernel
theorem dX5_classAt_7 : decode cX5_classAt 7 = .ok (.ifCond .lt 40, 3) := by decide +kernel
theorem dX5_classAt_10 : decode cX5_classAt 10 = .ok (.aload_n 0, 1) := by decide +kernel
theorem dX5_classAt_11 : decode cX5_classAt 11 = .ok (.getfield 26, 3) := by decide +kernel
theorem dX5_classAt_14 : decode cX5_classAt 14 = .ok (.iload_n 2, 1) := by decide +kernel
theorem dX5_classAt_15 : decode cX5_classAt 15 = .ok (.iaload, 1) := by decide +kernel
theorem dX5_classAt_16 : decode cX5_classAt 16 = .ok (.iconst 5, 1) := by decide +kernel
theorem dX5_classAt_17 : decode cX5_classAt 17 = .ok (.if_icmp .le 8, 3) := by decide +kernel
theorem dX5_classAt_20 : decode cX5_classAt 20 = .ok (.bipush (-2), 2) := by decide +kernel
theorem dX5_classAt_22 : decode cX5_classAt 22 = .ok (.goto 9, 3) := by decide +kernel
theorem dX5_classAt_25 : decode cX5_classAt 25 = .ok (.aload_n 0, 1) := by decide +kernel
theorem dX5_classAt_26 : decode cX5_classAt 26 = .ok (.iload_n 2, 1) := by decide +kernel
theorem dX5_classAt_27 : decode cX5_classAt 27 = .ok (.iload_n 1, 1) := by decide +kernel
theorem dX5_classAt_28 : decode cX5_classAt 28 = .ok (.invokevirtual 131, 3) := by decide +kernel
theorem dX5_classAt_31 : decode cX5_classAt 31 = .ok (.istore_n 3, 1) := by decide +kernel
theorem dX5_classAt_32 : decode cX5_classAt 32 = .ok (.iload_n 3, 1) := by decide +kernel
theorem dX5_classAt_33 : decode cX5_classAt 33 = .ok (.ifCond .ge 7, 3) := by decide +kernel
theorem dX5_classAt_36 : decode cX5_classAt 36 = .ok (.iload_n 3, 1) := by decide +kernel
theorem dX5_classAt_37 : decode cX5_classAt 37 = .ok (.goto 9, 3) := by decide +kernel
theorem dX5_classAt_40 : decode cX5_classAt 40 = .ok (.aload_n 0, 1) := by decide +kernel
theorem dX5_classAt_41 : decode cX5_classAt 41 = .ok (.getfield 26, 3) := by decide +kernel
theorem dX5_classAt_44 : decode cX5_classAt 44 = .ok (.iload_n 2, 1) := by decide +kernel
theorem dX5_classAt_45 : decode cX5_classAt 45 = .ok (.iaload, 1) := by decide +kernel
theorem dX5_classAt_46 : decode cX5_classAt 46 = .ok (.ireturn, 1) := by decide +kernel
theorem dX5_classAt_47 : decode cX5_classAt 47 = .ok (.iload_n 1, 1) := by decide +kernel
theorem dX5_classAt_48 : decode cX5_classAt 48 = .ok (.ifCond .lt 10, 3) := by decide +kernel
theorem dX5_classAt_51 : decode cX5_classAt 51 = .ok (.iload_n 1, 1) := by decide +kernel
theorem dX5_classAt_52 : decode cX5_classAt 52 = .ok (.bipush 64, 2) := by decide +kernel
theorem dX5_classAt_54 : decode cX5_classAt 54 = .ok (.irem, 1) := by decide +kernel
theorem dX5_classAt_55 : decode cX5_classAt 55 = .ok (.ifCond .eq 6, 3) := by decide +kernel
theorem dX5_classAt_58 : decode cX5_classAt 58 = .ok (.bipush (-2), 2) := by decide +kernel
theorem dX5_classAt_60 : decode cX5_classAt 60 = .ok (.ireturn, 1) := by decide +kernel
theorem dX5_classAt_61 : decode cX5_classAt 61 = .ok (.aload_n 0, 1) := by decide +kernel
theorem dX5_classAt_62 : decode cX5_classAt 62 = .ok (.iload_n 1, 1) := by decide +kernel
theorem dX5_classAt_63 : decode cX5_classAt 63 = .ok (.bipush 64, 2) := by decide +kernel
theorem dX5_classAt_65 : decode cX5_classAt 65 = .ok (.idiv, 1) := by decide +kernel
theorem dX5_classAt_66 : decode cX5_classAt 66 = .ok (.invokevirtual 104, 3) := by decide +kernel
theorem dX5_classAt_69 : decode cX5_classAt 69 = .ok (.istore_n 3, 1) := by decide +kernel
theorem dX5_classAt_70 : decode cX5_classAt 70 = .ok (.iload_n 3, 1) := by decide +kernel
theorem dX5_classAt_71 : decode cX5_classAt 71 = .ok (.ifCond .ge 7, 3) := by decide +kernel
theorem dX5_classAt_74 : decode cX5_classAt 74 = .ok (.iload_n 3, 1) := by decide +kernel
theorem dX5_classAt_75 : decode cX5_classAt 75 = .ok (.goto 15, 3) := by decide +kernel
theorem dX5_classAt_78 : decode cX5_classAt 78 = .ok (.bipush 6, 2) := by decide +kernel
theorem dX5_classAt_80 : decode cX5_classAt 80 = .ok (.aload_n 0, 1) := by decide +kernel
theorem dX5_classAt_81 : decode cX5_classAt 81 = .ok (.getfield 20, 3) := by decide +kernel
theorem dX5_classAt_84 : decode cX5_classAt 84 = .ok (.iload_n 1, 1) := by decide +kernel
theorem dX5_classAt_85 : decode cX5_classAt 85 = .ok (.bipush 64, 2) := by decide +kernel
theorem dX5_classAt_87 : decode cX5_classAt 87 = .ok (.idiv, 1) := by decide +kernel
theorem dX5_classAt_88 : decode cX5_classAt 88 = .ok (.iaload, 1) := by decide +kernel
theorem dX5_classAt_89 : decode cX5_classAt 89 = .ok (.iadd, 1) := by decide +kernel
theorem dX5_classAt_90 : decode cX5_classAt 90 = .ok (.ireturn, 1) := by decide +kernel
theorem dX5_bytesOf_0 : decode cX5_bytesOf 0 = .ok (.iload_n 0, 1) := by decide +kernel
theorem dX5_bytesOf_1 : decode cX5_bytesOf 1 = .ok (.bipush 6, 2) := by decide +kernel
theorem dX5_bytesOf_3 : decode cX5_bytesOf 3 = .ok (.if_icmp .ge 10, 3) := by decide +kernel
theorem dX5_bytesOf_6 : decode cX5_bytesOf 6 = .ok (.bipush 8, 2) := by decide +kernel
theorem dX5_bytesOf_8 : decode cX5_bytesOf 8 = .ok (.iload_n 0, 1) := by decide +kernel
theorem dX5_bytesOf_9 : decode cX5_bytesOf 9 = .ok (.ishl, 1) := by decide +kernel
theorem dX5_bytesOf_10 : decode cX5_bytesOf 10 = .ok (.goto 10, 3) := by decide +kernel
theorem dX5_bytesOf_13 : decode cX5_bytesOf 13 = .ok (.bipush 64, 2) := by decide +kernel
theorem dX5_bytesOf_15 : decode cX5_bytesOf 15 = .ok (.iload_n 0, 1) := by decide +kernel
theorem dX5_bytesOf_16 : decode cX5_bytesOf 16 = .ok (.bipush 6, 2) := by decide +kernel
theorem dX5_bytesOf_18 : decode cX5_bytesOf 18 = .ok (.isub, 1) := by decide +kernel
theorem dX5_bytesOf_19 : decode cX5_bytesOf 19 = .ok (.ishl, 1) := by decide +kernel
theorem dX5_bytesOf_20 : decode cX5_bytesOf 20 = .ok (.ireturn, 1) := by decide +kernel
theorem dX5_release_0 : decode cX5_release 0 = .ok (.iload_n 2, 1) := by decide +kernel
theorem dX5_release_1 : decode cX5_release 1 = .ok (.bipush 6, 2) := by decide +kernel
theorem dX5_release_3 : decode cX5_release 3 = .ok (.if_icmp .ge 14, 3) := by decide +kernel
theorem dX5_release_6 : decode cX5_release 6 = .ok (.aload_n 0, 1) := by decide +kernel
theorem dX5_release_7 : decode cX5_release 7 = .ok (.aload_n 0, 1) := by decide +kernel
theorem dX5_release_8 : decode cX5_release 8 = .ok (.iload_n 1, 1) := by decide +kernel
theorem dX5_release_9 : decode cX5_release 9 = .ok (.invokevirtual 128, 3) := by decide +kernel
theorem dX5_release_12 : decode cX5_release 12 = .ok (.iload_n 1, 1) := by decide +kernel
theorem dX5_release_13 : decode cX5_release 13 = .ok (.invokevirtual 134, 3) := by decide +kernel
theorem dX5_release_16 : decode cX5_release 16 = .ok (.ireturn, 1) := by decide +kernel
theorem dX5_release_17 : decode cX5_release 17 = .ok (.aload_n 0, 1) := by decide +kernel
theorem dX5_release_18 : decode cX5_release 18 = .ok (.iload_n 1, 1) := by decide +kernel
theorem dX5_release_19 : decode cX5_release 19 = .ok (.bipush 64, 2) := by decide +kernel
theorem dX5_release_21 : decode cX5_release 21 = .ok (.idiv, 1) := by decide +kernel
theorem dX5_release_22 : decode cX5_release 22 = .ok (.invokevirtual 107, 3) := by decide +kernel
theorem dX5_release_25 : decode cX5_release 25 = .ok (.ireturn, 1) := by decide +kernel
theorem dX5_free_0 : decode cX5_free 0 = .ok (.aload_n 0, 1) := by decide +kernel
theorem dX5_free_1 : decode cX5_free 1 = .ok (.iload_n 1, 1) := by decide +kernel
theorem dX5_free_2 : decode cX5_free 2 = .ok (.invokevirtual 143, 3) := by decide +kernel
theorem dX5_free_5 : decode cX5_free 5 = .ok (.istore_n 2, 1) := by decide +kernel
theorem dX5_free_6 : decode cX5_free 6 = .ok (.iload_n 2, 1) := by decide +kernel
theorem dX5_free_7 : decode cX5_free 7 = .ok (.ifCond .ge 5, 3) := by decide +kernel
theorem dX5_free_10 : decode cX5_free 10 = .ok (.iload_n 2, 1) := by decide +kernel
theorem dX5_free_11 : decode cX5_free 11 = .ok (.ireturn, 1) := by decide +kernel
theorem dX5_free_12 : decode cX5_free 12 = .ok (.aload_n 0, 1) := by decide +kernel
theorem dX5_free_13 : decode cX5_free 13 = .ok (.iload_n 1, 1) := by decide +kernel
theorem dX5_free_14 : decode cX5_free 14 = .ok (.iload_n 2, 1) := by decide +kernel
theorem dX5_free_15 : decode cX5_free 15 = .ok (.invokevirtual 146, 3) := by decide +kernel
theorem dX5_free_18 : decode cX5_free 18 = .ok (.istore_n 3, 1) := by decide +kernel
theorem dX5_free_19 : decode cX5_free 19 = .ok (.iload_n 3, 1) := by decide +kernel
theorem dX5_free_20 : decode cX5_free 20 = .ok (.ifCond .ge 7, 3) := by decide +kernel
theorem dX5_free_23 : decode cX5_free 23 = .ok (.iload_n 3, 1) := by decide +kernel
theorem dX5_free_24 : decode cX5_free 24 = .ok (.goto 7, 3) := by decide +kernel
theorem dX5_free_27 : decode cX5_free 27 = .ok (.iload_n 2, 1) := by decide +kernel
theorem dX5_free_28 : decode cX5_free 28 = .ok (.invokestatic 149, 3) := by decide +kernel
theorem dX5_free_31 : decode cX5_free 31 = .ok (.ireturn, 1) := by decide +kernel
theorem dX5_size_0 : decode cX5_size 0 = .ok (.aload_n 0, 1) := by decide +kernel
theorem dX5_size_1 : decode cX5_size 1 = .ok (.iload_n 1, 1) := by decide +kernel
theorem dX5_size_2 : decode cX5_size 2 = .ok (.invokevirtual 143, 3) := by decide +kernel
theorem dX5_size_5 : decode cX5_size 5 = .ok (.istore_n 2, 1) := by decide +kernel
theorem dX5_size_6 : decode cX5_size 6 = .ok (.iload_n 2, 1) := by decide +kernel
theorem dX5_size_7 : decode cX5_size 7 = .ok (.ifCond .ge 7, 3) := by decide +kernel
theorem dX5_size_10 : decode cX5_size 10 = .ok (.iload_n 2, 1) := by decide +kernel
theorem dX5_size_11 : decode cX5_size 11 = .ok (.goto 7, 3) := by decide +kernel
theorem dX5_size_14 : decode cX5_size 14 = .ok (.iload_n 2, 1) := by decide +kernel
theorem dX5_size_15 : decode cX5_size 15 = .ok (.invokestatic 149, 3) := by decide +kernel
theorem dX5_size_18 : decode cX5_size 18 = .ok (.ireturn, 1) := by decide +kernel
theorem dX5_resize_0 : decode cX5_resize 0 = .ok (.aload_n 0, 1) := by decide +kernel
theorem dX5_resize_1 : decode cX5_resize 1 = .ok (.iload_n 1, 1) := by decide +kernel
theorem dX5_resize_2 : decode cX5_resize 2 = .ok (.invokevirtual 143, 3) := by decide +kernel
theorem dX5_resize_5 : decode cX5_resize 5 = .ok (.istore_n 3, 1) := by decide +kernel
theorem dX5_resize_6 : decode cX5_resize 6 = .ok (.iload_n 3, 1) := by decide +kernel
theorem dX5_resize_7 : decode cX5_resize 7 = .ok (.ifCond .ge 5, 3) := by decide +kernel
theorem dX5_resize_10 : decode cX5_resize 10 = .ok (.iload_n 3, 1) := by decide +kernel
theorem dX5_resize_11 : decode cX5_resize 11 = .ok (.ireturn, 1) := by decide +kernel
theorem dX5_resize_12 : decode cX5_resize 12 = .ok (.iload_n 2, 1) := by decide +kernel
theorem dX5_resize_13 : decode cX5_resize 13 = .ok (.iconst 1, 1) := by decide +kernel
theorem dX5_resize_14 : decode cX5_resize 14 = .ok (.sipush 4096, 3) := by decide +kernel
theorem dX5_resize_17 : decode cX5_resize 17 = .ok (.invokestatic 62, 3) := by decide +kernel
theorem dX5_resize_20 : decode cX5_resize 20 = .ok (.ifCond .ne 5, 3) := by decide +kernel
theorem dX5_resize_23 : decode cX5_resize 23 = .ok (.iconst (-1), 1) := by decide +kernel
theorem dX5_resize_24 : decode cX5_resize 24 = .ok (.ireturn, 1) := by decide +kernel
theorem dX5_resize_25 : decode cX5_resize 25 = .ok (.iload_n 2, 1) := by decide +kernel
theorem dX5_resize_26 : decode cX5_resize 26 = .ok (.invokestatic 137, 3) := by decide +kernel
theorem dX5_resize_29 : decode cX5_resize 29 = .ok (.istore 4, 2) := by decide +kernel
theorem dX5_resize_31 : decode cX5_resize 31 = .ok (.iload_n 3, 1) := by decide +kernel
theorem dX5_resize_32 : decode cX5_resize 32 = .ok (.iload 4, 2) := by decide +kernel
theorem dX5_resize_34 : decode cX5_resize 34 = .ok (.if_icmp .ne 5, 3) := by decide +kernel
theorem dX5_resize_37 : decode cX5_resize 37 = .ok (.iload_n 1, 1) := by decide +kernel
theorem dX5_resize_38 : decode cX5_resize 38 = .ok (.ireturn, 1) := by decide +kernel
theorem dX5_resize_39 : decode cX5_resize 39 = .ok (.aload_n 0, 1) := by decide +kernel
theorem dX5_resize_40 : decode cX5_resize 40 = .ok (.iload_n 2, 1) := by decide +kernel
theorem dX5_resize_41 : decode cX5_resize 41 = .ok (.invokevirtual 152, 3) := by decide +kernel
theorem dX5_resize_44 : decode cX5_resize 44 = .ok (.istore 5, 2) := by decide +kernel
theorem dX5_resize_46 : decode cX5_resize 46 = .ok (.iload 5, 2) := by decide +kernel
theorem dX5_resize_48 : decode cX5_resize 48 = .ok (.ifCond .ge 5, 3) := by decide +kernel
theorem dX5_resize_51 : decode cX5_resize 51 = .ok (.iconst (-1), 1) := by decide +kernel
theorem dX5_resize_52 : decode cX5_resize 52 = .ok (.ireturn, 1) := by decide +kernel
theorem dX5_resize_53 : decode cX5_resize 53 = .ok (.iload_n 3, 1) := by decide +kernel
theorem dX5_resize_54 : decode cX5_resize 54 = .ok (.invokestatic 149, 3) := by decide +kernel
theorem dX5_resize_57 : decode cX5_resize 57 = .ok (.iload_n 2, 1) := by decide +kernel
theorem dX5_resize_58 : decode cX5_resize 58 = .ok (.if_icmp .ge 10, 3) := by decide +kernel
theorem dX5_resize_61 : decode cX5_resize 61 = .ok (.iload_n 3, 1) := by decide +kernel
theorem dX5_resize_62 : decode cX5_resize 62 = .ok (.invokestatic 149, 3) := by decide +kernel
theorem dX5_resize_65 : decode cX5_resize 65 = .ok (.goto 4, 3) := by decide +kernel
theorem dX5_resize_68 : decode cX5_resize 68 = .ok (.iload_n 2, 1) := by decide +kernel
theorem dX5_resize_69 : decode cX5_resize 69 = .ok (.istore 6, 2) := by decide +kernel
theorem dX5_resize_71 : decode cX5_resize 71 = .ok (.iconst 0, 1) := by decide +kernel
theorem dX5_resize_72 : decode cX5_resize 72 = .ok (.istore 7, 2) := by decide +kernel
theorem dX5_resize_74 : decode cX5_resize 74 = .ok (.iload 7, 2) := by decide +kernel
theorem dX5_resize_76 : decode cX5_resize 76 = .ok (.iload 6, 2) := by decide +kernel
theorem dX5_resize_78 : decode cX5_resize 78 = .ok (.if_icmp .ge 28, 3) := by decide +kernel
theorem dX5_resize_81 : decode cX5_resize 81 = .ok (.aload_n 0, 1) := by decide +kernel
theorem dX5_resize_82 : decode cX5_resize 82 = .ok (.getfield 7, 3) := by decide +kernel
theorem dX5_resize_85 : decode cX5_resize 85 = .ok (.iload 5, 2) := by decide +kernel
theorem dX5_resize_87 : decode cX5_resize 87 = .ok (.iload 7, 2) := by decide +kernel
theorem dX5_resize_89 : decode cX5_resize 89 = .ok (.iadd, 1) := by decide +kernel
theorem dX5_resize_90 : decode cX5_resize 90 = .ok (.aload_n 0, 1) := by decide +kernel
theorem dX5_resize_91 : decode cX5_resize 91 = .ok (.getfield 7, 3) := by decide +kernel
theorem dX5_resize_94 : decode cX5_resize 94 = .ok (.iload_n 1, 1) := by decide +kernel
theorem dX5_resize_95 : decode cX5_resize 95 = .ok (.iload 7, 2) := by decide +kernel
theorem dX5_resize_97 : decode cX5_resize 97 = .ok (.iadd, 1) := by decide +kernel
theorem dX5_resize_98 : decode cX5_resize 98 = .ok (.iaload, 1) := by decide +kernel
theorem dX5_resize_99 : decode cX5_resize 99 = .ok (.iastore, 1) := by decide +kernel
theorem dX5_resize_100 : decode cX5_resize 100 = .ok (.iinc 7 1, 3) := by decide +kernel
theorem dX5_resize_103 : decode cX5_resize 103 = .ok (.goto (-29), 3) := by decide +kernel
theorem dX5_resize_106 : decode cX5_resize 106 = .ok (.aload_n 0, 1) := by decide +kernel
theorem dX5_resize_107 : decode cX5_resize 107 = .ok (.iload_n 1, 1) := by decide +kernel
theorem dX5_resize_108 : decode cX5_resize 108 = .ok (.iload_n 3, 1) := by decide +kernel
theorem dX5_resize_109 : decode cX5_resize 109 = .ok (.invokevirtual 146, 3) := by decide +kernel
theorem dX5_resize_112 : decode cX5_resize 112 = .ok (.istore 7, 2) := by decide +kernel
theorem dX5_resize_114 : decode cX5_resize 114 = .ok (.iload 7, 2) := by decide +kernel
theorem dX5_resize_116 : decode cX5_resize 116 = .ok (.ifCond .ge 7, 3) := by decide +kernel
theorem dX5_resize_119 : decode cX5_resize 119 = .ok (.iconst (-1), 1) := by decide +kernel
theorem dX5_resize_120 : decode cX5_resize 120 = .ok (.goto 5, 3) := by decide +kernel
theorem dX5_resize_123 : decode cX5_resize 123 = .ok (.iload 5, 2) := by decide +kernel
theorem dX5_resize_125 : decode cX5_resize 125 = .ok (.ireturn, 1) := by decide +kernel
theorem dX5_isAddress_0 : decode cX5_isAddress 0 = .ok (.iload_n 0, 1) := by decide +kernel
theorem dX5_isAddress_1 : decode cX5_isAddress 1 = .ok (.iconst 0, 1) := by decide +kernel
theorem dX5_isAddress_2 : decode cX5_isAddress 2 = .ok (.sipush 16383, 3) := by decide +kernel
theorem dX5_isAddress_5 : decode cX5_isAddress 5 = .ok (.invokestatic 62, 3) := by decide +kernel
theorem dX5_isAddress_8 : decode cX5_isAddress 8 = .ok (.ireturn, 1) := by decide +kernel
theorem dX5_read_0 : decode cX5_read 0 = .ok (.iload_n 1, 1) := by decide +kernel
theorem dX5_read_1 : decode cX5_read 1 = .ok (.invokestatic 155, 3) := by decide +kernel
theorem dX5_read_4 : decode cX5_read 4 = .ok (.ifCond .eq 12, 3) := by decide +kernel
theorem dX5_read_7 : decode cX5_read 7 = .ok (.aload_n 0, 1) := by decide +kernel
theorem dX5_read_8 : decode cX5_read 8 = .ok (.getfield 7, 3) := by decide +kernel
theorem dX5_read_11 : decode cX5_read 11 = .ok (.iload_n 1, 1) := by decide +kernel
theorem dX5_read_12 : decode cX5_read 12 = .ok (.iaload, 1) := by decide +kernel
theorem dX5_read_13 : decode cX5_read 13 = .ok (.goto 4, 3) := by decide +kernel
theorem dX5_read_16 : decode cX5_read 16 = .ok (.iconst (-1), 1) := by decide +kernel
theorem dX5_read_17 : decode cX5_read 17 = .ok (.ireturn, 1) := by decide +kernel
theorem dX5_write_0 : decode cX5_write 0 = .ok (.iload_n 1, 1) := by decide +kernel
theorem dX5_write_1 : decode cX5_write 1 = .ok (.invokestatic 155, 3) := by decide +kernel
theorem dX5_write_4 : decode cX5_write 4 = .ok (.ifCond .ne 5, 3) := by decide +kernel
theorem dX5_write_7 : decode cX5_write 7 = .ok (.iconst (-1), 1) := by decide +kernel
theorem dX5_write_8 : decode cX5_write 8 = .ok (.ireturn, 1) := by decide +kernel
theorem dX5_write_9 : decode cX5_write 9 = .ok (.aload_n 0, 1) := by decide +kernel
theorem dX5_write_10 : decode cX5_write 10 = .ok (.getfield 7, 3) := by decide +kernel
theorem dX5_write_13 : decode cX5_write 13 = .ok (.iload_n 1, 1) := by decide +kernel
theorem dX5_write_14 : decode cX5_write 14 = .ok (.iaload, 1) := by decide +kernel
theorem dX5_write_15 : decode cX5_write 15 = .ok (.istore_n 3, 1) := by decide +kernel
theorem dX5_write_16 : decode cX5_write 16 = .ok (.aload_n 0, 1) := by decide +kernel
theorem dX5_write_17 : decode cX5_write 17 = .ok (.getfield 7, 3) := by decide +kernel
theorem dX5_write_20 : decode cX5_write 20 = .ok (.iload_n 1, 1) := by decide +kernel
theorem dX5_write_21 : decode cX5_write 21 = .ok (.iload_n 2, 1) := by decide +kernel
theorem dX5_write_22 : decode cX5_write 22 = .ok (.sipush 255, 3) := by decide +kernel
theorem dX5_write_25 : decode cX5_write 25 = .ok (.iand, 1) := by decide +kernel
theorem dX5_write_26 : decode cX5_write 26 = .ok (.iastore, 1) := by decide +kernel
theorem dX5_write_27 : decode cX5_write 27 = .ok (.iload_n 3, 1) := by decide +kernel
theorem dX5_write_28 : decode cX5_write 28 = .ok (.ireturn, 1) := by decide +kernel
theorem dX5_arm_0 : decode cX5_arm 0 = .ok (.iload_n 1, 1) := by decide +kernel
theorem dX5_arm_1 : decode cX5_arm 1 = .ok (.iconst 0, 1) := by decide +kernel
theorem dX5_arm_2 : decode cX5_arm 2 = .ok (.bipush 100, 2) := by decide +kernel
theorem dX5_arm_4 : decode cX5_arm 4 = .ok (.invokestatic 62, 3) := by decide +kernel
theorem dX5_arm_7 : decode cX5_arm 7 = .ok (.ifCond .ne 5, 3) := by decide +kernel
theorem dX5_arm_10 : decode cX5_arm 10 = .ok (.iconst 0, 1) := by decide +kernel
theorem dX5_arm_11 : decode cX5_arm 11 = .ok (.ireturn, 1) := by decide +kernel
theorem dX5_arm_12 : decode cX5_arm 12 = .ok (.aload_n 0, 1) := by decide +kernel
theorem dX5_arm_13 : decode cX5_arm 13 = .ok (.iload_n 1, 1) := by decide +kernel
theorem dX5_arm_14 : decode cX5_arm 14 = .ok (.putfield 50, 3) := by decide +kernel
theorem dX5_arm_17 : decode cX5_arm 17 = .ok (.iconst 1, 1) := by decide +kernel
theorem dX5_arm_18 : decode cX5_arm 18 = .ok (.ireturn, 1) := by decide +kernel
theorem dX5_ofPage_0 : decode cX5_ofPage 0 = .ok (.iload_n 1, 1) := by decide +kernel
theorem dX5_ofPage_1 : decode cX5_ofPage 1 = .ok (.iconst 0, 1) := by decide +kernel
theorem dX5_ofPage_2 : decode cX5_ofPage 2 = .ok (.sipush 255, 3) := by decide +kernel
theorem dX5_ofPage_5 : decode cX5_ofPage 5 = .ok (.invokestatic 62, 3) := by decide +kernel
theorem dX5_ofPage_8 : decode cX5_ofPage 8 = .ok (.ifCond .ne 6, 3) := by decide +kernel
theorem dX5_ofPage_11 : decode cX5_ofPage 11 = .ok (.bipush (-2), 2) := by decide +kernel
theorem dX5_ofPage_13 : decode cX5_ofPage 13 = .ok (.ireturn, 1) := by decide +kernel
theorem dX5_ofPage_14 : decode cX5_ofPage 14 = .ok (.aload_n 0, 1) := by decide +kernel
theorem dX5_ofPage_15 : decode cX5_ofPage 15 = .ok (.getfield 58, 3) := by decide +kernel
theorem dX5_ofPage_18 : decode cX5_ofPage 18 = .ok (.ifCond .eq 12, 3) := by decide +kernel
theorem dX5_ofPage_21 : decode cX5_ofPage 21 = .ok (.aload_n 0, 1) := by decide +kernel
theorem dX5_ofPage_22 : decode cX5_ofPage 22 = .ok (.getfield 13, 3) := by decide +kernel
theorem dX5_ofPage_25 : decode cX5_ofPage 25 = .ok (.iload_n 1, 1) := by decide +kernel
theorem dX5_ofPage_26 : decode cX5_ofPage 26 = .ok (.baload, 1) := by decide +kernel
theorem dX5_ofPage_27 : decode cX5_ofPage 27 = .ok (.ifCond .ne 5, 3) := by decide +kernel
theorem dX5_ofPage_30 : decode cX5_ofPage 30 = .ok (.iconst (-1), 1) := by decide +kernel
theorem dX5_ofPage_31 : decode cX5_ofPage 31 = .ok (.ireturn, 1) := by decide +kernel
theorem dX5_ofPage_32 : decode cX5_ofPage 32 = .ok (.aload_n 0, 1) := by decide +kernel
theorem dX5_ofPage_33 : decode cX5_ofPage 33 = .ok (.getfield 17, 3) := by decide +kernel
theorem dX5_ofPage_36 : decode cX5_ofPage 36 = .ok (.iload_n 1, 1) := by decide +kernel
theorem dX5_ofPage_37 : decode cX5_ofPage 37 = .ok (.iaload, 1) := by decide +kernel
theorem dX5_ofPage_38 : decode cX5_ofPage 38 = .ok (.istore_n 2, 1) := by decide +kernel
theorem dX5_ofPage_39 : decode cX5_ofPage 39 = .ok (.aload_n 0, 1) := by decide +kernel
theorem dX5_ofPage_40 : decode cX5_ofPage 40 = .ok (.getfield 23, 3) := by decide +kernel
theorem dX5_ofPage_43 : decode cX5_ofPage 43 = .ok (.iload_n 2, 1) := by decide +kernel
theorem dX5_ofPage_44 : decode cX5_ofPage 44 = .ok (.baload, 1) := by decide +kernel
theorem dX5_ofPage_45 : decode cX5_ofPage 45 = .ok (.ifCond .ne 7, 3) := by decide +kernel
theorem dX5_ofPage_48 : decode cX5_ofPage 48 = .ok (.iconst 0, 1) := by decide +kernel
theorem dX5_ofPage_49 : decode cX5_ofPage 49 = .ok (.goto 24, 3) := by decide +kernel
theorem dX5_ofPage_52 : decode cX5_ofPage 52 = .ok (.aload_n 0, 1) := by decide +kernel
theorem dX5_ofPage_53 : decode cX5_ofPage 53 = .ok (.getfield 26, 3) := by decide +kernel
theorem dX5_ofPage_56 : decode cX5_ofPage 56 = .ok (.iload_n 2, 1) := by decide +kernel
theorem dX5_ofPage_57 : decode cX5_ofPage 57 = .ok (.iaload, 1) := by decide +kernel
theorem dX5_ofPage_58 : decode cX5_ofPage 58 = .ok (.ifCond .ge 7, 3) := by decide +kernel
theorem dX5_ofPage_61 : decode cX5_ofPage 61 = .ok (.iconst 1, 1) := by decide +kernel
theorem dX5_ofPage_62 : decode cX5_ofPage 62 = .ok (.goto 11, 3) := by decide +kernel
theorem dX5_ofPage_65 : decode cX5_ofPage 65 = .ok (.iconst 2, 1) := by decide +kernel
theorem dX5_ofPage_66 : decode cX5_ofPage 66 = .ok (.aload_n 0, 1) := by decide +kernel
theorem dX5_ofPage_67 : decode cX5_ofPage 67 = .ok (.getfield 26, 3) := by decide +kernel
theorem dX5_ofPage_70 : decode cX5_ofPage 70 = .ok (.iload_n 2, 1) := by decide +kernel
theorem dX5_ofPage_71 : decode cX5_ofPage 71 = .ok (.iaload, 1) := by decide +kernel
theorem dX5_ofPage_72 : decode cX5_ofPage 72 = .ok (.iadd, 1) := by decide +kernel
theorem dX5_ofPage_73 : decode cX5_ofPage 73 = .ok (.ireturn, 1) := by decide +kernel
theorem dX5_block_0 : decode cX5_block 0 = .ok (.aload_n 0, 1) := by decide +kernel
theorem dX5_block_1 : decode cX5_block 1 = .ok (.getfield 58, 3) := by decide +kernel
theorem dX5_block_4 : decode cX5_block 4 = .ok (.ifCond .eq 32, 3) := by decide +kernel
theorem dX5_block_7 : decode cX5_block 7 = .ok (.iload_n 1, 1) := by decide +kernel
theorem dX5_block_8 : decode cX5_block 8 = .ok (.iconst 0, 1) := by decide +kernel
theorem dX5_block_9 : decode cX5_block 9 = .ok (.sipush 255, 3) := by decide +kernel
theorem dX5_block_12 : decode cX5_block 12 = .ok (.invokestatic 62, 3) := by decide +kernel
theorem dX5_block_15 : decode cX5_block 15 = .ok (.ifCond .eq 21, 3) := by decide +kernel
theorem dX5_block_18 : decode cX5_block 18 = .ok (.aload_n 0, 1) := by decide +kernel
theorem dX5_block_19 : decode cX5_block 19 = .ok (.getfield 13, 3) := by decide +kernel
theorem dX5_block_22 : decode cX5_block 22 = .ok (.iload_n 1, 1) := by decide +kernel
theorem dX5_block_23 : decode cX5_block 23 = .ok (.baload, 1) := by decide +kernel
theorem dX5_block_24 : decode cX5_block 24 = .ok (.ifCond .eq 12, 3) := by decide +kernel
theorem dX5_block_27 : decode cX5_block 27 = .ok (.aload_n 0, 1) := by decide +kernel
theorem dX5_block_28 : decode cX5_block 28 = .ok (.getfield 17, 3) := by decide +kernel
theorem dX5_block_31 : decode cX5_block 31 = .ok (.iload_n 1, 1) := by decide +kernel
theorem dX5_block_32 : decode cX5_block 32 = .ok (.iaload, 1) := by decide +kernel
theorem dX5_block_33 : decode cX5_block 33 = .ok (.goto 4, 3) := by decide +kernel
theorem dX5_block_36 : decode cX5_block 36 = .ok (.iconst (-1), 1) := by decide +kernel
theorem dX5_block_37 : decode cX5_block 37 = .ok (.ireturn, 1) := by decide +kernel
theorem dX5_order_0 : decode cX5_order 0 = .ok (.aload_n 0, 1) := by decide +kernel
theorem dX5_order_1 : decode cX5_order 1 = .ok (.iload_n 1, 1) := by decide +kernel
theorem dX5_order_2 : decode cX5_order 2 = .ok (.invokevirtual 158, 3) := by decide +kernel
theorem dX5_order_5 : decode cX5_order 5 = .ok (.istore_n 2, 1) := by decide +kernel
theorem dX5_order_6 : decode cX5_order 6 = .ok (.iload_n 2, 1) := by decide +kernel
theorem dX5_order_7 : decode cX5_order 7 = .ok (.ifCond .ge 7, 3) := by decide +kernel
theorem dX5_order_10 : decode cX5_order 10 = .ok (.iconst (-1), 1) := by decide +kernel
theorem dX5_order_11 : decode cX5_order 11 = .ok (.goto 9, 3) := by decide +kernel
theorem dX5_order_14 : decode cX5_order 14 = .ok (.aload_n 0, 1) := by decide +kernel
theorem dX5_order_15 : decode cX5_order 15 = .ok (.getfield 20, 3) := by decide +kernel
theorem dX5_order_18 : decode cX5_order 18 = .ok (.iload_n 2, 1) := by decide +kernel
theorem dX5_order_19 : decode cX5_order 19 = .ok (.iaload, 1) := by decide +kernel
theorem dX5_order_20 : decode cX5_order 20 = .ok (.ireturn, 1) := by decide +kernel
theorem dX5_freeBlocks_0 : decode cX5_freeBlocks 0 = .ok (.iload_n 1, 1) := by decide +kernel
theorem dX5_freeBlocks_1 : decode cX5_freeBlocks 1 = .ok (.iconst 0, 1) := by decide +kernel
theorem dX5_freeBlocks_2 : decode cX5_freeBlocks 2 = .ok (.bipush 6, 2) := by decide +kernel
theorem dX5_freeBlocks_4 : decode cX5_freeBlocks 4 = .ok (.invokestatic 62, 3) := by decide +kernel
theorem dX5_freeBlocks_7 : decode cX5_freeBlocks 7 = .ok (.ifCond .ne 5, 3) := by decide +kernel
theorem dX5_freeBlocks_10 : decode cX5_freeBlocks 10 = .ok (.iconst (-1), 1) := by decide +kernel
theorem dX5_freeBlocks_11 : decode cX5_freeBlocks 11 = .ok (.ireturn, 1) := by decide +kernel
theorem dX5_freeBlocks_12 : decode cX5_freeBlocks 12 = .ok (.iconst 0, 1) := by decide +kernel
theorem dX5_freeBlocks_13 : decode cX5_freeBlocks 13 = .ok (.istore_n 2, 1) := by decide +kernel
theorem dX5_freeBlocks_14 : decode cX5_freeBlocks 14 = .ok (.iconst 0, 1) := by decide +kernel
theorem dX5_freeBlocks_15 : decode cX5_freeBlocks 15 = .ok (.istore_n 3, 1) := by decide +kernel
theorem dX5_freeBlocks_16 : decode cX5_freeBlocks 16 = .ok (.iload_n 3, 1) := by decide +kernel
theorem dX5_freeBlocks_17 : decode cX5_freeBlocks 17 = .ok (.sipush 256, 3) := by decide +kernel
theorem dX5_freeBlocks_20 : decode cX5_freeBlocks 20 = .ok (.if_icmp .ge 35, 3) := by decide +kernel
theorem dX5_freeBlocks_23 : decode cX5_freeBlocks 23 = .ok (.aload_n 0, 1) := by decide +kernel
theorem dX5_freeBlocks_24 : decode cX5_freeBlocks 24 = .ok (.iload_n 3, 1) := by decide +kernel
theorem dX5_freeBlocks_25 : decode cX5_freeBlocks 25 = .ok (.invokevirtual 82, 3) := by decide +kernel
theorem dX5_freeBlocks_28 : decode cX5_freeBlocks 28 = .ok (.ifCond .eq 19, 3) := by decide +kernel
theorem dX5_freeBlocks_31 : decode cX5_freeBlocks 31 = .ok (.aload_n 0, 1) := by decide +kernel
theorem dX5_freeBlocks_32 : decode cX5_freeBlocks 32 = .ok (.getfield 20, 3) := by decide +kernel
theorem dX5_freeBlocks_35 : decode cX5_freeBlocks 35 = .ok (.iload_n 3, 1) := by decide +kernel
theorem dX5_freeBlocks_36 : decode cX5_freeBlocks 36 = .ok (.iaload, 1) := by decide +kernel
theorem dX5_freeBlocks_37 : decode cX5_freeBlocks 37 = .ok (.iload_n 1, 1) := by decide +kernel
theorem dX5_freeBlocks_38 : decode cX5_freeBlocks 38 = .ok (.if_icmp .ne 9, 3) := by decide +kernel
theorem dX5_freeBlocks_41 : decode cX5_freeBlocks 41 = .ok (.iload_n 2, 1) := by decide +kernel
theorem dX5_freeBlocks_42 : decode cX5_freeBlocks 42 = .ok (.iconst 1, 1) := by decide +kernel
theorem dX5_freeBlocks_43 : decode cX5_freeBlocks 43 = .ok (.iadd, 1) := by decide +kernel
theorem dX5_freeBlocks_44 : decode cX5_freeBlocks 44 = .ok (.goto 4, 3) := by decide +kernel
theorem dX5_freeBlocks_47 : decode cX5_freeBlocks 47 = .ok (.iload_n 2, 1) := by decide +kernel
theorem dX5_freeBlocks_48 : decode cX5_freeBlocks 48 = .ok (.istore_n 2, 1) := by decide +kernel
theorem dX5_freeBlocks_49 : decode cX5_freeBlocks 49 = .ok (.iinc 3 1, 3) := by decide +kernel
theorem dX5_freeBlocks_52 : decode cX5_freeBlocks 52 = .ok (.goto (-36), 3) := by decide +kernel
theorem dX5_freeBlocks_55 : decode cX5_freeBlocks 55 = .ok (.iload_n 2, 1) := by decide +kernel
theorem dX5_freeBlocks_56 : decode cX5_freeBlocks 56 = .ok (.ireturn, 1) := by decide +kernel
theorem dX5_slabsOf_0 : decode cX5_slabsOf 0 = .ok (.iconst 0, 1) := by decide +kernel
theorem dX5_slabsOf_1 : decode cX5_slabsOf 1 = .ok (.istore_n 2, 1) := by decide +kernel
theorem dX5_slabsOf_2 : decode cX5_slabsOf 2 = .ok (.iconst 0, 1) := by decide +kernel
theorem dX5_slabsOf_3 : decode cX5_slabsOf 3 = .ok (.istore_n 3, 1) := by decide +kernel
theorem dX5_slabsOf_4 : decode cX5_slabsOf 4 = .ok (.iload_n 3, 1) := by decide +kernel
theorem dX5_slabsOf_5 : decode cX5_slabsOf 5 = .ok (.sipush 256, 3) := by decide +kernel
theorem dX5_slabsOf_8 : decode cX5_slabsOf 8 = .ok (.if_icmp .ge 26, 3) := by decide +kernel
theorem dX5_slabsOf_11 : decode cX5_slabsOf 11 = .ok (.aload_n 0, 1) := by decide +kernel
theorem dX5_slabsOf_12 : decode cX5_slabsOf 12 = .ok (.iload_n 3, 1) := by decide +kernel
theorem dX5_slabsOf_13 : decode cX5_slabsOf 13 = .ok (.iload_n 1, 1) := by decide +kernel
theorem dX5_slabsOf_14 : decode cX5_slabsOf 14 = .ok (.invokevirtual 119, 3) := by decide +kernel
theorem dX5_slabsOf_17 : decode cX5_slabsOf 17 = .ok (.ifCond .eq 9, 3) := by decide +kernel
theorem dX5_slabsOf_20 : decode cX5_slabsOf 20 = .ok (.iload_n 2, 1) := by decide +kernel
theorem dX5_slabsOf_21 : decode cX5_slabsOf 21 = .ok (.iconst 1, 1) := by decide +kernel
theorem dX5_slabsOf_22 : decode cX5_slabsOf 22 = .ok (.iadd, 1) := by decide +kernel
theorem dX5_slabsOf_23 : decode cX5_slabsOf 23 = .ok (.goto 4, 3) := by decide +kernel
theorem dX5_slabsOf_26 : decode cX5_slabsOf 26 = .ok (.iload_n 2, 1) := by decide +kernel
theorem dX5_slabsOf_27 : decode cX5_slabsOf 27 = .ok (.istore_n 2, 1) := by decide +kernel
theorem dX5_slabsOf_28 : decode cX5_slabsOf 28 = .ok (.iinc 3 1, 3) := by decide +kernel
theorem dX5_slabsOf_31 : decode cX5_slabsOf 31 = .ok (.goto (-27), 3) := by decide +kernel
theorem dX5_slabsOf_34 : decode cX5_slabsOf 34 = .ok (.iload_n 2, 1) := by decide +kernel
theorem dX5_slabsOf_35 : decode cX5_slabsOf 35 = .ok (.ireturn, 1) := by decide +kernel
theorem dX5_liveIn_0 : decode cX5_liveIn 0 = .ok (.iconst 0, 1) := by decide +kernel
theorem dX5_liveIn_1 : decode cX5_liveIn 1 = .ok (.istore_n 2, 1) := by decide +kernel
theorem dX5_liveIn_2 : decode cX5_liveIn 2 = .ok (.iconst 0, 1) := by decide +kernel
theorem dX5_liveIn_3 : decode cX5_liveIn 3 = .ok (.istore_n 3, 1) := by decide +kernel
theorem dX5_liveIn_4 : decode cX5_liveIn 4 = .ok (.iload_n 3, 1) := by decide +kernel
theorem dX5_liveIn_5 : decode cX5_liveIn 5 = .ok (.sipush 256, 3) := by decide +kernel
theorem dX5_liveIn_8 : decode cX5_liveIn 8 = .ok (.if_icmp .ge 30, 3) := by decide +kernel
theorem dX5_liveIn_11 : decode cX5_liveIn 11 = .ok (.aload_n 0, 1) := by decide +kernel
theorem dX5_liveIn_12 : decode cX5_liveIn 12 = .ok (.iload_n 3, 1) := by decide +kernel
theorem dX5_liveIn_13 : decode cX5_liveIn 13 = .ok (.iload_n 1, 1) := by decide +kernel
theorem dX5_liveIn_14 : decode cX5_liveIn 14 = .ok (.invokevirtual 119, 3) := by decide +kernel
theorem dX5_liveIn_17 : decode cX5_liveIn 17 = .ok (.ifCond .eq 13, 3) := by decide +kernel
theorem dX5_liveIn_20 : decode cX5_liveIn 20 = .ok (.iload_n 2, 1) := by decide +kernel
theorem dX5_liveIn_21 : decode cX5_liveIn 21 = .ok (.aload_n 0, 1) := by decide +kernel
theorem dX5_liveIn_22 : decode cX5_liveIn 22 = .ok (.iload_n 3, 1) := by decide +kernel
theorem dX5_liveIn_23 : decode cX5_liveIn 23 = .ok (.invokevirtual 122, 3) := by decide +kernel
theorem dX5_liveIn_26 : decode cX5_liveIn 26 = .ok (.iadd, 1) := by decide +kernel
theorem dX5_liveIn_27 : decode cX5_liveIn 27 = .ok (.goto 4, 3) := by decide +kernel
theorem dX5_liveIn_30 : decode cX5_liveIn 30 = .ok (.iload_n 2, 1) := by decide +kernel
theorem dX5_liveIn_31 : decode cX5_liveIn 31 = .ok (.istore_n 2, 1) := by decide +kernel
theorem dX5_liveIn_32 : decode cX5_liveIn 32 = .ok (.iinc 3 1, 3) := by decide +kernel
theorem dX5_liveIn_35 : decode cX5_liveIn 35 = .ok (.goto (-31), 3) := by decide +kernel
theorem dX5_liveIn_38 : decode cX5_liveIn 38 = .ok (.iload_n 2, 1) := by decide +kernel
theorem dX5_liveIn_39 : decode cX5_liveIn 39 = .ok (.ireturn, 1) := by decide +kernel
theorem dX5_ofCache_0 : decode cX5_ofCache 0 = .ok (.aload_n 0, 1) := by decide +kernel
theorem dX5_ofCache_1 : decode cX5_ofCache 1 = .ok (.iload_n 1, 1) := by decide +kernel
theorem dX5_ofCache_2 : decode cX5_ofCache 2 = .ok (.invokevirtual 116, 3) := by decide +kernel
theorem dX5_ofCache_5 : decode cX5_ofCache 5 = .ok (.ifCond .ne 5, 3) := by decide +kernel
theorem dX5_ofCache_8 : decode cX5_ofCache 8 = .ok (.iconst (-1), 1) := by decide +kernel
theorem dX5_ofCache_9 : decode cX5_ofCache 9 = .ok (.ireturn, 1) := by decide +kernel
theorem dX5_ofCache_10 : decode cX5_ofCache 10 = .ok (.iload_n 2, 1) := by decide +kernel
theorem dX5_ofCache_11 : decode cX5_ofCache 11 = .ok (.tableswitch 98 0 7 #[45, 52, 59, 66, 73, 79, 85, 91], 45) := by decide +kernel
theorem dX5_ofCache_56 : decode cX5_ofCache 56 = .ok (.aload_n 0, 1) := by decide +kernel
theorem dX5_ofCache_57 : decode cX5_ofCache 57 = .ok (.getfield 35, 3) := by decide +kernel
theorem dX5_ofCache_60 : decode cX5_ofCache 60 = .ok (.iload_n 1, 1) := by decide +kernel
theorem dX5_ofCache_61 : decode cX5_ofCache 61 = .ok (.iaload, 1) := by decide +kernel
theorem dX5_ofCache_62 : decode cX5_ofCache 62 = .ok (.ireturn, 1) := by decide +kernel
theorem dX5_ofCache_63 : decode cX5_ofCache 63 = .ok (.aload_n 0, 1) := by decide +kernel
theorem dX5_ofCache_64 : decode cX5_ofCache 64 = .ok (.getfield 38, 3) := by decide +kernel
theorem dX5_ofCache_67 : decode cX5_ofCache 67 = .ok (.iload_n 1, 1) := by decide +kernel
theorem dX5_ofCache_68 : decode cX5_ofCache 68 = .ok (.iaload, 1) := by decide +kernel
theorem dX5_ofCache_69 : decode cX5_ofCache 69 = .ok (.ireturn, 1) := by decide +kernel
theorem dX5_ofCache_70 : decode cX5_ofCache 70 = .ok (.aload_n 0, 1) := by decide +kernel
theorem dX5_ofCache_71 : decode cX5_ofCache 71 = .ok (.getfield 41, 3) := by decide +kernel
theorem dX5_ofCache_74 : decode cX5_ofCache 74 = .ok (.iload_n 1, 1) := by decide +kernel
theorem dX5_ofCache_75 : decode cX5_ofCache 75 = .ok (.iaload, 1) := by decide +kernel
theorem dX5_ofCache_76 : decode cX5_ofCache 76 = .ok (.ireturn, 1) := by decide +kernel
theorem dX5_ofCache_77 : decode cX5_ofCache 77 = .ok (.aload_n 0, 1) := by decide +kernel
theorem dX5_ofCache_78 : decode cX5_ofCache 78 = .ok (.getfield 44, 3) := by decide +kernel
theorem dX5_ofCache_81 : decode cX5_ofCache 81 = .ok (.iload_n 1, 1) := by decide +kernel
theorem dX5_ofCache_82 : decode cX5_ofCache 82 = .ok (.iaload, 1) := by decide +kernel
theorem dX5_ofCache_83 : decode cX5_ofCache 83 = .ok (.ireturn, 1) := by decide +kernel
theorem dX5_ofCache_84 : decode cX5_ofCache 84 = .ok (.aload_n 0, 1) := by decide +kernel
theorem dX5_ofCache_85 : decode cX5_ofCache 85 = .ok (.iload_n 1, 1) := by decide +kernel
theorem dX5_ofCache_86 : decode cX5_ofCache 86 = .ok (.invokevirtual 113, 3) := by decide +kernel
theorem dX5_ofCache_89 : decode cX5_ofCache 89 = .ok (.ireturn, 1) := by decide +kernel
theorem dX5_ofCache_90 : decode cX5_ofCache 90 = .ok (.aload_n 0, 1) := by decide +kernel
theorem dX5_ofCache_91 : decode cX5_ofCache 91 = .ok (.iload_n 1, 1) := by decide +kernel
theorem dX5_ofCache_92 : decode cX5_ofCache 92 = .ok (.invokevirtual 161, 3) := by decide +kernel
theorem dX5_ofCache_95 : decode cX5_ofCache 95 = .ok (.ireturn, 1) := by decide +kernel
theorem dX5_ofCache_96 : decode cX5_ofCache 96 = .ok (.aload_n 0, 1) := by decide +kernel
theorem dX5_ofCache_97 : decode cX5_ofCache 97 = .ok (.iload_n 1, 1) := by decide +kernel
theorem dX5_ofCache_98 : decode cX5_ofCache 98 = .ok (.invokevirtual 164, 3) := by decide +kernel
theorem dX5_ofCache_101 : decode cX5_ofCache 101 = .ok (.ireturn, 1) := by decide +kernel
theorem dX5_ofCache_102 : decode cX5_ofCache 102 = .ok (.aload_n 0, 1) := by decide +kernel
theorem dX5_ofCache_103 : decode cX5_ofCache 103 = .ok (.getfield 47, 3) := by decide +kernel
theorem dX5_ofCache_106 : decode cX5_ofCache 106 = .ok (.iload_n 1, 1) := by decide +kernel
theorem dX5_ofCache_107 : decode cX5_ofCache 107 = .ok (.iaload, 1) := by decide +kernel
theorem dX5_ofCache_108 : decode cX5_ofCache 108 = .ok (.ireturn, 1) := by decide +kernel
theorem dX5_ofCache_109 : decode cX5_ofCache 109 = .ok (.iconst (-1), 1) := by decide +kernel
theorem dX5_ofCache_110 : decode cX5_ofCache 110 = .ok (.ireturn, 1) := by decide +kernel
theorem dX5_count_0 : decode cX5_count 0 = .ok (.iconst 0, 1) := by decide +kernel
theorem dX5_count_1 : decode cX5_count 1 = .ok (.istore_n 2, 1) := by decide +kernel
theorem dX5_count_2 : decode cX5_count 2 = .ok (.iconst 0, 1) := by decide +kernel
theorem dX5_count_3 : decode cX5_count 3 = .ok (.istore_n 3, 1) := by decide +kernel
theorem dX5_count_4 : decode cX5_count 4 = .ok (.iload_n 3, 1) := by decide +kernel
theorem dX5_count_5 : decode cX5_count 5 = .ok (.aload_n 0, 1) := by decide +kernel
theorem dX5_count_6 : decode cX5_count 6 = .ok (.getfield 110, 3) := by decide +kernel
theorem dX5_count_9 : decode cX5_count 9 = .ok (.if_icmp .ge 17, 3) := by decide +kernel
theorem dX5_count_12 : decode cX5_count 12 = .ok (.iload_n 2, 1) := by decide +kernel
theorem dX5_count_13 : decode cX5_count 13 = .ok (.aload_n 0, 1) := by decide +kernel
theorem dX5_count_14 : decode cX5_count 14 = .ok (.iload_n 3, 1) := by decide +kernel
theorem dX5_count_15 : decode cX5_count 15 = .ok (.invokevirtual 164, 3) := by decide +kernel
theorem dX5_count_18 : decode cX5_count 18 = .ok (.iadd, 1) := by decide +kernel
theorem dX5_count_19 : decode cX5_count 19 = .ok (.istore_n 2, 1) := by decide +kernel
theorem dX5_count_20 : decode cX5_count 20 = .ok (.iinc 3 1, 3) := by decide +kernel
theorem dX5_count_23 : decode cX5_count 23 = .ok (.goto (-19), 3) := by decide +kernel
theorem dX5_count_26 : decode cX5_count 26 = .ok (.iload_n 1, 1) := by decide +kernel
theorem dX5_count_27 : decode cX5_count 27 = .ok (.tableswitch 91 0 8 #[49, 54, 59, 64, 69, 74, 76, 81, 86], 49) := by decide +kernel
theorem dX5_count_76 : decode cX5_count 76 = .ok (.aload_n 0, 1) := by decide +kernel
theorem dX5_count_77 : decode cX5_count 77 = .ok (.invokevirtual 74, 3) := by decide +kernel
theorem dX5_count_80 : decode cX5_count 80 = .ok (.ireturn, 1) := by decide +kernel
theorem dX5_count_81 : decode cX5_count 81 = .ok (.aload_n 0, 1) := by decide +kernel
theorem dX5_count_82 : decode cX5_count 82 = .ok (.invokevirtual 91, 3) := by decide +kernel
theorem dX5_count_85 : decode cX5_count 85 = .ok (.ireturn, 1) := by decide +kernel
theorem dX5_count_86 : decode cX5_count 86 = .ok (.aload_n 0, 1) := by decide +kernel
theorem dX5_count_87 : decode cX5_count 87 = .ok (.getfield 85, 3) := by decide +kernel
theorem dX5_count_90 : decode cX5_count 90 = .ok (.ireturn, 1) := by decide +kernel
theorem dX5_count_91 : decode cX5_count 91 = .ok (.aload_n 0, 1) := by decide +kernel
theorem dX5_count_92 : decode cX5_count 92 = .ok (.getfield 88, 3) := by decide +kernel
theorem dX5_count_95 : decode cX5_count 95 = .ok (.ireturn, 1) := by decide +kernel
theorem dX5_count_96 : decode cX5_count 96 = .ok (.aload_n 0, 1) := by decide +kernel
theorem dX5_count_97 : decode cX5_count 97 = .ok (.getfield 97, 3) := by decide +kernel
theorem dX5_count_100 : decode cX5_count 100 = .ok (.ireturn, 1) := by decide +kernel
theorem dX5_count_101 : decode cX5_count 101 = .ok (.iload_n 2, 1) := by decide +kernel
theorem dX5_count_102 : decode cX5_count 102 = .ok (.ireturn, 1) := by decide +kernel
theorem dX5_count_103 : decode cX5_count 103 = .ok (.aload_n 0, 1) := by decide +kernel
theorem dX5_count_104 : decode cX5_count 104 = .ok (.getfield 110, 3) := by decide +kernel
theorem dX5_count_107 : decode cX5_count 107 = .ok (.ireturn, 1) := by decide +kernel
theorem dX5_count_108 : decode cX5_count 108 = .ok (.aload_n 0, 1) := by decide +kernel
theorem dX5_count_109 : decode cX5_count 109 = .ok (.getfield 94, 3) := by decide +kernel
theorem dX5_count_112 : decode cX5_count 112 = .ok (.ireturn, 1) := by decide +kernel
theorem dX5_count_113 : decode cX5_count 113 = .ok (.aload_n 0, 1) := by decide +kernel
theorem dX5_count_114 : decode cX5_count 114 = .ok (.getfield 50, 3) := by decide +kernel
theorem dX5_count_117 : decode cX5_count 117 = .ok (.ireturn, 1) := by decide +kernel
theorem dX5_count_118 : decode cX5_count 118 = .ok (.iconst (-1), 1) := by decide +kernel
theorem dX5_count_119 : decode cX5_count 119 = .ok (.ireturn, 1) := by decide +kernel
