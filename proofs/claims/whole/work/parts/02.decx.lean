theorem dX0_init_0 : decode cX0_init 0 = .ok (.aload_n 0, 1) := by decide +kernel
theorem dX0_init_1 : decode cX0_init 1 = .ok (.invokespecial 3, 3) := by decide +kernel
theorem dX0_init_4 : decode cX0_init 4 = .ok (.aload_n 0, 1) := by decide +kernel
theorem dX0_init_5 : decode cX0_init 5 = .ok (.sipush 256, 3) := by decide +kernel
theorem dX0_init_8 : decode cX0_init 8 = .ok (.newarray .boolean, 2) := by decide +kernel
theorem dX0_init_10 : decode cX0_init 10 = .ok (.putfield 9, 3) := by decide +kernel
theorem dX0_init_13 : decode cX0_init 13 = .ok (.aload_n 0, 1) := by decide +kernel
theorem dX0_init_14 : decode cX0_init 14 = .ok (.sipush 256, 3) := by decide +kernel
theorem dX0_init_17 : decode cX0_init 17 = .ok (.newarray .int, 2) := by decide +kernel
theorem dX0_init_19 : decode cX0_init 19 = .ok (.putfield 15, 3) := by decide +kernel
theorem dX0_init_22 : decode cX0_init 22 = .ok (.aload_n 0, 1) := by decide +kernel
theorem dX0_init_23 : decode cX0_init 23 = .ok (.sipush 256, 3) := by decide +kernel
theorem dX0_init_26 : decode cX0_init 26 = .ok (.newarray .int, 2) := by decide +kernel
theorem dX0_init_28 : decode cX0_init 28 = .ok (.putfield 19, 3) := by decide +kernel
theorem dX0_init_31 : decode cX0_init 31 = .ok (.aload_n 0, 1) := by decide +kernel
theorem dX0_init_32 : decode cX0_init 32 = .ok (.bipush 7, 2) := by decide +kernel
theorem dX0_init_34 : decode cX0_init 34 = .ok (.newarray .int, 2) := by decide +kernel
theorem dX0_init_36 : decode cX0_init 36 = .ok (.putfield 22, 3) := by decide +kernel
theorem dX0_init_39 : decode cX0_init 39 = .ok (.aload_n 0, 1) := by decide +kernel
theorem dX0_init_40 : decode cX0_init 40 = .ok (.iconst (-1), 1) := by decide +kernel
theorem dX0_init_41 : decode cX0_init 41 = .ok (.putfield 25, 3) := by decide +kernel
theorem dX0_init_44 : decode cX0_init 44 = .ok (.return_, 1) := by decide +kernel
theorem dX0_tell_0 : decode cX0_tell 0 = .ok (.iload_n 1, 1) := by decide +kernel
theorem dX0_tell_1 : decode cX0_tell 1 = .ok (.istore_n 3, 1) := by decide +kernel
theorem dX0_tell_2 : decode cX0_tell 2 = .ok (.iload_n 3, 1) := by decide +kernel
theorem dX0_tell_3 : decode cX0_tell 3 = .ok (.iload_n 2, 1) := by decide +kernel
theorem dX0_tell_4 : decode cX0_tell 4 = .ok (.if_icmp .gt 35, 3) := by decide +kernel
theorem dX0_tell_7 : decode cX0_tell 7 = .ok (.aload_n 0, 1) := by decide +kernel
theorem dX0_tell_8 : decode cX0_tell 8 = .ok (.getfield 9, 3) := by decide +kernel
theorem dX0_tell_11 : decode cX0_tell 11 = .ok (.iload_n 3, 1) := by decide +kernel
theorem dX0_tell_12 : decode cX0_tell 12 = .ok (.baload, 1) := by decide +kernel
theorem dX0_tell_13 : decode cX0_tell 13 = .ok (.ifCond .ne 20, 3) := by decide +kernel
theorem dX0_tell_16 : decode cX0_tell 16 = .ok (.aload_n 0, 1) := by decide +kernel
theorem dX0_tell_17 : decode cX0_tell 17 = .ok (.getfield 9, 3) := by decide +kernel
theorem dX0_tell_20 : decode cX0_tell 20 = .ok (.iload_n 3, 1) := by decide +kernel
theorem dX0_tell_21 : decode cX0_tell 21 = .ok (.iconst 1, 1) := by decide +kernel
theorem dX0_tell_22 : decode cX0_tell 22 = .ok (.bastore, 1) := by decide +kernel
theorem dX0_tell_23 : decode cX0_tell 23 = .ok (.aload_n 0, 1) := by decide +kernel
theorem dX0_tell_24 : decode cX0_tell 24 = .ok (.dup, 1) := by decide +kernel
theorem dX0_tell_25 : decode cX0_tell 25 = .ok (.getfield 29, 3) := by decide +kernel
theorem dX0_tell_28 : decode cX0_tell 28 = .ok (.iconst 1, 1) := by decide +kernel
theorem dX0_tell_29 : decode cX0_tell 29 = .ok (.iadd, 1) := by decide +kernel
theorem dX0_tell_30 : decode cX0_tell 30 = .ok (.putfield 29, 3) := by decide +kernel
theorem dX0_tell_33 : decode cX0_tell 33 = .ok (.iinc 3 1, 3) := by decide +kernel
theorem dX0_tell_36 : decode cX0_tell 36 = .ok (.goto (-34), 3) := by decide +kernel
theorem dX0_tell_39 : decode cX0_tell 39 = .ok (.return_, 1) := by decide +kernel
theorem dX0_open_0 : decode cX0_open 0 = .ok (.aload_n 0, 1) := by decide +kernel
theorem dX0_open_1 : decode cX0_open 1 = .ok (.iconst 1, 1) := by decide +kernel
theorem dX0_open_2 : decode cX0_open 2 = .ok (.putfield 32, 3) := by decide +kernel
theorem dX0_open_5 : decode cX0_open 5 = .ok (.iconst 0, 1) := by decide +kernel
theorem dX0_open_6 : decode cX0_open 6 = .ok (.istore_n 1, 1) := by decide +kernel
theorem dX0_open_7 : decode cX0_open 7 = .ok (.iload_n 1, 1) := by decide +kernel
theorem dX0_open_8 : decode cX0_open 8 = .ok (.sipush 256, 3) := by decide +kernel
theorem dX0_open_11 : decode cX0_open 11 = .ok (.if_icmp .ge 24, 3) := by decide +kernel
theorem dX0_open_14 : decode cX0_open 14 = .ok (.aload_n 0, 1) := by decide +kernel
theorem dX0_open_15 : decode cX0_open 15 = .ok (.getfield 9, 3) := by decide +kernel
theorem dX0_open_18 : decode cX0_open 18 = .ok (.iload_n 1, 1) := by decide +kernel
theorem dX0_open_19 : decode cX0_open 19 = .ok (.baload, 1) := by decide +kernel
theorem dX0_open_20 : decode cX0_open 20 = .ok (.ifCond .eq 9, 3) := by decide +kernel
theorem dX0_open_23 : decode cX0_open 23 = .ok (.aload_n 0, 1) := by decide +kernel
theorem dX0_open_24 : decode cX0_open 24 = .ok (.iload_n 1, 1) := by decide +kernel
theorem dX0_open_25 : decode cX0_open 25 = .ok (.iconst 0, 1) := by decide +kernel
theorem dX0_open_26 : decode cX0_open 26 = .ok (.invokevirtual 36, 3) := by decide +kernel
theorem dX0_open_29 : decode cX0_open 29 = .ok (.iinc 1 1, 3) := by decide +kernel
theorem dX0_open_32 : decode cX0_open 32 = .ok (.goto (-25), 3) := by decide +kernel
theorem dX0_open_35 : decode cX0_open 35 = .ok (.aload_n 0, 1) := by decide +kernel
theorem dX0_open_36 : decode cX0_open 36 = .ok (.aload_n 0, 1) := by decide +kernel
theorem dX0_open_37 : decode cX0_open 37 = .ok (.getfield 29, 3) := by decide +kernel
theorem dX0_open_40 : decode cX0_open 40 = .ok (.putfield 40, 3) := by decide +kernel
theorem dX0_open_43 : decode cX0_open 43 = .ok (.return_, 1) := by decide +kernel
theorem dX0_firstOf_0 : decode cX0_firstOf 0 = .ok (.iload_n 1, 1) := by decide +kernel
theorem dX0_firstOf_1 : decode cX0_firstOf 1 = .ok (.invokestatic 43, 3) := by decide +kernel
theorem dX0_firstOf_4 : decode cX0_firstOf 4 = .ok (.ifCond .ne 5, 3) := by decide +kernel
theorem dX0_firstOf_7 : decode cX0_firstOf 7 = .ok (.iconst (-1), 1) := by decide +kernel
theorem dX0_firstOf_8 : decode cX0_firstOf 8 = .ok (.ireturn, 1) := by decide +kernel
theorem dX0_firstOf_9 : decode cX0_firstOf 9 = .ok (.iconst 0, 1) := by decide +kernel
theorem dX0_firstOf_10 : decode cX0_firstOf 10 = .ok (.istore_n 2, 1) := by decide +kernel
theorem dX0_firstOf_11 : decode cX0_firstOf 11 = .ok (.iload_n 2, 1) := by decide +kernel
theorem dX0_firstOf_12 : decode cX0_firstOf 12 = .ok (.bipush 6, 2) := by decide +kernel
theorem dX0_firstOf_14 : decode cX0_firstOf 14 = .ok (.if_icmp .gt 30, 3) := by decide +kernel
theorem dX0_firstOf_17 : decode cX0_firstOf 17 = .ok (.iload_n 1, 1) := by decide +kernel
theorem dX0_firstOf_18 : decode cX0_firstOf 18 = .ok (.iconst 1, 1) := by decide +kernel
theorem dX0_firstOf_19 : decode cX0_firstOf 19 = .ok (.iload_n 2, 1) := by decide +kernel
theorem dX0_firstOf_20 : decode cX0_firstOf 20 = .ok (.ishl, 1) := by decide +kernel
theorem dX0_firstOf_21 : decode cX0_firstOf 21 = .ok (.ineg, 1) := by decide +kernel
theorem dX0_firstOf_22 : decode cX0_firstOf 22 = .ok (.iand, 1) := by decide +kernel
theorem dX0_firstOf_23 : decode cX0_firstOf 23 = .ok (.istore_n 3, 1) := by decide +kernel
theorem dX0_firstOf_24 : decode cX0_firstOf 24 = .ok (.aload_n 0, 1) := by decide +kernel
theorem dX0_firstOf_25 : decode cX0_firstOf 25 = .ok (.getfield 15, 3) := by decide +kernel
theorem dX0_firstOf_28 : decode cX0_firstOf 28 = .ok (.iload_n 3, 1) := by decide +kernel
theorem dX0_firstOf_29 : decode cX0_firstOf 29 = .ok (.iaload, 1) := by decide +kernel
theorem dX0_firstOf_30 : decode cX0_firstOf 30 = .ok (.iload_n 2, 1) := by decide +kernel
theorem dX0_firstOf_31 : decode cX0_firstOf 31 = .ok (.iconst 1, 1) := by decide +kernel
theorem dX0_firstOf_32 : decode cX0_firstOf 32 = .ok (.iadd, 1) := by decide +kernel
theorem dX0_firstOf_33 : decode cX0_firstOf 33 = .ok (.if_icmp .ne 5, 3) := by decide +kernel
theorem dX0_firstOf_36 : decode cX0_firstOf 36 = .ok (.iload_n 3, 1) := by decide +kernel
theorem dX0_firstOf_37 : decode cX0_firstOf 37 = .ok (.ireturn, 1) := by decide +kernel
theorem dX0_firstOf_38 : decode cX0_firstOf 38 = .ok (.iinc 2 1, 3) := by decide +kernel
theorem dX0_firstOf_41 : decode cX0_firstOf 41 = .ok (.goto (-30), 3) := by decide +kernel
theorem dX0_firstOf_44 : decode cX0_firstOf 44 = .ok (.iconst (-1), 1) := by decide +kernel
theorem dX0_firstOf_45 : decode cX0_firstOf 45 = .ok (.ireturn, 1) := by decide +kernel
theorem dX0_orderFrom_0 : decode cX0_orderFrom 0 = .ok (.iload_n 1, 1) := by decide +kernel
theorem dX0_orderFrom_1 : decode cX0_orderFrom 1 = .ok (.invokestatic 43, 3) := by decide +kernel
theorem dX0_orderFrom_4 : decode cX0_orderFrom 4 = .ok (.ifCond .eq 14, 3) := by decide +kernel
theorem dX0_orderFrom_7 : decode cX0_orderFrom 7 = .ok (.aload_n 0, 1) := by decide +kernel
theorem dX0_orderFrom_8 : decode cX0_orderFrom 8 = .ok (.getfield 15, 3) := by decide +kernel
theorem dX0_orderFrom_11 : decode cX0_orderFrom 11 = .ok (.iload_n 1, 1) := by decide +kernel
theorem dX0_orderFrom_12 : decode cX0_orderFrom 12 = .ok (.iaload, 1) := by decide +kernel
theorem dX0_orderFrom_13 : decode cX0_orderFrom 13 = .ok (.iconst 1, 1) := by decide +kernel
theorem dX0_orderFrom_14 : decode cX0_orderFrom 14 = .ok (.isub, 1) := by decide +kernel
theorem dX0_orderFrom_15 : decode cX0_orderFrom 15 = .ok (.goto 4, 3) := by decide +kernel
theorem dX0_orderFrom_18 : decode cX0_orderFrom 18 = .ok (.iconst (-1), 1) := by decide +kernel
theorem dX0_orderFrom_19 : decode cX0_orderFrom 19 = .ok (.ireturn, 1) := by decide +kernel
theorem dX0_useFrom_0 : decode cX0_useFrom 0 = .ok (.iload_n 1, 1) := by decide +kernel
theorem dX0_useFrom_1 : decode cX0_useFrom 1 = .ok (.invokestatic 43, 3) := by decide +kernel
theorem dX0_useFrom_4 : decode cX0_useFrom 4 = .ok (.ifCond .eq 21, 3) := by decide +kernel
theorem dX0_useFrom_7 : decode cX0_useFrom 7 = .ok (.aload_n 0, 1) := by decide +kernel
theorem dX0_useFrom_8 : decode cX0_useFrom 8 = .ok (.getfield 15, 3) := by decide +kernel
theorem dX0_useFrom_11 : decode cX0_useFrom 11 = .ok (.iload_n 1, 1) := by decide +kernel
theorem dX0_useFrom_12 : decode cX0_useFrom 12 = .ok (.iaload, 1) := by decide +kernel
theorem dX0_useFrom_13 : decode cX0_useFrom 13 = .ok (.ifCond .eq 12, 3) := by decide +kernel
theorem dX0_useFrom_16 : decode cX0_useFrom 16 = .ok (.aload_n 0, 1) := by decide +kernel
theorem dX0_useFrom_17 : decode cX0_useFrom 17 = .ok (.getfield 19, 3) := by decide +kernel
theorem dX0_useFrom_20 : decode cX0_useFrom 20 = .ok (.iload_n 1, 1) := by decide +kernel
theorem dX0_useFrom_21 : decode cX0_useFrom 21 = .ok (.iaload, 1) := by decide +kernel
theorem dX0_useFrom_22 : decode cX0_useFrom 22 = .ok (.goto 4, 3) := by decide +kernel
theorem dX0_useFrom_25 : decode cX0_useFrom 25 = .ok (.iconst (-1), 1) := by decide +kernel
theorem dX0_useFrom_26 : decode cX0_useFrom 26 = .ok (.ireturn, 1) := by decide +kernel
theorem dX0_claim_0 : decode cX0_claim 0 = .ok (.aload_n 0, 1) := by decide +kernel
theorem dX0_claim_1 : decode cX0_claim 1 = .ok (.getfield 25, 3) := by decide +kernel
theorem dX0_claim_4 : decode cX0_claim 4 = .ok (.ifCond .ne 7, 3) := by decide +kernel
theorem dX0_claim_7 : decode cX0_claim 7 = .ok (.iconst 1, 1) := by decide +kernel
theorem dX0_claim_8 : decode cX0_claim 8 = .ok (.goto 4, 3) := by decide +kernel
theorem dX0_claim_11 : decode cX0_claim 11 = .ok (.iconst 0, 1) := by decide +kernel
theorem dX0_claim_12 : decode cX0_claim 12 = .ok (.istore_n 3, 1) := by decide +kernel
theorem dX0_claim_13 : decode cX0_claim 13 = .ok (.aload_n 0, 1) := by decide +kernel
theorem dX0_claim_14 : decode cX0_claim 14 = .ok (.getfield 25, 3) := by decide +kernel
theorem dX0_claim_17 : decode cX0_claim 17 = .ok (.iconst (-1), 1) := by decide +kernel
theorem dX0_claim_18 : decode cX0_claim 18 = .ok (.if_icmp .eq 13, 3) := by decide +kernel
theorem dX0_claim_21 : decode cX0_claim 21 = .ok (.aload_n 0, 1) := by decide +kernel
theorem dX0_claim_22 : decode cX0_claim 22 = .ok (.dup, 1) := by decide +kernel
theorem dX0_claim_23 : decode cX0_claim 23 = .ok (.getfield 25, 3) := by decide +kernel
theorem dX0_claim_26 : decode cX0_claim 26 = .ok (.iconst 1, 1) := by decide +kernel
theorem dX0_claim_27 : decode cX0_claim 27 = .ok (.isub, 1) := by decide +kernel
theorem dX0_claim_28 : decode cX0_claim 28 = .ok (.putfield 25, 3) := by decide +kernel
theorem dX0_claim_31 : decode cX0_claim 31 = .ok (.iload_n 3, 1) := by decide +kernel
theorem dX0_claim_32 : decode cX0_claim 32 = .ok (.ifCond .eq 7, 3) := by decide +kernel
theorem dX0_claim_35 : decode cX0_claim 35 = .ok (.iconst (-1), 1) := by decide +kernel
theorem dX0_claim_36 : decode cX0_claim 36 = .ok (.goto 8, 3) := by decide +kernel
theorem dX0_claim_39 : decode cX0_claim 39 = .ok (.aload_n 0, 1) := by decide +kernel
theorem dX0_claim_40 : decode cX0_claim 40 = .ok (.iload_n 1, 1) := by decide +kernel
theorem dX0_claim_41 : decode cX0_claim 41 = .ok (.invokevirtual 47, 3) := by decide +kernel
theorem dX0_claim_44 : decode cX0_claim 44 = .ok (.istore 4, 2) := by decide +kernel
theorem dX0_claim_46 : decode cX0_claim 46 = .ok (.iload 4, 2) := by decide +kernel
theorem dX0_claim_48 : decode cX0_claim 48 = .ok (.iconst (-1), 1) := by decide +kernel
theorem dX0_claim_49 : decode cX0_claim 49 = .ok (.if_icmp .ne 15, 3) := by decide +kernel
theorem dX0_claim_52 : decode cX0_claim 52 = .ok (.aload_n 0, 1) := by decide +kernel
theorem dX0_claim_53 : decode cX0_claim 53 = .ok (.dup, 1) := by decide +kernel
theorem dX0_claim_54 : decode cX0_claim 54 = .ok (.getfield 51, 3) := by decide +kernel
theorem dX0_claim_57 : decode cX0_claim 57 = .ok (.iconst 1, 1) := by decide +kernel
theorem dX0_claim_58 : decode cX0_claim 58 = .ok (.iadd, 1) := by decide +kernel
theorem dX0_claim_59 : decode cX0_claim 59 = .ok (.putfield 51, 3) := by decide +kernel
theorem dX0_claim_62 : decode cX0_claim 62 = .ok (.iconst (-1), 1) := by decide +kernel
theorem dX0_claim_63 : decode cX0_claim 63 = .ok (.ireturn, 1) := by decide +kernel
theorem dX0_claim_64 : decode cX0_claim 64 = .ok (.aload_n 0, 1) := by decide +kernel
theorem dX0_claim_65 : decode cX0_claim 65 = .ok (.iload 4, 2) := by decide +kernel
theorem dX0_claim_67 : decode cX0_claim 67 = .ok (.iload_n 1, 1) := by decide +kernel
theorem dX0_claim_68 : decode cX0_claim 68 = .ok (.invokevirtual 54, 3) := by decide +kernel
theorem dX0_claim_71 : decode cX0_claim 71 = .ok (.aload_n 0, 1) := by decide +kernel
theorem dX0_claim_72 : decode cX0_claim 72 = .ok (.getfield 19, 3) := by decide +kernel
theorem dX0_claim_75 : decode cX0_claim 75 = .ok (.iload 4, 2) := by decide +kernel
theorem dX0_claim_77 : decode cX0_claim 77 = .ok (.iload_n 2, 1) := by decide +kernel
theorem dX0_claim_78 : decode cX0_claim 78 = .ok (.iastore, 1) := by decide +kernel
theorem dX0_claim_79 : decode cX0_claim 79 = .ok (.aload_n 0, 1) := by decide +kernel
theorem dX0_claim_80 : decode cX0_claim 80 = .ok (.dup, 1) := by decide +kernel
theorem dX0_claim_81 : decode cX0_claim 81 = .ok (.getfield 57, 3) := by decide +kernel
theorem dX0_claim_84 : decode cX0_claim 84 = .ok (.iconst 1, 1) := by decide +kernel
theorem dX0_claim_85 : decode cX0_claim 85 = .ok (.iadd, 1) := by decide +kernel
theorem dX0_claim_86 : decode cX0_claim 86 = .ok (.putfield 57, 3) := by decide +kernel
theorem dX0_claim_89 : decode cX0_claim 89 = .ok (.aload_n 0, 1) := by decide +kernel
theorem dX0_claim_90 : decode cX0_claim 90 = .ok (.dup, 1) := by decide +kernel
theorem dX0_claim_91 : decode cX0_claim 91 = .ok (.getfield 40, 3) := by decide +kernel
theorem dX0_claim_94 : decode cX0_claim 94 = .ok (.iconst 1, 1) := by decide +kernel
theorem dX0_claim_95 : decode cX0_claim 95 = .ok (.iload_n 1, 1) := by decide +kernel
theorem dX0_claim_96 : decode cX0_claim 96 = .ok (.ishl, 1) := by decide +kernel
theorem dX0_claim_97 : decode cX0_claim 97 = .ok (.isub, 1) := by decide +kernel
theorem dX0_claim_98 : decode cX0_claim 98 = .ok (.putfield 40, 3) := by decide +kernel
theorem dX0_claim_101 : decode cX0_claim 101 = .ok (.aload_n 0, 1) := by decide +kernel
theorem dX0_claim_102 : decode cX0_claim 102 = .ok (.aload_n 0, 1) := by decide +kernel
theorem dX0_claim_103 : decode cX0_claim 103 = .ok (.getfield 60, 3) := by decide +kernel
theorem dX0_claim_106 : decode cX0_claim 106 = .ok (.aload_n 0, 1) := by decide +kernel
theorem dX0_claim_107 : decode cX0_claim 107 = .ok (.getfield 29, 3) := by decide +kernel
theorem dX0_claim_110 : decode cX0_claim 110 = .ok (.aload_n 0, 1) := by decide +kernel
theorem dX0_claim_111 : decode cX0_claim 111 = .ok (.getfield 40, 3) := by decide +kernel
theorem dX0_claim_114 : decode cX0_claim 114 = .ok (.isub, 1) := by decide +kernel
theorem dX0_claim_115 : decode cX0_claim 115 = .ok (.invokestatic 63, 3) := by decide +kernel
theorem dX0_claim_118 : decode cX0_claim 118 = .ok (.putfield 60, 3) := by decide +kernel
theorem dX0_claim_121 : decode cX0_claim 121 = .ok (.iload 4, 2) := by decide +kernel
theorem dX0_claim_123 : decode cX0_claim 123 = .ok (.ireturn, 1) := by decide +kernel
theorem dX0_release_0 : decode cX0_release 0 = .ok (.aload_n 0, 1) := by decide +kernel
theorem dX0_release_1 : decode cX0_release 1 = .ok (.iload_n 1, 1) := by decide +kernel
theorem dX0_release_2 : decode cX0_release 2 = .ok (.invokevirtual 69, 3) := by decide +kernel
theorem dX0_release_5 : decode cX0_release 5 = .ok (.istore_n 2, 1) := by decide +kernel
theorem dX0_release_6 : decode cX0_release 6 = .ok (.iload_n 2, 1) := by decide +kernel
theorem dX0_release_7 : decode cX0_release 7 = .ok (.iconst (-1), 1) := by decide +kernel
theorem dX0_release_8 : decode cX0_release 8 = .ok (.if_icmp .ne 4, 3) := by decide +kernel
theorem dX0_release_11 : decode cX0_release 11 = .ok (.return_, 1) := by decide +kernel
theorem dX0_release_12 : decode cX0_release 12 = .ok (.aload_n 0, 1) := by decide +kernel
theorem dX0_release_13 : decode cX0_release 13 = .ok (.dup, 1) := by decide +kernel
theorem dX0_release_14 : decode cX0_release 14 = .ok (.getfield 72, 3) := by decide +kernel
theorem dX0_release_17 : decode cX0_release 17 = .ok (.iconst 1, 1) := by decide +kernel
theorem dX0_release_18 : decode cX0_release 18 = .ok (.iadd, 1) := by decide +kernel
theorem dX0_release_19 : decode cX0_release 19 = .ok (.putfield 72, 3) := by decide +kernel
theorem dX0_release_22 : decode cX0_release 22 = .ok (.aload_n 0, 1) := by decide +kernel
theorem dX0_release_23 : decode cX0_release 23 = .ok (.dup, 1) := by decide +kernel
theorem dX0_release_24 : decode cX0_release 24 = .ok (.getfield 40, 3) := by decide +kernel
theorem dX0_release_27 : decode cX0_release 27 = .ok (.iconst 1, 1) := by decide +kernel
theorem dX0_release_28 : decode cX0_release 28 = .ok (.iload_n 2, 1) := by decide +kernel
theorem dX0_release_29 : decode cX0_release 29 = .ok (.ishl, 1) := by decide +kernel
theorem dX0_release_30 : decode cX0_release 30 = .ok (.iadd, 1) := by decide +kernel
theorem dX0_release_31 : decode cX0_release 31 = .ok (.putfield 40, 3) := by decide +kernel
theorem dX0_release_34 : decode cX0_release 34 = .ok (.aload_n 0, 1) := by decide +kernel
theorem dX0_release_35 : decode cX0_release 35 = .ok (.iload_n 1, 1) := by decide +kernel
theorem dX0_release_36 : decode cX0_release 36 = .ok (.iload_n 2, 1) := by decide +kernel
theorem dX0_release_37 : decode cX0_release 37 = .ok (.invokevirtual 36, 3) := by decide +kernel
theorem dX0_release_40 : decode cX0_release 40 = .ok (.return_, 1) := by decide +kernel
theorem dX0_leastFree_0 : decode cX0_leastFree 0 = .ok (.iload_n 1, 1) := by decide +kernel
theorem dX0_leastFree_1 : decode cX0_leastFree 1 = .ok (.istore_n 2, 1) := by decide +kernel
theorem dX0_leastFree_2 : decode cX0_leastFree 2 = .ok (.iload_n 2, 1) := by decide +kernel
theorem dX0_leastFree_3 : decode cX0_leastFree 3 = .ok (.bipush 6, 2) := by decide +kernel
theorem dX0_leastFree_5 : decode cX0_leastFree 5 = .ok (.if_icmp .ge 18, 3) := by decide +kernel
theorem dX0_leastFree_8 : decode cX0_leastFree 8 = .ok (.aload_n 0, 1) := by decide +kernel
theorem dX0_leastFree_9 : decode cX0_leastFree 9 = .ok (.getfield 22, 3) := by decide +kernel
theorem dX0_leastFree_12 : decode cX0_leastFree 12 = .ok (.iload_n 2, 1) := by decide +kernel
theorem dX0_leastFree_13 : decode cX0_leastFree 13 = .ok (.iaload, 1) := by decide +kernel
theorem dX0_leastFree_14 : decode cX0_leastFree 14 = .ok (.ifCond .ne 9, 3) := by decide +kernel
theorem dX0_leastFree_17 : decode cX0_leastFree 17 = .ok (.iinc 2 1, 3) := by decide +kernel
theorem dX0_leastFree_20 : decode cX0_leastFree 20 = .ok (.goto (-18), 3) := by decide +kernel
theorem dX0_leastFree_23 : decode cX0_leastFree 23 = .ok (.iconst 0, 1) := by decide +kernel
theorem dX0_leastFree_24 : decode cX0_leastFree 24 = .ok (.istore_n 3, 1) := by decide +kernel
theorem dX0_leastFree_25 : decode cX0_leastFree 25 = .ok (.iload_n 3, 1) := by decide +kernel
theorem dX0_leastFree_26 : decode cX0_leastFree 26 = .ok (.sipush 256, 3) := by decide +kernel
theorem dX0_leastFree_29 : decode cX0_leastFree 29 = .ok (.if_icmp .ge 20, 3) := by decide +kernel
theorem dX0_leastFree_32 : decode cX0_leastFree 32 = .ok (.aload_n 0, 1) := by decide +kernel
theorem dX0_leastFree_33 : decode cX0_leastFree 33 = .ok (.iload_n 3, 1) := by decide +kernel
theorem dX0_leastFree_34 : decode cX0_leastFree 34 = .ok (.iload_n 2, 1) := by decide +kernel
theorem dX0_leastFree_35 : decode cX0_leastFree 35 = .ok (.invokevirtual 75, 3) := by decide +kernel
theorem dX0_leastFree_38 : decode cX0_leastFree 38 = .ok (.ifCond .eq 5, 3) := by decide +kernel
theorem dX0_leastFree_41 : decode cX0_leastFree 41 = .ok (.iload_n 3, 1) := by decide +kernel
theorem dX0_leastFree_42 : decode cX0_leastFree 42 = .ok (.ireturn, 1) := by decide +kernel
theorem dX0_leastFree_43 : decode cX0_leastFree 43 = .ok (.iinc 3 1, 3) := by decide +kernel
theorem dX0_leastFree_46 : decode cX0_leastFree 46 = .ok (.goto (-21), 3) := by decide +kernel
theorem dX0_leastFree_49 : decode cX0_leastFree 49 = .ok (.iconst (-1), 1) := by decide +kernel
theorem dX0_leastFree_50 : decode cX0_leastFree 50 = .ok (.ireturn, 1) := by decide +kernel
theorem dX0_isFree_0 : decode cX0_isFree 0 = .ok (.aload_n 0, 1) := by decide +kernel
theorem dX0_isFree_1 : decode cX0_isFree 1 = .ok (.getfield 15, 3) := by decide +kernel
theorem dX0_isFree_4 : decode cX0_isFree 4 = .ok (.iload_n 1, 1) := by decide +kernel
theorem dX0_isFree_5 : decode cX0_isFree 5 = .ok (.iaload, 1) := by decide +kernel
theorem dX0_isFree_6 : decode cX0_isFree 6 = .ok (.iload_n 2, 1) := by decide +kernel
theorem dX0_isFree_7 : decode cX0_isFree 7 = .ok (.iconst 1, 1) := by decide +kernel
theorem dX0_isFree_8 : decode cX0_isFree 8 = .ok (.iadd, 1) := by decide +kernel
theorem dX0_isFree_9 : decode cX0_isFree 9 = .ok (.if_icmp .ne 16, 3) := by decide +kernel
theorem dX0_isFree_12 : decode cX0_isFree 12 = .ok (.aload_n 0, 1) := by decide +kernel
theorem dX0_isFree_13 : decode cX0_isFree 13 = .ok (.getfield 19, 3) := by decide +kernel
theorem dX0_isFree_16 : decode cX0_isFree 16 = .ok (.iload_n 1, 1) := by decide +kernel
theorem dX0_isFree_17 : decode cX0_isFree 17 = .ok (.iaload, 1) := by decide +kernel
theorem dX0_isFree_18 : decode cX0_isFree 18 = .ok (.ifCond .ne 7, 3) := by decide +kernel
theorem dX0_isFree_21 : decode cX0_isFree 21 = .ok (.iconst 1, 1) := by decide +kernel
theorem dX0_isFree_22 : decode cX0_isFree 22 = .ok (.goto 4, 3) := by decide +kernel
theorem dX0_isFree_25 : decode cX0_isFree 25 = .ok (.iconst 0, 1) := by decide +kernel
theorem dX0_isFree_26 : decode cX0_isFree 26 = .ok (.ireturn, 1) := by decide +kernel
theorem dX0_halve_0 : decode cX0_halve 0 = .ok (.aload_n 0, 1) := by decide +kernel
theorem dX0_halve_1 : decode cX0_halve 1 = .ok (.getfield 15, 3) := by decide +kernel
theorem dX0_halve_4 : decode cX0_halve 4 = .ok (.iload_n 1, 1) := by decide +kernel
theorem dX0_halve_5 : decode cX0_halve 5 = .ok (.iaload, 1) := by decide +kernel
theorem dX0_halve_6 : decode cX0_halve 6 = .ok (.iconst 1, 1) := by decide +kernel
theorem dX0_halve_7 : decode cX0_halve 7 = .ok (.isub, 1) := by decide +kernel
theorem dX0_halve_8 : decode cX0_halve 8 = .ok (.istore_n 3, 1) := by decide +kernel
theorem dX0_halve_9 : decode cX0_halve 9 = .ok (.aload_n 0, 1) := by decide +kernel
theorem dX0_halve_10 : decode cX0_halve 10 = .ok (.getfield 22, 3) := by decide +kernel
theorem dX0_halve_13 : decode cX0_halve 13 = .ok (.iload_n 3, 1) := by decide +kernel
theorem dX0_halve_14 : decode cX0_halve 14 = .ok (.dup2, 1) := by decide +kernel
theorem dX0_halve_15 : decode cX0_halve 15 = .ok (.iaload, 1) := by decide +kernel
theorem dX0_halve_16 : decode cX0_halve 16 = .ok (.iconst 1, 1) := by decide +kernel
theorem dX0_halve_17 : decode cX0_halve 17 = .ok (.isub, 1) := by decide +kernel
theorem dX0_halve_18 : decode cX0_halve 18 = .ok (.iastore, 1) := by decide +kernel
theorem dX0_halve_19 : decode cX0_halve 19 = .ok (.iload_n 3, 1) := by decide +kernel
theorem dX0_halve_20 : decode cX0_halve 20 = .ok (.iconst 1, 1) := by decide +kernel
theorem dX0_halve_21 : decode cX0_halve 21 = .ok (.isub, 1) := by decide +kernel
theorem dX0_halve_22 : decode cX0_halve 22 = .ok (.istore 4, 2) := by decide +kernel
theorem dX0_halve_24 : decode cX0_halve 24 = .ok (.iload 4, 2) := by decide +kernel
theorem dX0_halve_26 : decode cX0_halve 26 = .ok (.iload_n 2, 1) := by decide +kernel
theorem dX0_halve_27 : decode cX0_halve 27 = .ok (.if_icmp .lt 21, 3) := by decide +kernel
theorem dX0_halve_30 : decode cX0_halve 30 = .ok (.aload_n 0, 1) := by decide +kernel
theorem dX0_halve_31 : decode cX0_halve 31 = .ok (.iload_n 1, 1) := by decide +kernel
theorem dX0_halve_32 : decode cX0_halve 32 = .ok (.iconst 1, 1) := by decide +kernel
theorem dX0_halve_33 : decode cX0_halve 33 = .ok (.iload 4, 2) := by decide +kernel
theorem dX0_halve_35 : decode cX0_halve 35 = .ok (.ishl, 1) := by decide +kernel
theorem dX0_halve_36 : decode cX0_halve 36 = .ok (.iadd, 1) := by decide +kernel
theorem dX0_halve_37 : decode cX0_halve 37 = .ok (.iload 4, 2) := by decide +kernel
theorem dX0_halve_39 : decode cX0_halve 39 = .ok (.invokevirtual 79, 3) := by decide +kernel
theorem dX0_halve_42 : decode cX0_halve 42 = .ok (.iinc 4 (-1), 3) := by decide +kernel
theorem dX0_halve_45 : decode cX0_halve 45 = .ok (.goto (-21), 3) := by decide +kernel
theorem dX0_halve_48 : decode cX0_halve 48 = .ok (.aload_n 0, 1) := by decide +kernel
theorem dX0_halve_49 : decode cX0_halve 49 = .ok (.getfield 15, 3) := by decide +kernel
theorem dX0_halve_52 : decode cX0_halve 52 = .ok (.iload_n 1, 1) := by decide +kernel
theorem dX0_halve_53 : decode cX0_halve 53 = .ok (.iload_n 2, 1) := by decide +kernel
theorem dX0_halve_54 : decode cX0_halve 54 = .ok (.iconst 1, 1) := by decide +kernel
theorem dX0_halve_55 : decode cX0_halve 55 = .ok (.iadd, 1) := by decide +kernel
theorem dX0_halve_56 : decode cX0_halve 56 = .ok (.iastore, 1) := by decide +kernel
theorem dX0_halve_57 : decode cX0_halve 57 = .ok (.return_, 1) := by decide +kernel
theorem dX0_join_0 : decode cX0_join 0 = .ok (.iload_n 1, 1) := by decide +kernel
theorem dX0_join_1 : decode cX0_join 1 = .ok (.istore_n 3, 1) := by decide +kernel
theorem dX0_join_2 : decode cX0_join 2 = .ok (.iload_n 2, 1) := by decide +kernel
theorem dX0_join_3 : decode cX0_join 3 = .ok (.istore 4, 2) := by decide +kernel
theorem dX0_join_5 : decode cX0_join 5 = .ok (.iload 4, 2) := by decide +kernel
theorem dX0_join_7 : decode cX0_join 7 = .ok (.bipush 6, 2) := by decide +kernel
theorem dX0_join_9 : decode cX0_join 9 = .ok (.if_icmp .ge 65, 3) := by decide +kernel
theorem dX0_join_12 : decode cX0_join 12 = .ok (.aload_n 0, 1) := by decide +kernel
theorem dX0_join_13 : decode cX0_join 13 = .ok (.iload_n 3, 1) := by decide +kernel
theorem dX0_join_14 : decode cX0_join 14 = .ok (.iload 4, 2) := by decide +kernel
theorem dX0_join_16 : decode cX0_join 16 = .ok (.invokestatic 82, 3) := by decide +kernel
theorem dX0_join_19 : decode cX0_join 19 = .ok (.iload 4, 2) := by decide +kernel
theorem dX0_join_21 : decode cX0_join 21 = .ok (.invokevirtual 75, 3) := by decide +kernel
theorem dX0_join_24 : decode cX0_join 24 = .ok (.ifCond .eq 50, 3) := by decide +kernel
theorem dX0_join_27 : decode cX0_join 27 = .ok (.iload_n 3, 1) := by decide +kernel
theorem dX0_join_28 : decode cX0_join 28 = .ok (.iload 4, 2) := by decide +kernel
theorem dX0_join_30 : decode cX0_join 30 = .ok (.invokestatic 82, 3) := by decide +kernel
theorem dX0_join_33 : decode cX0_join 33 = .ok (.istore 5, 2) := by decide +kernel
theorem dX0_join_35 : decode cX0_join 35 = .ok (.aload_n 0, 1) := by decide +kernel
theorem dX0_join_36 : decode cX0_join 36 = .ok (.getfield 22, 3) := by decide +kernel
theorem dX0_join_39 : decode cX0_join 39 = .ok (.iload 4, 2) := by decide +kernel
theorem dX0_join_41 : decode cX0_join 41 = .ok (.dup2, 1) := by decide +kernel
theorem dX0_join_42 : decode cX0_join 42 = .ok (.iaload, 1) := by decide +kernel
theorem dX0_join_43 : decode cX0_join 43 = .ok (.iconst 1, 1) := by decide +kernel
theorem dX0_join_44 : decode cX0_join 44 = .ok (.isub, 1) := by decide +kernel
theorem dX0_join_45 : decode cX0_join 45 = .ok (.iastore, 1) := by decide +kernel
theorem dX0_join_46 : decode cX0_join 46 = .ok (.aload_n 0, 1) := by decide +kernel
theorem dX0_join_47 : decode cX0_join 47 = .ok (.getfield 15, 3) := by decide +kernel
theorem dX0_join_50 : decode cX0_join 50 = .ok (.iload_n 3, 1) := by decide +kernel
theorem dX0_join_51 : decode cX0_join 51 = .ok (.iconst 0, 1) := by decide +kernel
theorem dX0_join_52 : decode cX0_join 52 = .ok (.iastore, 1) := by decide +kernel
theorem dX0_join_53 : decode cX0_join 53 = .ok (.aload_n 0, 1) := by decide +kernel
theorem dX0_join_54 : decode cX0_join 54 = .ok (.getfield 15, 3) := by decide +kernel
theorem dX0_join_57 : decode cX0_join 57 = .ok (.iload 5, 2) := by decide +kernel
theorem dX0_join_59 : decode cX0_join 59 = .ok (.iconst 0, 1) := by decide +kernel
theorem dX0_join_60 : decode cX0_join 60 = .ok (.iastore, 1) := by decide +kernel
theorem dX0_join_61 : decode cX0_join 61 = .ok (.iload_n 3, 1) := by decide +kernel
theorem dX0_join_62 : decode cX0_join 62 = .ok (.iload 5, 2) := by decide +kernel
theorem dX0_join_64 : decode cX0_join 64 = .ok (.invokestatic 85, 3) := by decide +kernel
theorem dX0_join_67 : decode cX0_join 67 = .ok (.istore_n 3, 1) := by decide +kernel
theorem dX0_join_68 : decode cX0_join 68 = .ok (.iinc 4 1, 3) := by decide +kernel
theorem dX0_join_71 : decode cX0_join 71 = .ok (.goto (-66), 3) := by decide +kernel
theorem dX0_join_74 : decode cX0_join 74 = .ok (.aload_n 0, 1) := by decide +kernel
theorem dX0_join_75 : decode cX0_join 75 = .ok (.iload_n 3, 1) := by decide +kernel
theorem dX0_join_76 : decode cX0_join 76 = .ok (.iload 4, 2) := by decide +kernel
theorem dX0_join_78 : decode cX0_join 78 = .ok (.invokevirtual 79, 3) := by decide +kernel
theorem dX0_join_81 : decode cX0_join 81 = .ok (.return_, 1) := by decide +kernel
theorem dX0_buddyOf_0 : decode cX0_buddyOf 0 = .ok (.iload_n 0, 1) := by decide +kernel
theorem dX0_buddyOf_1 : decode cX0_buddyOf 1 = .ok (.iconst 1, 1) := by decide +kernel
theorem dX0_buddyOf_2 : decode cX0_buddyOf 2 = .ok (.iload_n 1, 1) := by decide +kernel
theorem dX0_buddyOf_3 : decode cX0_buddyOf 3 = .ok (.ishl, 1) := by decide +kernel
theorem dX0_buddyOf_4 : decode cX0_buddyOf 4 = .ok (.ixor, 1) := by decide +kernel
theorem dX0_buddyOf_5 : decode cX0_buddyOf 5 = .ok (.ireturn, 1) := by decide +kernel
theorem dX0_layFree_0 : decode cX0_layFree 0 = .ok (.aload_n 0, 1) := by decide +kernel
theorem dX0_layFree_1 : decode cX0_layFree 1 = .ok (.getfield 15, 3) := by decide +kernel
theorem dX0_layFree_4 : decode cX0_layFree 4 = .ok (.iload_n 1, 1) := by decide +kernel
theorem dX0_layFree_5 : decode cX0_layFree 5 = .ok (.iload_n 2, 1) := by decide +kernel
theorem dX0_layFree_6 : decode cX0_layFree 6 = .ok (.iconst 1, 1) := by decide +kernel
theorem dX0_layFree_7 : decode cX0_layFree 7 = .ok (.iadd, 1) := by decide +kernel
theorem dX0_layFree_8 : decode cX0_layFree 8 = .ok (.iastore, 1) := by decide +kernel
theorem dX0_layFree_9 : decode cX0_layFree 9 = .ok (.aload_n 0, 1) := by decide +kernel
theorem dX0_layFree_10 : decode cX0_layFree 10 = .ok (.getfield 19, 3) := by decide +kernel
theorem dX0_layFree_13 : decode cX0_layFree 13 = .ok (.iload_n 1, 1) := by decide +kernel
theorem dX0_layFree_14 : decode cX0_layFree 14 = .ok (.iconst 0, 1) := by decide +kernel
theorem dX0_layFree_15 : decode cX0_layFree 15 = .ok (.iastore, 1) := by decide +kernel
theorem dX0_layFree_16 : decode cX0_layFree 16 = .ok (.aload_n 0, 1) := by decide +kernel
theorem dX0_layFree_17 : decode cX0_layFree 17 = .ok (.getfield 22, 3) := by decide +kernel
theorem dX0_layFree_20 : decode cX0_layFree 20 = .ok (.iload_n 2, 1) := by decide +kernel
theorem dX0_layFree_21 : decode cX0_layFree 21 = .ok (.dup2, 1) := by decide +kernel
theorem dX0_layFree_22 : decode cX0_layFree 22 = .ok (.iaload, 1) := by decide +kernel
theorem dX0_layFree_23 : decode cX0_layFree 23 = .ok (.iconst 1, 1) := by decide +kernel
theorem dX0_layFree_24 : decode cX0_layFree 24 = .ok (.iadd, 1) := by decide +kernel
theorem dX0_layFree_25 : decode cX0_layFree 25 = .ok (.iastore, 1) := by decide +kernel
theorem dX0_layFree_26 : decode cX0_layFree 26 = .ok (.return_, 1) := by decide +kernel
theorem dX1_init_0 : decode cX1_init 0 = .ok (.aload_n 0, 1) := by decide +kernel
theorem dX1_init_1 : decode cX1_init 1 = .ok (.invokespecial 3, 3) := by decide +kernel
theorem dX1_init_4 : decode cX1_init 4 = .ok (.aload_n 0, 1) := by decide +kernel
theorem dX1_init_5 : decode cX1_init 5 = .ok (.iconst (-1), 1) := by decide +kernel
theorem dX1_init_6 : decode cX1_init 6 = .ok (.putfield 9, 3) := by decide +kernel
theorem dX1_init_9 : decode cX1_init 9 = .ok (.aload_n 0, 1) := by decide +kernel
theorem dX1_init_10 : decode cX1_init 10 = .ok (.iconst 2, 1) := by decide +kernel
theorem dX1_init_11 : decode cX1_init 11 = .ok (.iload_n 1, 1) := by decide +kernel
theorem dX1_init_12 : decode cX1_init 12 = .ok (.iadd, 1) := by decide +kernel
theorem dX1_init_13 : decode cX1_init 13 = .ok (.putfield 15, 3) := by decide +kernel
theorem dX1_init_16 : decode cX1_init 16 = .ok (.aload_n 0, 1) := by decide +kernel
theorem dX1_init_17 : decode cX1_init 17 = .ok (.iload_n 2, 1) := by decide +kernel
theorem dX1_init_18 : decode cX1_init 18 = .ok (.putfield 18, 3) := by decide +kernel
theorem dX1_init_21 : decode cX1_init 21 = .ok (.aload_n 0, 1) := by decide +kernel
theorem dX1_init_22 : decode cX1_init 22 = .ok (.iload_n 3, 1) := by decide +kernel
theorem dX1_init_23 : decode cX1_init 23 = .ok (.putfield 21, 3) := by decide +kernel
theorem dX1_init_26 : decode cX1_init 26 = .ok (.aload_n 0, 1) := by decide +kernel
theorem dX1_init_27 : decode cX1_init 27 = .ok (.iload_n 2, 1) := by decide +kernel
theorem dX1_init_28 : decode cX1_init 28 = .ok (.iload_n 3, 1) := by decide +kernel
theorem dX1_init_29 : decode cX1_init 29 = .ok (.iadd, 1) := by decide +kernel
theorem dX1_init_30 : decode cX1_init 30 = .ok (.iconst 1, 1) := by decide +kernel
theorem dX1_init_31 : decode cX1_init 31 = .ok (.isub, 1) := by decide +kernel
theorem dX1_init_32 : decode cX1_init 32 = .ok (.iload_n 3, 1) := by decide +kernel
theorem dX1_init_33 : decode cX1_init 33 = .ok (.ineg, 1) := by decide +kernel
theorem dX1_init_34 : decode cX1_init 34 = .ok (.iand, 1) := by decide +kernel
theorem dX1_init_35 : decode cX1_init 35 = .ok (.putfield 24, 3) := by decide +kernel
theorem dX1_init_38 : decode cX1_init 38 = .ok (.aload_n 0, 1) := by decide +kernel
theorem dX1_init_39 : decode cX1_init 39 = .ok (.aload_n 0, 1) := by decide +kernel
theorem dX1_init_40 : decode cX1_init 40 = .ok (.getfield 24, 3) := by decide +kernel
theorem dX1_init_43 : decode cX1_init 43 = .ok (.invokestatic 27, 3) := by decide +kernel
theorem dX1_init_46 : decode cX1_init 46 = .ok (.putfield 31, 3) := by decide +kernel
theorem dX1_init_49 : decode cX1_init 49 = .ok (.aload_n 0, 1) := by decide +kernel
theorem dX1_init_50 : decode cX1_init 50 = .ok (.aload_n 0, 1) := by decide +kernel
theorem dX1_init_51 : decode cX1_init 51 = .ok (.getfield 31, 3) := by decide +kernel
theorem dX1_init_54 : decode cX1_init 54 = .ok (.aload_n 0, 1) := by decide +kernel
theorem dX1_init_55 : decode cX1_init 55 = .ok (.getfield 24, 3) := by decide +kernel
theorem dX1_init_58 : decode cX1_init 58 = .ok (.invokestatic 34, 3) := by decide +kernel
theorem dX1_init_61 : decode cX1_init 61 = .ok (.putfield 38, 3) := by decide +kernel
theorem dX1_init_64 : decode cX1_init 64 = .ok (.return_, 1) := by decide +kernel
theorem dX1_orderFor_0 : decode cX1_orderFor 0 = .ok (.iconst 0, 1) := by decide +kernel
theorem dX1_orderFor_1 : decode cX1_orderFor 1 = .ok (.istore_n 1, 1) := by decide +kernel
theorem dX1_orderFor_2 : decode cX1_orderFor 2 = .ok (.iload_n 1, 1) := by decide +kernel
theorem dX1_orderFor_3 : decode cX1_orderFor 3 = .ok (.iconst 4, 1) := by decide +kernel
theorem dX1_orderFor_4 : decode cX1_orderFor 4 = .ok (.if_icmp .ge 18, 3) := by decide +kernel
theorem dX1_orderFor_7 : decode cX1_orderFor 7 = .ok (.iload_n 1, 1) := by decide +kernel
theorem dX1_orderFor_8 : decode cX1_orderFor 8 = .ok (.iload_n 0, 1) := by decide +kernel
theorem dX1_orderFor_9 : decode cX1_orderFor 9 = .ok (.invokestatic 34, 3) := by decide +kernel
theorem dX1_orderFor_12 : decode cX1_orderFor 12 = .ok (.iconst 4, 1) := by decide +kernel
theorem dX1_orderFor_13 : decode cX1_orderFor 13 = .ok (.if_icmp .ge 9, 3) := by decide +kernel
theorem dX1_orderFor_16 : decode cX1_orderFor 16 = .ok (.iinc 1 1, 3) := by decide +kernel
theorem dX1_orderFor_19 : decode cX1_orderFor 19 = .ok (.goto (-17), 3) := by decide +kernel
theorem dX1_orderFor_22 : decode cX1_orderFor 22 = .ok (.iload_n 1, 1) := by decide +kernel
theorem dX1_orderFor_23 : decode cX1_orderFor 23 = .ok (.ireturn, 1) := by decide +kernel
theorem dX1_objectsIn_0 : decode cX1_objectsIn 0 = .ok (.iload_n 1, 1) := by decide +kernel
theorem dX1_objectsIn_1 : decode cX1_objectsIn 1 = .ok (.iconst 1, 1) := by decide +kernel
theorem dX1_objectsIn_2 : decode cX1_objectsIn 2 = .ok (.if_icmp .ge 7, 3) := by decide +kernel
theorem dX1_objectsIn_5 : decode cX1_objectsIn 5 = .ok (.iconst 0, 1) := by decide +kernel
theorem dX1_objectsIn_6 : decode cX1_objectsIn 6 = .ok (.goto 9, 3) := by decide +kernel
theorem dX1_objectsIn_9 : decode cX1_objectsIn 9 = .ok (.bipush 64, 2) := by decide +kernel
theorem dX1_objectsIn_11 : decode cX1_objectsIn 11 = .ok (.iload_n 0, 1) := by decide +kernel
theorem dX1_objectsIn_12 : decode cX1_objectsIn 12 = .ok (.ishl, 1) := by decide +kernel
theorem dX1_objectsIn_13 : decode cX1_objectsIn 13 = .ok (.iload_n 1, 1) := by decide +kernel
theorem dX1_objectsIn_14 : decode cX1_objectsIn 14 = .ok (.idiv, 1) := by decide +kernel
theorem dX1_objectsIn_15 : decode cX1_objectsIn 15 = .ok (.ireturn, 1) := by decide +kernel
theorem dX1_indexAt_0 : decode cX1_indexAt 0 = .ok (.aload_n 0, 1) := by decide +kernel
theorem dX1_indexAt_1 : decode cX1_indexAt 1 = .ok (.getfield 24, 3) := by decide +kernel
theorem dX1_indexAt_4 : decode cX1_indexAt 4 = .ok (.iconst 1, 1) := by decide +kernel
theorem dX1_indexAt_5 : decode cX1_indexAt 5 = .ok (.if_icmp .lt 16, 3) := by decide +kernel
theorem dX1_indexAt_8 : decode cX1_indexAt 8 = .ok (.iload_n 1, 1) := by decide +kernel
theorem dX1_indexAt_9 : decode cX1_indexAt 9 = .ok (.ifCond .lt 12, 3) := by decide +kernel
theorem dX1_indexAt_12 : decode cX1_indexAt 12 = .ok (.iload_n 1, 1) := by decide +kernel
theorem dX1_indexAt_13 : decode cX1_indexAt 13 = .ok (.aload_n 0, 1) := by decide +kernel
theorem dX1_indexAt_14 : decode cX1_indexAt 14 = .ok (.getfield 24, 3) := by decide +kernel
theorem dX1_indexAt_17 : decode cX1_indexAt 17 = .ok (.irem, 1) := by decide +kernel
theorem dX1_indexAt_18 : decode cX1_indexAt 18 = .ok (.ifCond .eq 5, 3) := by decide +kernel
theorem dX1_indexAt_21 : decode cX1_indexAt 21 = .ok (.iconst (-1), 1) := by decide +kernel
theorem dX1_indexAt_22 : decode cX1_indexAt 22 = .ok (.ireturn, 1) := by decide +kernel
theorem dX1_indexAt_23 : decode cX1_indexAt 23 = .ok (.iload_n 1, 1) := by decide +kernel
theorem dX1_indexAt_24 : decode cX1_indexAt 24 = .ok (.aload_n 0, 1) := by decide +kernel
theorem dX1_indexAt_25 : decode cX1_indexAt 25 = .ok (.getfield 24, 3) := by decide +kernel
theorem dX1_indexAt_28 : decode cX1_indexAt 28 = .ok (.idiv, 1) := by decide +kernel
theorem dX1_indexAt_29 : decode cX1_indexAt 29 = .ok (.istore_n 2, 1) := by decide +kernel
theorem dX1_indexAt_30 : decode cX1_indexAt 30 = .ok (.iload_n 2, 1) := by decide +kernel
theorem dX1_indexAt_31 : decode cX1_indexAt 31 = .ok (.aload_n 0, 1) := by decide +kernel
theorem dX1_indexAt_32 : decode cX1_indexAt 32 = .ok (.getfield 38, 3) := by decide +kernel
theorem dX1_indexAt_35 : decode cX1_indexAt 35 = .ok (.if_icmp .ge 7, 3) := by decide +kernel
theorem dX1_indexAt_38 : decode cX1_indexAt 38 = .ok (.iload_n 2, 1) := by decide +kernel
theorem dX1_indexAt_39 : decode cX1_indexAt 39 = .ok (.goto 4, 3) := by decide +kernel
theorem dX1_indexAt_42 : decode cX1_indexAt 42 = .ok (.iconst (-1), 1) := by decide +kernel
theorem dX1_indexAt_43 : decode cX1_indexAt 43 = .ok (.ireturn, 1) := by decide +kernel
theorem dX1_figure_0 : decode cX1_figure 0 = .ok (.iload_n 1, 1) := by decide +kernel
theorem dX1_figure_1 : decode cX1_figure 1 = .ok (.tableswitch 87 0 7 #[47, 52, 57, 62, 67, 72, 77, 82], 47) := by decide +kernel
theorem dX1_figure_48 : decode cX1_figure 48 = .ok (.aload_n 0, 1) := by decide +kernel
theorem dX1_figure_49 : decode cX1_figure 49 = .ok (.getfield 18, 3) := by decide +kernel
theorem dX1_figure_52 : decode cX1_figure 52 = .ok (.ireturn, 1) := by decide +kernel
theorem dX1_figure_53 : decode cX1_figure 53 = .ok (.aload_n 0, 1) := by decide +kernel
theorem dX1_figure_54 : decode cX1_figure 54 = .ok (.getfield 21, 3) := by decide +kernel
theorem dX1_figure_57 : decode cX1_figure 57 = .ok (.ireturn, 1) := by decide +kernel
theorem dX1_figure_58 : decode cX1_figure 58 = .ok (.aload_n 0, 1) := by decide +kernel
theorem dX1_figure_59 : decode cX1_figure 59 = .ok (.getfield 24, 3) := by decide +kernel
theorem dX1_figure_62 : decode cX1_figure 62 = .ok (.ireturn, 1) := by decide +kernel
theorem dX1_figure_63 : decode cX1_figure 63 = .ok (.aload_n 0, 1) := by decide +kernel
theorem dX1_figure_64 : decode cX1_figure 64 = .ok (.getfield 31, 3) := by decide +kernel
theorem dX1_figure_67 : decode cX1_figure 67 = .ok (.ireturn, 1) := by decide +kernel
theorem dX1_figure_68 : decode cX1_figure 68 = .ok (.aload_n 0, 1) := by decide +kernel
theorem dX1_figure_69 : decode cX1_figure 69 = .ok (.getfield 38, 3) := by decide +kernel
theorem dX1_figure_72 : decode cX1_figure 72 = .ok (.ireturn, 1) := by decide +kernel
theorem dX1_figure_73 : decode cX1_figure 73 = .ok (.aload_n 0, 1) := by decide +kernel
theorem dX1_figure_74 : decode cX1_figure 74 = .ok (.getfield 41, 3) := by decide +kernel
theorem dX1_figure_77 : decode cX1_figure 77 = .ok (.ireturn, 1) := by decide +kernel
theorem dX1_figure_78 : decode cX1_figure 78 = .ok (.aload_n 0, 1) := by decide +kernel
theorem dX1_figure_79 : decode cX1_figure 79 = .ok (.getfield 44, 3) := by decide +kernel
theorem dX1_figure_82 : decode cX1_figure 82 = .ok (.ireturn, 1) := by decide +kernel
theorem dX1_figure_83 : decode cX1_figure 83 = .ok (.aload_n 0, 1) := by decide +kernel
theorem dX1_figure_84 : decode cX1_figure 84 = .ok (.getfield 9, 3) := by decide +kernel
theorem dX1_figure_87 : decode cX1_figure 87 = .ok (.ireturn, 1) := by decide +kernel
theorem dX1_figure_88 : decode cX1_figure 88 = .ok (.iconst (-1), 1) := by decide +kernel
theorem dX1_figure_89 : decode cX1_figure 89 = .ok (.ireturn, 1) := by decide +kernel
theorem dX2_init_0 : decode cX2_init 0 = .ok (.aload_n 0, 1) := by decide +kernel
theorem dX2_init_1 : decode cX2_init 1 = .ok (.invokespecial 3, 3) := by decide +kernel
theorem dX2_init_4 : decode cX2_init 4 = .ok (.aload_n 0, 1) := by decide +kernel
theorem dX2_init_5 : decode cX2_init 5 = .ok (.sipush 2048, 3) := by decide +kernel
theorem dX2_init_8 : decode cX2_init 8 = .ok (.newarray .long, 2) := by decide +kernel
theorem dX2_init_10 : decode cX2_init 10 = .ok (.putfield 11, 3) := by decide +kernel
theorem dX2_init_13 : decode cX2_init 13 = .ok (.return_, 1) := by decide +kernel
theorem dX2_get_0 : decode cX2_get 0 = .ok (.aload_n 0, 1) := by decide +kernel
theorem dX2_get_1 : decode cX2_get 1 = .ok (.getfield 11, 3) := by decide +kernel
theorem dX2_get_4 : decode cX2_get 4 = .ok (.iload_n 1, 1) := by decide +kernel
theorem dX2_get_5 : decode cX2_get 5 = .ok (.bipush 8, 2) := by decide +kernel
theorem dX2_get_7 : decode cX2_get 7 = .ok (.idiv, 1) := by decide +kernel
theorem dX2_get_8 : decode cX2_get 8 = .ok (.laload, 1) := by decide +kernel
theorem dX2_get_9 : decode cX2_get 9 = .ok (.iload_n 1, 1) := by decide +kernel
theorem dX2_get_10 : decode cX2_get 10 = .ok (.invokestatic 15, 3) := by decide +kernel
theorem dX2_get_13 : decode cX2_get 13 = .ok (.lushr, 1) := by decide +kernel
theorem dX2_get_14 : decode cX2_get 14 = .ok (.l2i, 1) := by decide +kernel
theorem dX2_get_15 : decode cX2_get 15 = .ok (.sipush 255, 3) := by decide +kernel
theorem dX2_get_18 : decode cX2_get 18 = .ok (.iand, 1) := by decide +kernel
theorem dX2_get_19 : decode cX2_get 19 = .ok (.ireturn, 1) := by decide +kernel
theorem dX2_put_0 : decode cX2_put 0 = .ok (.iload_n 1, 1) := by decide +kernel
theorem dX2_put_1 : decode cX2_put 1 = .ok (.invokestatic 15, 3) := by decide +kernel
theorem dX2_put_4 : decode cX2_put 4 = .ok (.istore_n 3, 1) := by decide +kernel
theorem dX2_put_5 : decode cX2_put 5 = .ok (.aload_n 0, 1) := by decide +kernel
theorem dX2_put_6 : decode cX2_put 6 = .ok (.getfield 11, 3) := by decide +kernel
theorem dX2_put_9 : decode cX2_put 9 = .ok (.iload_n 1, 1) := by decide +kernel
theorem dX2_put_10 : decode cX2_put 10 = .ok (.bipush 8, 2) := by decide +kernel
theorem dX2_put_12 : decode cX2_put 12 = .ok (.idiv, 1) := by decide +kernel
theorem dX2_put_13 : decode cX2_put 13 = .ok (.laload, 1) := by decide +kernel
theorem dX2_put_14 : decode cX2_put 14 = .ok (.ldc2_w 19, 3) := by decide +kernel
theorem dX2_put_17 : decode cX2_put 17 = .ok (.iload_n 3, 1) := by decide +kernel
theorem dX2_put_18 : decode cX2_put 18 = .ok (.lshl, 1) := by decide +kernel
theorem dX2_put_19 : decode cX2_put 19 = .ok (.ldc2_w 21, 3) := by decide +kernel
theorem dX2_put_22 : decode cX2_put 22 = .ok (.lxor, 1) := by decide +kernel
theorem dX2_put_23 : decode cX2_put 23 = .ok (.land, 1) := by decide +kernel
theorem dX2_put_24 : decode cX2_put 24 = .ok (.lstore 4, 2) := by decide +kernel
theorem dX2_put_26 : decode cX2_put 26 = .ok (.aload_n 0, 1) := by decide +kernel
theorem dX2_put_27 : decode cX2_put 27 = .ok (.getfield 11, 3) := by decide +kernel
theorem dX2_put_30 : decode cX2_put 30 = .ok (.iload_n 1, 1) := by decide +kernel
theorem dX2_put_31 : decode cX2_put 31 = .ok (.bipush 8, 2) := by decide +kernel
theorem dX2_put_33 : decode cX2_put 33 = .ok (.idiv, 1) := by decide +kernel
theorem dX2_put_34 : decode cX2_put 34 = .ok (.lload 4, 2) := by decide +kernel
theorem dX2_put_36 : decode cX2_put 36 = .ok (.iload_n 2, 1) := by decide +kernel
theorem dX2_put_37 : decode cX2_put 37 = .ok (.i2l, 1) := by decide +kernel
theorem dX2_put_38 : decode cX2_put 38 = .ok (.ldc2_w 19, 3) := by decide +kernel
theorem dX2_put_41 : decode cX2_put 41 = .ok (.land, 1) := by decide +kernel
theorem dX2_put_42 : decode cX2_put 42 = .ok (.iload_n 3, 1) := by decide +kernel
theorem dX2_put_43 : decode cX2_put 43 = .ok (.lshl, 1) := by decide +kernel
theorem dX2_put_44 : decode cX2_put 44 = .ok (.lor, 1) := by decide +kernel
theorem dX2_put_45 : decode cX2_put 45 = .ok (.lastore, 1) := by decide +kernel
theorem dX2_put_46 : decode cX2_put 46 = .ok (.return_, 1) := by decide +kernel
theorem dX2_copy_0 : decode cX2_copy 0 = .ok (.iload_n 3, 1) := by decide +kernel
theorem dX2_copy_1 : decode cX2_copy 1 = .ok (.bipush 8, 2) := by decide +kernel
theorem dX2_copy_3 : decode cX2_copy 3 = .ok (.idiv, 1) := by decide +kernel
theorem dX2_copy_4 : decode cX2_copy 4 = .ok (.istore 4, 2) := by decide +kernel
theorem dX2_copy_6 : decode cX2_copy 6 = .ok (.aload_n 0, 1) := by decide +kernel
theorem dX2_copy_7 : decode cX2_copy 7 = .ok (.getfield 11, 3) := by decide +kernel
theorem dX2_copy_10 : decode cX2_copy 10 = .ok (.iload_n 1, 1) := by decide +kernel
theorem dX2_copy_11 : decode cX2_copy 11 = .ok (.bipush 8, 2) := by decide +kernel
theorem dX2_copy_13 : decode cX2_copy 13 = .ok (.idiv, 1) := by decide +kernel
theorem dX2_copy_14 : decode cX2_copy 14 = .ok (.aload_n 0, 1) := by decide +kernel
theorem dX2_copy_15 : decode cX2_copy 15 = .ok (.getfield 11, 3) := by decide +kernel
theorem dX2_copy_18 : decode cX2_copy 18 = .ok (.iload_n 2, 1) := by decide +kernel
theorem dX2_copy_19 : decode cX2_copy 19 = .ok (.bipush 8, 2) := by decide +kernel
theorem dX2_copy_21 : decode cX2_copy 21 = .ok (.idiv, 1) := by decide +kernel
theorem dX2_copy_22 : decode cX2_copy 22 = .ok (.iload 4, 2) := by decide +kernel
theorem dX2_copy_24 : decode cX2_copy 24 = .ok (.invokestatic 23, 3) := by decide +kernel
theorem dX2_copy_27 : decode cX2_copy 27 = .ok (.iload 4, 2) := by decide +kernel
theorem dX2_copy_29 : decode cX2_copy 29 = .ok (.bipush 8, 2) := by decide +kernel
theorem dX2_copy_31 : decode cX2_copy 31 = .ok (.imul, 1) := by decide +kernel
theorem dX2_copy_32 : decode cX2_copy 32 = .ok (.istore 5, 2) := by decide +kernel
theorem dX2_copy_34 : decode cX2_copy 34 = .ok (.iload 5, 2) := by decide +kernel
theorem dX2_copy_36 : decode cX2_copy 36 = .ok (.iload_n 3, 1) := by decide +kernel
theorem dX2_copy_37 : decode cX2_copy 37 = .ok (.if_icmp .ge 25, 3) := by decide +kernel
theorem dX2_copy_40 : decode cX2_copy 40 = .ok (.aload_n 0, 1) := by decide +kernel
theorem dX2_copy_41 : decode cX2_copy 41 = .ok (.iload_n 2, 1) := by decide +kernel
theorem dX2_copy_42 : decode cX2_copy 42 = .ok (.iload 5, 2) := by decide +kernel
theorem dX2_copy_44 : decode cX2_copy 44 = .ok (.iadd, 1) := by decide +kernel
theorem dX2_copy_45 : decode cX2_copy 45 = .ok (.aload_n 0, 1) := by decide +kernel
theorem dX2_copy_46 : decode cX2_copy 46 = .ok (.iload_n 1, 1) := by decide +kernel
theorem dX2_copy_47 : decode cX2_copy 47 = .ok (.iload 5, 2) := by decide +kernel
theorem dX2_copy_49 : decode cX2_copy 49 = .ok (.iadd, 1) := by decide +kernel
theorem dX2_copy_50 : decode cX2_copy 50 = .ok (.invokevirtual 29, 3) := by decide +kernel
theorem dX2_copy_53 : decode cX2_copy 53 = .ok (.invokevirtual 32, 3) := by decide +kernel
theorem dX2_copy_56 : decode cX2_copy 56 = .ok (.iinc 5 1, 3) := by decide +kernel
theorem dX2_copy_59 : decode cX2_copy 59 = .ok (.goto (-25), 3) := by decide +kernel
theorem dX2_copy_62 : decode cX2_copy 62 = .ok (.return_, 1) := by decide +kernel
theorem dX2_shiftOf_0 : decode cX2_shiftOf 0 = .ok (.iload_n 0, 1) := by decide +kernel
theorem dX2_shiftOf_1 : decode cX2_shiftOf 1 = .ok (.bipush 8, 2) := by decide +kernel
theorem dX2_shiftOf_3 : decode cX2_shiftOf 3 = .ok (.irem, 1) := by decide +kernel
theorem dX2_shiftOf_4 : decode cX2_shiftOf 4 = .ok (.bipush 8, 2) := by decide +kernel
theorem dX2_shiftOf_6 : decode cX2_shiftOf 6 = .ok (.imul, 1) := by decide +kernel
theorem dX2_shiftOf_7 : decode cX2_shiftOf 7 = .ok (.ireturn, 1) := by decide +kernel
theorem dX3_init_0 : decode cX3_init 0 = .ok (.aload_n 0, 1) := by decide +kernel
theorem dX3_init_1 : decode cX3_init 1 = .ok (.invokespecial 3, 3) := by decide +kernel
theorem dX3_init_4 : decode cX3_init 4 = .ok (.aload_n 0, 1) := by decide +kernel
theorem dX3_init_5 : decode cX3_init 5 = .ok (.bipush 64, 2) := by decide +kernel
theorem dX3_init_7 : decode cX3_init 7 = .ok (.newarray .int, 2) := by decide +kernel
theorem dX3_init_9 : decode cX3_init 9 = .ok (.putfield 9, 3) := by decide +kernel
theorem dX3_init_12 : decode cX3_init 12 = .ok (.return_, 1) := by decide +kernel
theorem dX3_layOut_0 : decode cX3_layOut 0 = .ok (.aload_n 0, 1) := by decide +kernel
theorem dX3_layOut_1 : decode cX3_layOut 1 = .ok (.iload_n 1, 1) := by decide +kernel
theorem dX3_layOut_2 : decode cX3_layOut 2 = .ok (.bipush 64, 2) := by decide +kernel
theorem dX3_layOut_4 : decode cX3_layOut 4 = .ok (.invokestatic 15, 3) := by decide +kernel
theorem dX3_layOut_7 : decode cX3_layOut 7 = .ok (.putfield 21, 3) := by decide +kernel
theorem dX3_layOut_10 : decode cX3_layOut 10 = .ok (.aload_n 0, 1) := by decide +kernel
theorem dX3_layOut_11 : decode cX3_layOut 11 = .ok (.aload_n 0, 1) := by decide +kernel
theorem dX3_layOut_12 : decode cX3_layOut 12 = .ok (.getfield 21, 3) := by decide +kernel
theorem dX3_layOut_15 : decode cX3_layOut 15 = .ok (.putfield 25, 3) := by decide +kernel
theorem dX3_layOut_18 : decode cX3_layOut 18 = .ok (.aload_n 0, 1) := by decide +kernel
theorem dX3_layOut_19 : decode cX3_layOut 19 = .ok (.lconst 0, 1) := by decide +kernel
theorem dX3_layOut_20 : decode cX3_layOut 20 = .ok (.putfield 28, 3) := by decide +kernel
theorem dX3_layOut_23 : decode cX3_layOut 23 = .ok (.iconst 0, 1) := by decide +kernel
theorem dX3_layOut_24 : decode cX3_layOut 24 = .ok (.istore_n 2, 1) := by decide +kernel
theorem dX3_layOut_25 : decode cX3_layOut 25 = .ok (.iload_n 2, 1) := by decide +kernel
theorem dX3_layOut_26 : decode cX3_layOut 26 = .ok (.aload_n 0, 1) := by decide +kernel
theorem dX3_layOut_27 : decode cX3_layOut 27 = .ok (.getfield 21, 3) := by decide +kernel
theorem dX3_layOut_30 : decode cX3_layOut 30 = .ok (.if_icmp .ge 23, 3) := by decide +kernel
theorem dX3_layOut_33 : decode cX3_layOut 33 = .ok (.aload_n 0, 1) := by decide +kernel
theorem dX3_layOut_34 : decode cX3_layOut 34 = .ok (.getfield 9, 3) := by decide +kernel
theorem dX3_layOut_37 : decode cX3_layOut 37 = .ok (.iload_n 2, 1) := by decide +kernel
theorem dX3_layOut_38 : decode cX3_layOut 38 = .ok (.aload_n 0, 1) := by decide +kernel
theorem dX3_layOut_39 : decode cX3_layOut 39 = .ok (.getfield 21, 3) := by decide +kernel
theorem dX3_layOut_42 : decode cX3_layOut 42 = .ok (.iconst 1, 1) := by decide +kernel
theorem dX3_layOut_43 : decode cX3_layOut 43 = .ok (.isub, 1) := by decide +kernel
theorem dX3_layOut_44 : decode cX3_layOut 44 = .ok (.iload_n 2, 1) := by decide +kernel
theorem dX3_layOut_45 : decode cX3_layOut 45 = .ok (.isub, 1) := by decide +kernel
theorem dX3_layOut_46 : decode cX3_layOut 46 = .ok (.iastore, 1) := by decide +kernel
theorem dX3_layOut_47 : decode cX3_layOut 47 = .ok (.iinc 2 1, 3) := by decide +kernel
theorem dX3_layOut_50 : decode cX3_layOut 50 = .ok (.goto (-25), 3) := by decide +kernel
theorem dX3_layOut_53 : decode cX3_layOut 53 = .ok (.return_, 1) := by decide +kernel
theorem dX3_isLive_0 : decode cX3_isLive 0 = .ok (.aload_n 0, 1) := by decide +kernel
theorem dX3_isLive_1 : decode cX3_isLive 1 = .ok (.getfield 28, 3) := by decide +kernel
theorem dX3_isLive_4 : decode cX3_isLive 4 = .ok (.iload_n 1, 1) := by decide +kernel
theorem dX3_isLive_5 : decode cX3_isLive 5 = .ok (.lushr, 1) := by decide +kernel
theorem dX3_isLive_6 : decode cX3_isLive 6 = .ok (.lconst 1, 1) := by decide +kernel
theorem dX3_isLive_7 : decode cX3_isLive 7 = .ok (.land, 1) := by decide +kernel
theorem dX3_isLive_8 : decode cX3_isLive 8 = .ok (.lconst 0, 1) := by decide +kernel
theorem dX3_isLive_9 : decode cX3_isLive 9 = .ok (.lcmp, 1) := by decide +kernel
theorem dX3_isLive_10 : decode cX3_isLive 10 = .ok (.ifCond .eq 7, 3) := by decide +kernel
theorem dX3_isLive_13 : decode cX3_isLive 13 = .ok (.iconst 1, 1) := by decide +kernel
theorem dX3_isLive_14 : decode cX3_isLive 14 = .ok (.goto 4, 3) := by decide +kernel
theorem dX3_isLive_17 : decode cX3_isLive 17 = .ok (.iconst 0, 1) := by decide +kernel
theorem dX3_isLive_18 : decode cX3_isLive 18 = .ok (.ireturn, 1) := by decide +kernel
theorem dX3_liveCount_0 : decode cX3_liveCount 0 = .ok (.aload_n 0, 1) := by decide +kernel
theorem dX3_liveCount_1 : decode cX3_liveCount 1 = .ok (.getfield 21, 3) := by decide +kernel
theorem dX3_liveCount_4 : decode cX3_liveCount 4 = .ok (.aload_n 0, 1) := by decide +kernel
theorem dX3_liveCount_5 : decode cX3_liveCount 5 = .ok (.getfield 25, 3) := by decide +kernel
theorem dX3_liveCount_8 : decode cX3_liveCount 8 = .ok (.isub, 1) := by decide +kernel
theorem dX3_liveCount_9 : decode cX3_liveCount 9 = .ok (.ireturn, 1) := by decide +kernel
theorem dX3_isPartlyLive_0 : decode cX3_isPartlyLive 0 = .ok (.aload_n 0, 1) := by decide +kernel
theorem dX3_isPartlyLive_1 : decode cX3_isPartlyLive 1 = .ok (.getfield 25, 3) := by decide +kernel
theorem dX3_isPartlyLive_4 : decode cX3_isPartlyLive 4 = .ok (.ifCond .le 18, 3) := by decide +kernel
theorem dX3_isPartlyLive_7 : decode cX3_isPartlyLive 7 = .ok (.aload_n 0, 1) := by decide +kernel
theorem dX3_isPartlyLive_8 : decode cX3_isPartlyLive 8 = .ok (.getfield 25, 3) := by decide +kernel
theorem dX3_isPartlyLive_11 : decode cX3_isPartlyLive 11 = .ok (.aload_n 0, 1) := by decide +kernel
theorem dX3_isPartlyLive_12 : decode cX3_isPartlyLive 12 = .ok (.getfield 21, 3) := by decide +kernel
theorem dX3_isPartlyLive_15 : decode cX3_isPartlyLive 15 = .ok (.if_icmp .ge 7, 3) := by decide +kernel
theorem dX3_isPartlyLive_18 : decode cX3_isPartlyLive 18 = .ok (.iconst 1, 1) := by decide +kernel
theorem dX3_isPartlyLive_19 : decode cX3_isPartlyLive 19 = .ok (.goto 4, 3) := by decide +kernel
theorem dX3_isPartlyLive_22 : decode cX3_isPartlyLive 22 = .ok (.iconst 0, 1) := by decide +kernel
theorem dX3_isPartlyLive_23 : decode cX3_isPartlyLive 23 = .ok (.ireturn, 1) := by decide +kernel
theorem dX3_takeFront_0 : decode cX3_takeFront 0 = .ok (.aload_n 0, 1) := by decide +kernel
theorem dX3_takeFront_1 : decode cX3_takeFront 1 = .ok (.getfield 25, 3) := by decide +kernel
theorem dX3_takeFront_4 : decode cX3_takeFront 4 = .ok (.iconst 1, 1) := by decide +kernel
theorem dX3_takeFront_5 : decode cX3_takeFront 5 = .ok (.if_icmp .ge 5, 3) := by decide +kernel
theorem dX3_takeFront_8 : decode cX3_takeFront 8 = .ok (.iconst (-1), 1) := by decide +kernel
theorem dX3_takeFront_9 : decode cX3_takeFront 9 = .ok (.ireturn, 1) := by decide +kernel
theorem dX3_takeFront_10 : decode cX3_takeFront 10 = .ok (.aload_n 0, 1) := by decide +kernel
theorem dX3_takeFront_11 : decode cX3_takeFront 11 = .ok (.dup, 1) := by decide +kernel
theorem dX3_takeFront_12 : decode cX3_takeFront 12 = .ok (.getfield 25, 3) := by decide +kernel
theorem dX3_takeFront_15 : decode cX3_takeFront 15 = .ok (.iconst 1, 1) := by decide +kernel
theorem dX3_takeFront_16 : decode cX3_takeFront 16 = .ok (.isub, 1) := by decide +kernel
theorem dX3_takeFront_17 : decode cX3_takeFront 17 = .ok (.putfield 25, 3) := by decide +kernel
theorem dX3_takeFront_20 : decode cX3_takeFront 20 = .ok (.aload_n 0, 1) := by decide +kernel
theorem dX3_takeFront_21 : decode cX3_takeFront 21 = .ok (.getfield 9, 3) := by decide +kernel
theorem dX3_takeFront_24 : decode cX3_takeFront 24 = .ok (.aload_n 0, 1) := by decide +kernel
theorem dX3_takeFront_25 : decode cX3_takeFront 25 = .ok (.getfield 25, 3) := by decide +kernel
theorem dX3_takeFront_28 : decode cX3_takeFront 28 = .ok (.iaload, 1) := by decide +kernel
theorem dX3_takeFront_29 : decode cX3_takeFront 29 = .ok (.istore_n 1, 1) := by decide +kernel
theorem dX3_takeFront_30 : decode cX3_takeFront 30 = .ok (.aload_n 0, 1) := by decide +kernel
theorem dX3_takeFront_31 : decode cX3_takeFront 31 = .ok (.dup, 1) := by decide +kernel
theorem dX3_takeFront_32 : decode cX3_takeFront 32 = .ok (.getfield 28, 3) := by decide +kernel
theorem dX3_takeFront_35 : decode cX3_takeFront 35 = .ok (.lconst 1, 1) := by decide +kernel
theorem dX3_takeFront_36 : decode cX3_takeFront 36 = .ok (.iload_n 1, 1) := by decide +kernel
theorem dX3_takeFront_37 : decode cX3_takeFront 37 = .ok (.lshl, 1) := by decide +kernel
theorem dX3_takeFront_38 : decode cX3_takeFront 38 = .ok (.lor, 1) := by decide +kernel
theorem dX3_takeFront_39 : decode cX3_takeFront 39 = .ok (.putfield 28, 3) := by decide +kernel
theorem dX3_takeFront_42 : decode cX3_takeFront 42 = .ok (.iload_n 1, 1) := by decide +kernel
theorem dX3_takeFront_43 : decode cX3_takeFront 43 = .ok (.ireturn, 1) := by decide +kernel
theorem dX3_putFront_0 : decode cX3_putFront 0 = .ok (.iload_n 1, 1) := by decide +kernel
theorem dX3_putFront_1 : decode cX3_putFront 1 = .ok (.ifCond .lt 22, 3) := by decide +kernel
theorem dX3_putFront_4 : decode cX3_putFront 4 = .ok (.iload_n 1, 1) := by decide +kernel
theorem dX3_putFront_5 : decode cX3_putFront 5 = .ok (.aload_n 0, 1) := by decide +kernel
theorem dX3_putFront_6 : decode cX3_putFront 6 = .ok (.getfield 21, 3) := by decide +kernel
theorem dX3_putFront_9 : decode cX3_putFront 9 = .ok (.if_icmp .ge 14, 3) := by decide +kernel
theorem dX3_putFront_12 : decode cX3_putFront 12 = .ok (.aload_n 0, 1) := by decide +kernel
theorem dX3_putFront_13 : decode cX3_putFront 13 = .ok (.getfield 25, 3) := by decide +kernel
theorem dX3_putFront_16 : decode cX3_putFront 16 = .ok (.aload_n 0, 1) := by decide +kernel
theorem dX3_putFront_17 : decode cX3_putFront 17 = .ok (.getfield 21, 3) := by decide +kernel
theorem dX3_putFront_20 : decode cX3_putFront 20 = .ok (.if_icmp .lt 4, 3) := by decide +kernel
theorem dX3_putFront_23 : decode cX3_putFront 23 = .ok (.return_, 1) := by decide +kernel
theorem dX3_putFront_24 : decode cX3_putFront 24 = .ok (.aload_n 0, 1) := by decide +kernel
theorem dX3_putFront_25 : decode cX3_putFront 25 = .ok (.getfield 9, 3) := by decide +kernel
theorem dX3_putFront_28 : decode cX3_putFront 28 = .ok (.aload_n 0, 1) := by decide +kernel
theorem dX3_putFront_29 : decode cX3_putFront 29 = .ok (.getfield 25, 3) := by decide +kernel
theorem dX3_putFront_32 : decode cX3_putFront 32 = .ok (.iload_n 1, 1) := by decide +kernel
theorem dX3_putFront_33 : decode cX3_putFront 33 = .ok (.iastore, 1) := by decide +kernel
theorem dX3_putFront_34 : decode cX3_putFront 34 = .ok (.aload_n 0, 1) := by decide +kernel
theorem dX3_putFront_35 : decode cX3_putFront 35 = .ok (.dup, 1) := by decide +kernel
theorem dX3_putFront_36 : decode cX3_putFront 36 = .ok (.getfield 25, 3) := by decide +kernel
theorem dX3_putFront_39 : decode cX3_putFront 39 = .ok (.iconst 1, 1) := by decide +kernel
theorem dX3_putFront_40 : decode cX3_putFront 40 = .ok (.iadd, 1) := by decide +kernel
theorem dX3_putFront_41 : decode cX3_putFront 41 = .ok (.putfield 25, 3) := by decide +kernel
theorem dX3_putFront_44 : decode cX3_putFront 44 = .ok (.aload_n 0, 1) := by decide +kernel
theorem dX3_putFront_45 : decode cX3_putFront 45 = .ok (.dup, 1) := by decide +kernel
theorem dX3_putFront_46 : decode cX3_putFront 46 = .ok (.getfield 28, 3) := by decide +kernel
theorem dX3_putFront_49 : decode cX3_putFront 49 = .ok (.lconst 1, 1) := by decide +kernel
theorem dX3_putFront_50 : decode cX3_putFront 50 = .ok (.iload_n 1, 1) := by decide +kernel
theorem dX3_putFront_51 : decode cX3_putFront 51 = .ok (.lshl, 1) := by decide +kernel
theorem dX3_putFront_52 : decode cX3_putFront 52 = .ok (.ldc2_w 32, 3) := by decide +kernel
theorem dX3_putFront_55 : decode cX3_putFront 55 = .ok (.lxor, 1) := by decide +kernel
theorem dX3_putFront_56 : decode cX3_putFront 56 = .ok (.land, 1) := by decide +kernel
theorem dX3_putFront_57 : decode cX3_putFront 57 = .ok (.putfield 28, 3) := by decide +kernel
theorem dX3_putFront_60 : decode cX3_putFront 60 = .ok (.return_, 1) := by decide +kernel
theorem dX4_init_0 : decode cX4_init 0 = .ok (.aload_n 0, 1) := by decide +kernel
theorem dX4_init_1 : decode cX4_init 1 = .ok (.invokespecial 3, 3) := by decide +kernel
theorem dX4_init_4 : decode cX4_init 4 = .ok (.aload_n 0, 1) := by decide +kernel
theorem dX4_init_5 : decode cX4_init 5 = .ok (.new 9, 3) := by decide +kernel
theorem dX4_init_8 : decode cX4_init 8 = .ok (.dup, 1) := by decide +kernel
theorem dX4_init_9 : decode cX4_init 9 = .ok (.invokespecial 11, 3) := by decide +kernel
theorem dX4_init_12 : decode cX4_init 12 = .ok (.putfield 12, 3) := by decide +kernel
theorem dX4_init_15 : decode cX4_init 15 = .ok (.aload_n 0, 1) := by decide +kernel
theorem dX4_init_16 : decode cX4_init 16 = .ok (.new 16, 3) := by decide +kernel
theorem dX4_init_19 : decode cX4_init 19 = .ok (.dup, 1) := by decide +kernel
theorem dX4_init_20 : decode cX4_init 20 = .ok (.invokespecial 18, 3) := by decide +kernel
theorem dX4_init_23 : decode cX4_init 23 = .ok (.putfield 19, 3) := by decide +kernel
theorem dX4_init_26 : decode cX4_init 26 = .ok (.aload_n 0, 1) := by decide +kernel
theorem dX4_init_27 : decode cX4_init 27 = .ok (.sipush 256, 3) := by decide +kernel
theorem dX4_init_30 : decode cX4_init 30 = .ok (.anewarray 23, 3) := by decide +kernel
theorem dX4_init_33 : decode cX4_init 33 = .ok (.putfield 25, 3) := by decide +kernel
theorem dX4_init_36 : decode cX4_init 36 = .ok (.aload_n 0, 1) := by decide +kernel
theorem dX4_init_37 : decode cX4_init 37 = .ok (.bipush 12, 2) := by decide +kernel
theorem dX4_init_39 : decode cX4_init 39 = .ok (.anewarray 29, 3) := by decide +kernel
theorem dX4_init_42 : decode cX4_init 42 = .ok (.putfield 31, 3) := by decide +kernel
theorem dX4_init_45 : decode cX4_init 45 = .ok (.iconst 0, 1) := by decide +kernel
theorem dX4_init_46 : decode cX4_init 46 = .ok (.istore_n 1, 1) := by decide +kernel
theorem dX4_init_47 : decode cX4_init 47 = .ok (.iload_n 1, 1) := by decide +kernel
theorem dX4_init_48 : decode cX4_init 48 = .ok (.bipush 6, 2) := by decide +kernel
theorem dX4_init_50 : decode cX4_init 50 = .ok (.if_icmp .ge 35, 3) := by decide +kernel
theorem dX4_init_53 : decode cX4_init 53 = .ok (.bipush 8, 2) := by decide +kernel
theorem dX4_init_55 : decode cX4_init 55 = .ok (.iload_n 1, 1) := by decide +kernel
theorem dX4_init_56 : decode cX4_init 56 = .ok (.ishl, 1) := by decide +kernel
theorem dX4_init_57 : decode cX4_init 57 = .ok (.istore_n 2, 1) := by decide +kernel
theorem dX4_init_58 : decode cX4_init 58 = .ok (.aload_n 0, 1) := by decide +kernel
theorem dX4_init_59 : decode cX4_init 59 = .ok (.getfield 31, 3) := by decide +kernel
theorem dX4_init_62 : decode cX4_init 62 = .ok (.iload_n 1, 1) := by decide +kernel
theorem dX4_init_63 : decode cX4_init 63 = .ok (.new 29, 3) := by decide +kernel
theorem dX4_init_66 : decode cX4_init 66 = .ok (.dup, 1) := by decide +kernel
theorem dX4_init_67 : decode cX4_init 67 = .ok (.iload_n 1, 1) := by decide +kernel
theorem dX4_init_68 : decode cX4_init 68 = .ok (.iload_n 2, 1) := by decide +kernel
theorem dX4_init_69 : decode cX4_init 69 = .ok (.iload_n 2, 1) := by decide +kernel
theorem dX4_init_70 : decode cX4_init 70 = .ok (.bipush 64, 2) := by decide +kernel
theorem dX4_init_72 : decode cX4_init 72 = .ok (.invokestatic 35, 3) := by decide +kernel
theorem dX4_init_75 : decode cX4_init 75 = .ok (.invokespecial 41, 3) := by decide +kernel
theorem dX4_init_78 : decode cX4_init 78 = .ok (.aastore, 1) := by decide +kernel
theorem dX4_init_79 : decode cX4_init 79 = .ok (.iinc 1 1, 3) := by decide +kernel
theorem dX4_init_82 : decode cX4_init 82 = .ok (.goto (-35), 3) := by decide +kernel
theorem dX4_init_85 : decode cX4_init 85 = .ok (.aload_n 0, 1) := by decide +kernel
theorem dX4_init_86 : decode cX4_init 86 = .ok (.bipush 6, 2) := by decide +kernel
theorem dX4_init_88 : decode cX4_init 88 = .ok (.putfield 44, 3) := by decide +kernel
theorem dX4_init_91 : decode cX4_init 91 = .ok (.return_, 1) := by decide +kernel
theorem dX4_usable_0 : decode cX4_usable 0 = .ok (.aload_n 0, 1) := by decide +kernel
theorem dX4_usable_1 : decode cX4_usable 1 = .ok (.getfield 19, 3) := by decide +kernel
theorem dX4_usable_4 : decode cX4_usable 4 = .ok (.getfield 48, 3) := by decide +kernel
theorem dX4_usable_7 : decode cX4_usable 7 = .ok (.ifCond .ne 19, 3) := by decide +kernel
theorem dX4_usable_10 : decode cX4_usable 10 = .ok (.iload_n 1, 1) := by decide +kernel
theorem dX4_usable_11 : decode cX4_usable 11 = .ok (.ifCond .lt 15, 3) := by decide +kernel
theorem dX4_usable_14 : decode cX4_usable 14 = .ok (.iload_n 2, 1) := by decide +kernel
theorem dX4_usable_15 : decode cX4_usable 15 = .ok (.sipush 256, 3) := by decide +kernel
theorem dX4_usable_18 : decode cX4_usable 18 = .ok (.if_icmp .ge 8, 3) := by decide +kernel
theorem dX4_usable_21 : decode cX4_usable 21 = .ok (.iload_n 1, 1) := by decide +kernel
theorem dX4_usable_22 : decode cX4_usable 22 = .ok (.iload_n 2, 1) := by decide +kernel
theorem dX4_usable_23 : decode cX4_usable 23 = .ok (.if_icmp .le 5, 3) := by decide +kernel
theorem dX4_usable_26 : decode cX4_usable 26 = .ok (.iconst 0, 1) := by decide +kernel
theorem dX4_usable_27 : decode cX4_usable 27 = .ok (.ireturn, 1) := by decide +kernel
theorem dX4_usable_28 : decode cX4_usable 28 = .ok (.aload_n 0, 1) := by decide +kernel
theorem dX4_usable_29 : decode cX4_usable 29 = .ok (.getfield 19, 3) := by decide +kernel
theorem dX4_usable_32 : decode cX4_usable 32 = .ok (.iload_n 1, 1) := by decide +kernel
theorem dX4_usable_33 : decode cX4_usable 33 = .ok (.iload_n 2, 1) := by decide +kernel
theorem dX4_usable_34 : decode cX4_usable 34 = .ok (.invokevirtual 52, 3) := by decide +kernel
theorem dX4_usable_37 : decode cX4_usable 37 = .ok (.iconst 1, 1) := by decide +kernel
theorem dX4_usable_38 : decode cX4_usable 38 = .ok (.ireturn, 1) := by decide +kernel
theorem dX4_start_0 : decode cX4_start 0 = .ok (.aload_n 0, 1) := by decide +kernel
theorem dX4_start_1 : decode cX4_start 1 = .ok (.getfield 19, 3) := by decide +kernel
theorem dX4_start_4 : decode cX4_start 4 = .ok (.getfield 48, 3) := by decide +kernel
theorem dX4_start_7 : decode cX4_start 7 = .ok (.ifCond .eq 5, 3) := by decide +kernel
theorem dX4_start_10 : decode cX4_start 10 = .ok (.iconst (-1), 1) := by decide +kernel
theorem dX4_start_11 : decode cX4_start 11 = .ok (.ireturn, 1) := by decide +kernel
theorem dX4_start_12 : decode cX4_start 12 = .ok (.aload_n 0, 1) := by decide +kernel
theorem dX4_start_13 : decode cX4_start 13 = .ok (.getfield 19, 3) := by decide +kernel
theorem dX4_start_16 : decode cX4_start 16 = .ok (.invokevirtual 56, 3) := by decide +kernel
theorem dX4_start_19 : decode cX4_start 19 = .ok (.aload_n 0, 1) := by decide +kernel
theorem dX4_start_20 : decode cX4_start 20 = .ok (.getfield 19, 3) := by decide +kernel
theorem dX4_start_23 : decode cX4_start 23 = .ok (.getfield 59, 3) := by decide +kernel
theorem dX4_start_26 : decode cX4_start 26 = .ok (.ireturn, 1) := by decide +kernel
theorem dX4_pages_0 : decode cX4_pages 0 = .ok (.aload_n 0, 1) := by decide +kernel
theorem dX4_pages_1 : decode cX4_pages 1 = .ok (.getfield 19, 3) := by decide +kernel
theorem dX4_pages_4 : decode cX4_pages 4 = .ok (.getfield 48, 3) := by decide +kernel
theorem dX4_pages_7 : decode cX4_pages 7 = .ok (.ifCond .eq 10, 3) := by decide +kernel
theorem dX4_pages_10 : decode cX4_pages 10 = .ok (.iload_n 1, 1) := by decide +kernel
theorem dX4_pages_11 : decode cX4_pages 11 = .ok (.invokestatic 62, 3) := by decide +kernel
theorem dX4_pages_14 : decode cX4_pages 14 = .ok (.ifCond .ne 5, 3) := by decide +kernel
theorem dX4_pages_17 : decode cX4_pages 17 = .ok (.iconst (-1), 1) := by decide +kernel
theorem dX4_pages_18 : decode cX4_pages 18 = .ok (.ireturn, 1) := by decide +kernel
theorem dX4_pages_19 : decode cX4_pages 19 = .ok (.aload_n 0, 1) := by decide +kernel
theorem dX4_pages_20 : decode cX4_pages 20 = .ok (.getfield 19, 3) := by decide +kernel
theorem dX4_pages_23 : decode cX4_pages 23 = .ok (.iload_n 1, 1) := by decide +kernel
theorem dX4_pages_24 : decode cX4_pages 24 = .ok (.iconst 1, 1) := by decide +kernel
theorem dX4_pages_25 : decode cX4_pages 25 = .ok (.invokevirtual 66, 3) := by decide +kernel
theorem dX4_pages_28 : decode cX4_pages 28 = .ok (.ireturn, 1) := by decide +kernel
theorem dX4_freePages_0 : decode cX4_freePages 0 = .ok (.aload_n 0, 1) := by decide +kernel
theorem dX4_freePages_1 : decode cX4_freePages 1 = .ok (.iload_n 1, 1) := by decide +kernel
theorem dX4_freePages_2 : decode cX4_freePages 2 = .ok (.invokevirtual 69, 3) := by decide +kernel
theorem dX4_freePages_5 : decode cX4_freePages 5 = .ok (.istore_n 2, 1) := by decide +kernel
theorem dX4_freePages_6 : decode cX4_freePages 6 = .ok (.iload_n 2, 1) := by decide +kernel
theorem dX4_freePages_7 : decode cX4_freePages 7 = .ok (.ifCond .eq 5, 3) := by decide +kernel
theorem dX4_freePages_10 : decode cX4_freePages 10 = .ok (.iload_n 2, 1) := by decide +kernel
theorem dX4_freePages_11 : decode cX4_freePages 11 = .ok (.ireturn, 1) := by decide +kernel
theorem dX4_freePages_12 : decode cX4_freePages 12 = .ok (.iconst 1, 1) := by decide +kernel
theorem dX4_freePages_13 : decode cX4_freePages 13 = .ok (.aload_n 0, 1) := by decide +kernel
theorem dX4_freePages_14 : decode cX4_freePages 14 = .ok (.getfield 19, 3) := by decide +kernel
theorem dX4_freePages_17 : decode cX4_freePages 17 = .ok (.iload_n 1, 1) := by decide +kernel
theorem dX4_freePages_18 : decode cX4_freePages 18 = .ok (.invokevirtual 73, 3) := by decide +kernel
theorem dX4_freePages_21 : decode cX4_freePages 21 = .ok (.ishl, 1) := by decide +kernel
theorem dX4_freePages_22 : decode cX4_freePages 22 = .ok (.istore_n 3, 1) := by decide +kernel
theorem dX4_freePages_23 : decode cX4_freePages 23 = .ok (.aload_n 0, 1) := by decide +kernel
theorem dX4_freePages_24 : decode cX4_freePages 24 = .ok (.getfield 19, 3) := by decide +kernel
theorem dX4_freePages_27 : decode cX4_freePages 27 = .ok (.iload_n 1, 1) := by decide +kernel
theorem dX4_freePages_28 : decode cX4_freePages 28 = .ok (.invokevirtual 76, 3) := by decide +kernel
theorem dX4_freePages_31 : decode cX4_freePages 31 = .ok (.iload_n 3, 1) := by decide +kernel
theorem dX4_freePages_32 : decode cX4_freePages 32 = .ok (.ireturn, 1) := by decide +kernel
theorem dX4_cache_0 : decode cX4_cache 0 = .ok (.aload_n 0, 1) := by decide +kernel
theorem dX4_cache_1 : decode cX4_cache 1 = .ok (.getfield 19, 3) := by decide +kernel
theorem dX4_cache_4 : decode cX4_cache 4 = .ok (.getfield 48, 3) := by decide +kernel
theorem dX4_cache_7 : decode cX4_cache 7 = .ok (.ifCond .eq 12, 3) := by decide +kernel
theorem dX4_cache_10 : decode cX4_cache 10 = .ok (.aload_n 0, 1) := by decide +kernel
theorem dX4_cache_11 : decode cX4_cache 11 = .ok (.getfield 44, 3) := by decide +kernel
theorem dX4_cache_14 : decode cX4_cache 14 = .ok (.bipush 12, 2) := by decide +kernel
theorem dX4_cache_16 : decode cX4_cache 16 = .ok (.if_icmp .lt 5, 3) := by decide +kernel
theorem dX4_cache_19 : decode cX4_cache 19 = .ok (.iconst (-1), 1) := by decide +kernel
theorem dX4_cache_20 : decode cX4_cache 20 = .ok (.ireturn, 1) := by decide +kernel
theorem dX4_cache_21 : decode cX4_cache 21 = .ok (.iload_n 1, 1) := by decide +kernel
theorem dX4_cache_22 : decode cX4_cache 22 = .ok (.iconst 1, 1) := by decide +kernel
theorem dX4_cache_23 : decode cX4_cache 23 = .ok (.if_icmp .lt 17, 3) := by decide +kernel
theorem dX4_cache_26 : decode cX4_cache 26 = .ok (.iload_n 1, 1) := by decide +kernel
theorem dX4_cache_27 : decode cX4_cache 27 = .ok (.sipush 1024, 3) := by decide +kernel
theorem dX4_cache_30 : decode cX4_cache 30 = .ok (.if_icmp .gt 10, 3) := by decide +kernel
theorem dX4_cache_33 : decode cX4_cache 33 = .ok (.iload_n 2, 1) := by decide +kernel
theorem dX4_cache_34 : decode cX4_cache 34 = .ok (.invokestatic 80, 3) := by decide +kernel
theorem dX4_cache_37 : decode cX4_cache 37 = .ok (.ifCond .ne 5, 3) := by decide +kernel
theorem dX4_cache_40 : decode cX4_cache 40 = .ok (.iconst (-1), 1) := by decide +kernel
theorem dX4_cache_41 : decode cX4_cache 41 = .ok (.ireturn, 1) := by decide +kernel
theorem dX4_cache_42 : decode cX4_cache 42 = .ok (.aload_n 0, 1) := by decide +kernel
theorem dX4_cache_43 : decode cX4_cache 43 = .ok (.getfield 44, 3) := by decide +kernel
theorem dX4_cache_46 : decode cX4_cache 46 = .ok (.istore_n 3, 1) := by decide +kernel
theorem dX4_cache_47 : decode cX4_cache 47 = .ok (.aload_n 0, 1) := by decide +kernel
theorem dX4_cache_48 : decode cX4_cache 48 = .ok (.getfield 31, 3) := by decide +kernel
theorem dX4_cache_51 : decode cX4_cache 51 = .ok (.iload_n 3, 1) := by decide +kernel
theorem dX4_cache_52 : decode cX4_cache 52 = .ok (.new 29, 3) := by decide +kernel
theorem dX4_cache_55 : decode cX4_cache 55 = .ok (.dup, 1) := by decide +kernel
theorem dX4_cache_56 : decode cX4_cache 56 = .ok (.iload_n 3, 1) := by decide +kernel
theorem dX4_cache_57 : decode cX4_cache 57 = .ok (.iload_n 1, 1) := by decide +kernel
theorem dX4_cache_58 : decode cX4_cache 58 = .ok (.iload_n 2, 1) := by decide +kernel
theorem dX4_cache_59 : decode cX4_cache 59 = .ok (.invokespecial 41, 3) := by decide +kernel
theorem dX4_cache_62 : decode cX4_cache 62 = .ok (.aastore, 1) := by decide +kernel
theorem dX4_cache_63 : decode cX4_cache 63 = .ok (.aload_n 0, 1) := by decide +kernel
theorem dX4_cache_64 : decode cX4_cache 64 = .ok (.dup, 1) := by decide +kernel
theorem dX4_cache_65 : decode cX4_cache 65 = .ok (.getfield 44, 3) := by decide +kernel
theorem dX4_cache_68 : decode cX4_cache 68 = .ok (.iconst 1, 1) := by decide +kernel
theorem dX4_cache_69 : decode cX4_cache 69 = .ok (.iadd, 1) := by decide +kernel
theorem dX4_cache_70 : decode cX4_cache 70 = .ok (.putfield 44, 3) := by decide +kernel
theorem dX4_cache_73 : decode cX4_cache 73 = .ok (.iload_n 3, 1) := by decide +kernel
theorem dX4_cache_74 : decode cX4_cache 74 = .ok (.ireturn, 1) := by decide +kernel
theorem dX4_take_0 : decode cX4_take 0 = .ok (.aload_n 0, 1) := by decide +kernel
theorem dX4_take_1 : decode cX4_take 1 = .ok (.iload_n 1, 1) := by decide +kernel
theorem dX4_take_2 : decode cX4_take 2 = .ok (.invokevirtual 83, 3) := by decide +kernel
theorem dX4_take_5 : decode cX4_take 5 = .ok (.astore_n 2, 1) := by decide +kernel
theorem dX4_take_6 : decode cX4_take 6 = .ok (.aload_n 2, 1) := by decide +kernel
theorem dX4_take_7 : decode cX4_take 7 = .ok (.ifnull 13, 3) := by decide +kernel
theorem dX4_take_10 : decode cX4_take 10 = .ok (.aload_n 0, 1) := by decide +kernel
theorem dX4_take_11 : decode cX4_take 11 = .ok (.getfield 19, 3) := by decide +kernel
theorem dX4_take_14 : decode cX4_take 14 = .ok (.getfield 48, 3) := by decide +kernel
theorem dX4_take_17 : decode cX4_take 17 = .ok (.ifCond .ne 5, 3) := by decide +kernel
theorem dX4_take_20 : decode cX4_take 20 = .ok (.iconst (-1), 1) := by decide +kernel
theorem dX4_take_21 : decode cX4_take 21 = .ok (.ireturn, 1) := by decide +kernel
theorem dX4_take_22 : decode cX4_take 22 = .ok (.aload_n 0, 1) := by decide +kernel
theorem dX4_take_23 : decode cX4_take 23 = .ok (.aload_n 2, 1) := by decide +kernel
theorem dX4_take_24 : decode cX4_take 24 = .ok (.invokevirtual 87, 3) := by decide +kernel
theorem dX4_take_27 : decode cX4_take 27 = .ok (.ireturn, 1) := by decide +kernel
theorem dX4_give_0 : decode cX4_give 0 = .ok (.aload_n 0, 1) := by decide +kernel
theorem dX4_give_1 : decode cX4_give 1 = .ok (.iload_n 1, 1) := by decide +kernel
theorem dX4_give_2 : decode cX4_give 2 = .ok (.invokevirtual 83, 3) := by decide +kernel
theorem dX4_give_5 : decode cX4_give 5 = .ok (.astore_n 3, 1) := by decide +kernel
theorem dX4_give_6 : decode cX4_give 6 = .ok (.aload_n 3, 1) := by decide +kernel
theorem dX4_give_7 : decode cX4_give 7 = .ok (.ifnonnull 6, 3) := by decide +kernel
theorem dX4_give_10 : decode cX4_give 10 = .ok (.bipush (-2), 2) := by decide +kernel
theorem dX4_give_12 : decode cX4_give 12 = .ok (.ireturn, 1) := by decide +kernel
theorem dX4_give_13 : decode cX4_give 13 = .ok (.aload_n 0, 1) := by decide +kernel
theorem dX4_give_14 : decode cX4_give 14 = .ok (.aload_n 3, 1) := by decide +kernel
theorem dX4_give_15 : decode cX4_give 15 = .ok (.iload_n 2, 1) := by decide +kernel
theorem dX4_give_16 : decode cX4_give 16 = .ok (.invokevirtual 91, 3) := by decide +kernel
theorem dX4_give_19 : decode cX4_give 19 = .ok (.istore 4, 2) := by decide +kernel
theorem dX4_give_21 : decode cX4_give 21 = .ok (.iload 4, 2) := by decide +kernel
theorem dX4_give_23 : decode cX4_give 23 = .ok (.ifCond .eq 8, 3) := by decide +kernel
theorem dX4_give_26 : decode cX4_give 26 = .ok (.iload 4, 2) := by decide +kernel
theorem dX4_give_28 : decode cX4_give 28 = .ok (.goto 9, 3) := by decide +kernel
theorem dX4_give_31 : decode cX4_give 31 = .ok (.aload_n 0, 1) := by decide +kernel
theorem dX4_give_32 : decode cX4_give 32 = .ok (.aload_n 3, 1) := by decide +kernel
theorem dX4_give_33 : decode cX4_give 33 = .ok (.iload_n 2, 1) := by decide +kernel
theorem dX4_give_34 : decode cX4_give 34 = .ok (.invokevirtual 95, 3) := by decide +kernel
theorem dX4_give_37 : decode cX4_give 37 = .ok (.ireturn, 1) := by decide +kernel
theorem dX4_shrink_0 : decode cX4_shrink 0 = .ok (.aload_n 0, 1) := by decide +kernel
theorem dX4_shrink_1 : decode cX4_shrink 1 = .ok (.iload_n 1, 1) := by decide +kernel
theorem dX4_shrink_2 : decode cX4_shrink 2 = .ok (.invokevirtual 83, 3) := by decide +kernel
theorem dX4_shrink_5 : decode cX4_shrink 5 = .ok (.astore_n 2, 1) := by decide +kernel
theorem dX4_shrink_6 : decode cX4_shrink 6 = .ok (.aload_n 2, 1) := by decide +kernel
theorem dX4_shrink_7 : decode cX4_shrink 7 = .ok (.ifnonnull 5, 3) := by decide +kernel
theorem dX4_shrink_10 : decode cX4_shrink 10 = .ok (.iconst (-1), 1) := by decide +kernel
theorem dX4_shrink_11 : decode cX4_shrink 11 = .ok (.ireturn, 1) := by decide +kernel
theorem dX4_shrink_12 : decode cX4_shrink 12 = .ok (.aload_n 2, 1) := by decide +kernel
theorem dX4_shrink_13 : decode cX4_shrink 13 = .ok (.getfield 98, 3) := by decide +kernel
theorem dX4_shrink_16 : decode cX4_shrink 16 = .ok (.istore_n 3, 1) := by decide +kernel
theorem dX4_shrink_17 : decode cX4_shrink 17 = .ok (.iload_n 3, 1) := by decide +kernel
theorem dX4_shrink_18 : decode cX4_shrink 18 = .ok (.iconst (-1), 1) := by decide +kernel
theorem dX4_shrink_19 : decode cX4_shrink 19 = .ok (.if_icmp .ne 5, 3) := by decide +kernel
theorem dX4_shrink_22 : decode cX4_shrink 22 = .ok (.iconst 0, 1) := by decide +kernel
theorem dX4_shrink_23 : decode cX4_shrink 23 = .ok (.ireturn, 1) := by decide +kernel
theorem dX4_shrink_24 : decode cX4_shrink 24 = .ok (.aload_n 2, 1) := by decide +kernel
theorem dX4_shrink_25 : decode cX4_shrink 25 = .ok (.iconst (-1), 1) := by decide +kernel
theorem dX4_shrink_26 : decode cX4_shrink 26 = .ok (.putfield 98, 3) := by decide +kernel
theorem dX4_shrink_29 : decode cX4_shrink 29 = .ok (.aload_n 0, 1) := by decide +kernel
theorem dX4_shrink_30 : decode cX4_shrink 30 = .ok (.aload_n 2, 1) := by decide +kernel
theorem dX4_shrink_31 : decode cX4_shrink 31 = .ok (.iload_n 3, 1) := by decide +kernel
theorem dX4_shrink_32 : decode cX4_shrink 32 = .ok (.invokevirtual 101, 3) := by decide +kernel
theorem dX4_shrink_35 : decode cX4_shrink 35 = .ok (.iconst 1, 1) := by decide +kernel
theorem dX4_shrink_36 : decode cX4_shrink 36 = .ok (.aload_n 2, 1) := by decide +kernel
theorem dX4_shrink_37 : decode cX4_shrink 37 = .ok (.getfield 105, 3) := by decide +kernel
theorem dX4_shrink_40 : decode cX4_shrink 40 = .ok (.ishl, 1) := by decide +kernel
theorem dX4_shrink_41 : decode cX4_shrink 41 = .ok (.ireturn, 1) := by decide +kernel
theorem dX4_alloc_0 : decode cX4_alloc 0 = .ok (.aload_n 0, 1) := by decide +kernel
theorem dX4_alloc_1 : decode cX4_alloc 1 = .ok (.getfield 19, 3) := by decide +kernel
theorem dX4_alloc_4 : decode cX4_alloc 4 = .ok (.getfield 48, 3) := by decide +kernel
theorem dX4_alloc_7 : decode cX4_alloc 7 = .ok (.ifCond .eq 10, 3) := by decide +kernel
theorem dX4_alloc_10 : decode cX4_alloc 10 = .ok (.iload_n 1, 1) := by decide +kernel
theorem dX4_alloc_11 : decode cX4_alloc 11 = .ok (.invokestatic 108, 3) := by decide +kernel
theorem dX4_alloc_14 : decode cX4_alloc 14 = .ok (.ifCond .ne 5, 3) := by decide +kernel
theorem dX4_alloc_17 : decode cX4_alloc 17 = .ok (.iconst (-1), 1) := by decide +kernel
theorem dX4_alloc_18 : decode cX4_alloc 18 = .ok (.ireturn, 1) := by decide +kernel
theorem dX4_alloc_19 : decode cX4_alloc 19 = .ok (.aload_n 0, 1) := by decide +kernel
theorem dX4_alloc_20 : decode cX4_alloc 20 = .ok (.iload_n 1, 1) := by decide +kernel
theorem dX4_alloc_21 : decode cX4_alloc 21 = .ok (.invokestatic 111, 3) := by decide +kernel
theorem dX4_alloc_24 : decode cX4_alloc 24 = .ok (.invokevirtual 114, 3) := by decide +kernel
theorem dX4_alloc_27 : decode cX4_alloc 27 = .ok (.ireturn, 1) := by decide +kernel
theorem dX4_free_0 : decode cX4_free 0 = .ok (.aload_n 0, 1) := by decide +kernel
theorem dX4_free_1 : decode cX4_free 1 = .ok (.iload_n 1, 1) := by decide +kernel
theorem dX4_free_2 : decode cX4_free 2 = .ok (.invokevirtual 117, 3) := by decide +kernel
theorem dX4_free_5 : decode cX4_free 5 = .ok (.istore_n 2, 1) := by decide +kernel
theorem dX4_free_6 : decode cX4_free 6 = .ok (.iload_n 2, 1) := by decide +kernel
theorem dX4_free_7 : decode cX4_free 7 = .ok (.ifCond .eq 5, 3) := by decide +kernel
theorem dX4_free_10 : decode cX4_free 10 = .ok (.iload_n 2, 1) := by decide +kernel
theorem dX4_free_11 : decode cX4_free 11 = .ok (.ireturn, 1) := by decide +kernel
theorem dX4_free_12 : decode cX4_free 12 = .ok (.aload_n 0, 1) := by decide +kernel
theorem dX4_free_13 : decode cX4_free 13 = .ok (.iload_n 1, 1) := by decide +kernel
theorem dX4_free_14 : decode cX4_free 14 = .ok (.invokevirtual 120, 3) := by decide +kernel
theorem dX4_free_17 : decode cX4_free 17 = .ok (.invokestatic 123, 3) := by decide +kernel
theorem dX4_free_20 : decode cX4_free 20 = .ok (.istore_n 3, 1) := by decide +kernel
theorem dX4_free_21 : decode cX4_free 21 = .ok (.aload_n 0, 1) := by decide +kernel
theorem dX4_free_22 : decode cX4_free 22 = .ok (.iload_n 1, 1) := by decide +kernel
theorem dX4_free_23 : decode cX4_free 23 = .ok (.invokevirtual 126, 3) := by decide +kernel
theorem dX4_free_26 : decode cX4_free 26 = .ok (.iload_n 3, 1) := by decide +kernel
theorem dX4_free_27 : decode cX4_free 27 = .ok (.ireturn, 1) := by decide +kernel
theorem dX4_resize_0 : decode cX4_resize 0 = .ok (.aload_n 0, 1) := by decide +kernel
theorem dX4_resize_1 : decode cX4_resize 1 = .ok (.iload_n 1, 1) := by decide +kernel
theorem dX4_resize_2 : decode cX4_resize 2 = .ok (.invokevirtual 117, 3) := by decide +kernel
theorem dX4_resize_5 : decode cX4_resize 5 = .ok (.istore_n 3, 1) := by decide +kernel
theorem dX4_resize_6 : decode cX4_resize 6 = .ok (.iload_n 3, 1) := by decide +kernel
theorem dX4_resize_7 : decode cX4_resize 7 = .ok (.ifCond .eq 5, 3) := by decide +kernel
theorem dX4_resize_10 : decode cX4_resize 10 = .ok (.iload_n 3, 1) := by decide +kernel
theorem dX4_resize_11 : decode cX4_resize 11 = .ok (.ireturn, 1) := by decide +kernel
theorem dX4_resize_12 : decode cX4_resize 12 = .ok (.iload_n 2, 1) := by decide +kernel
theorem dX4_resize_13 : decode cX4_resize 13 = .ok (.invokestatic 108, 3) := by decide +kernel
theorem dX4_resize_16 : decode cX4_resize 16 = .ok (.ifCond .ne 5, 3) := by decide +kernel
theorem dX4_resize_19 : decode cX4_resize 19 = .ok (.iconst (-1), 1) := by decide +kernel
theorem dX4_resize_20 : decode cX4_resize 20 = .ok (.ireturn, 1) := by decide +kernel
theorem dX4_resize_21 : decode cX4_resize 21 = .ok (.aload_n 0, 1) := by decide +kernel
theorem dX4_resize_22 : decode cX4_resize 22 = .ok (.iload_n 1, 1) := by decide +kernel
theorem dX4_resize_23 : decode cX4_resize 23 = .ok (.invokevirtual 120, 3) := by decide +kernel
theorem dX4_resize_26 : decode cX4_resize 26 = .ok (.istore 4, 2) := by decide +kernel
theorem dX4_resize_28 : decode cX4_resize 28 = .ok (.iload_n 2, 1) := by decide +kernel
theorem dX4_resize_29 : decode cX4_resize 29 = .ok (.invokestatic 111, 3) := by decide +kernel
theorem dX4_resize_32 : decode cX4_resize 32 = .ok (.istore 5, 2) := by decide +kernel
theorem dX4_resize_34 : decode cX4_resize 34 = .ok (.iload 4, 2) := by decide +kernel
theorem dX4_resize_36 : decode cX4_resize 36 = .ok (.iload 5, 2) := by decide +kernel
theorem dX4_resize_38 : decode cX4_resize 38 = .ok (.if_icmp .ne 5, 3) := by decide +kernel
theorem dX4_resize_41 : decode cX4_resize 41 = .ok (.iload_n 1, 1) := by decide +kernel
theorem dX4_resize_42 : decode cX4_resize 42 = .ok (.ireturn, 1) := by decide +kernel
theorem dX4_resize_43 : decode cX4_resize 43 = .ok (.aload_n 0, 1) := by decide +kernel
theorem dX4_resize_44 : decode cX4_resize 44 = .ok (.iload 5, 2) := by decide +kernel
theorem dX4_resize_46 : decode cX4_resize 46 = .ok (.invokevirtual 114, 3) := by decide +kernel
theorem dX4_resize_49 : decode cX4_resize 49 = .ok (.istore 6, 2) := by decide +kernel
theorem dX4_resize_51 : decode cX4_resize 51 = .ok (.iload 6, 2) := by decide +kernel
theorem dX4_resize_53 : decode cX4_resize 53 = .ok (.iconst (-1), 1) := by decide +kernel
theorem dX4_resize_54 : decode cX4_resize 54 = .ok (.if_icmp .ne 5, 3) := by decide +kernel
theorem dX4_resize_57 : decode cX4_resize 57 = .ok (.iconst (-1), 1) := by decide +kernel
theorem dX4_resize_58 : decode cX4_resize 58 = .ok (.ireturn, 1) := by decide +kernel
theorem dX4_resize_59 : decode cX4_resize 59 = .ok (.aload_n 0, 1) := by decide +kernel
theorem dX4_resize_60 : decode cX4_resize 60 = .ok (.getfield 12, 3) := by decide +kernel
theorem dX4_resize_63 : decode cX4_resize 63 = .ok (.iload_n 1, 1) := by decide +kernel
theorem dX4_resize_64 : decode cX4_resize 64 = .ok (.iload 6, 2) := by decide +kernel
theorem dX4_resize_66 : decode cX4_resize 66 = .ok (.iload 4, 2) := by decide +kernel
theorem dX4_resize_68 : decode cX4_resize 68 = .ok (.invokestatic 123, 3) := by decide +kernel
theorem dX4_resize_71 : decode cX4_resize 71 = .ok (.iload_n 2, 1) := by decide +kernel
theorem dX4_resize_72 : decode cX4_resize 72 = .ok (.invokestatic 35, 3) := by decide +kernel
theorem dX4_resize_75 : decode cX4_resize 75 = .ok (.invokevirtual 129, 3) := by decide +kernel
theorem dX4_resize_78 : decode cX4_resize 78 = .ok (.aload_n 0, 1) := by decide +kernel
theorem dX4_resize_79 : decode cX4_resize 79 = .ok (.iload_n 1, 1) := by decide +kernel
theorem dX4_resize_80 : decode cX4_resize 80 = .ok (.invokevirtual 126, 3) := by decide +kernel
theorem dX4_resize_83 : decode cX4_resize 83 = .ok (.iload 6, 2) := by decide +kernel
theorem dX4_resize_85 : decode cX4_resize 85 = .ok (.ireturn, 1) := by decide +kernel
theorem dX4_size_0 : decode cX4_size 0 = .ok (.aload_n 0, 1) := by decide +kernel
theorem dX4_size_1 : decode cX4_size 1 = .ok (.iload_n 1, 1) := by decide +kernel
theorem dX4_size_2 : decode cX4_size 2 = .ok (.invokevirtual 117, 3) := by decide +kernel
theorem dX4_size_5 : decode cX4_size 5 = .ok (.istore_n 2, 1) := by decide +kernel
theorem dX4_size_6 : decode cX4_size 6 = .ok (.iload_n 2, 1) := by decide +kernel
theorem dX4_size_7 : decode cX4_size 7 = .ok (.ifCond .eq 7, 3) := by decide +kernel
theorem dX4_size_10 : decode cX4_size 10 = .ok (.iload_n 2, 1) := by decide +kernel
theorem dX4_size_11 : decode cX4_size 11 = .ok (.goto 11, 3) := by decide +kernel
theorem dX4_size_14 : decode cX4_size 14 = .ok (.aload_n 0, 1) := by decide +kernel
theorem dX4_size_15 : decode cX4_size 15 = .ok (.iload_n 1, 1) := by decide +kernel
theorem dX4_size_16 : decode cX4_size 16 = .ok (.invokevirtual 120, 3) := by decide +kernel
theorem dX4_size_19 : decode cX4_size 19 = .ok (.invokestatic 123, 3) := by decide +kernel
theorem dX4_size_22 : decode cX4_size 22 = .ok (.ireturn, 1) := by decide +kernel
theorem dX4_read_0 : decode cX4_read 0 = .ok (.iload_n 1, 1) := by decide +kernel
theorem dX4_read_1 : decode cX4_read 1 = .ok (.invokestatic 132, 3) := by decide +kernel
theorem dX4_read_4 : decode cX4_read 4 = .ok (.ifCond .eq 14, 3) := by decide +kernel
theorem dX4_read_7 : decode cX4_read 7 = .ok (.aload_n 0, 1) := by decide +kernel
theorem dX4_read_8 : decode cX4_read 8 = .ok (.getfield 12, 3) := by decide +kernel
theorem dX4_read_11 : decode cX4_read 11 = .ok (.iload_n 1, 1) := by decide +kernel
theorem dX4_read_12 : decode cX4_read 12 = .ok (.invokevirtual 135, 3) := by decide +kernel
theorem dX4_read_15 : decode cX4_read 15 = .ok (.goto 4, 3) := by decide +kernel
theorem dX4_read_18 : decode cX4_read 18 = .ok (.iconst (-1), 1) := by decide +kernel
theorem dX4_read_19 : decode cX4_read 19 = .ok (.ireturn, 1) := by decide +kernel
theorem dX4_write_0 : decode cX4_write 0 = .ok (.iload_n 1, 1) := by decide +kernel
theorem dX4_write_1 : decode cX4_write 1 = .ok (.invokestatic 132, 3) := by decide +kernel
theorem dX4_write_4 : decode cX4_write 4 = .ok (.ifCond .ne 5, 3) := by decide +kernel
theorem dX4_write_7 : decode cX4_write 7 = .ok (.iconst (-1), 1) := by decide +kernel
theorem dX4_write_8 : decode cX4_write 8 = .ok (.ireturn, 1) := by decide +kernel
theorem dX4_write_9 : decode cX4_write 9 = .ok (.aload_n 0, 1) := by decide +kernel
theorem dX4_write_10 : decode cX4_write 10 = .ok (.getfield 12, 3) := by decide +kernel
theorem dX4_write_13 : decode cX4_write 13 = .ok (.iload_n 1, 1) := by decide +kernel
theorem dX4_write_14 : decode cX4_write 14 = .ok (.invokevirtual 135, 3) := by decide +kernel
theorem dX4_write_17 : decode cX4_write 17 = .ok (.istore_n 3, 1) := by decide +kernel
theorem dX4_write_18 : decode cX4_write 18 = .ok (.aload_n 0, 1) := by decide +kernel
theorem dX4_write_19 : decode cX4_write 19 = .ok (.getfield 12, 3) := by decide +kernel
theorem dX4_write_22 : decode cX4_write 22 = .ok (.iload_n 1, 1) := by decide +kernel
theorem dX4_write_23 : decode cX4_write 23 = .ok (.iload_n 2, 1) := by decide +kernel
theorem dX4_write_24 : decode cX4_write 24 = .ok (.invokevirtual 138, 3) := by decide +kernel
theorem dX4_write_27 : decode cX4_write 27 = .ok (.iload_n 3, 1) := by decide +kernel
theorem dX4_write_28 : decode cX4_write 28 = .ok (.ireturn, 1) := by decide +kernel
theorem dX4_arm_0 : decode cX4_arm 0 = .ok (.iload_n 1, 1) := by decide +kernel
theorem dX4_arm_1 : decode cX4_arm 1 = .ok (.ifCond .lt 9, 3) := by decide +kernel
theorem dX4_arm_4 : decode cX4_arm 4 = .ok (.iload_n 1, 1) := by decide +kernel
theorem dX4_arm_5 : decode cX4_arm 5 = .ok (.bipush 100, 2) := by decide +kernel
theorem dX4_arm_7 : decode cX4_arm 7 = .ok (.if_icmp .le 5, 3) := by decide +kernel
theorem dX4_arm_10 : decode cX4_arm 10 = .ok (.iconst 0, 1) := by decide +kernel
theorem dX4_arm_11 : decode cX4_arm 11 = .ok (.ireturn, 1) := by decide +kernel
theorem dX4_arm_12 : decode cX4_arm 12 = .ok (.aload_n 0, 1) := by decide +kernel
theorem dX4_arm_13 : decode cX4_arm 13 = .ok (.getfield 19, 3) := by decide +kernel
theorem dX4_arm_16 : decode cX4_arm 16 = .ok (.iload_n 1, 1) := by decide +kernel
theorem dX4_arm_17 : decode cX4_arm 17 = .ok (.putfield 141, 3) := by decide +kernel
theorem dX4_arm_20 : decode cX4_arm 20 = .ok (.iconst 1, 1) := by decide +kernel
theorem dX4_arm_21 : decode cX4_arm 21 = .ok (.ireturn, 1) := by decide +kernel
theorem dX4_ofPage_0 : decode cX4_ofPage 0 = .ok (.iload_n 1, 1) := by decide +kernel
theorem dX4_ofPage_1 : decode cX4_ofPage 1 = .ok (.invokestatic 144, 3) := by decide +kernel
theorem dX4_ofPage_4 : decode cX4_ofPage 4 = .ok (.ifCond .ne 6, 3) := by decide +kernel
theorem dX4_ofPage_7 : decode cX4_ofPage 7 = .ok (.bipush (-2), 2) := by decide +kernel
theorem dX4_ofPage_9 : decode cX4_ofPage 9 = .ok (.ireturn, 1) := by decide +kernel
theorem dX4_ofPage_10 : decode cX4_ofPage 10 = .ok (.aload_n 0, 1) := by decide +kernel
theorem dX4_ofPage_11 : decode cX4_ofPage 11 = .ok (.getfield 19, 3) := by decide +kernel
theorem dX4_ofPage_14 : decode cX4_ofPage 14 = .ok (.iload_n 1, 1) := by decide +kernel
theorem dX4_ofPage_15 : decode cX4_ofPage 15 = .ok (.invokevirtual 147, 3) := by decide +kernel
theorem dX4_ofPage_18 : decode cX4_ofPage 18 = .ok (.istore_n 2, 1) := by decide +kernel
theorem dX4_ofPage_19 : decode cX4_ofPage 19 = .ok (.iload_n 2, 1) := by decide +kernel
theorem dX4_ofPage_20 : decode cX4_ofPage 20 = .ok (.iconst (-1), 1) := by decide +kernel
theorem dX4_ofPage_21 : decode cX4_ofPage 21 = .ok (.if_icmp .ne 7, 3) := by decide +kernel
theorem dX4_ofPage_24 : decode cX4_ofPage 24 = .ok (.iconst (-1), 1) := by decide +kernel
theorem dX4_ofPage_25 : decode cX4_ofPage 25 = .ok (.goto 11, 3) := by decide +kernel
theorem dX4_ofPage_28 : decode cX4_ofPage 28 = .ok (.aload_n 0, 1) := by decide +kernel
theorem dX4_ofPage_29 : decode cX4_ofPage 29 = .ok (.getfield 19, 3) := by decide +kernel
theorem dX4_ofPage_32 : decode cX4_ofPage 32 = .ok (.iload_n 2, 1) := by decide +kernel
theorem dX4_ofPage_33 : decode cX4_ofPage 33 = .ok (.invokevirtual 150, 3) := by decide +kernel
theorem dX4_ofPage_36 : decode cX4_ofPage 36 = .ok (.ireturn, 1) := by decide +kernel
theorem dX4_block_0 : decode cX4_block 0 = .ok (.aload_n 0, 1) := by decide +kernel
theorem dX4_block_1 : decode cX4_block 1 = .ok (.getfield 19, 3) := by decide +kernel
theorem dX4_block_4 : decode cX4_block 4 = .ok (.iload_n 1, 1) := by decide +kernel
theorem dX4_block_5 : decode cX4_block 5 = .ok (.invokevirtual 147, 3) := by decide +kernel
theorem dX4_block_8 : decode cX4_block 8 = .ok (.ireturn, 1) := by decide +kernel
theorem dX4_order_0 : decode cX4_order 0 = .ok (.aload_n 0, 1) := by decide +kernel
theorem dX4_order_1 : decode cX4_order 1 = .ok (.getfield 19, 3) := by decide +kernel
theorem dX4_order_4 : decode cX4_order 4 = .ok (.aload_n 0, 1) := by decide +kernel
theorem dX4_order_5 : decode cX4_order 5 = .ok (.getfield 19, 3) := by decide +kernel
theorem dX4_order_8 : decode cX4_order 8 = .ok (.iload_n 1, 1) := by decide +kernel
theorem dX4_order_9 : decode cX4_order 9 = .ok (.invokevirtual 147, 3) := by decide +kernel
theorem dX4_order_12 : decode cX4_order 12 = .ok (.invokevirtual 73, 3) := by decide +kernel
theorem dX4_order_15 : decode cX4_order 15 = .ok (.ireturn, 1) := by decide +kernel
theorem dX4_freeBlocks_0 : decode cX4_freeBlocks 0 = .ok (.iload_n 1, 1) := by decide +kernel
theorem dX4_freeBlocks_1 : decode cX4_freeBlocks 1 = .ok (.invokestatic 62, 3) := by decide +kernel
theorem dX4_freeBlocks_4 : decode cX4_freeBlocks 4 = .ok (.ifCond .eq 15, 3) := by decide +kernel
theorem dX4_freeBlocks_7 : decode cX4_freeBlocks 7 = .ok (.aload_n 0, 1) := by decide +kernel
theorem dX4_freeBlocks_8 : decode cX4_freeBlocks 8 = .ok (.getfield 19, 3) := by decide +kernel
theorem dX4_freeBlocks_11 : decode cX4_freeBlocks 11 = .ok (.getfield 153, 3) := by decide +kernel
theorem dX4_freeBlocks_14 : decode cX4_freeBlocks 14 = .ok (.iload_n 1, 1) := by decide +kernel
theorem dX4_freeBlocks_15 : decode cX4_freeBlocks 15 = .ok (.iaload, 1) := by decide +kernel
theorem dX4_freeBlocks_16 : decode cX4_freeBlocks 16 = .ok (.goto 4, 3) := by decide +kernel
theorem dX4_freeBlocks_19 : decode cX4_freeBlocks 19 = .ok (.iconst (-1), 1) := by decide +kernel
theorem dX4_freeBlocks_20 : decode cX4_freeBlocks 20 = .ok (.ireturn, 1) := by decide +kernel
theorem dX4_ofCache_0 : decode cX4_ofCache 0 = .ok (.aload_n 0, 1) := by decide +kernel
theorem dX4_ofCache_1 : decode cX4_ofCache 1 = .ok (.iload_n 1, 1) := by decide +kernel
theorem dX4_ofCache_2 : decode cX4_ofCache 2 = .ok (.invokevirtual 83, 3) := by decide +kernel
theorem dX4_ofCache_5 : decode cX4_ofCache 5 = .ok (.astore_n 3, 1) := by decide +kernel
theorem dX4_ofCache_6 : decode cX4_ofCache 6 = .ok (.aload_n 3, 1) := by decide +kernel
theorem dX4_ofCache_7 : decode cX4_ofCache 7 = .ok (.ifnonnull 7, 3) := by decide +kernel
theorem dX4_ofCache_10 : decode cX4_ofCache 10 = .ok (.iconst (-1), 1) := by decide +kernel
theorem dX4_ofCache_11 : decode cX4_ofCache 11 = .ok (.goto 8, 3) := by decide +kernel
theorem dX4_ofCache_14 : decode cX4_ofCache 14 = .ok (.aload_n 3, 1) := by decide +kernel
theorem dX4_ofCache_15 : decode cX4_ofCache 15 = .ok (.iload_n 2, 1) := by decide +kernel
theorem dX4_ofCache_16 : decode cX4_ofCache 16 = .ok (.invokevirtual 157, 3) := by decide +kernel
theorem dX4_ofCache_19 : decode cX4_ofCache 19 = .ok (.ireturn, 1) := by decide +kernel
theorem dX4_count_0 : decode cX4_count 0 = .ok (.iload_n 1, 1) := by decide +kernel
theorem dX4_count_1 : decode cX4_count 1 = .ok (.tableswitch 117 0 8 #[51, 59, 67, 75, 83, 91, 96, 101, 109], 51) := by decide +kernel
theorem dX4_count_52 : decode cX4_count 52 = .ok (.aload_n 0, 1) := by decide +kernel
theorem dX4_count_53 : decode cX4_count 53 = .ok (.getfield 19, 3) := by decide +kernel
theorem dX4_count_56 : decode cX4_count 56 = .ok (.getfield 59, 3) := by decide +kernel
theorem dX4_count_59 : decode cX4_count 59 = .ok (.ireturn, 1) := by decide +kernel
theorem dX4_count_60 : decode cX4_count 60 = .ok (.aload_n 0, 1) := by decide +kernel
theorem dX4_count_61 : decode cX4_count 61 = .ok (.getfield 19, 3) := by decide +kernel
theorem dX4_count_64 : decode cX4_count 64 = .ok (.getfield 160, 3) := by decide +kernel
theorem dX4_count_67 : decode cX4_count 67 = .ok (.ireturn, 1) := by decide +kernel
theorem dX4_count_68 : decode cX4_count 68 = .ok (.aload_n 0, 1) := by decide +kernel
theorem dX4_count_69 : decode cX4_count 69 = .ok (.getfield 19, 3) := by decide +kernel
theorem dX4_count_72 : decode cX4_count 72 = .ok (.getfield 163, 3) := by decide +kernel
theorem dX4_count_75 : decode cX4_count 75 = .ok (.ireturn, 1) := by decide +kernel
theorem dX4_count_76 : decode cX4_count 76 = .ok (.aload_n 0, 1) := by decide +kernel
theorem dX4_count_77 : decode cX4_count 77 = .ok (.getfield 19, 3) := by decide +kernel
theorem dX4_count_80 : decode cX4_count 80 = .ok (.getfield 166, 3) := by decide +kernel
theorem dX4_count_83 : decode cX4_count 83 = .ok (.ireturn, 1) := by decide +kernel
theorem dX4_count_84 : decode cX4_count 84 = .ok (.aload_n 0, 1) := by decide +kernel
theorem dX4_count_85 : decode cX4_count 85 = .ok (.getfield 19, 3) := by decide +kernel
theorem dX4_count_88 : decode cX4_count 88 = .ok (.getfield 169, 3) := by decide +kernel
theorem dX4_count_91 : decode cX4_count 91 = .ok (.ireturn, 1) := by decide +kernel
theorem dX4_count_92 : decode cX4_count 92 = .ok (.aload_n 0, 1) := by decide +kernel
theorem dX4_count_93 : decode cX4_count 93 = .ok (.invokevirtual 172, 3) := by decide +kernel
theorem dX4_count_96 : decode cX4_count 96 = .ok (.ireturn, 1) := by decide +kernel
theorem dX4_count_97 : decode cX4_count 97 = .ok (.aload_n 0, 1) := by decide +kernel
theorem dX4_count_98 : decode cX4_count 98 = .ok (.getfield 44, 3) := by decide +kernel
theorem dX4_count_101 : decode cX4_count 101 = .ok (.ireturn, 1) := by decide +kernel
theorem dX4_count_102 : decode cX4_count 102 = .ok (.aload_n 0, 1) := by decide +kernel
theorem dX4_count_103 : decode cX4_count 103 = .ok (.getfield 19, 3) := by decide +kernel
theorem dX4_count_106 : decode cX4_count 106 = .ok (.getfield 176, 3) := by decide +kernel
theorem dX4_count_109 : decode cX4_count 109 = .ok (.ireturn, 1) := by decide +kernel
theorem dX4_count_110 : decode cX4_count 110 = .ok (.aload_n 0, 1) := by decide +kernel
theorem dX4_count_111 : decode cX4_count 111 = .ok (.getfield 19, 3) := by decide +kernel
theorem dX4_count_114 : decode cX4_count 114 = .ok (.getfield 141, 3) := by decide +kernel
theorem dX4_count_117 : decode cX4_count 117 = .ok (.ireturn, 1) := by decide +kernel
theorem dX4_count_118 : decode cX4_count 118 = .ok (.iconst (-1), 1) := by decide +kernel
theorem dX4_count_119 : decode cX4_count 119 = .ok (.ireturn, 1) := by decide +kernel
theorem dX4_isPage_0 : decode cX4_isPage 0 = .ok (.iload_n 0, 1) := by decide +kernel
theorem dX4_isPage_1 : decode cX4_isPage 1 = .ok (.ifCond .lt 14, 3) := by decide +kernel
theorem dX4_isPage_4 : decode cX4_isPage 4 = .ok (.iload_n 0, 1) := by decide +kernel
theorem dX4_isPage_5 : decode cX4_isPage 5 = .ok (.sipush 256, 3) := by decide +kernel
theorem dX4_isPage_8 : decode cX4_isPage 8 = .ok (.if_icmp .ge 7, 3) := by decide +kernel
theorem dX4_isPage_11 : decode cX4_isPage 11 = .ok (.iconst 1, 1) := by decide +kernel
theorem dX4_isPage_12 : decode cX4_isPage 12 = .ok (.goto 4, 3) := by decide +kernel
theorem dX4_isPage_15 : decode cX4_isPage 15 = .ok (.iconst 0, 1) := by decide +kernel
theorem dX4_isPage_16 : decode cX4_isPage 16 = .ok (.ireturn, 1) := by decide +kernel
theorem dX4_isAddress_0 : decode cX4_isAddress 0 = .ok (.iload_n 0, 1) := by decide +kernel
theorem dX4_isAddress_1 : decode cX4_isAddress 1 = .ok (.ifCond .lt 14, 3) := by decide +kernel
theorem dX4_isAddress_4 : decode cX4_isAddress 4 = .ok (.iload_n 0, 1) := by decide +kernel
theorem dX4_isAddress_5 : decode cX4_isAddress 5 = .ok (.sipush 16384, 3) := by decide +kernel
theorem dX4_isAddress_8 : decode cX4_isAddress 8 = .ok (.if_icmp .ge 7, 3) := by decide +kernel
theorem dX4_isAddress_11 : decode cX4_isAddress 11 = .ok (.iconst 1, 1) := by decide +kernel
theorem dX4_isAddress_12 : decode cX4_isAddress 12 = .ok (.goto 4, 3) := by decide +kernel
theorem dX4_isAddress_15 : decode cX4_isAddress 15 = .ok (.iconst 0, 1) := by decide +kernel
theorem dX4_isAddress_16 : decode cX4_isAddress 16 = .ok (.ireturn, 1) := by decide +kernel
theorem dX4_isOrder_0 : decode cX4_isOrder 0 = .ok (.iload_n 0, 1) := by decide +kernel
theorem dX4_isOrder_1 : decode cX4_isOrder 1 = .ok (.ifCond .lt 13, 3) := by decide +kernel
theorem dX4_isOrder_4 : decode cX4_isOrder 4 = .ok (.iload_n 0, 1) := by decide +kernel
theorem dX4_isOrder_5 : decode cX4_isOrder 5 = .ok (.bipush 6, 2) := by decide +kernel
theorem dX4_isOrder_7 : decode cX4_isOrder 7 = .ok (.if_icmp .gt 7, 3) := by decide +kernel
theorem dX4_isOrder_10 : decode cX4_isOrder 10 = .ok (.iconst 1, 1) := by decide +kernel
theorem dX4_isOrder_11 : decode cX4_isOrder 11 = .ok (.goto 4, 3) := by decide +kernel
theorem dX4_isOrder_14 : decode cX4_isOrder 14 = .ok (.iconst 0, 1) := by decide +kernel
theorem dX4_isOrder_15 : decode cX4_isOrder 15 = .ok (.ireturn, 1) := by decide +kernel
theorem dX4_isAlignment_0 : decode cX4_isAlignment 0 = .ok (.iload_n 0, 1) := by decide +kernel
theorem dX4_isAlignment_1 : decode cX4_isAlignment 1 = .ok (.iconst 1, 1) := by decide +kernel
theorem dX4_isAlignment_2 : decode cX4_isAlignment 2 = .ok (.if_icmp .lt 21, 3) := by decide +kernel
theorem dX4_isAlignment_5 : decode cX4_isAlignment 5 = .ok (.iload_n 0, 1) := by decide +kernel
theorem dX4_isAlignment_6 : decode cX4_isAlignment 6 = .ok (.bipush 64, 2) := by decide +kernel
theorem dX4_isAlignment_8 : decode cX4_isAlignment 8 = .ok (.if_icmp .gt 15, 3) := by decide +kernel
theorem dX4_isAlignment_11 : decode cX4_isAlignment 11 = .ok (.iload_n 0, 1) := by decide +kernel
theorem dX4_isAlignment_12 : decode cX4_isAlignment 12 = .ok (.invokestatic 179, 3) := by decide +kernel
theorem dX4_isAlignment_15 : decode cX4_isAlignment 15 = .ok (.iconst 1, 1) := by decide +kernel
theorem dX4_isAlignment_16 : decode cX4_isAlignment 16 = .ok (.if_icmp .ne 7, 3) := by decide +kernel
theorem dX4_isAlignment_19 : decode cX4_isAlignment 19 = .ok (.iconst 1, 1) := by decide +kernel
theorem dX4_isAlignment_20 : decode cX4_isAlignment 20 = .ok (.goto 4, 3) := by decide +kernel
theorem dX4_isAlignment_23 : decode cX4_isAlignment 23 = .ok (.iconst 0, 1) := by decide +kernel
theorem dX4_isAlignment_24 : decode cX4_isAlignment 24 = .ok (.ireturn, 1) := by decide +kernel
theorem dX4_isBySize_0 : decode cX4_isBySize 0 = .ok (.iload_n 0, 1) := by decide +kernel
theorem dX4_isBySize_1 : decode cX4_isBySize 1 = .ok (.iconst 1, 1) := by decide +kernel
theorem dX4_isBySize_2 : decode cX4_isBySize 2 = .ok (.if_icmp .lt 14, 3) := by decide +kernel
theorem dX4_isBySize_5 : decode cX4_isBySize 5 = .ok (.iload_n 0, 1) := by decide +kernel
theorem dX4_isBySize_6 : decode cX4_isBySize 6 = .ok (.sipush 4096, 3) := by decide +kernel
theorem dX4_isBySize_9 : decode cX4_isBySize 9 = .ok (.if_icmp .gt 7, 3) := by decide +kernel
theorem dX4_isBySize_12 : decode cX4_isBySize 12 = .ok (.iconst 1, 1) := by decide +kernel
theorem dX4_isBySize_13 : decode cX4_isBySize 13 = .ok (.goto 4, 3) := by decide +kernel
theorem dX4_isBySize_16 : decode cX4_isBySize 16 = .ok (.iconst 0, 1) := by decide +kernel
theorem dX4_isBySize_17 : decode cX4_isBySize 17 = .ok (.ireturn, 1) := by decide +kernel
theorem dX4_cacheOf_0 : decode cX4_cacheOf 0 = .ok (.iload_n 1, 1) := by decide +kernel
theorem dX4_cacheOf_1 : decode cX4_cacheOf 1 = .ok (.ifCond .lt 26, 3) := by decide +kernel
theorem dX4_cacheOf_4 : decode cX4_cacheOf 4 = .ok (.iload_n 1, 1) := by decide +kernel
theorem dX4_cacheOf_5 : decode cX4_cacheOf 5 = .ok (.aload_n 0, 1) := by decide +kernel
theorem dX4_cacheOf_6 : decode cX4_cacheOf 6 = .ok (.getfield 44, 3) := by decide +kernel
theorem dX4_cacheOf_9 : decode cX4_cacheOf 9 = .ok (.if_icmp .ge 18, 3) := by decide +kernel
theorem dX4_cacheOf_12 : decode cX4_cacheOf 12 = .ok (.iload_n 1, 1) := by decide +kernel
theorem dX4_cacheOf_13 : decode cX4_cacheOf 13 = .ok (.bipush 12, 2) := by decide +kernel
theorem dX4_cacheOf_15 : decode cX4_cacheOf 15 = .ok (.if_icmp .ge 12, 3) := by decide +kernel
theorem dX4_cacheOf_18 : decode cX4_cacheOf 18 = .ok (.aload_n 0, 1) := by decide +kernel
theorem dX4_cacheOf_19 : decode cX4_cacheOf 19 = .ok (.getfield 31, 3) := by decide +kernel
theorem dX4_cacheOf_22 : decode cX4_cacheOf 22 = .ok (.iload_n 1, 1) := by decide +kernel
theorem dX4_cacheOf_23 : decode cX4_cacheOf 23 = .ok (.aaload, 1) := by decide +kernel
theorem dX4_cacheOf_24 : decode cX4_cacheOf 24 = .ok (.goto 4, 3) := by decide +kernel
theorem dX4_cacheOf_27 : decode cX4_cacheOf 27 = .ok (.aconst_null, 1) := by decide +kernel
theorem dX4_cacheOf_28 : decode cX4_cacheOf 28 = .ok (.areturn, 1) := by decide +kernel
theorem dX4_slabAt_0 : decode cX4_slabAt 0 = .ok (.iload_n 1, 1) := by decide +kernel
theorem dX4_slabAt_1 : decode cX4_slabAt 1 = .ok (.invokestatic 144, 3) := by decide +kernel
theorem dX4_slabAt_4 : decode cX4_slabAt 4 = .ok (.ifCond .eq 12, 3) := by decide +kernel
theorem dX4_slabAt_7 : decode cX4_slabAt 7 = .ok (.aload_n 0, 1) := by decide +kernel
theorem dX4_slabAt_8 : decode cX4_slabAt 8 = .ok (.getfield 25, 3) := by decide +kernel
theorem dX4_slabAt_11 : decode cX4_slabAt 11 = .ok (.iload_n 1, 1) := by decide +kernel
theorem dX4_slabAt_12 : decode cX4_slabAt 12 = .ok (.aaload, 1) := by decide +kernel
theorem dX4_slabAt_13 : decode cX4_slabAt 13 = .ok (.goto 4, 3) := by decide +kernel
theorem dX4_slabAt_16 : decode cX4_slabAt 16 = .ok (.aconst_null, 1) := by decide +kernel
theorem dX4_slabAt_17 : decode cX4_slabAt 17 = .ok (.areturn, 1) := by decide +kernel
theorem dX4_liveObjects_0 : decode cX4_liveObjects 0 = .ok (.iconst 0, 1) := by decide +kernel
theorem dX4_liveObjects_1 : decode cX4_liveObjects 1 = .ok (.istore_n 1, 1) := by decide +kernel
theorem dX4_liveObjects_2 : decode cX4_liveObjects 2 = .ok (.iconst 0, 1) := by decide +kernel
theorem dX4_liveObjects_3 : decode cX4_liveObjects 3 = .ok (.istore_n 2, 1) := by decide +kernel
theorem dX4_liveObjects_4 : decode cX4_liveObjects 4 = .ok (.iload_n 2, 1) := by decide +kernel
theorem dX4_liveObjects_5 : decode cX4_liveObjects 5 = .ok (.bipush 12, 2) := by decide +kernel
theorem dX4_liveObjects_7 : decode cX4_liveObjects 7 = .ok (.if_icmp .ge 30, 3) := by decide +kernel
theorem dX4_liveObjects_10 : decode cX4_liveObjects 10 = .ok (.aload_n 0, 1) := by decide +kernel
theorem dX4_liveObjects_11 : decode cX4_liveObjects 11 = .ok (.iload_n 2, 1) := by decide +kernel
theorem dX4_liveObjects_12 : decode cX4_liveObjects 12 = .ok (.invokevirtual 83, 3) := by decide +kernel
theorem dX4_liveObjects_15 : decode cX4_liveObjects 15 = .ok (.astore_n 3, 1) := by decide +kernel
theorem dX4_liveObjects_16 : decode cX4_liveObjects 16 = .ok (.iload_n 1, 1) := by decide +kernel
theorem dX4_liveObjects_17 : decode cX4_liveObjects 17 = .ok (.aload_n 3, 1) := by decide +kernel
theorem dX4_liveObjects_18 : decode cX4_liveObjects 18 = .ok (.ifnonnull 7, 3) := by decide +kernel
theorem dX4_liveObjects_21 : decode cX4_liveObjects 21 = .ok (.iconst 0, 1) := by decide +kernel
theorem dX4_liveObjects_22 : decode cX4_liveObjects 22 = .ok (.goto 7, 3) := by decide +kernel
theorem dX4_liveObjects_25 : decode cX4_liveObjects 25 = .ok (.aload_n 3, 1) := by decide +kernel
theorem dX4_liveObjects_26 : decode cX4_liveObjects 26 = .ok (.getfield 184, 3) := by decide +kernel
theorem dX4_liveObjects_29 : decode cX4_liveObjects 29 = .ok (.iadd, 1) := by decide +kernel
theorem dX4_liveObjects_30 : decode cX4_liveObjects 30 = .ok (.istore_n 1, 1) := by decide +kernel
theorem dX4_liveObjects_31 : decode cX4_liveObjects 31 = .ok (.iinc 2 1, 3) := by decide +kernel
theorem dX4_liveObjects_34 : decode cX4_liveObjects 34 = .ok (.goto (-30), 3) := by decide +kernel
theorem dX4_liveObjects_37 : decode cX4_liveObjects 37 = .ok (.iload_n 1, 1) := by decide +kernel
theorem dX4_liveObjects_38 : decode cX4_liveObjects 38 = .ok (.ireturn, 1) := by decide +kernel
theorem dX4_wrongWithPage_0 : decode cX4_wrongWithPage 0 = .ok (.aload_n 0, 1) := by decide +kernel
theorem dX4_wrongWithPage_1 : decode cX4_wrongWithPage 1 = .ok (.getfield 19, 3) := by decide +kernel
theorem dX4_wrongWithPage_4 : decode cX4_wrongWithPage 4 = .ok (.iload_n 1, 1) := by decide +kernel
theorem dX4_wrongWithPage_5 : decode cX4_wrongWithPage 5 = .ok (.invokevirtual 150, 3) := by decide +kernel
theorem dX4_wrongWithPage_8 : decode cX4_wrongWithPage 8 = .ok (.istore_n 2, 1) := by decide +kernel
theorem dX4_wrongWithPage_9 : decode cX4_wrongWithPage 9 = .ok (.iload_n 2, 1) := by decide +kernel
theorem dX4_wrongWithPage_10 : decode cX4_wrongWithPage 10 = .ok (.ifCond .ne 6, 3) := by decide +kernel
theorem dX4_wrongWithPage_13 : decode cX4_wrongWithPage 13 = .ok (.bipush (-3), 2) := by decide +kernel
theorem dX4_wrongWithPage_15 : decode cX4_wrongWithPage 15 = .ok (.ireturn, 1) := by decide +kernel
theorem dX4_wrongWithPage_16 : decode cX4_wrongWithPage 16 = .ok (.iload_n 2, 1) := by decide +kernel
theorem dX4_wrongWithPage_17 : decode cX4_wrongWithPage 17 = .ok (.iconst 1, 1) := by decide +kernel
theorem dX4_wrongWithPage_18 : decode cX4_wrongWithPage 18 = .ok (.if_icmp .ne 7, 3) := by decide +kernel
theorem dX4_wrongWithPage_21 : decode cX4_wrongWithPage 21 = .ok (.iconst 0, 1) := by decide +kernel
theorem dX4_wrongWithPage_22 : decode cX4_wrongWithPage 22 = .ok (.goto 5, 3) := by decide +kernel
theorem dX4_wrongWithPage_25 : decode cX4_wrongWithPage 25 = .ok (.bipush (-2), 2) := by decide +kernel
theorem dX4_wrongWithPage_27 : decode cX4_wrongWithPage 27 = .ok (.ireturn, 1) := by decide +kernel
theorem dX4_wrongWithObject_0 : decode cX4_wrongWithObject 0 = .ok (.iload_n 2, 1) := by decide +kernel
theorem dX4_wrongWithObject_1 : decode cX4_wrongWithObject 1 = .ok (.invokestatic 132, 3) := by decide +kernel
theorem dX4_wrongWithObject_4 : decode cX4_wrongWithObject 4 = .ok (.ifCond .ne 6, 3) := by decide +kernel
theorem dX4_wrongWithObject_7 : decode cX4_wrongWithObject 7 = .ok (.bipush (-2), 2) := by decide +kernel
theorem dX4_wrongWithObject_9 : decode cX4_wrongWithObject 9 = .ok (.ireturn, 1) := by decide +kernel
theorem dX4_wrongWithObject_10 : decode cX4_wrongWithObject 10 = .ok (.aload_n 0, 1) := by decide +kernel
theorem dX4_wrongWithObject_11 : decode cX4_wrongWithObject 11 = .ok (.getfield 19, 3) := by decide +kernel
theorem dX4_wrongWithObject_14 : decode cX4_wrongWithObject 14 = .ok (.iload_n 2, 1) := by decide +kernel
theorem dX4_wrongWithObject_15 : decode cX4_wrongWithObject 15 = .ok (.bipush 64, 2) := by decide +kernel
theorem dX4_wrongWithObject_17 : decode cX4_wrongWithObject 17 = .ok (.idiv, 1) := by decide +kernel
theorem dX4_wrongWithObject_18 : decode cX4_wrongWithObject 18 = .ok (.invokevirtual 147, 3) := by decide +kernel
theorem dX4_wrongWithObject_21 : decode cX4_wrongWithObject 21 = .ok (.istore_n 3, 1) := by decide +kernel
theorem dX4_wrongWithObject_22 : decode cX4_wrongWithObject 22 = .ok (.aload_n 0, 1) := by decide +kernel
theorem dX4_wrongWithObject_23 : decode cX4_wrongWithObject 23 = .ok (.iload_n 3, 1) := by decide +kernel
theorem dX4_wrongWithObject_24 : decode cX4_wrongWithObject 24 = .ok (.invokevirtual 187, 3) := by decide +kernel
theorem dX4_wrongWithObject_27 : decode cX4_wrongWithObject 27 = .ok (.astore 4, 2) := by decide +kernel
theorem dX4_wrongWithObject_29 : decode cX4_wrongWithObject 29 = .ok (.aload 4, 2) := by decide +kernel
theorem dX4_wrongWithObject_31 : decode cX4_wrongWithObject 31 = .ok (.ifnull 18, 3) := by decide +kernel
theorem dX4_wrongWithObject_34 : decode cX4_wrongWithObject 34 = .ok (.aload_n 0, 1) := by decide +kernel
theorem dX4_wrongWithObject_35 : decode cX4_wrongWithObject 35 = .ok (.getfield 19, 3) := by decide +kernel
theorem dX4_wrongWithObject_38 : decode cX4_wrongWithObject 38 = .ok (.iload_n 3, 1) := by decide +kernel
theorem dX4_wrongWithObject_39 : decode cX4_wrongWithObject 39 = .ok (.invokevirtual 150, 3) := by decide +kernel
theorem dX4_wrongWithObject_42 : decode cX4_wrongWithObject 42 = .ok (.aload_n 1, 1) := by decide +kernel
theorem dX4_wrongWithObject_43 : decode cX4_wrongWithObject 43 = .ok (.getfield 191, 3) := by decide +kernel
theorem dX4_wrongWithObject_46 : decode cX4_wrongWithObject 46 = .ok (.if_icmp .eq 6, 3) := by decide +kernel
theorem dX4_wrongWithObject_49 : decode cX4_wrongWithObject 49 = .ok (.bipush (-2), 2) := by decide +kernel
theorem dX4_wrongWithObject_51 : decode cX4_wrongWithObject 51 = .ok (.ireturn, 1) := by decide +kernel
theorem dX4_wrongWithObject_52 : decode cX4_wrongWithObject 52 = .ok (.aload_n 1, 1) := by decide +kernel
theorem dX4_wrongWithObject_53 : decode cX4_wrongWithObject 53 = .ok (.iload_n 2, 1) := by decide +kernel
theorem dX4_wrongWithObject_54 : decode cX4_wrongWithObject 54 = .ok (.iload_n 3, 1) := by decide +kernel
theorem dX4_wrongWithObject_55 : decode cX4_wrongWithObject 55 = .ok (.bipush 64, 2) := by decide +kernel
theorem dX4_wrongWithObject_57 : decode cX4_wrongWithObject 57 = .ok (.imul, 1) := by decide +kernel
theorem dX4_wrongWithObject_58 : decode cX4_wrongWithObject 58 = .ok (.isub, 1) := by decide +kernel
theorem dX4_wrongWithObject_59 : decode cX4_wrongWithObject 59 = .ok (.invokevirtual 194, 3) := by decide +kernel
theorem dX4_wrongWithObject_62 : decode cX4_wrongWithObject 62 = .ok (.istore 5, 2) := by decide +kernel
theorem dX4_wrongWithObject_64 : decode cX4_wrongWithObject 64 = .ok (.iload 5, 2) := by decide +kernel
theorem dX4_wrongWithObject_66 : decode cX4_wrongWithObject 66 = .ok (.iconst (-1), 1) := by decide +kernel
theorem dX4_wrongWithObject_67 : decode cX4_wrongWithObject 67 = .ok (.if_icmp .ne 6, 3) := by decide +kernel
theorem dX4_wrongWithObject_70 : decode cX4_wrongWithObject 70 = .ok (.bipush (-2), 2) := by decide +kernel
theorem dX4_wrongWithObject_72 : decode cX4_wrongWithObject 72 = .ok (.ireturn, 1) := by decide +kernel
theorem dX4_wrongWithObject_73 : decode cX4_wrongWithObject 73 = .ok (.aload 4, 2) := by decide +kernel
theorem dX4_wrongWithObject_75 : decode cX4_wrongWithObject 75 = .ok (.iload 5, 2) := by decide +kernel
theorem dX4_wrongWithObject_77 : decode cX4_wrongWithObject 77 = .ok (.invokevirtual 197, 3) := by decide +kernel
theorem dX4_wrongWithObject_80 : decode cX4_wrongWithObject 80 = .ok (.ifCond .eq 7, 3) := by decide +kernel
theorem dX4_wrongWithObject_83 : decode cX4_wrongWithObject 83 = .ok (.iconst 0, 1) := by decide +kernel
theorem dX4_wrongWithObject_84 : decode cX4_wrongWithObject 84 = .ok (.goto 5, 3) := by decide +kernel
theorem dX4_wrongWithObject_87 : decode cX4_wrongWithObject 87 = .ok (.bipush (-3), 2) := by decide +kernel
theorem dX4_wrongWithObject_89 : decode cX4_wrongWithObject 89 = .ok (.ireturn, 1) := by decide +kernel
theorem dX4_wrongBySize_0 : decode cX4_wrongBySize 0 = .ok (.iload_n 1, 1) := by decide +kernel
theorem dX4_wrongBySize_1 : decode cX4_wrongBySize 1 = .ok (.invokestatic 132, 3) := by decide +kernel
theorem dX4_wrongBySize_4 : decode cX4_wrongBySize 4 = .ok (.ifCond .ne 6, 3) := by decide +kernel
theorem dX4_wrongBySize_7 : decode cX4_wrongBySize 7 = .ok (.bipush (-2), 2) := by decide +kernel
theorem dX4_wrongBySize_9 : decode cX4_wrongBySize 9 = .ok (.ireturn, 1) := by decide +kernel
theorem dX4_wrongBySize_10 : decode cX4_wrongBySize 10 = .ok (.iload_n 1, 1) := by decide +kernel
theorem dX4_wrongBySize_11 : decode cX4_wrongBySize 11 = .ok (.bipush 64, 2) := by decide +kernel
theorem dX4_wrongBySize_13 : decode cX4_wrongBySize 13 = .ok (.idiv, 1) := by decide +kernel
theorem dX4_wrongBySize_14 : decode cX4_wrongBySize 14 = .ok (.istore_n 2, 1) := by decide +kernel
theorem dX4_wrongBySize_15 : decode cX4_wrongBySize 15 = .ok (.aload_n 0, 1) := by decide +kernel
theorem dX4_wrongBySize_16 : decode cX4_wrongBySize 16 = .ok (.getfield 19, 3) := by decide +kernel
theorem dX4_wrongBySize_19 : decode cX4_wrongBySize 19 = .ok (.aload_n 0, 1) := by decide +kernel
theorem dX4_wrongBySize_20 : decode cX4_wrongBySize 20 = .ok (.getfield 19, 3) := by decide +kernel
theorem dX4_wrongBySize_23 : decode cX4_wrongBySize 23 = .ok (.iload_n 2, 1) := by decide +kernel
theorem dX4_wrongBySize_24 : decode cX4_wrongBySize 24 = .ok (.invokevirtual 147, 3) := by decide +kernel
theorem dX4_wrongBySize_27 : decode cX4_wrongBySize 27 = .ok (.invokevirtual 150, 3) := by decide +kernel
theorem dX4_wrongBySize_30 : decode cX4_wrongBySize 30 = .ok (.istore_n 3, 1) := by decide +kernel
theorem dX4_wrongBySize_31 : decode cX4_wrongBySize 31 = .ok (.iload_n 3, 1) := by decide +kernel
theorem dX4_wrongBySize_32 : decode cX4_wrongBySize 32 = .ok (.iconst 2, 1) := by decide +kernel
theorem dX4_wrongBySize_33 : decode cX4_wrongBySize 33 = .ok (.if_icmp .lt 40, 3) := by decide +kernel
theorem dX4_wrongBySize_36 : decode cX4_wrongBySize 36 = .ok (.iload_n 3, 1) := by decide +kernel
theorem dX4_wrongBySize_37 : decode cX4_wrongBySize 37 = .ok (.bipush 8, 2) := by decide +kernel
theorem dX4_wrongBySize_39 : decode cX4_wrongBySize 39 = .ok (.if_icmp .ge 13, 3) := by decide +kernel
theorem dX4_wrongBySize_42 : decode cX4_wrongBySize 42 = .ok (.aload_n 0, 1) := by decide +kernel
theorem dX4_wrongBySize_43 : decode cX4_wrongBySize 43 = .ok (.iload_n 3, 1) := by decide +kernel
theorem dX4_wrongBySize_44 : decode cX4_wrongBySize 44 = .ok (.iconst 2, 1) := by decide +kernel
theorem dX4_wrongBySize_45 : decode cX4_wrongBySize 45 = .ok (.isub, 1) := by decide +kernel
theorem dX4_wrongBySize_46 : decode cX4_wrongBySize 46 = .ok (.invokevirtual 83, 3) := by decide +kernel
theorem dX4_wrongBySize_49 : decode cX4_wrongBySize 49 = .ok (.goto 4, 3) := by decide +kernel
theorem dX4_wrongBySize_52 : decode cX4_wrongBySize 52 = .ok (.aconst_null, 1) := by decide +kernel
theorem dX4_wrongBySize_53 : decode cX4_wrongBySize 53 = .ok (.astore 4, 2) := by decide +kernel
theorem dX4_wrongBySize_55 : decode cX4_wrongBySize 55 = .ok (.aload 4, 2) := by decide +kernel
theorem dX4_wrongBySize_57 : decode cX4_wrongBySize 57 = .ok (.ifnonnull 8, 3) := by decide +kernel
theorem dX4_wrongBySize_60 : decode cX4_wrongBySize 60 = .ok (.bipush (-2), 2) := by decide +kernel
theorem dX4_wrongBySize_62 : decode cX4_wrongBySize 62 = .ok (.goto 10, 3) := by decide +kernel
theorem dX4_wrongBySize_65 : decode cX4_wrongBySize 65 = .ok (.aload_n 0, 1) := by decide +kernel
theorem dX4_wrongBySize_66 : decode cX4_wrongBySize 66 = .ok (.aload 4, 2) := by decide +kernel
theorem dX4_wrongBySize_68 : decode cX4_wrongBySize 68 = .ok (.iload_n 1, 1) := by decide +kernel
theorem dX4_wrongBySize_69 : decode cX4_wrongBySize 69 = .ok (.invokevirtual 91, 3) := by decide +kernel
theorem dX4_wrongBySize_72 : decode cX4_wrongBySize 72 = .ok (.ireturn, 1) := by decide +kernel
theorem dX4_wrongBySize_73 : decode cX4_wrongBySize 73 = .ok (.iload_n 1, 1) := by decide +kernel
theorem dX4_wrongBySize_74 : decode cX4_wrongBySize 74 = .ok (.bipush 64, 2) := by decide +kernel
theorem dX4_wrongBySize_76 : decode cX4_wrongBySize 76 = .ok (.irem, 1) := by decide +kernel
theorem dX4_wrongBySize_77 : decode cX4_wrongBySize 77 = .ok (.ifCond .ne 11, 3) := by decide +kernel
theorem dX4_wrongBySize_80 : decode cX4_wrongBySize 80 = .ok (.aload_n 0, 1) := by decide +kernel
theorem dX4_wrongBySize_81 : decode cX4_wrongBySize 81 = .ok (.iload_n 2, 1) := by decide +kernel
theorem dX4_wrongBySize_82 : decode cX4_wrongBySize 82 = .ok (.invokevirtual 69, 3) := by decide +kernel
theorem dX4_wrongBySize_85 : decode cX4_wrongBySize 85 = .ok (.goto 5, 3) := by decide +kernel
theorem dX4_wrongBySize_88 : decode cX4_wrongBySize 88 = .ok (.bipush (-2), 2) := by decide +kernel
theorem dX4_wrongBySize_90 : decode cX4_wrongBySize 90 = .ok (.ireturn, 1) := by decide +kernel
theorem dX4_takeObject_0 : decode cX4_takeObject 0 = .ok (.aload_n 0, 1) := by decide +kernel
theorem dX4_takeObject_1 : decode cX4_takeObject 1 = .ok (.aload_n 1, 1) := by decide +kernel
theorem dX4_takeObject_2 : decode cX4_takeObject 2 = .ok (.invokevirtual 200, 3) := by decide +kernel
theorem dX4_takeObject_5 : decode cX4_takeObject 5 = .ok (.istore_n 2, 1) := by decide +kernel
theorem dX4_takeObject_6 : decode cX4_takeObject 6 = .ok (.iload_n 2, 1) := by decide +kernel
theorem dX4_takeObject_7 : decode cX4_takeObject 7 = .ok (.iconst (-1), 1) := by decide +kernel
theorem dX4_takeObject_8 : decode cX4_takeObject 8 = .ok (.if_icmp .ne 8, 3) := by decide +kernel
theorem dX4_takeObject_11 : decode cX4_takeObject 11 = .ok (.aload_n 1, 1) := by decide +kernel
theorem dX4_takeObject_12 : decode cX4_takeObject 12 = .ok (.getfield 98, 3) := by decide +kernel
theorem dX4_takeObject_15 : decode cX4_takeObject 15 = .ok (.istore_n 2, 1) := by decide +kernel
theorem dX4_takeObject_16 : decode cX4_takeObject 16 = .ok (.iload_n 2, 1) := by decide +kernel
theorem dX4_takeObject_17 : decode cX4_takeObject 17 = .ok (.iconst (-1), 1) := by decide +kernel
theorem dX4_takeObject_18 : decode cX4_takeObject 18 = .ok (.if_icmp .ne 9, 3) := by decide +kernel
theorem dX4_takeObject_21 : decode cX4_takeObject 21 = .ok (.aload_n 0, 1) := by decide +kernel
theorem dX4_takeObject_22 : decode cX4_takeObject 22 = .ok (.aload_n 1, 1) := by decide +kernel
theorem dX4_takeObject_23 : decode cX4_takeObject 23 = .ok (.invokevirtual 203, 3) := by decide +kernel
theorem dX4_takeObject_26 : decode cX4_takeObject 26 = .ok (.istore_n 2, 1) := by decide +kernel
theorem dX4_takeObject_27 : decode cX4_takeObject 27 = .ok (.aload_n 0, 1) := by decide +kernel
theorem dX4_takeObject_28 : decode cX4_takeObject 28 = .ok (.iload_n 2, 1) := by decide +kernel
theorem dX4_takeObject_29 : decode cX4_takeObject 29 = .ok (.invokevirtual 187, 3) := by decide +kernel
theorem dX4_takeObject_32 : decode cX4_takeObject 32 = .ok (.astore_n 3, 1) := by decide +kernel
theorem dX4_takeObject_33 : decode cX4_takeObject 33 = .ok (.aload_n 3, 1) := by decide +kernel
theorem dX4_takeObject_34 : decode cX4_takeObject 34 = .ok (.ifnonnull 7, 3) := by decide +kernel
theorem dX4_takeObject_37 : decode cX4_takeObject 37 = .ok (.iconst (-1), 1) := by decide +kernel
theorem dX4_takeObject_38 : decode cX4_takeObject 38 = .ok (.goto 7, 3) := by decide +kernel
theorem dX4_takeObject_41 : decode cX4_takeObject 41 = .ok (.aload_n 3, 1) := by decide +kernel
theorem dX4_takeObject_42 : decode cX4_takeObject 42 = .ok (.invokevirtual 206, 3) := by decide +kernel
theorem dX4_takeObject_45 : decode cX4_takeObject 45 = .ok (.istore 4, 2) := by decide +kernel
theorem dX4_takeObject_47 : decode cX4_takeObject 47 = .ok (.iload 4, 2) := by decide +kernel
theorem dX4_takeObject_49 : decode cX4_takeObject 49 = .ok (.iconst (-1), 1) := by decide +kernel
theorem dX4_takeObject_50 : decode cX4_takeObject 50 = .ok (.if_icmp .ne 5, 3) := by decide +kernel
theorem dX4_takeObject_53 : decode cX4_takeObject 53 = .ok (.iconst (-1), 1) := by decide +kernel
theorem dX4_takeObject_54 : decode cX4_takeObject 54 = .ok (.ireturn, 1) := by decide +kernel
theorem dX4_takeObject_55 : decode cX4_takeObject 55 = .ok (.iload_n 2, 1) := by decide +kernel
theorem dX4_takeObject_56 : decode cX4_takeObject 56 = .ok (.aload_n 1, 1) := by decide +kernel
theorem dX4_takeObject_57 : decode cX4_takeObject 57 = .ok (.getfield 98, 3) := by decide +kernel
theorem dX4_takeObject_60 : decode cX4_takeObject 60 = .ok (.if_icmp .ne 8, 3) := by decide +kernel
theorem dX4_takeObject_63 : decode cX4_takeObject 63 = .ok (.aload_n 1, 1) := by decide +kernel
theorem dX4_takeObject_64 : decode cX4_takeObject 64 = .ok (.iconst (-1), 1) := by decide +kernel
theorem dX4_takeObject_65 : decode cX4_takeObject 65 = .ok (.putfield 98, 3) := by decide +kernel
theorem dX4_takeObject_68 : decode cX4_takeObject 68 = .ok (.aload_n 1, 1) := by decide +kernel
theorem dX4_takeObject_69 : decode cX4_takeObject 69 = .ok (.dup, 1) := by decide +kernel
theorem dX4_takeObject_70 : decode cX4_takeObject 70 = .ok (.getfield 184, 3) := by decide +kernel
theorem dX4_takeObject_73 : decode cX4_takeObject 73 = .ok (.iconst 1, 1) := by decide +kernel
theorem dX4_takeObject_74 : decode cX4_takeObject 74 = .ok (.iadd, 1) := by decide +kernel
theorem dX4_takeObject_75 : decode cX4_takeObject 75 = .ok (.putfield 184, 3) := by decide +kernel
theorem dX4_takeObject_78 : decode cX4_takeObject 78 = .ok (.iload_n 2, 1) := by decide +kernel
theorem dX4_takeObject_79 : decode cX4_takeObject 79 = .ok (.bipush 64, 2) := by decide +kernel
theorem dX4_takeObject_81 : decode cX4_takeObject 81 = .ok (.imul, 1) := by decide +kernel
theorem dX4_takeObject_82 : decode cX4_takeObject 82 = .ok (.iload 4, 2) := by decide +kernel
theorem dX4_takeObject_84 : decode cX4_takeObject 84 = .ok (.aload_n 1, 1) := by decide +kernel
theorem dX4_takeObject_85 : decode cX4_takeObject 85 = .ok (.getfield 209, 3) := by decide +kernel
theorem dX4_takeObject_88 : decode cX4_takeObject 88 = .ok (.imul, 1) := by decide +kernel
theorem dX4_takeObject_89 : decode cX4_takeObject 89 = .ok (.iadd, 1) := by decide +kernel
theorem dX4_takeObject_90 : decode cX4_takeObject 90 = .ok (.ireturn, 1) := by decide +kernel
theorem dX4_partlyLiveSlab_0 : decode cX4_partlyLiveSlab 0 = .ok (.iconst 0, 1) := by decide +kernel
theorem dX4_partlyLiveSlab_1 : decode cX4_partlyLiveSlab 1 = .ok (.istore_n 2, 1) := by decide +kernel
theorem dX4_partlyLiveSlab_2 : decode cX4_partlyLiveSlab 2 = .ok (.iload_n 2, 1) := by decide +kernel
theorem dX4_partlyLiveSlab_3 : decode cX4_partlyLiveSlab 3 = .ok (.sipush 256, 3) := by decide +kernel
theorem dX4_partlyLiveSlab_6 : decode cX4_partlyLiveSlab 6 = .ok (.if_icmp .ge 44, 3) := by decide +kernel
theorem dX4_partlyLiveSlab_9 : decode cX4_partlyLiveSlab 9 = .ok (.aload_n 0, 1) := by decide +kernel
theorem dX4_partlyLiveSlab_10 : decode cX4_partlyLiveSlab 10 = .ok (.getfield 25, 3) := by decide +kernel
theorem dX4_partlyLiveSlab_13 : decode cX4_partlyLiveSlab 13 = .ok (.iload_n 2, 1) := by decide +kernel
theorem dX4_partlyLiveSlab_14 : decode cX4_partlyLiveSlab 14 = .ok (.aaload, 1) := by decide +kernel
theorem dX4_partlyLiveSlab_15 : decode cX4_partlyLiveSlab 15 = .ok (.astore_n 3, 1) := by decide +kernel
theorem dX4_partlyLiveSlab_16 : decode cX4_partlyLiveSlab 16 = .ok (.aload_n 3, 1) := by decide +kernel
theorem dX4_partlyLiveSlab_17 : decode cX4_partlyLiveSlab 17 = .ok (.ifnull 27, 3) := by decide +kernel
theorem dX4_partlyLiveSlab_20 : decode cX4_partlyLiveSlab 20 = .ok (.aload_n 0, 1) := by decide +kernel
theorem dX4_partlyLiveSlab_21 : decode cX4_partlyLiveSlab 21 = .ok (.getfield 19, 3) := by decide +kernel
theorem dX4_partlyLiveSlab_24 : decode cX4_partlyLiveSlab 24 = .ok (.iload_n 2, 1) := by decide +kernel
theorem dX4_partlyLiveSlab_25 : decode cX4_partlyLiveSlab 25 = .ok (.invokevirtual 150, 3) := by decide +kernel
theorem dX4_partlyLiveSlab_28 : decode cX4_partlyLiveSlab 28 = .ok (.aload_n 1, 1) := by decide +kernel
theorem dX4_partlyLiveSlab_29 : decode cX4_partlyLiveSlab 29 = .ok (.getfield 191, 3) := by decide +kernel
theorem dX4_partlyLiveSlab_32 : decode cX4_partlyLiveSlab 32 = .ok (.if_icmp .ne 12, 3) := by decide +kernel
theorem dX4_partlyLiveSlab_35 : decode cX4_partlyLiveSlab 35 = .ok (.aload_n 3, 1) := by decide +kernel
theorem dX4_partlyLiveSlab_36 : decode cX4_partlyLiveSlab 36 = .ok (.invokevirtual 212, 3) := by decide +kernel
theorem dX4_partlyLiveSlab_39 : decode cX4_partlyLiveSlab 39 = .ok (.ifCond .eq 5, 3) := by decide +kernel
theorem dX4_partlyLiveSlab_42 : decode cX4_partlyLiveSlab 42 = .ok (.iload_n 2, 1) := by decide +kernel
theorem dX4_partlyLiveSlab_43 : decode cX4_partlyLiveSlab 43 = .ok (.ireturn, 1) := by decide +kernel
theorem dX4_partlyLiveSlab_44 : decode cX4_partlyLiveSlab 44 = .ok (.iinc 2 1, 3) := by decide +kernel
theorem dX4_partlyLiveSlab_47 : decode cX4_partlyLiveSlab 47 = .ok (.goto (-45), 3) := by decide +kernel
theorem dX4_partlyLiveSlab_50 : decode cX4_partlyLiveSlab 50 = .ok (.iconst (-1), 1) := by decide +kernel
theorem dX4_partlyLiveSlab_51 : decode cX4_partlyLiveSlab 51 = .ok (.ireturn, 1) := by decide +kernel
theorem dX4_newSlab_0 : decode cX4_newSlab 0 = .ok (.aload_n 0, 1) := by decide +kernel
theorem dX4_newSlab_1 : decode cX4_newSlab 1 = .ok (.getfield 19, 3) := by decide +kernel
theorem dX4_newSlab_4 : decode cX4_newSlab 4 = .ok (.aload_n 1, 1) := by decide +kernel
theorem dX4_newSlab_5 : decode cX4_newSlab 5 = .ok (.getfield 105, 3) := by decide +kernel
theorem dX4_newSlab_8 : decode cX4_newSlab 8 = .ok (.aload_n 1, 1) := by decide +kernel
theorem dX4_newSlab_9 : decode cX4_newSlab 9 = .ok (.getfield 191, 3) := by decide +kernel
theorem dX4_newSlab_12 : decode cX4_newSlab 12 = .ok (.invokevirtual 66, 3) := by decide +kernel
theorem dX4_newSlab_15 : decode cX4_newSlab 15 = .ok (.istore_n 2, 1) := by decide +kernel
theorem dX4_newSlab_16 : decode cX4_newSlab 16 = .ok (.iload_n 2, 1) := by decide +kernel
theorem dX4_newSlab_17 : decode cX4_newSlab 17 = .ok (.invokestatic 144, 3) := by decide +kernel
theorem dX4_newSlab_20 : decode cX4_newSlab 20 = .ok (.ifCond .ne 5, 3) := by decide +kernel
theorem dX4_newSlab_23 : decode cX4_newSlab 23 = .ok (.iconst (-1), 1) := by decide +kernel
theorem dX4_newSlab_24 : decode cX4_newSlab 24 = .ok (.ireturn, 1) := by decide +kernel
theorem dX4_newSlab_25 : decode cX4_newSlab 25 = .ok (.aload_n 0, 1) := by decide +kernel
theorem dX4_newSlab_26 : decode cX4_newSlab 26 = .ok (.getfield 25, 3) := by decide +kernel
theorem dX4_newSlab_29 : decode cX4_newSlab 29 = .ok (.iload_n 2, 1) := by decide +kernel
theorem dX4_newSlab_30 : decode cX4_newSlab 30 = .ok (.aaload, 1) := by decide +kernel
theorem dX4_newSlab_31 : decode cX4_newSlab 31 = .ok (.astore_n 3, 1) := by decide +kernel
theorem dX4_newSlab_32 : decode cX4_newSlab 32 = .ok (.aload_n 3, 1) := by decide +kernel
theorem dX4_newSlab_33 : decode cX4_newSlab 33 = .ok (.ifnonnull 18, 3) := by decide +kernel
theorem dX4_newSlab_36 : decode cX4_newSlab 36 = .ok (.new 23, 3) := by decide +kernel
theorem dX4_newSlab_39 : decode cX4_newSlab 39 = .ok (.dup, 1) := by decide +kernel
theorem dX4_newSlab_40 : decode cX4_newSlab 40 = .ok (.invokespecial 216, 3) := by decide +kernel
theorem dX4_newSlab_43 : decode cX4_newSlab 43 = .ok (.astore_n 3, 1) := by decide +kernel
theorem dX4_newSlab_44 : decode cX4_newSlab 44 = .ok (.aload_n 0, 1) := by decide +kernel
theorem dX4_newSlab_45 : decode cX4_newSlab 45 = .ok (.getfield 25, 3) := by decide +kernel
theorem dX4_newSlab_48 : decode cX4_newSlab 48 = .ok (.iload_n 2, 1) := by decide +kernel
theorem dX4_newSlab_49 : decode cX4_newSlab 49 = .ok (.aload_n 3, 1) := by decide +kernel
theorem dX4_newSlab_50 : decode cX4_newSlab 50 = .ok (.aastore, 1) := by decide +kernel
theorem dX4_newSlab_51 : decode cX4_newSlab 51 = .ok (.aload_n 3, 1) := by decide +kernel
theorem dX4_newSlab_52 : decode cX4_newSlab 52 = .ok (.aload_n 1, 1) := by decide +kernel
theorem dX4_newSlab_53 : decode cX4_newSlab 53 = .ok (.getfield 217, 3) := by decide +kernel
theorem dX4_newSlab_56 : decode cX4_newSlab 56 = .ok (.invokevirtual 220, 3) := by decide +kernel
theorem dX4_newSlab_59 : decode cX4_newSlab 59 = .ok (.aload_n 1, 1) := by decide +kernel
theorem dX4_newSlab_60 : decode cX4_newSlab 60 = .ok (.dup, 1) := by decide +kernel
theorem dX4_newSlab_61 : decode cX4_newSlab 61 = .ok (.getfield 223, 3) := by decide +kernel
theorem dX4_newSlab_64 : decode cX4_newSlab 64 = .ok (.iconst 1, 1) := by decide +kernel
theorem dX4_newSlab_65 : decode cX4_newSlab 65 = .ok (.iadd, 1) := by decide +kernel
theorem dX4_newSlab_66 : decode cX4_newSlab 66 = .ok (.putfield 223, 3) := by decide +kernel
theorem dX4_newSlab_69 : decode cX4_newSlab 69 = .ok (.iload_n 2, 1) := by decide +kernel
theorem dX4_newSlab_70 : decode cX4_newSlab 70 = .ok (.ireturn, 1) := by decide +kernel
theorem dX4_giveObject_0 : decode cX4_giveObject 0 = .ok (.aload_n 0, 1) := by decide +kernel
theorem dX4_giveObject_1 : decode cX4_giveObject 1 = .ok (.getfield 19, 3) := by decide +kernel
theorem dX4_giveObject_4 : decode cX4_giveObject 4 = .ok (.iload_n 2, 1) := by decide +kernel
theorem dX4_giveObject_5 : decode cX4_giveObject 5 = .ok (.bipush 64, 2) := by decide +kernel
theorem dX4_giveObject_7 : decode cX4_giveObject 7 = .ok (.idiv, 1) := by decide +kernel
theorem dX4_giveObject_8 : decode cX4_giveObject 8 = .ok (.invokevirtual 147, 3) := by decide +kernel
theorem dX4_giveObject_11 : decode cX4_giveObject 11 = .ok (.istore_n 3, 1) := by decide +kernel
theorem dX4_giveObject_12 : decode cX4_giveObject 12 = .ok (.aload_n 0, 1) := by decide +kernel
theorem dX4_giveObject_13 : decode cX4_giveObject 13 = .ok (.iload_n 3, 1) := by decide +kernel
theorem dX4_giveObject_14 : decode cX4_giveObject 14 = .ok (.invokevirtual 187, 3) := by decide +kernel
theorem dX4_giveObject_17 : decode cX4_giveObject 17 = .ok (.astore 4, 2) := by decide +kernel
theorem dX4_giveObject_19 : decode cX4_giveObject 19 = .ok (.aload 4, 2) := by decide +kernel
theorem dX4_giveObject_21 : decode cX4_giveObject 21 = .ok (.ifnonnull 6, 3) := by decide +kernel
theorem dX4_giveObject_24 : decode cX4_giveObject 24 = .ok (.bipush (-2), 2) := by decide +kernel
theorem dX4_giveObject_26 : decode cX4_giveObject 26 = .ok (.ireturn, 1) := by decide +kernel
theorem dX4_giveObject_27 : decode cX4_giveObject 27 = .ok (.aload 4, 2) := by decide +kernel
theorem dX4_giveObject_29 : decode cX4_giveObject 29 = .ok (.aload_n 1, 1) := by decide +kernel
theorem dX4_giveObject_30 : decode cX4_giveObject 30 = .ok (.iload_n 2, 1) := by decide +kernel
theorem dX4_giveObject_31 : decode cX4_giveObject 31 = .ok (.iload_n 3, 1) := by decide +kernel
theorem dX4_giveObject_32 : decode cX4_giveObject 32 = .ok (.bipush 64, 2) := by decide +kernel
theorem dX4_giveObject_34 : decode cX4_giveObject 34 = .ok (.imul, 1) := by decide +kernel
theorem dX4_giveObject_35 : decode cX4_giveObject 35 = .ok (.isub, 1) := by decide +kernel
theorem dX4_giveObject_36 : decode cX4_giveObject 36 = .ok (.invokevirtual 194, 3) := by decide +kernel
theorem dX4_giveObject_39 : decode cX4_giveObject 39 = .ok (.invokevirtual 226, 3) := by decide +kernel
theorem dX4_giveObject_42 : decode cX4_giveObject 42 = .ok (.aload_n 1, 1) := by decide +kernel
theorem dX4_giveObject_43 : decode cX4_giveObject 43 = .ok (.dup, 1) := by decide +kernel
theorem dX4_giveObject_44 : decode cX4_giveObject 44 = .ok (.getfield 184, 3) := by decide +kernel
theorem dX4_giveObject_47 : decode cX4_giveObject 47 = .ok (.iconst 1, 1) := by decide +kernel
theorem dX4_giveObject_48 : decode cX4_giveObject 48 = .ok (.isub, 1) := by decide +kernel
theorem dX4_giveObject_49 : decode cX4_giveObject 49 = .ok (.putfield 184, 3) := by decide +kernel
theorem dX4_giveObject_52 : decode cX4_giveObject 52 = .ok (.aload 4, 2) := by decide +kernel
theorem dX4_giveObject_54 : decode cX4_giveObject 54 = .ok (.invokevirtual 229, 3) := by decide +kernel
theorem dX4_giveObject_57 : decode cX4_giveObject 57 = .ok (.istore 5, 2) := by decide +kernel
theorem dX4_giveObject_59 : decode cX4_giveObject 59 = .ok (.iload 5, 2) := by decide +kernel
theorem dX4_giveObject_61 : decode cX4_giveObject 61 = .ok (.ifCond .ne 19, 3) := by decide +kernel
theorem dX4_giveObject_64 : decode cX4_giveObject 64 = .ok (.aload_n 1, 1) := by decide +kernel
theorem dX4_giveObject_65 : decode cX4_giveObject 65 = .ok (.getfield 98, 3) := by decide +kernel
theorem dX4_giveObject_68 : decode cX4_giveObject 68 = .ok (.iconst (-1), 1) := by decide +kernel
theorem dX4_giveObject_69 : decode cX4_giveObject 69 = .ok (.if_icmp .ne 11, 3) := by decide +kernel
theorem dX4_giveObject_72 : decode cX4_giveObject 72 = .ok (.aload_n 1, 1) := by decide +kernel
theorem dX4_giveObject_73 : decode cX4_giveObject 73 = .ok (.iload_n 3, 1) := by decide +kernel
theorem dX4_giveObject_74 : decode cX4_giveObject 74 = .ok (.putfield 98, 3) := by decide +kernel
theorem dX4_giveObject_77 : decode cX4_giveObject 77 = .ok (.goto 14, 3) := by decide +kernel
theorem dX4_giveObject_80 : decode cX4_giveObject 80 = .ok (.iload 5, 2) := by decide +kernel
theorem dX4_giveObject_82 : decode cX4_giveObject 82 = .ok (.ifCond .ne 9, 3) := by decide +kernel
theorem dX4_giveObject_85 : decode cX4_giveObject 85 = .ok (.aload_n 0, 1) := by decide +kernel
theorem dX4_giveObject_86 : decode cX4_giveObject 86 = .ok (.aload_n 1, 1) := by decide +kernel
theorem dX4_giveObject_87 : decode cX4_giveObject 87 = .ok (.iload_n 3, 1) := by decide +kernel
theorem dX4_giveObject_88 : decode cX4_giveObject 88 = .ok (.invokevirtual 101, 3) := by decide +kernel
theorem dX4_giveObject_91 : decode cX4_giveObject 91 = .ok (.iload 5, 2) := by decide +kernel
theorem dX4_giveObject_93 : decode cX4_giveObject 93 = .ok (.ireturn, 1) := by decide +kernel
theorem dX4_dropSlab_0 : decode cX4_dropSlab 0 = .ok (.aload_n 1, 1) := by decide +kernel
theorem dX4_dropSlab_1 : decode cX4_dropSlab 1 = .ok (.dup, 1) := by decide +kernel
theorem dX4_dropSlab_2 : decode cX4_dropSlab 2 = .ok (.getfield 223, 3) := by decide +kernel
theorem dX4_dropSlab_5 : decode cX4_dropSlab 5 = .ok (.iconst 1, 1) := by decide +kernel
theorem dX4_dropSlab_6 : decode cX4_dropSlab 6 = .ok (.isub, 1) := by decide +kernel
theorem dX4_dropSlab_7 : decode cX4_dropSlab 7 = .ok (.putfield 223, 3) := by decide +kernel
theorem dX4_dropSlab_10 : decode cX4_dropSlab 10 = .ok (.aload_n 0, 1) := by decide +kernel
theorem dX4_dropSlab_11 : decode cX4_dropSlab 11 = .ok (.getfield 19, 3) := by decide +kernel
theorem dX4_dropSlab_14 : decode cX4_dropSlab 14 = .ok (.iload_n 2, 1) := by decide +kernel
theorem dX4_dropSlab_15 : decode cX4_dropSlab 15 = .ok (.invokevirtual 76, 3) := by decide +kernel
theorem dX4_dropSlab_18 : decode cX4_dropSlab 18 = .ok (.return_, 1) := by decide +kernel
theorem dX4_kindFor_0 : decode cX4_kindFor 0 = .ok (.iconst 0, 1) := by decide +kernel
theorem dX4_kindFor_1 : decode cX4_kindFor 1 = .ok (.istore_n 1, 1) := by decide +kernel
theorem dX4_kindFor_2 : decode cX4_kindFor 2 = .ok (.iload_n 1, 1) := by decide +kernel
theorem dX4_kindFor_3 : decode cX4_kindFor 3 = .ok (.bipush 12, 2) := by decide +kernel
theorem dX4_kindFor_5 : decode cX4_kindFor 5 = .ok (.if_icmp .ge 17, 3) := by decide +kernel
theorem dX4_kindFor_8 : decode cX4_kindFor 8 = .ok (.iload_n 1, 1) := by decide +kernel
theorem dX4_kindFor_9 : decode cX4_kindFor 9 = .ok (.invokestatic 123, 3) := by decide +kernel
theorem dX4_kindFor_12 : decode cX4_kindFor 12 = .ok (.iload_n 0, 1) := by decide +kernel
theorem dX4_kindFor_13 : decode cX4_kindFor 13 = .ok (.if_icmp .ge 9, 3) := by decide +kernel
theorem dX4_kindFor_16 : decode cX4_kindFor 16 = .ok (.iinc 1 1, 3) := by decide +kernel
theorem dX4_kindFor_19 : decode cX4_kindFor 19 = .ok (.goto (-17), 3) := by decide +kernel
theorem dX4_kindFor_22 : decode cX4_kindFor 22 = .ok (.iload_n 1, 1) := by decide +kernel
theorem dX4_kindFor_23 : decode cX4_kindFor 23 = .ok (.ireturn, 1) := by decide +kernel
theorem dX4_bytesOfKind_0 : decode cX4_bytesOfKind 0 = .ok (.iload_n 0, 1) := by decide +kernel
theorem dX4_bytesOfKind_1 : decode cX4_bytesOfKind 1 = .ok (.bipush 6, 2) := by decide +kernel
theorem dX4_bytesOfKind_3 : decode cX4_bytesOfKind 3 = .ok (.if_icmp .ge 10, 3) := by decide +kernel
theorem dX4_bytesOfKind_6 : decode cX4_bytesOfKind 6 = .ok (.bipush 8, 2) := by decide +kernel
theorem dX4_bytesOfKind_8 : decode cX4_bytesOfKind 8 = .ok (.iload_n 0, 1) := by decide +kernel
theorem dX4_bytesOfKind_9 : decode cX4_bytesOfKind 9 = .ok (.ishl, 1) := by decide +kernel
theorem dX4_bytesOfKind_10 : decode cX4_bytesOfKind 10 = .ok (.goto 10, 3) := by decide +kernel
theorem dX4_bytesOfKind_13 : decode cX4_bytesOfKind 13 = .ok (.bipush 64, 2) := by decide +kernel
theorem dX4_bytesOfKind_15 : decode cX4_bytesOfKind 15 = .ok (.iload_n 0, 1) := by decide +kernel
theorem dX4_bytesOfKind_16 : decode cX4_bytesOfKind 16 = .ok (.bipush 6, 2) := by decide +kernel
theorem dX4_bytesOfKind_18 : decode cX4_bytesOfKind 18 = .ok (.isub, 1) := by decide +kernel
theorem dX4_bytesOfKind_19 : decode cX4_bytesOfKind 19 = .ok (.ishl, 1) := by decide +kernel
theorem dX4_bytesOfKind_20 : decode cX4_bytesOfKind 20 = .ok (.ireturn, 1) := by decide +kernel
theorem dX4_kindAt_0 : decode cX4_kindAt 0 = .ok (.aload_n 0, 1) := by decide +kernel
theorem dX4_kindAt_1 : decode cX4_kindAt 1 = .ok (.getfield 19, 3) := by decide +kernel
theorem dX4_kindAt_4 : decode cX4_kindAt 4 = .ok (.iload_n 1, 1) := by decide +kernel
theorem dX4_kindAt_5 : decode cX4_kindAt 5 = .ok (.bipush 64, 2) := by decide +kernel
theorem dX4_kindAt_7 : decode cX4_kindAt 7 = .ok (.idiv, 1) := by decide +kernel
theorem dX4_kindAt_8 : decode cX4_kindAt 8 = .ok (.invokevirtual 147, 3) := by decide +kernel
theorem dX4_kindAt_11 : decode cX4_kindAt 11 = .ok (.istore_n 2, 1) := by decide +kernel
theorem dX4_kindAt_12 : decode cX4_kindAt 12 = .ok (.aload_n 0, 1) := by decide +kernel
theorem dX4_kindAt_13 : decode cX4_kindAt 13 = .ok (.getfield 19, 3) := by decide +kernel
theorem dX4_kindAt_16 : decode cX4_kindAt 16 = .ok (.iload_n 2, 1) := by decide +kernel
theorem dX4_kindAt_17 : decode cX4_kindAt 17 = .ok (.invokevirtual 150, 3) := by decide +kernel
theorem dX4_kindAt_20 : decode cX4_kindAt 20 = .ok (.istore_n 3, 1) := by decide +kernel
theorem dX4_kindAt_21 : decode cX4_kindAt 21 = .ok (.iload_n 3, 1) := by decide +kernel
theorem dX4_kindAt_22 : decode cX4_kindAt 22 = .ok (.iconst 2, 1) := by decide +kernel
theorem dX4_kindAt_23 : decode cX4_kindAt 23 = .ok (.if_icmp .lt 9, 3) := by decide +kernel
theorem dX4_kindAt_26 : decode cX4_kindAt 26 = .ok (.iload_n 3, 1) := by decide +kernel
theorem dX4_kindAt_27 : decode cX4_kindAt 27 = .ok (.iconst 2, 1) := by decide +kernel
theorem dX4_kindAt_28 : decode cX4_kindAt 28 = .ok (.isub, 1) := by decide +kernel
theorem dX4_kindAt_29 : decode cX4_kindAt 29 = .ok (.goto 14, 3) := by decide +kernel
theorem dX4_kindAt_32 : decode cX4_kindAt 32 = .ok (.bipush 6, 2) := by decide +kernel
theorem dX4_kindAt_34 : decode cX4_kindAt 34 = .ok (.aload_n 0, 1) := by decide +kernel
theorem dX4_kindAt_35 : decode cX4_kindAt 35 = .ok (.getfield 19, 3) := by decide +kernel
theorem dX4_kindAt_38 : decode cX4_kindAt 38 = .ok (.iload_n 2, 1) := by decide +kernel
theorem dX4_kindAt_39 : decode cX4_kindAt 39 = .ok (.invokevirtual 73, 3) := by decide +kernel
theorem dX4_kindAt_42 : decode cX4_kindAt 42 = .ok (.iadd, 1) := by decide +kernel
theorem dX4_kindAt_43 : decode cX4_kindAt 43 = .ok (.ireturn, 1) := by decide +kernel
theorem dX4_takeKind_0 : decode cX4_takeKind 0 = .ok (.iload_n 1, 1) := by decide +kernel
theorem dX4_takeKind_1 : decode cX4_takeKind 1 = .ok (.bipush 6, 2) := by decide +kernel
theorem dX4_takeKind_3 : decode cX4_takeKind 3 = .ok (.if_icmp .ge 23, 3) := by decide +kernel
theorem dX4_takeKind_6 : decode cX4_takeKind 6 = .ok (.aload_n 0, 1) := by decide +kernel
theorem dX4_takeKind_7 : decode cX4_takeKind 7 = .ok (.iload_n 1, 1) := by decide +kernel
theorem dX4_takeKind_8 : decode cX4_takeKind 8 = .ok (.invokevirtual 83, 3) := by decide +kernel
theorem dX4_takeKind_11 : decode cX4_takeKind 11 = .ok (.astore_n 2, 1) := by decide +kernel
theorem dX4_takeKind_12 : decode cX4_takeKind 12 = .ok (.aload_n 2, 1) := by decide +kernel
theorem dX4_takeKind_13 : decode cX4_takeKind 13 = .ok (.ifnonnull 7, 3) := by decide +kernel
theorem dX4_takeKind_16 : decode cX4_takeKind 16 = .ok (.iconst (-1), 1) := by decide +kernel
theorem dX4_takeKind_17 : decode cX4_takeKind 17 = .ok (.goto 8, 3) := by decide +kernel
theorem dX4_takeKind_20 : decode cX4_takeKind 20 = .ok (.aload_n 0, 1) := by decide +kernel
theorem dX4_takeKind_21 : decode cX4_takeKind 21 = .ok (.aload_n 2, 1) := by decide +kernel
theorem dX4_takeKind_22 : decode cX4_takeKind 22 = .ok (.invokevirtual 87, 3) := by decide +kernel
theorem dX4_takeKind_25 : decode cX4_takeKind 25 = .ok (.ireturn, 1) := by decide +kernel
theorem dX4_takeKind_26 : decode cX4_takeKind 26 = .ok (.aload_n 0, 1) := by decide +kernel
theorem dX4_takeKind_27 : decode cX4_takeKind 27 = .ok (.getfield 19, 3) := by decide +kernel
theorem dX4_takeKind_30 : decode cX4_takeKind 30 = .ok (.iload_n 1, 1) := by decide +kernel
theorem dX4_takeKind_31 : decode cX4_takeKind 31 = .ok (.bipush 6, 2) := by decide +kernel
theorem dX4_takeKind_33 : decode cX4_takeKind 33 = .ok (.isub, 1) := by decide +kernel
theorem dX4_takeKind_34 : decode cX4_takeKind 34 = .ok (.iconst 1, 1) := by decide +kernel
theorem dX4_takeKind_35 : decode cX4_takeKind 35 = .ok (.invokevirtual 66, 3) := by decide +kernel
theorem dX4_takeKind_38 : decode cX4_takeKind 38 = .ok (.istore_n 2, 1) := by decide +kernel
theorem dX4_takeKind_39 : decode cX4_takeKind 39 = .ok (.iload_n 2, 1) := by decide +kernel
theorem dX4_takeKind_40 : decode cX4_takeKind 40 = .ok (.iconst (-1), 1) := by decide +kernel
theorem dX4_takeKind_41 : decode cX4_takeKind 41 = .ok (.if_icmp .ne 7, 3) := by decide +kernel
theorem dX4_takeKind_44 : decode cX4_takeKind 44 = .ok (.iconst (-1), 1) := by decide +kernel
theorem dX4_takeKind_45 : decode cX4_takeKind 45 = .ok (.goto 7, 3) := by decide +kernel
theorem dX4_takeKind_48 : decode cX4_takeKind 48 = .ok (.iload_n 2, 1) := by decide +kernel
theorem dX4_takeKind_49 : decode cX4_takeKind 49 = .ok (.bipush 64, 2) := by decide +kernel
theorem dX4_takeKind_51 : decode cX4_takeKind 51 = .ok (.imul, 1) := by decide +kernel
theorem dX4_takeKind_52 : decode cX4_takeKind 52 = .ok (.ireturn, 1) := by decide +kernel
theorem dX4_giveBySize_0 : decode cX4_giveBySize 0 = .ok (.aload_n 0, 1) := by decide +kernel
theorem dX4_giveBySize_1 : decode cX4_giveBySize 1 = .ok (.iload_n 1, 1) := by decide +kernel
theorem dX4_giveBySize_2 : decode cX4_giveBySize 2 = .ok (.invokevirtual 120, 3) := by decide +kernel
theorem dX4_giveBySize_5 : decode cX4_giveBySize 5 = .ok (.istore_n 2, 1) := by decide +kernel
theorem dX4_giveBySize_6 : decode cX4_giveBySize 6 = .ok (.iload_n 2, 1) := by decide +kernel
theorem dX4_giveBySize_7 : decode cX4_giveBySize 7 = .ok (.bipush 6, 2) := by decide +kernel
theorem dX4_giveBySize_9 : decode cX4_giveBySize 9 = .ok (.if_icmp .ge 11, 3) := by decide +kernel
theorem dX4_giveBySize_12 : decode cX4_giveBySize 12 = .ok (.aload_n 0, 1) := by decide +kernel
theorem dX4_giveBySize_13 : decode cX4_giveBySize 13 = .ok (.iload_n 2, 1) := by decide +kernel
theorem dX4_giveBySize_14 : decode cX4_giveBySize 14 = .ok (.invokevirtual 83, 3) := by decide +kernel
theorem dX4_giveBySize_17 : decode cX4_giveBySize 17 = .ok (.goto 4, 3) := by decide +kernel
theorem dX4_giveBySize_20 : decode cX4_giveBySize 20 = .ok (.aconst_null, 1) := by decide +kernel
theorem dX4_giveBySize_21 : decode cX4_giveBySize 21 = .ok (.astore_n 3, 1) := by decide +kernel
theorem dX4_giveBySize_22 : decode cX4_giveBySize 22 = .ok (.aload_n 3, 1) := by decide +kernel
theorem dX4_giveBySize_23 : decode cX4_giveBySize 23 = .ok (.ifnonnull 17, 3) := by decide +kernel
theorem dX4_giveBySize_26 : decode cX4_giveBySize 26 = .ok (.aload_n 0, 1) := by decide +kernel
theorem dX4_giveBySize_27 : decode cX4_giveBySize 27 = .ok (.getfield 19, 3) := by decide +kernel
theorem dX4_giveBySize_30 : decode cX4_giveBySize 30 = .ok (.iload_n 1, 1) := by decide +kernel
theorem dX4_giveBySize_31 : decode cX4_giveBySize 31 = .ok (.bipush 64, 2) := by decide +kernel
theorem dX4_giveBySize_33 : decode cX4_giveBySize 33 = .ok (.idiv, 1) := by decide +kernel
theorem dX4_giveBySize_34 : decode cX4_giveBySize 34 = .ok (.invokevirtual 76, 3) := by decide +kernel
theorem dX4_giveBySize_37 : decode cX4_giveBySize 37 = .ok (.goto 10, 3) := by decide +kernel
theorem dX4_giveBySize_40 : decode cX4_giveBySize 40 = .ok (.aload_n 0, 1) := by decide +kernel
theorem dX4_giveBySize_41 : decode cX4_giveBySize 41 = .ok (.aload_n 3, 1) := by decide +kernel
theorem dX4_giveBySize_42 : decode cX4_giveBySize 42 = .ok (.iload_n 1, 1) := by decide +kernel
theorem dX4_giveBySize_43 : decode cX4_giveBySize 43 = .ok (.invokevirtual 95, 3) := by decide +kernel
theorem dX4_giveBySize_46 : decode cX4_giveBySize 46 = .ok (.pop, 1) := by decide +kernel
theorem dX4_giveBySize_47 : decode cX4_giveBySize 47 = .ok (.return_, 1) := by decide +kernel
theorem dJ6_bitCount_0f7a4_0 : decode cJ6_bitCount_0f7a4 0 = .ok (.iload_n 0, 1) := by decide +kernel
theorem dJ6_bitCount_0f7a4_1 : decode cJ6_bitCount_0f7a4 1 = .ok (.iload_n 0, 1) := by decide +kernel
theorem dJ6_bitCount_0f7a4_2 : decode cJ6_bitCount_0f7a4 2 = .ok (.iconst 1, 1) := by decide +kernel
theorem dJ6_bitCount_0f7a4_3 : decode cJ6_bitCount_0f7a4 3 = .ok (.iushr, 1) := by decide +kernel
theorem dJ6_bitCount_0f7a4_4 : decode cJ6_bitCount_0f7a4 4 = .ok (.ldc_w 265, 3) := by decide +kernel
theorem dJ6_bitCount_0f7a4_7 : decode cJ6_bitCount_0f7a4 7 = .ok (.iand, 1) := by decide +kernel
theorem dJ6_bitCount_0f7a4_8 : decode cJ6_bitCount_0f7a4 8 = .ok (.isub, 1) := by decide +kernel
theorem dJ6_bitCount_0f7a4_9 : decode cJ6_bitCount_0f7a4 9 = .ok (.istore_n 0, 1) := by decide +kernel
theorem dJ6_bitCount_0f7a4_10 : decode cJ6_bitCount_0f7a4 10 = .ok (.iload_n 0, 1) := by decide +kernel
theorem dJ6_bitCount_0f7a4_11 : decode cJ6_bitCount_0f7a4 11 = .ok (.ldc_w 266, 3) := by decide +kernel
theorem dJ6_bitCount_0f7a4_14 : decode cJ6_bitCount_0f7a4 14 = .ok (.iand, 1) := by decide +kernel
theorem dJ6_bitCount_0f7a4_15 : decode cJ6_bitCount_0f7a4 15 = .ok (.iload_n 0, 1) := by decide +kernel
theorem dJ6_bitCount_0f7a4_16 : decode cJ6_bitCount_0f7a4 16 = .ok (.iconst 2, 1) := by decide +kernel
theorem dJ6_bitCount_0f7a4_17 : decode cJ6_bitCount_0f7a4 17 = .ok (.iushr, 1) := by decide +kernel
theorem dJ6_bitCount_0f7a4_18 : decode cJ6_bitCount_0f7a4 18 = .ok (.ldc_w 266, 3) := by decide +kernel
theorem dJ6_bitCount_0f7a4_21 : decode cJ6_bitCount_0f7a4 21 = .ok (.iand, 1) := by decide +kernel
theorem dJ6_bitCount_0f7a4_22 : decode cJ6_bitCount_0f7a4 22 = .ok (.iadd, 1) := by decide +kernel
theorem dJ6_bitCount_0f7a4_23 : decode cJ6_bitCount_0f7a4 23 = .ok (.istore_n 0, 1) := by decide +kernel
theorem dJ6_bitCount_0f7a4_24 : decode cJ6_bitCount_0f7a4 24 = .ok (.iload_n 0, 1) := by decide +kernel
theorem dJ6_bitCount_0f7a4_25 : decode cJ6_bitCount_0f7a4 25 = .ok (.iload_n 0, 1) := by decide +kernel
theorem dJ6_bitCount_0f7a4_26 : decode cJ6_bitCount_0f7a4 26 = .ok (.iconst 4, 1) := by decide +kernel
theorem dJ6_bitCount_0f7a4_27 : decode cJ6_bitCount_0f7a4 27 = .ok (.iushr, 1) := by decide +kernel
theorem dJ6_bitCount_0f7a4_28 : decode cJ6_bitCount_0f7a4 28 = .ok (.iadd, 1) := by decide +kernel
theorem dJ6_bitCount_0f7a4_29 : decode cJ6_bitCount_0f7a4 29 = .ok (.ldc_w 267, 3) := by decide +kernel
theorem dJ6_bitCount_0f7a4_32 : decode cJ6_bitCount_0f7a4 32 = .ok (.iand, 1) := by decide +kernel
theorem dJ6_bitCount_0f7a4_33 : decode cJ6_bitCount_0f7a4 33 = .ok (.istore_n 0, 1) := by decide +kernel
theorem dJ6_bitCount_0f7a4_34 : decode cJ6_bitCount_0f7a4 34 = .ok (.iload_n 0, 1) := by decide +kernel
theorem dJ6_bitCount_0f7a4_35 : decode cJ6_bitCount_0f7a4 35 = .ok (.iload_n 0, 1) := by decide +kernel
theorem dJ6_bitCount_0f7a4_36 : decode cJ6_bitCount_0f7a4 36 = .ok (.bipush 8, 2) := by decide +kernel
theorem dJ6_bitCount_0f7a4_38 : decode cJ6_bitCount_0f7a4 38 = .ok (.iushr, 1) := by decide +kernel
theorem dJ6_bitCount_0f7a4_39 : decode cJ6_bitCount_0f7a4 39 = .ok (.iadd, 1) := by decide +kernel
theorem dJ6_bitCount_0f7a4_40 : decode cJ6_bitCount_0f7a4 40 = .ok (.istore_n 0, 1) := by decide +kernel
theorem dJ6_bitCount_0f7a4_41 : decode cJ6_bitCount_0f7a4 41 = .ok (.iload_n 0, 1) := by decide +kernel
theorem dJ6_bitCount_0f7a4_42 : decode cJ6_bitCount_0f7a4 42 = .ok (.iload_n 0, 1) := by decide +kernel
theorem dJ6_bitCount_0f7a4_43 : decode cJ6_bitCount_0f7a4 43 = .ok (.bipush 16, 2) := by decide +kernel
theorem dJ6_bitCount_0f7a4_45 : decode cJ6_bitCount_0f7a4 45 = .ok (.iushr, 1) := by decide +kernel
theorem dJ6_bitCount_0f7a4_46 : decode cJ6_bitCount_0f7a4 46 = .ok (.iadd, 1) := by decide +kernel
theorem dJ6_bitCount_0f7a4_47 : decode cJ6_bitCount_0f7a4 47 = .ok (.istore_n 0, 1) := by decide +kernel
theorem dJ6_bitCount_0f7a4_48 : decode cJ6_bitCount_0f7a4 48 = .ok (.iload_n 0, 1) := by decide +kernel
theorem dJ6_bitCount_0f7a4_49 : decode cJ6_bitCount_0f7a4 49 = .ok (.bipush 63, 2) := by decide +kernel
theorem dJ6_bitCount_0f7a4_51 : decode cJ6_bitCount_0f7a4 51 = .ok (.iand, 1) := by decide +kernel
theorem dJ6_bitCount_0f7a4_52 : decode cJ6_bitCount_0f7a4 52 = .ok (.ireturn, 1) := by decide +kernel
theorem dJ9_max_7cf53_0 : decode cJ9_max_7cf53 0 = .ok (.iload_n 0, 1) := by decide +kernel
theorem dJ9_max_7cf53_1 : decode cJ9_max_7cf53 1 = .ok (.iload_n 1, 1) := by decide +kernel
theorem dJ9_max_7cf53_2 : decode cJ9_max_7cf53 2 = .ok (.if_icmp .lt 7, 3) := by decide +kernel
theorem dJ9_max_7cf53_5 : decode cJ9_max_7cf53 5 = .ok (.iload_n 0, 1) := by decide +kernel
theorem dJ9_max_7cf53_6 : decode cJ9_max_7cf53 6 = .ok (.goto 4, 3) := by decide +kernel
theorem dJ9_max_7cf53_9 : decode cJ9_max_7cf53 9 = .ok (.iload_n 1, 1) := by decide +kernel
theorem dJ9_max_7cf53_10 : decode cJ9_max_7cf53 10 = .ok (.ireturn, 1) := by decide +kernel
theorem dJ9_min_7cf53_0 : decode cJ9_min_7cf53 0 = .ok (.iload_n 0, 1) := by decide +kernel
theorem dJ9_min_7cf53_1 : decode cJ9_min_7cf53 1 = .ok (.iload_n 1, 1) := by decide +kernel
theorem dJ9_min_7cf53_2 : decode cJ9_min_7cf53 2 = .ok (.if_icmp .gt 7, 3) := by decide +kernel
theorem dJ9_min_7cf53_5 : decode cJ9_min_7cf53 5 = .ok (.iload_n 0, 1) := by decide +kernel
theorem dJ9_min_7cf53_6 : decode cJ9_min_7cf53 6 = .ok (.goto 4, 3) := by decide +kernel
theorem dJ9_min_7cf53_9 : decode cJ9_min_7cf53 9 = .ok (.iload_n 1, 1) := by decide +kernel
theorem dJ9_min_7cf53_10 : decode cJ9_min_7cf53 10 = .ok (.ireturn, 1) := by decide +kernel
