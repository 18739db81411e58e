theorem dX9_tests_169 : decode cX9_tests 169 = .ok (.aload_n 0, 1) := by decide +kernel
theorem dX9_tests_170 : decode cX9_tests 170 = .ok (.getfield 57, 3) := by decide +kernel
theorem dX9_tests_173 : decode cX9_tests 173 = .ok (.iconst 0, 1) := by decide +kernel
theorem dX9_tests_174 : decode cX9_tests 174 = .ok (.iaload, 1) := by decide +kernel
theorem dX9_tests_175 : decode cX9_tests 175 = .ok (.ireturn, 1) := by decide +kernel
theorem dX9_voteOf_0 : decode cX9_voteOf 0 = .ok (.bipush (-9), 2) := by decide +kernel
theorem dX9_voteOf_2 : decode cX9_voteOf 2 = .ok (.istore_n 2, 1) := by decide +kernel
theorem dX9_voteOf_3 : decode cX9_voteOf 3 = .ok (.iconst 0, 1) := by decide +kernel
theorem dX9_voteOf_4 : decode cX9_voteOf 4 = .ok (.istore_n 3, 1) := by decide +kernel
theorem dX9_voteOf_5 : decode cX9_voteOf 5 = .ok (.iload_n 3, 1) := by decide +kernel
theorem dX9_voteOf_6 : decode cX9_voteOf 6 = .ok (.aload_n 0, 1) := by decide +kernel
theorem dX9_voteOf_7 : decode cX9_voteOf 7 = .ok (.getfield 80, 3) := by decide +kernel
theorem dX9_voteOf_10 : decode cX9_voteOf 10 = .ok (.if_icmp .ge 77, 3) := by decide +kernel
theorem dX9_voteOf_13 : decode cX9_voteOf 13 = .ok (.iload_n 3, 1) := by decide +kernel
theorem dX9_voteOf_14 : decode cX9_voteOf 14 = .ok (.iload_n 1, 1) := by decide +kernel
theorem dX9_voteOf_15 : decode cX9_voteOf 15 = .ok (.if_icmp .eq 33, 3) := by decide +kernel
theorem dX9_voteOf_18 : decode cX9_voteOf 18 = .ok (.aload_n 0, 1) := by decide +kernel
theorem dX9_voteOf_19 : decode cX9_voteOf 19 = .ok (.iload_n 3, 1) := by decide +kernel
theorem dX9_voteOf_20 : decode cX9_voteOf 20 = .ok (.invokevirtual 87, 3) := by decide +kernel
theorem dX9_voteOf_23 : decode cX9_voteOf 23 = .ok (.ifCond .eq 25, 3) := by decide +kernel
theorem dX9_voteOf_26 : decode cX9_voteOf 26 = .ok (.aload_n 0, 1) := by decide +kernel
theorem dX9_voteOf_27 : decode cX9_voteOf 27 = .ok (.iload_n 1, 1) := by decide +kernel
theorem dX9_voteOf_28 : decode cX9_voteOf 28 = .ok (.iconst 0, 1) := by decide +kernel
theorem dX9_voteOf_29 : decode cX9_voteOf 29 = .ok (.invokevirtual 83, 3) := by decide +kernel
theorem dX9_voteOf_32 : decode cX9_voteOf 32 = .ok (.ifCond .eq 12, 3) := by decide +kernel
theorem dX9_voteOf_35 : decode cX9_voteOf 35 = .ok (.aload_n 0, 1) := by decide +kernel
theorem dX9_voteOf_36 : decode cX9_voteOf 36 = .ok (.iload_n 3, 1) := by decide +kernel
theorem dX9_voteOf_37 : decode cX9_voteOf 37 = .ok (.iconst 0, 1) := by decide +kernel
theorem dX9_voteOf_38 : decode cX9_voteOf 38 = .ok (.invokevirtual 83, 3) := by decide +kernel
theorem dX9_voteOf_41 : decode cX9_voteOf 41 = .ok (.ifCond .ne 7, 3) := by decide +kernel
theorem dX9_voteOf_44 : decode cX9_voteOf 44 = .ok (.iconst 1, 1) := by decide +kernel
theorem dX9_voteOf_45 : decode cX9_voteOf 45 = .ok (.goto 4, 3) := by decide +kernel
theorem dX9_voteOf_48 : decode cX9_voteOf 48 = .ok (.iconst 0, 1) := by decide +kernel
theorem dX9_voteOf_49 : decode cX9_voteOf 49 = .ok (.istore 4, 2) := by decide +kernel
theorem dX9_voteOf_51 : decode cX9_voteOf 51 = .ok (.iload 4, 2) := by decide +kernel
theorem dX9_voteOf_53 : decode cX9_voteOf 53 = .ok (.ifCond .eq 26, 3) := by decide +kernel
theorem dX9_voteOf_56 : decode cX9_voteOf 56 = .ok (.iload_n 2, 1) := by decide +kernel
theorem dX9_voteOf_57 : decode cX9_voteOf 57 = .ok (.bipush (-9), 2) := by decide +kernel
theorem dX9_voteOf_59 : decode cX9_voteOf 59 = .ok (.if_icmp .eq 16, 3) := by decide +kernel
theorem dX9_voteOf_62 : decode cX9_voteOf 62 = .ok (.aload_n 0, 1) := by decide +kernel
theorem dX9_voteOf_63 : decode cX9_voteOf 63 = .ok (.iload_n 3, 1) := by decide +kernel
theorem dX9_voteOf_64 : decode cX9_voteOf 64 = .ok (.invokevirtual 231, 3) := by decide +kernel
theorem dX9_voteOf_67 : decode cX9_voteOf 67 = .ok (.aload_n 0, 1) := by decide +kernel
theorem dX9_voteOf_68 : decode cX9_voteOf 68 = .ok (.iload_n 2, 1) := by decide +kernel
theorem dX9_voteOf_69 : decode cX9_voteOf 69 = .ok (.invokevirtual 231, 3) := by decide +kernel
theorem dX9_voteOf_72 : decode cX9_voteOf 72 = .ok (.if_icmp .le 7, 3) := by decide +kernel
theorem dX9_voteOf_75 : decode cX9_voteOf 75 = .ok (.iload_n 3, 1) := by decide +kernel
theorem dX9_voteOf_76 : decode cX9_voteOf 76 = .ok (.goto 4, 3) := by decide +kernel
theorem dX9_voteOf_79 : decode cX9_voteOf 79 = .ok (.iload_n 2, 1) := by decide +kernel
theorem dX9_voteOf_80 : decode cX9_voteOf 80 = .ok (.istore_n 2, 1) := by decide +kernel
theorem dX9_voteOf_81 : decode cX9_voteOf 81 = .ok (.iinc 3 1, 3) := by decide +kernel
theorem dX9_voteOf_84 : decode cX9_voteOf 84 = .ok (.goto (-79), 3) := by decide +kernel
theorem dX9_voteOf_87 : decode cX9_voteOf 87 = .ok (.iload_n 2, 1) := by decide +kernel
theorem dX9_voteOf_88 : decode cX9_voteOf 88 = .ok (.ireturn, 1) := by decide +kernel
theorem dX9_vote_0 : decode cX9_vote 0 = .ok (.aload_n 0, 1) := by decide +kernel
theorem dX9_vote_1 : decode cX9_vote 1 = .ok (.iconst 0, 1) := by decide +kernel
theorem dX9_vote_2 : decode cX9_vote 2 = .ok (.putfield 69, 3) := by decide +kernel
theorem dX9_vote_5 : decode cX9_vote 5 = .ok (.aload_n 0, 1) := by decide +kernel
theorem dX9_vote_6 : decode cX9_vote 6 = .ok (.iload_n 1, 1) := by decide +kernel
theorem dX9_vote_7 : decode cX9_vote 7 = .ok (.invokevirtual 168, 3) := by decide +kernel
theorem dX9_vote_10 : decode cX9_vote 10 = .ok (.ifCond .eq 5, 3) := by decide +kernel
theorem dX9_vote_13 : decode cX9_vote 13 = .ok (.iconst (-1), 1) := by decide +kernel
theorem dX9_vote_14 : decode cX9_vote 14 = .ok (.ireturn, 1) := by decide +kernel
theorem dX9_vote_15 : decode cX9_vote 15 = .ok (.aload_n 0, 1) := by decide +kernel
theorem dX9_vote_16 : decode cX9_vote 16 = .ok (.iload_n 1, 1) := by decide +kernel
theorem dX9_vote_17 : decode cX9_vote 17 = .ok (.invokevirtual 87, 3) := by decide +kernel
theorem dX9_vote_20 : decode cX9_vote 20 = .ok (.ifCond .ne 6, 3) := by decide +kernel
theorem dX9_vote_23 : decode cX9_vote 23 = .ok (.bipush (-3), 2) := by decide +kernel
theorem dX9_vote_25 : decode cX9_vote 25 = .ok (.ireturn, 1) := by decide +kernel
theorem dX9_vote_26 : decode cX9_vote 26 = .ok (.aload_n 0, 1) := by decide +kernel
theorem dX9_vote_27 : decode cX9_vote 27 = .ok (.invokevirtual 228, 3) := by decide +kernel
theorem dX9_vote_30 : decode cX9_vote 30 = .ok (.aload_n 0, 1) := by decide +kernel
theorem dX9_vote_31 : decode cX9_vote 31 = .ok (.iload_n 1, 1) := by decide +kernel
theorem dX9_vote_32 : decode cX9_vote 32 = .ok (.invokevirtual 248, 3) := by decide +kernel
theorem dX9_vote_35 : decode cX9_vote 35 = .ok (.ireturn, 1) := by decide +kernel
theorem dX9_hanged_0 : decode cX9_hanged 0 = .ok (.aload_n 0, 1) := by decide +kernel
theorem dX9_hanged_1 : decode cX9_hanged 1 = .ok (.iconst 0, 1) := by decide +kernel
theorem dX9_hanged_2 : decode cX9_hanged 2 = .ok (.putfield 69, 3) := by decide +kernel
theorem dX9_hanged_5 : decode cX9_hanged 5 = .ok (.aload_n 0, 1) := by decide +kernel
theorem dX9_hanged_6 : decode cX9_hanged 6 = .ok (.invokevirtual 228, 3) := by decide +kernel
theorem dX9_hanged_9 : decode cX9_hanged 9 = .ok (.iconst 0, 1) := by decide +kernel
theorem dX9_hanged_10 : decode cX9_hanged 10 = .ok (.istore_n 1, 1) := by decide +kernel
theorem dX9_hanged_11 : decode cX9_hanged 11 = .ok (.iload_n 1, 1) := by decide +kernel
theorem dX9_hanged_12 : decode cX9_hanged 12 = .ok (.bipush 6, 2) := by decide +kernel
theorem dX9_hanged_14 : decode cX9_hanged 14 = .ok (.if_icmp .ge 16, 3) := by decide +kernel
theorem dX9_hanged_17 : decode cX9_hanged 17 = .ok (.aload_n 0, 1) := by decide +kernel
theorem dX9_hanged_18 : decode cX9_hanged 18 = .ok (.getfield 60, 3) := by decide +kernel
theorem dX9_hanged_21 : decode cX9_hanged 21 = .ok (.iload_n 1, 1) := by decide +kernel
theorem dX9_hanged_22 : decode cX9_hanged 22 = .ok (.iconst 0, 1) := by decide +kernel
theorem dX9_hanged_23 : decode cX9_hanged 23 = .ok (.iastore, 1) := by decide +kernel
theorem dX9_hanged_24 : decode cX9_hanged 24 = .ok (.iinc 1 1, 3) := by decide +kernel
theorem dX9_hanged_27 : decode cX9_hanged 27 = .ok (.goto (-16), 3) := by decide +kernel
theorem dX9_hanged_30 : decode cX9_hanged 30 = .ok (.iconst 0, 1) := by decide +kernel
theorem dX9_hanged_31 : decode cX9_hanged 31 = .ok (.istore_n 1, 1) := by decide +kernel
theorem dX9_hanged_32 : decode cX9_hanged 32 = .ok (.iload_n 1, 1) := by decide +kernel
theorem dX9_hanged_33 : decode cX9_hanged 33 = .ok (.aload_n 0, 1) := by decide +kernel
theorem dX9_hanged_34 : decode cX9_hanged 34 = .ok (.getfield 80, 3) := by decide +kernel
theorem dX9_hanged_37 : decode cX9_hanged 37 = .ok (.if_icmp .ge 44, 3) := by decide +kernel
theorem dX9_hanged_40 : decode cX9_hanged 40 = .ok (.aload_n 0, 1) := by decide +kernel
theorem dX9_hanged_41 : decode cX9_hanged 41 = .ok (.iload_n 1, 1) := by decide +kernel
theorem dX9_hanged_42 : decode cX9_hanged 42 = .ok (.invokevirtual 87, 3) := by decide +kernel
theorem dX9_hanged_45 : decode cX9_hanged 45 = .ok (.ifCond .eq 11, 3) := by decide +kernel
theorem dX9_hanged_48 : decode cX9_hanged 48 = .ok (.aload_n 0, 1) := by decide +kernel
theorem dX9_hanged_49 : decode cX9_hanged 49 = .ok (.iload_n 1, 1) := by decide +kernel
theorem dX9_hanged_50 : decode cX9_hanged 50 = .ok (.invokevirtual 248, 3) := by decide +kernel
theorem dX9_hanged_53 : decode cX9_hanged 53 = .ok (.goto 5, 3) := by decide +kernel
theorem dX9_hanged_56 : decode cX9_hanged 56 = .ok (.bipush (-9), 2) := by decide +kernel
theorem dX9_hanged_58 : decode cX9_hanged 58 = .ok (.istore_n 2, 1) := by decide +kernel
theorem dX9_hanged_59 : decode cX9_hanged 59 = .ok (.iload_n 2, 1) := by decide +kernel
theorem dX9_hanged_60 : decode cX9_hanged 60 = .ok (.bipush (-9), 2) := by decide +kernel
theorem dX9_hanged_62 : decode cX9_hanged 62 = .ok (.if_icmp .eq 13, 3) := by decide +kernel
theorem dX9_hanged_65 : decode cX9_hanged 65 = .ok (.aload_n 0, 1) := by decide +kernel
theorem dX9_hanged_66 : decode cX9_hanged 66 = .ok (.getfield 60, 3) := by decide +kernel
theorem dX9_hanged_69 : decode cX9_hanged 69 = .ok (.iload_n 2, 1) := by decide +kernel
theorem dX9_hanged_70 : decode cX9_hanged 70 = .ok (.dup2, 1) := by decide +kernel
theorem dX9_hanged_71 : decode cX9_hanged 71 = .ok (.iaload, 1) := by decide +kernel
theorem dX9_hanged_72 : decode cX9_hanged 72 = .ok (.iconst 1, 1) := by decide +kernel
theorem dX9_hanged_73 : decode cX9_hanged 73 = .ok (.iadd, 1) := by decide +kernel
theorem dX9_hanged_74 : decode cX9_hanged 74 = .ok (.iastore, 1) := by decide +kernel
theorem dX9_hanged_75 : decode cX9_hanged 75 = .ok (.iinc 1 1, 3) := by decide +kernel
theorem dX9_hanged_78 : decode cX9_hanged 78 = .ok (.goto (-46), 3) := by decide +kernel
theorem dX9_hanged_81 : decode cX9_hanged 81 = .ok (.bipush (-9), 2) := by decide +kernel
theorem dX9_hanged_83 : decode cX9_hanged 83 = .ok (.istore_n 1, 1) := by decide +kernel
theorem dX9_hanged_84 : decode cX9_hanged 84 = .ok (.iconst 0, 1) := by decide +kernel
theorem dX9_hanged_85 : decode cX9_hanged 85 = .ok (.istore_n 2, 1) := by decide +kernel
theorem dX9_hanged_86 : decode cX9_hanged 86 = .ok (.iload_n 2, 1) := by decide +kernel
theorem dX9_hanged_87 : decode cX9_hanged 87 = .ok (.aload_n 0, 1) := by decide +kernel
theorem dX9_hanged_88 : decode cX9_hanged 88 = .ok (.getfield 80, 3) := by decide +kernel
theorem dX9_hanged_91 : decode cX9_hanged 91 = .ok (.if_icmp .ge 45, 3) := by decide +kernel
theorem dX9_hanged_94 : decode cX9_hanged 94 = .ok (.aload_n 0, 1) := by decide +kernel
theorem dX9_hanged_95 : decode cX9_hanged 95 = .ok (.getfield 60, 3) := by decide +kernel
theorem dX9_hanged_98 : decode cX9_hanged 98 = .ok (.iload_n 2, 1) := by decide +kernel
theorem dX9_hanged_99 : decode cX9_hanged 99 = .ok (.iaload, 1) := by decide +kernel
theorem dX9_hanged_100 : decode cX9_hanged 100 = .ok (.ifCond .le 28, 3) := by decide +kernel
theorem dX9_hanged_103 : decode cX9_hanged 103 = .ok (.iload_n 1, 1) := by decide +kernel
theorem dX9_hanged_104 : decode cX9_hanged 104 = .ok (.bipush (-9), 2) := by decide +kernel
theorem dX9_hanged_106 : decode cX9_hanged 106 = .ok (.if_icmp .eq 18, 3) := by decide +kernel
theorem dX9_hanged_109 : decode cX9_hanged 109 = .ok (.aload_n 0, 1) := by decide +kernel
theorem dX9_hanged_110 : decode cX9_hanged 110 = .ok (.getfield 60, 3) := by decide +kernel
theorem dX9_hanged_113 : decode cX9_hanged 113 = .ok (.iload_n 2, 1) := by decide +kernel
theorem dX9_hanged_114 : decode cX9_hanged 114 = .ok (.iaload, 1) := by decide +kernel
theorem dX9_hanged_115 : decode cX9_hanged 115 = .ok (.aload_n 0, 1) := by decide +kernel
theorem dX9_hanged_116 : decode cX9_hanged 116 = .ok (.getfield 60, 3) := by decide +kernel
theorem dX9_hanged_119 : decode cX9_hanged 119 = .ok (.iload_n 1, 1) := by decide +kernel
theorem dX9_hanged_120 : decode cX9_hanged 120 = .ok (.iaload, 1) := by decide +kernel
theorem dX9_hanged_121 : decode cX9_hanged 121 = .ok (.if_icmp .le 7, 3) := by decide +kernel
theorem dX9_hanged_124 : decode cX9_hanged 124 = .ok (.iload_n 2, 1) := by decide +kernel
theorem dX9_hanged_125 : decode cX9_hanged 125 = .ok (.goto 4, 3) := by decide +kernel
theorem dX9_hanged_128 : decode cX9_hanged 128 = .ok (.iload_n 1, 1) := by decide +kernel
theorem dX9_hanged_129 : decode cX9_hanged 129 = .ok (.istore_n 1, 1) := by decide +kernel
theorem dX9_hanged_130 : decode cX9_hanged 130 = .ok (.iinc 2 1, 3) := by decide +kernel
theorem dX9_hanged_133 : decode cX9_hanged 133 = .ok (.goto (-47), 3) := by decide +kernel
theorem dX9_hanged_136 : decode cX9_hanged 136 = .ok (.iload_n 1, 1) := by decide +kernel
theorem dX9_hanged_137 : decode cX9_hanged 137 = .ok (.ireturn, 1) := by decide +kernel
theorem dX9_safe_0 : decode cX9_safe 0 = .ok (.aload_n 0, 1) := by decide +kernel
theorem dX9_safe_1 : decode cX9_safe 1 = .ok (.iconst 0, 1) := by decide +kernel
theorem dX9_safe_2 : decode cX9_safe 2 = .ok (.putfield 69, 3) := by decide +kernel
theorem dX9_safe_5 : decode cX9_safe 5 = .ok (.iconst 0, 1) := by decide +kernel
theorem dX9_safe_6 : decode cX9_safe 6 = .ok (.istore_n 1, 1) := by decide +kernel
theorem dX9_safe_7 : decode cX9_safe 7 = .ok (.iconst 0, 1) := by decide +kernel
theorem dX9_safe_8 : decode cX9_safe 8 = .ok (.istore_n 2, 1) := by decide +kernel
theorem dX9_safe_9 : decode cX9_safe 9 = .ok (.iconst 0, 1) := by decide +kernel
theorem dX9_safe_10 : decode cX9_safe 10 = .ok (.istore_n 3, 1) := by decide +kernel
theorem dX9_safe_11 : decode cX9_safe 11 = .ok (.iload_n 3, 1) := by decide +kernel
theorem dX9_safe_12 : decode cX9_safe 12 = .ok (.aload_n 0, 1) := by decide +kernel
theorem dX9_safe_13 : decode cX9_safe 13 = .ok (.getfield 80, 3) := by decide +kernel
theorem dX9_safe_16 : decode cX9_safe 16 = .ok (.if_icmp .ge 71, 3) := by decide +kernel
theorem dX9_safe_19 : decode cX9_safe 19 = .ok (.iload_n 1, 1) := by decide +kernel
theorem dX9_safe_20 : decode cX9_safe 20 = .ok (.aload_n 0, 1) := by decide +kernel
theorem dX9_safe_21 : decode cX9_safe 21 = .ok (.iload_n 3, 1) := by decide +kernel
theorem dX9_safe_22 : decode cX9_safe 22 = .ok (.iconst 0, 1) := by decide +kernel
theorem dX9_safe_23 : decode cX9_safe 23 = .ok (.invokevirtual 83, 3) := by decide +kernel
theorem dX9_safe_26 : decode cX9_safe 26 = .ok (.iconst 1, 1) := by decide +kernel
theorem dX9_safe_27 : decode cX9_safe 27 = .ok (.if_icmp .ne 19, 3) := by decide +kernel
theorem dX9_safe_30 : decode cX9_safe 30 = .ok (.aload_n 0, 1) := by decide +kernel
theorem dX9_safe_31 : decode cX9_safe 31 = .ok (.iload_n 3, 1) := by decide +kernel
theorem dX9_safe_32 : decode cX9_safe 32 = .ok (.invokevirtual 87, 3) := by decide +kernel
theorem dX9_safe_35 : decode cX9_safe 35 = .ok (.ifCond .eq 11, 3) := by decide +kernel
theorem dX9_safe_38 : decode cX9_safe 38 = .ok (.aload_n 0, 1) := by decide +kernel
theorem dX9_safe_39 : decode cX9_safe 39 = .ok (.iload_n 3, 1) := by decide +kernel
theorem dX9_safe_40 : decode cX9_safe 40 = .ok (.invokevirtual 174, 3) := by decide +kernel
theorem dX9_safe_43 : decode cX9_safe 43 = .ok (.goto 4, 3) := by decide +kernel
theorem dX9_safe_46 : decode cX9_safe 46 = .ok (.iconst 0, 1) := by decide +kernel
theorem dX9_safe_47 : decode cX9_safe 47 = .ok (.ior, 1) := by decide +kernel
theorem dX9_safe_48 : decode cX9_safe 48 = .ok (.istore_n 1, 1) := by decide +kernel
theorem dX9_safe_49 : decode cX9_safe 49 = .ok (.iload_n 2, 1) := by decide +kernel
theorem dX9_safe_50 : decode cX9_safe 50 = .ok (.aload_n 0, 1) := by decide +kernel
theorem dX9_safe_51 : decode cX9_safe 51 = .ok (.iload_n 3, 1) := by decide +kernel
theorem dX9_safe_52 : decode cX9_safe 52 = .ok (.iconst 0, 1) := by decide +kernel
theorem dX9_safe_53 : decode cX9_safe 53 = .ok (.invokevirtual 83, 3) := by decide +kernel
theorem dX9_safe_56 : decode cX9_safe 56 = .ok (.ifCond .ne 22, 3) := by decide +kernel
theorem dX9_safe_59 : decode cX9_safe 59 = .ok (.aload_n 0, 1) := by decide +kernel
theorem dX9_safe_60 : decode cX9_safe 60 = .ok (.iload_n 3, 1) := by decide +kernel
theorem dX9_safe_61 : decode cX9_safe 61 = .ok (.invokevirtual 87, 3) := by decide +kernel
theorem dX9_safe_64 : decode cX9_safe 64 = .ok (.ifCond .eq 14, 3) := by decide +kernel
theorem dX9_safe_67 : decode cX9_safe 67 = .ok (.iconst 1, 1) := by decide +kernel
theorem dX9_safe_68 : decode cX9_safe 68 = .ok (.aload_n 0, 1) := by decide +kernel
theorem dX9_safe_69 : decode cX9_safe 69 = .ok (.getfield 13, 3) := by decide +kernel
theorem dX9_safe_72 : decode cX9_safe 72 = .ok (.iload_n 3, 1) := by decide +kernel
theorem dX9_safe_73 : decode cX9_safe 73 = .ok (.iaload, 1) := by decide +kernel
theorem dX9_safe_74 : decode cX9_safe 74 = .ok (.ishl, 1) := by decide +kernel
theorem dX9_safe_75 : decode cX9_safe 75 = .ok (.goto 4, 3) := by decide +kernel
theorem dX9_safe_78 : decode cX9_safe 78 = .ok (.iconst 0, 1) := by decide +kernel
theorem dX9_safe_79 : decode cX9_safe 79 = .ok (.ior, 1) := by decide +kernel
theorem dX9_safe_80 : decode cX9_safe 80 = .ok (.istore_n 2, 1) := by decide +kernel
theorem dX9_safe_81 : decode cX9_safe 81 = .ok (.iinc 3 1, 3) := by decide +kernel
theorem dX9_safe_84 : decode cX9_safe 84 = .ok (.goto (-73), 3) := by decide +kernel
theorem dX9_safe_87 : decode cX9_safe 87 = .ok (.iload_n 1, 1) := by decide +kernel
theorem dX9_safe_88 : decode cX9_safe 88 = .ok (.iload_n 2, 1) := by decide +kernel
theorem dX9_safe_89 : decode cX9_safe 89 = .ok (.iand, 1) := by decide +kernel
theorem dX9_safe_90 : decode cX9_safe 90 = .ok (.ireturn, 1) := by decide +kernel
theorem dX9_locked_0 : decode cX9_locked 0 = .ok (.aload_n 0, 1) := by decide +kernel
theorem dX9_locked_1 : decode cX9_locked 1 = .ok (.iconst 0, 1) := by decide +kernel
theorem dX9_locked_2 : decode cX9_locked 2 = .ok (.putfield 69, 3) := by decide +kernel
theorem dX9_locked_5 : decode cX9_locked 5 = .ok (.aload_n 0, 1) := by decide +kernel
theorem dX9_locked_6 : decode cX9_locked 6 = .ok (.invokevirtual 228, 3) := by decide +kernel
theorem dX9_locked_9 : decode cX9_locked 9 = .ok (.aload_n 0, 1) := by decide +kernel
theorem dX9_locked_10 : decode cX9_locked 10 = .ok (.invokevirtual 234, 3) := by decide +kernel
theorem dX9_locked_13 : decode cX9_locked 13 = .ok (.istore_n 1, 1) := by decide +kernel
theorem dX9_locked_14 : decode cX9_locked 14 = .ok (.bipush (-9), 2) := by decide +kernel
theorem dX9_locked_16 : decode cX9_locked 16 = .ok (.istore_n 2, 1) := by decide +kernel
theorem dX9_locked_17 : decode cX9_locked 17 = .ok (.iconst 0, 1) := by decide +kernel
theorem dX9_locked_18 : decode cX9_locked 18 = .ok (.istore_n 3, 1) := by decide +kernel
theorem dX9_locked_19 : decode cX9_locked 19 = .ok (.iload_n 3, 1) := by decide +kernel
theorem dX9_locked_20 : decode cX9_locked 20 = .ok (.iconst 1, 1) := by decide +kernel
theorem dX9_locked_21 : decode cX9_locked 21 = .ok (.aload_n 0, 1) := by decide +kernel
theorem dX9_locked_22 : decode cX9_locked 22 = .ok (.getfield 73, 3) := by decide +kernel
theorem dX9_locked_25 : decode cX9_locked 25 = .ok (.ishl, 1) := by decide +kernel
theorem dX9_locked_26 : decode cX9_locked 26 = .ok (.if_icmp .ge 106, 3) := by decide +kernel
theorem dX9_locked_29 : decode cX9_locked 29 = .ok (.iconst 1, 1) := by decide +kernel
theorem dX9_locked_30 : decode cX9_locked 30 = .ok (.istore 4, 2) := by decide +kernel
theorem dX9_locked_32 : decode cX9_locked 32 = .ok (.iconst 0, 1) := by decide +kernel
theorem dX9_locked_33 : decode cX9_locked 33 = .ok (.istore 5, 2) := by decide +kernel
theorem dX9_locked_35 : decode cX9_locked 35 = .ok (.iload 5, 2) := by decide +kernel
theorem dX9_locked_37 : decode cX9_locked 37 = .ok (.aload_n 0, 1) := by decide +kernel
theorem dX9_locked_38 : decode cX9_locked 38 = .ok (.getfield 80, 3) := by decide +kernel
theorem dX9_locked_41 : decode cX9_locked 41 = .ok (.if_icmp .ge 57, 3) := by decide +kernel
theorem dX9_locked_44 : decode cX9_locked 44 = .ok (.iload 4, 2) := by decide +kernel
theorem dX9_locked_46 : decode cX9_locked 46 = .ok (.ifCond .eq 43, 3) := by decide +kernel
theorem dX9_locked_49 : decode cX9_locked 49 = .ok (.iload_n 1, 1) := by decide +kernel
theorem dX9_locked_50 : decode cX9_locked 50 = .ok (.iload 5, 2) := by decide +kernel
theorem dX9_locked_52 : decode cX9_locked 52 = .ok (.invokestatic 127, 3) := by decide +kernel
theorem dX9_locked_55 : decode cX9_locked 55 = .ok (.ifCond .eq 30, 3) := by decide +kernel
theorem dX9_locked_58 : decode cX9_locked 58 = .ok (.iload_n 3, 1) := by decide +kernel
theorem dX9_locked_59 : decode cX9_locked 59 = .ok (.aload_n 0, 1) := by decide +kernel
theorem dX9_locked_60 : decode cX9_locked 60 = .ok (.getfield 13, 3) := by decide +kernel
theorem dX9_locked_63 : decode cX9_locked 63 = .ok (.iload 5, 2) := by decide +kernel
theorem dX9_locked_65 : decode cX9_locked 65 = .ok (.iaload, 1) := by decide +kernel
theorem dX9_locked_66 : decode cX9_locked 66 = .ok (.invokestatic 127, 3) := by decide +kernel
theorem dX9_locked_69 : decode cX9_locked 69 = .ok (.ifCond .ne 16, 3) := by decide +kernel
theorem dX9_locked_72 : decode cX9_locked 72 = .ok (.aload_n 0, 1) := by decide +kernel
theorem dX9_locked_73 : decode cX9_locked 73 = .ok (.iload 5, 2) := by decide +kernel
theorem dX9_locked_75 : decode cX9_locked 75 = .ok (.invokevirtual 174, 3) := by decide +kernel
theorem dX9_locked_78 : decode cX9_locked 78 = .ok (.iload_n 3, 1) := by decide +kernel
theorem dX9_locked_79 : decode cX9_locked 79 = .ok (.iconst (-1), 1) := by decide +kernel
theorem dX9_locked_80 : decode cX9_locked 80 = .ok (.ixor, 1) := by decide +kernel
theorem dX9_locked_81 : decode cX9_locked 81 = .ok (.iand, 1) := by decide +kernel
theorem dX9_locked_82 : decode cX9_locked 82 = .ok (.ifCond .ne 7, 3) := by decide +kernel
theorem dX9_locked_85 : decode cX9_locked 85 = .ok (.iconst 1, 1) := by decide +kernel
theorem dX9_locked_86 : decode cX9_locked 86 = .ok (.goto 4, 3) := by decide +kernel
theorem dX9_locked_89 : decode cX9_locked 89 = .ok (.iconst 0, 1) := by decide +kernel
theorem dX9_locked_90 : decode cX9_locked 90 = .ok (.istore 4, 2) := by decide +kernel
theorem dX9_locked_92 : decode cX9_locked 92 = .ok (.iinc 5 1, 3) := by decide +kernel
theorem dX9_locked_95 : decode cX9_locked 95 = .ok (.goto (-60), 3) := by decide +kernel
theorem dX9_locked_98 : decode cX9_locked 98 = .ok (.iload 4, 2) := by decide +kernel
theorem dX9_locked_100 : decode cX9_locked 100 = .ok (.ifCond .eq 24, 3) := by decide +kernel
theorem dX9_locked_103 : decode cX9_locked 103 = .ok (.iload_n 2, 1) := by decide +kernel
theorem dX9_locked_104 : decode cX9_locked 104 = .ok (.bipush (-9), 2) := by decide +kernel
theorem dX9_locked_106 : decode cX9_locked 106 = .ok (.if_icmp .eq 14, 3) := by decide +kernel
theorem dX9_locked_109 : decode cX9_locked 109 = .ok (.iload_n 3, 1) := by decide +kernel
theorem dX9_locked_110 : decode cX9_locked 110 = .ok (.invokestatic 251, 3) := by decide +kernel
theorem dX9_locked_113 : decode cX9_locked 113 = .ok (.iload_n 2, 1) := by decide +kernel
theorem dX9_locked_114 : decode cX9_locked 114 = .ok (.invokestatic 251, 3) := by decide +kernel
theorem dX9_locked_117 : decode cX9_locked 117 = .ok (.if_icmp .ge 7, 3) := by decide +kernel
theorem dX9_locked_120 : decode cX9_locked 120 = .ok (.iload_n 3, 1) := by decide +kernel
theorem dX9_locked_121 : decode cX9_locked 121 = .ok (.goto 4, 3) := by decide +kernel
theorem dX9_locked_124 : decode cX9_locked 124 = .ok (.iload_n 2, 1) := by decide +kernel
theorem dX9_locked_125 : decode cX9_locked 125 = .ok (.istore_n 2, 1) := by decide +kernel
theorem dX9_locked_126 : decode cX9_locked 126 = .ok (.iinc 3 1, 3) := by decide +kernel
theorem dX9_locked_129 : decode cX9_locked 129 = .ok (.goto (-110), 3) := by decide +kernel
theorem dX9_locked_132 : decode cX9_locked 132 = .ok (.iload_n 2, 1) := by decide +kernel
theorem dX9_locked_133 : decode cX9_locked 133 = .ok (.ireturn, 1) := by decide +kernel
theorem dX9_copies_0 : decode cX9_copies 0 = .ok (.iconst 0, 1) := by decide +kernel
theorem dX9_copies_1 : decode cX9_copies 1 = .ok (.istore_n 2, 1) := by decide +kernel
theorem dX9_copies_2 : decode cX9_copies 2 = .ok (.iload_n 2, 1) := by decide +kernel
theorem dX9_copies_3 : decode cX9_copies 3 = .ok (.bipush 43, 2) := by decide +kernel
theorem dX9_copies_5 : decode cX9_copies 5 = .ok (.if_icmp .ge 15, 3) := by decide +kernel
theorem dX9_copies_8 : decode cX9_copies 8 = .ok (.aload_n 1, 1) := by decide +kernel
theorem dX9_copies_9 : decode cX9_copies 9 = .ok (.iload_n 2, 1) := by decide +kernel
theorem dX9_copies_10 : decode cX9_copies 10 = .ok (.aload_n 0, 1) := by decide +kernel
theorem dX9_copies_11 : decode cX9_copies 11 = .ok (.iload_n 2, 1) := by decide +kernel
theorem dX9_copies_12 : decode cX9_copies 12 = .ok (.iaload, 1) := by decide +kernel
theorem dX9_copies_13 : decode cX9_copies 13 = .ok (.iastore, 1) := by decide +kernel
theorem dX9_copies_14 : decode cX9_copies 14 = .ok (.iinc 2 1, 3) := by decide +kernel
theorem dX9_copies_17 : decode cX9_copies 17 = .ok (.goto (-15), 3) := by decide +kernel
theorem dX9_copies_20 : decode cX9_copies 20 = .ok (.return_, 1) := by decide +kernel
theorem dX9_waysNow_0 : decode cX9_waysNow 0 = .ok (.iconst 1, 1) := by decide +kernel
theorem dX9_waysNow_1 : decode cX9_waysNow 1 = .ok (.istore_n 1, 1) := by decide +kernel
theorem dX9_waysNow_2 : decode cX9_waysNow 2 = .ok (.iconst 0, 1) := by decide +kernel
theorem dX9_waysNow_3 : decode cX9_waysNow 3 = .ok (.istore_n 2, 1) := by decide +kernel
theorem dX9_waysNow_4 : decode cX9_waysNow 4 = .ok (.iload_n 2, 1) := by decide +kernel
theorem dX9_waysNow_5 : decode cX9_waysNow 5 = .ok (.aload_n 0, 1) := by decide +kernel
theorem dX9_waysNow_6 : decode cX9_waysNow 6 = .ok (.getfield 80, 3) := by decide +kernel
theorem dX9_waysNow_9 : decode cX9_waysNow 9 = .ok (.if_icmp .ge 30, 3) := by decide +kernel
theorem dX9_waysNow_12 : decode cX9_waysNow 12 = .ok (.aload_n 0, 1) := by decide +kernel
theorem dX9_waysNow_13 : decode cX9_waysNow 13 = .ok (.iload_n 2, 1) := by decide +kernel
theorem dX9_waysNow_14 : decode cX9_waysNow 14 = .ok (.invokevirtual 178, 3) := by decide +kernel
theorem dX9_waysNow_17 : decode cX9_waysNow 17 = .ok (.invokestatic 251, 3) := by decide +kernel
theorem dX9_waysNow_20 : decode cX9_waysNow 20 = .ok (.istore_n 3, 1) := by decide +kernel
theorem dX9_waysNow_21 : decode cX9_waysNow 21 = .ok (.iload_n 1, 1) := by decide +kernel
theorem dX9_waysNow_22 : decode cX9_waysNow 22 = .ok (.iload_n 3, 1) := by decide +kernel
theorem dX9_waysNow_23 : decode cX9_waysNow 23 = .ok (.ifCond .le 7, 3) := by decide +kernel
theorem dX9_waysNow_26 : decode cX9_waysNow 26 = .ok (.iload_n 3, 1) := by decide +kernel
theorem dX9_waysNow_27 : decode cX9_waysNow 27 = .ok (.goto 4, 3) := by decide +kernel
theorem dX9_waysNow_30 : decode cX9_waysNow 30 = .ok (.iconst 1, 1) := by decide +kernel
theorem dX9_waysNow_31 : decode cX9_waysNow 31 = .ok (.imul, 1) := by decide +kernel
theorem dX9_waysNow_32 : decode cX9_waysNow 32 = .ok (.istore_n 1, 1) := by decide +kernel
theorem dX9_waysNow_33 : decode cX9_waysNow 33 = .ok (.iinc 2 1, 3) := by decide +kernel
theorem dX9_waysNow_36 : decode cX9_waysNow 36 = .ok (.goto (-32), 3) := by decide +kernel
theorem dX9_waysNow_39 : decode cX9_waysNow 39 = .ok (.iload_n 1, 1) := by decide +kernel
theorem dX9_waysNow_40 : decode cX9_waysNow 40 = .ok (.ireturn, 1) := by decide +kernel
theorem dX9_placeOf_0 : decode cX9_placeOf 0 = .ok (.iload_n 1, 1) := by decide +kernel
theorem dX9_placeOf_1 : decode cX9_placeOf 1 = .ok (.istore_n 2, 1) := by decide +kernel
theorem dX9_placeOf_2 : decode cX9_placeOf 2 = .ok (.iconst 0, 1) := by decide +kernel
theorem dX9_placeOf_3 : decode cX9_placeOf 3 = .ok (.istore_n 3, 1) := by decide +kernel
theorem dX9_placeOf_4 : decode cX9_placeOf 4 = .ok (.iload_n 0, 1) := by decide +kernel
theorem dX9_placeOf_5 : decode cX9_placeOf 5 = .ok (.iload_n 3, 1) := by decide +kernel
theorem dX9_placeOf_6 : decode cX9_placeOf 6 = .ok (.invokestatic 127, 3) := by decide +kernel
theorem dX9_placeOf_9 : decode cX9_placeOf 9 = .ok (.ifCond .eq 7, 3) := by decide +kernel
theorem dX9_placeOf_12 : decode cX9_placeOf 12 = .ok (.iload_n 2, 1) := by decide +kernel
theorem dX9_placeOf_13 : decode cX9_placeOf 13 = .ok (.ifCond .le 17, 3) := by decide +kernel
theorem dX9_placeOf_16 : decode cX9_placeOf 16 = .ok (.iload_n 2, 1) := by decide +kernel
theorem dX9_placeOf_17 : decode cX9_placeOf 17 = .ok (.iload_n 0, 1) := by decide +kernel
theorem dX9_placeOf_18 : decode cX9_placeOf 18 = .ok (.iload_n 3, 1) := by decide +kernel
theorem dX9_placeOf_19 : decode cX9_placeOf 19 = .ok (.ishr, 1) := by decide +kernel
theorem dX9_placeOf_20 : decode cX9_placeOf 20 = .ok (.iconst 1, 1) := by decide +kernel
theorem dX9_placeOf_21 : decode cX9_placeOf 21 = .ok (.iand, 1) := by decide +kernel
theorem dX9_placeOf_22 : decode cX9_placeOf 22 = .ok (.isub, 1) := by decide +kernel
theorem dX9_placeOf_23 : decode cX9_placeOf 23 = .ok (.istore_n 2, 1) := by decide +kernel
theorem dX9_placeOf_24 : decode cX9_placeOf 24 = .ok (.iinc 3 1, 3) := by decide +kernel
theorem dX9_placeOf_27 : decode cX9_placeOf 27 = .ok (.goto (-23), 3) := by decide +kernel
theorem dX9_placeOf_30 : decode cX9_placeOf 30 = .ok (.iload_n 3, 1) := by decide +kernel
theorem dX9_placeOf_31 : decode cX9_placeOf 31 = .ok (.ireturn, 1) := by decide +kernel
theorem dX9_goesBy_0 : decode cX9_goesBy 0 = .ok (.iload_n 1, 1) := by decide +kernel
theorem dX9_goesBy_1 : decode cX9_goesBy 1 = .ok (.istore_n 2, 1) := by decide +kernel
theorem dX9_goesBy_2 : decode cX9_goesBy 2 = .ok (.lconst 1, 1) := by decide +kernel
theorem dX9_goesBy_3 : decode cX9_goesBy 3 = .ok (.lstore_n 3, 1) := by decide +kernel
theorem dX9_goesBy_4 : decode cX9_goesBy 4 = .ok (.iconst 0, 1) := by decide +kernel
theorem dX9_goesBy_5 : decode cX9_goesBy 5 = .ok (.istore 5, 2) := by decide +kernel
theorem dX9_goesBy_7 : decode cX9_goesBy 7 = .ok (.iload 5, 2) := by decide +kernel
theorem dX9_goesBy_9 : decode cX9_goesBy 9 = .ok (.aload_n 0, 1) := by decide +kernel
theorem dX9_goesBy_10 : decode cX9_goesBy 10 = .ok (.getfield 80, 3) := by decide +kernel
theorem dX9_goesBy_13 : decode cX9_goesBy 13 = .ok (.if_icmp .ge 71, 3) := by decide +kernel
theorem dX9_goesBy_16 : decode cX9_goesBy 16 = .ok (.aload_n 0, 1) := by decide +kernel
theorem dX9_goesBy_17 : decode cX9_goesBy 17 = .ok (.iload 5, 2) := by decide +kernel
theorem dX9_goesBy_19 : decode cX9_goesBy 19 = .ok (.invokevirtual 178, 3) := by decide +kernel
theorem dX9_goesBy_22 : decode cX9_goesBy 22 = .ok (.istore 6, 2) := by decide +kernel
theorem dX9_goesBy_24 : decode cX9_goesBy 24 = .ok (.iload 6, 2) := by decide +kernel
theorem dX9_goesBy_26 : decode cX9_goesBy 26 = .ok (.invokestatic 251, 3) := by decide +kernel
theorem dX9_goesBy_29 : decode cX9_goesBy 29 = .ok (.istore 7, 2) := by decide +kernel
theorem dX9_goesBy_31 : decode cX9_goesBy 31 = .ok (.lload_n 3, 1) := by decide +kernel
theorem dX9_goesBy_32 : decode cX9_goesBy 32 = .ok (.iload 7, 2) := by decide +kernel
theorem dX9_goesBy_34 : decode cX9_goesBy 34 = .ok (.ifCond .le 12, 3) := by decide +kernel
theorem dX9_goesBy_37 : decode cX9_goesBy 37 = .ok (.bipush 6, 2) := by decide +kernel
theorem dX9_goesBy_39 : decode cX9_goesBy 39 = .ok (.iload 7, 2) := by decide +kernel
theorem dX9_goesBy_41 : decode cX9_goesBy 41 = .ok (.idiv, 1) := by decide +kernel
theorem dX9_goesBy_42 : decode cX9_goesBy 42 = .ok (.i2l, 1) := by decide +kernel
theorem dX9_goesBy_43 : decode cX9_goesBy 43 = .ok (.goto 6, 3) := by decide +kernel
theorem dX9_goesBy_46 : decode cX9_goesBy 46 = .ok (.ldc2_w 206, 3) := by decide +kernel
theorem dX9_goesBy_49 : decode cX9_goesBy 49 = .ok (.lmul, 1) := by decide +kernel
theorem dX9_goesBy_50 : decode cX9_goesBy 50 = .ok (.lstore_n 3, 1) := by decide +kernel
theorem dX9_goesBy_51 : decode cX9_goesBy 51 = .ok (.iload 7, 2) := by decide +kernel
theorem dX9_goesBy_53 : decode cX9_goesBy 53 = .ok (.ifCond .le 25, 3) := by decide +kernel
theorem dX9_goesBy_56 : decode cX9_goesBy 56 = .ok (.aload_n 0, 1) := by decide +kernel
theorem dX9_goesBy_57 : decode cX9_goesBy 57 = .ok (.iload 5, 2) := by decide +kernel
theorem dX9_goesBy_59 : decode cX9_goesBy 59 = .ok (.iload 6, 2) := by decide +kernel
theorem dX9_goesBy_61 : decode cX9_goesBy 61 = .ok (.iload_n 2, 1) := by decide +kernel
theorem dX9_goesBy_62 : decode cX9_goesBy 62 = .ok (.iload 7, 2) := by decide +kernel
theorem dX9_goesBy_64 : decode cX9_goesBy 64 = .ok (.irem, 1) := by decide +kernel
theorem dX9_goesBy_65 : decode cX9_goesBy 65 = .ok (.invokestatic 254, 3) := by decide +kernel
theorem dX9_goesBy_68 : decode cX9_goesBy 68 = .ok (.invokevirtual 187, 3) := by decide +kernel
theorem dX9_goesBy_71 : decode cX9_goesBy 71 = .ok (.istore 8, 2) := by decide +kernel
theorem dX9_goesBy_73 : decode cX9_goesBy 73 = .ok (.iload_n 2, 1) := by decide +kernel
theorem dX9_goesBy_74 : decode cX9_goesBy 74 = .ok (.iload 7, 2) := by decide +kernel
theorem dX9_goesBy_76 : decode cX9_goesBy 76 = .ok (.idiv, 1) := by decide +kernel
theorem dX9_goesBy_77 : decode cX9_goesBy 77 = .ok (.istore_n 2, 1) := by decide +kernel
theorem dX9_goesBy_78 : decode cX9_goesBy 78 = .ok (.iinc 5 1, 3) := by decide +kernel
theorem dX9_goesBy_81 : decode cX9_goesBy 81 = .ok (.goto (-74), 3) := by decide +kernel
theorem dX9_goesBy_84 : decode cX9_goesBy 84 = .ok (.aload_n 0, 1) := by decide +kernel
theorem dX9_goesBy_85 : decode cX9_goesBy 85 = .ok (.invokevirtual 190, 3) := by decide +kernel
theorem dX9_goesBy_88 : decode cX9_goesBy 88 = .ok (.istore 5, 2) := by decide +kernel
theorem dX9_goesBy_90 : decode cX9_goesBy 90 = .ok (.lload_n 3, 1) := by decide +kernel
theorem dX9_goesBy_91 : decode cX9_goesBy 91 = .ok (.lreturn, 1) := by decide +kernel
theorem dX9_danger_0 : decode cX9_danger 0 = .ok (.aload_n 0, 1) := by decide +kernel
theorem dX9_danger_1 : decode cX9_danger 1 = .ok (.iconst 0, 1) := by decide +kernel
theorem dX9_danger_2 : decode cX9_danger 2 = .ok (.putfield 69, 3) := by decide +kernel
theorem dX9_danger_5 : decode cX9_danger 5 = .ok (.aload_n 0, 1) := by decide +kernel
theorem dX9_danger_6 : decode cX9_danger 6 = .ok (.iload_n 1, 1) := by decide +kernel
theorem dX9_danger_7 : decode cX9_danger 7 = .ok (.invokevirtual 168, 3) := by decide +kernel
theorem dX9_danger_10 : decode cX9_danger 10 = .ok (.ifCond .eq 7, 3) := by decide +kernel
theorem dX9_danger_13 : decode cX9_danger 13 = .ok (.ldc2_w 237, 3) := by decide +kernel
theorem dX9_danger_16 : decode cX9_danger 16 = .ok (.lreturn, 1) := by decide +kernel
theorem dX9_danger_17 : decode cX9_danger 17 = .ok (.iload_n 2, 1) := by decide +kernel
theorem dX9_danger_18 : decode cX9_danger 18 = .ok (.i2l, 1) := by decide +kernel
theorem dX9_danger_19 : decode cX9_danger 19 = .ok (.lconst 1, 1) := by decide +kernel
theorem dX9_danger_20 : decode cX9_danger 20 = .ok (.ldc2_w 193, 3) := by decide +kernel
theorem dX9_danger_23 : decode cX9_danger 23 = .ok (.invokestatic 76, 3) := by decide +kernel
theorem dX9_danger_26 : decode cX9_danger 26 = .ok (.ifCond .ne 7, 3) := by decide +kernel
theorem dX9_danger_29 : decode cX9_danger 29 = .ok (.ldc2_w 257, 3) := by decide +kernel
theorem dX9_danger_32 : decode cX9_danger 32 = .ok (.lreturn, 1) := by decide +kernel
theorem dX9_danger_33 : decode cX9_danger 33 = .ok (.lconst 1, 1) := by decide +kernel
theorem dX9_danger_34 : decode cX9_danger 34 = .ok (.lstore 4, 2) := by decide +kernel
theorem dX9_danger_36 : decode cX9_danger 36 = .ok (.iconst 0, 1) := by decide +kernel
theorem dX9_danger_37 : decode cX9_danger 37 = .ok (.istore 6, 2) := by decide +kernel
theorem dX9_danger_39 : decode cX9_danger 39 = .ok (.iload 6, 2) := by decide +kernel
theorem dX9_danger_41 : decode cX9_danger 41 = .ok (.aload_n 0, 1) := by decide +kernel
theorem dX9_danger_42 : decode cX9_danger 42 = .ok (.getfield 80, 3) := by decide +kernel
theorem dX9_danger_45 : decode cX9_danger 45 = .ok (.if_icmp .ge 17, 3) := by decide +kernel
theorem dX9_danger_48 : decode cX9_danger 48 = .ok (.lload 4, 2) := by decide +kernel
theorem dX9_danger_50 : decode cX9_danger 50 = .ok (.ldc2_w 206, 3) := by decide +kernel
theorem dX9_danger_53 : decode cX9_danger 53 = .ok (.lmul, 1) := by decide +kernel
theorem dX9_danger_54 : decode cX9_danger 54 = .ok (.lstore 4, 2) := by decide +kernel
theorem dX9_danger_56 : decode cX9_danger 56 = .ok (.iinc 6 1, 3) := by decide +kernel
theorem dX9_danger_59 : decode cX9_danger 59 = .ok (.goto (-20), 3) := by decide +kernel
theorem dX9_danger_62 : decode cX9_danger 62 = .ok (.aload_n 0, 1) := by decide +kernel
theorem dX9_danger_63 : decode cX9_danger 63 = .ok (.getfield 19, 3) := by decide +kernel
theorem dX9_danger_66 : decode cX9_danger 66 = .ok (.aload_n 0, 1) := by decide +kernel
theorem dX9_danger_67 : decode cX9_danger 67 = .ok (.getfield 63, 3) := by decide +kernel
theorem dX9_danger_70 : decode cX9_danger 70 = .ok (.invokestatic 259, 3) := by decide +kernel
theorem dX9_danger_73 : decode cX9_danger 73 = .ok (.lconst 0, 1) := by decide +kernel
theorem dX9_danger_74 : decode cX9_danger 74 = .ok (.lstore 6, 2) := by decide +kernel
theorem dX9_danger_76 : decode cX9_danger 76 = .ok (.aload_n 0, 1) := by decide +kernel
theorem dX9_danger_77 : decode cX9_danger 77 = .ok (.invokevirtual 263, 3) := by decide +kernel
theorem dX9_danger_80 : decode cX9_danger 80 = .ok (.istore 8, 2) := by decide +kernel
theorem dX9_danger_82 : decode cX9_danger 82 = .ok (.iconst 0, 1) := by decide +kernel
theorem dX9_danger_83 : decode cX9_danger 83 = .ok (.istore 9, 2) := by decide +kernel
theorem dX9_danger_85 : decode cX9_danger 85 = .ok (.iload 9, 2) := by decide +kernel
theorem dX9_danger_87 : decode cX9_danger 87 = .ok (.iload 8, 2) := by decide +kernel
theorem dX9_danger_89 : decode cX9_danger 89 = .ok (.if_icmp .ge 86, 3) := by decide +kernel
theorem dX9_danger_92 : decode cX9_danger 92 = .ok (.aload_n 0, 1) := by decide +kernel
theorem dX9_danger_93 : decode cX9_danger 93 = .ok (.getfield 63, 3) := by decide +kernel
theorem dX9_danger_96 : decode cX9_danger 96 = .ok (.aload_n 0, 1) := by decide +kernel
theorem dX9_danger_97 : decode cX9_danger 97 = .ok (.getfield 19, 3) := by decide +kernel
theorem dX9_danger_100 : decode cX9_danger 100 = .ok (.invokestatic 259, 3) := by decide +kernel
theorem dX9_danger_103 : decode cX9_danger 103 = .ok (.aload_n 0, 1) := by decide +kernel
theorem dX9_danger_104 : decode cX9_danger 104 = .ok (.iload 9, 2) := by decide +kernel
theorem dX9_danger_106 : decode cX9_danger 106 = .ok (.invokevirtual 266, 3) := by decide +kernel
theorem dX9_danger_109 : decode cX9_danger 109 = .ok (.lstore 10, 2) := by decide +kernel
theorem dX9_danger_111 : decode cX9_danger 111 = .ok (.aload_n 0, 1) := by decide +kernel
theorem dX9_danger_112 : decode cX9_danger 112 = .ok (.iload_n 1, 1) := by decide +kernel
theorem dX9_danger_113 : decode cX9_danger 113 = .ok (.iconst 0, 1) := by decide +kernel
theorem dX9_danger_114 : decode cX9_danger 114 = .ok (.invokevirtual 83, 3) := by decide +kernel
theorem dX9_danger_117 : decode cX9_danger 117 = .ok (.iconst 1, 1) := by decide +kernel
theorem dX9_danger_118 : decode cX9_danger 118 = .ok (.if_icmp .eq 8, 3) := by decide +kernel
theorem dX9_danger_121 : decode cX9_danger 121 = .ok (.iload_n 2, 1) := by decide +kernel
theorem dX9_danger_122 : decode cX9_danger 122 = .ok (.iconst 1, 1) := by decide +kernel
theorem dX9_danger_123 : decode cX9_danger 123 = .ok (.if_icmp .ne 33, 3) := by decide +kernel
theorem dX9_danger_126 : decode cX9_danger 126 = .ok (.lload 6, 2) := by decide +kernel
theorem dX9_danger_128 : decode cX9_danger 128 = .ok (.aload_n 0, 1) := by decide +kernel
theorem dX9_danger_129 : decode cX9_danger 129 = .ok (.iload_n 1, 1) := by decide +kernel
theorem dX9_danger_130 : decode cX9_danger 130 = .ok (.iconst 0, 1) := by decide +kernel
theorem dX9_danger_131 : decode cX9_danger 131 = .ok (.invokevirtual 83, 3) := by decide +kernel
theorem dX9_danger_134 : decode cX9_danger 134 = .ok (.i2l, 1) := by decide +kernel
theorem dX9_danger_135 : decode cX9_danger 135 = .ok (.lload 10, 2) := by decide +kernel
theorem dX9_danger_137 : decode cX9_danger 137 = .ok (.lmul, 1) := by decide +kernel
theorem dX9_danger_138 : decode cX9_danger 138 = .ok (.iload_n 2, 1) := by decide +kernel
theorem dX9_danger_139 : decode cX9_danger 139 = .ok (.iconst 1, 1) := by decide +kernel
theorem dX9_danger_140 : decode cX9_danger 140 = .ok (.if_icmp .ne 7, 3) := by decide +kernel
theorem dX9_danger_143 : decode cX9_danger 143 = .ok (.lconst 1, 1) := by decide +kernel
theorem dX9_danger_144 : decode cX9_danger 144 = .ok (.goto 5, 3) := by decide +kernel
theorem dX9_danger_147 : decode cX9_danger 147 = .ok (.lload 4, 2) := by decide +kernel
theorem dX9_danger_149 : decode cX9_danger 149 = .ok (.lmul, 1) := by decide +kernel
theorem dX9_danger_150 : decode cX9_danger 150 = .ok (.ladd, 1) := by decide +kernel
theorem dX9_danger_151 : decode cX9_danger 151 = .ok (.lstore 6, 2) := by decide +kernel
theorem dX9_danger_153 : decode cX9_danger 153 = .ok (.goto 16, 3) := by decide +kernel
theorem dX9_danger_156 : decode cX9_danger 156 = .ok (.lload 6, 2) := by decide +kernel
theorem dX9_danger_158 : decode cX9_danger 158 = .ok (.lload 10, 2) := by decide +kernel
theorem dX9_danger_160 : decode cX9_danger 160 = .ok (.aload_n 0, 1) := by decide +kernel
theorem dX9_danger_161 : decode cX9_danger 161 = .ok (.iload_n 1, 1) := by decide +kernel
theorem dX9_danger_162 : decode cX9_danger 162 = .ok (.invokevirtual 270, 3) := by decide +kernel
theorem dX9_danger_165 : decode cX9_danger 165 = .ok (.lmul, 1) := by decide +kernel
theorem dX9_danger_166 : decode cX9_danger 166 = .ok (.ladd, 1) := by decide +kernel
theorem dX9_danger_167 : decode cX9_danger 167 = .ok (.lstore 6, 2) := by decide +kernel
theorem dX9_danger_169 : decode cX9_danger 169 = .ok (.iinc 9 1, 3) := by decide +kernel
theorem dX9_danger_172 : decode cX9_danger 172 = .ok (.goto (-87), 3) := by decide +kernel
theorem dX9_danger_175 : decode cX9_danger 175 = .ok (.aload_n 0, 1) := by decide +kernel
theorem dX9_danger_176 : decode cX9_danger 176 = .ok (.getfield 63, 3) := by decide +kernel
theorem dX9_danger_179 : decode cX9_danger 179 = .ok (.aload_n 0, 1) := by decide +kernel
theorem dX9_danger_180 : decode cX9_danger 180 = .ok (.getfield 19, 3) := by decide +kernel
theorem dX9_danger_183 : decode cX9_danger 183 = .ok (.invokestatic 259, 3) := by decide +kernel
theorem dX9_danger_186 : decode cX9_danger 186 = .ok (.lload 6, 2) := by decide +kernel
theorem dX9_danger_188 : decode cX9_danger 188 = .ok (.iload_n 2, 1) := by decide +kernel
theorem dX9_danger_189 : decode cX9_danger 189 = .ok (.iconst 1, 1) := by decide +kernel
theorem dX9_danger_190 : decode cX9_danger 190 = .ok (.if_icmp .ne 8, 3) := by decide +kernel
theorem dX9_danger_193 : decode cX9_danger 193 = .ok (.lload 4, 2) := by decide +kernel
theorem dX9_danger_195 : decode cX9_danger 195 = .ok (.goto 8, 3) := by decide +kernel
theorem dX9_danger_198 : decode cX9_danger 198 = .ok (.lload 4, 2) := by decide +kernel
theorem dX9_danger_200 : decode cX9_danger 200 = .ok (.lload 4, 2) := by decide +kernel
theorem dX9_danger_202 : decode cX9_danger 202 = .ok (.lmul, 1) := by decide +kernel
theorem dX9_danger_203 : decode cX9_danger 203 = .ok (.iload_n 3, 1) := by decide +kernel
theorem dX9_danger_204 : decode cX9_danger 204 = .ok (.invokestatic 241, 3) := by decide +kernel
theorem dX9_danger_207 : decode cX9_danger 207 = .ok (.lreturn, 1) := by decide +kernel
theorem dX9_secondOf_0 : decode cX9_secondOf 0 = .ok (.aload_n 0, 1) := by decide +kernel
theorem dX9_secondOf_1 : decode cX9_secondOf 1 = .ok (.getfield 19, 3) := by decide +kernel
theorem dX9_secondOf_4 : decode cX9_secondOf 4 = .ok (.aload_n 0, 1) := by decide +kernel
theorem dX9_secondOf_5 : decode cX9_secondOf 5 = .ok (.getfield 66, 3) := by decide +kernel
theorem dX9_secondOf_8 : decode cX9_secondOf 8 = .ok (.invokestatic 259, 3) := by decide +kernel
theorem dX9_secondOf_11 : decode cX9_secondOf 11 = .ok (.lconst 0, 1) := by decide +kernel
theorem dX9_secondOf_12 : decode cX9_secondOf 12 = .ok (.lstore_n 2, 1) := by decide +kernel
theorem dX9_secondOf_13 : decode cX9_secondOf 13 = .ok (.aload_n 0, 1) := by decide +kernel
theorem dX9_secondOf_14 : decode cX9_secondOf 14 = .ok (.invokevirtual 263, 3) := by decide +kernel
theorem dX9_secondOf_17 : decode cX9_secondOf 17 = .ok (.istore 4, 2) := by decide +kernel
theorem dX9_secondOf_19 : decode cX9_secondOf 19 = .ok (.iconst 0, 1) := by decide +kernel
theorem dX9_secondOf_20 : decode cX9_secondOf 20 = .ok (.istore 5, 2) := by decide +kernel
theorem dX9_secondOf_22 : decode cX9_secondOf 22 = .ok (.iload 5, 2) := by decide +kernel
theorem dX9_secondOf_24 : decode cX9_secondOf 24 = .ok (.iload 4, 2) := by decide +kernel
theorem dX9_secondOf_26 : decode cX9_secondOf 26 = .ok (.if_icmp .ge 41, 3) := by decide +kernel
theorem dX9_secondOf_29 : decode cX9_secondOf 29 = .ok (.aload_n 0, 1) := by decide +kernel
theorem dX9_secondOf_30 : decode cX9_secondOf 30 = .ok (.getfield 66, 3) := by decide +kernel
theorem dX9_secondOf_33 : decode cX9_secondOf 33 = .ok (.aload_n 0, 1) := by decide +kernel
theorem dX9_secondOf_34 : decode cX9_secondOf 34 = .ok (.getfield 19, 3) := by decide +kernel
theorem dX9_secondOf_37 : decode cX9_secondOf 37 = .ok (.invokestatic 259, 3) := by decide +kernel
theorem dX9_secondOf_40 : decode cX9_secondOf 40 = .ok (.aload_n 0, 1) := by decide +kernel
theorem dX9_secondOf_41 : decode cX9_secondOf 41 = .ok (.iload 5, 2) := by decide +kernel
theorem dX9_secondOf_43 : decode cX9_secondOf 43 = .ok (.invokevirtual 266, 3) := by decide +kernel
theorem dX9_secondOf_46 : decode cX9_secondOf 46 = .ok (.lstore 6, 2) := by decide +kernel
theorem dX9_secondOf_48 : decode cX9_secondOf 48 = .ok (.lload_n 2, 1) := by decide +kernel
theorem dX9_secondOf_49 : decode cX9_secondOf 49 = .ok (.aload_n 0, 1) := by decide +kernel
theorem dX9_secondOf_50 : decode cX9_secondOf 50 = .ok (.iload_n 1, 1) := by decide +kernel
theorem dX9_secondOf_51 : decode cX9_secondOf 51 = .ok (.iconst 0, 1) := by decide +kernel
theorem dX9_secondOf_52 : decode cX9_secondOf 52 = .ok (.invokevirtual 83, 3) := by decide +kernel
theorem dX9_secondOf_55 : decode cX9_secondOf 55 = .ok (.i2l, 1) := by decide +kernel
theorem dX9_secondOf_56 : decode cX9_secondOf 56 = .ok (.lload 6, 2) := by decide +kernel
theorem dX9_secondOf_58 : decode cX9_secondOf 58 = .ok (.lmul, 1) := by decide +kernel
theorem dX9_secondOf_59 : decode cX9_secondOf 59 = .ok (.ladd, 1) := by decide +kernel
theorem dX9_secondOf_60 : decode cX9_secondOf 60 = .ok (.lstore_n 2, 1) := by decide +kernel
theorem dX9_secondOf_61 : decode cX9_secondOf 61 = .ok (.iinc 5 1, 3) := by decide +kernel
theorem dX9_secondOf_64 : decode cX9_secondOf 64 = .ok (.goto (-42), 3) := by decide +kernel
theorem dX9_secondOf_67 : decode cX9_secondOf 67 = .ok (.lload_n 2, 1) := by decide +kernel
theorem dX9_secondOf_68 : decode cX9_secondOf 68 = .ok (.lreturn, 1) := by decide +kernel
theorem dX9_seed_0 : decode cX9_seed 0 = .ok (.aload_n 0, 1) := by decide +kernel
theorem dX9_seed_1 : decode cX9_seed 1 = .ok (.iconst 0, 1) := by decide +kernel
theorem dX9_seed_2 : decode cX9_seed 2 = .ok (.putfield 69, 3) := by decide +kernel
theorem dX9_seed_5 : decode cX9_seed 5 = .ok (.aload_n 0, 1) := by decide +kernel
theorem dX9_seed_6 : decode cX9_seed 6 = .ok (.getfield 273, 3) := by decide +kernel
theorem dX9_seed_9 : decode cX9_seed 9 = .ok (.lstore_n 3, 1) := by decide +kernel
theorem dX9_seed_10 : decode cX9_seed 10 = .ok (.aload_n 0, 1) := by decide +kernel
theorem dX9_seed_11 : decode cX9_seed 11 = .ok (.lload_n 1, 1) := by decide +kernel
theorem dX9_seed_12 : decode cX9_seed 12 = .ok (.putfield 273, 3) := by decide +kernel
theorem dX9_seed_15 : decode cX9_seed 15 = .ok (.lload_n 3, 1) := by decide +kernel
theorem dX9_seed_16 : decode cX9_seed 16 = .ok (.lreturn, 1) := by decide +kernel
theorem dX9_years_0 : decode cX9_years 0 = .ok (.aload_n 0, 1) := by decide +kernel
theorem dX9_years_1 : decode cX9_years 1 = .ok (.iconst 0, 1) := by decide +kernel
theorem dX9_years_2 : decode cX9_years 2 = .ok (.putfield 69, 3) := by decide +kernel
theorem dX9_years_5 : decode cX9_years 5 = .ok (.iload_n 1, 1) := by decide +kernel
theorem dX9_years_6 : decode cX9_years 6 = .ok (.i2l, 1) := by decide +kernel
theorem dX9_years_7 : decode cX9_years 7 = .ok (.lconst 1, 1) := by decide +kernel
theorem dX9_years_8 : decode cX9_years 8 = .ok (.ldc2_w 277, 3) := by decide +kernel
theorem dX9_years_11 : decode cX9_years 11 = .ok (.invokestatic 76, 3) := by decide +kernel
theorem dX9_years_14 : decode cX9_years 14 = .ok (.ifCond .ne 6, 3) := by decide +kernel
theorem dX9_years_17 : decode cX9_years 17 = .ok (.bipush (-2), 2) := by decide +kernel
theorem dX9_years_19 : decode cX9_years 19 = .ok (.ireturn, 1) := by decide +kernel
theorem dX9_years_20 : decode cX9_years 20 = .ok (.aload_n 0, 1) := by decide +kernel
theorem dX9_years_21 : decode cX9_years 21 = .ok (.getfield 19, 3) := by decide +kernel
theorem dX9_years_24 : decode cX9_years 24 = .ok (.aload_n 0, 1) := by decide +kernel
theorem dX9_years_25 : decode cX9_years 25 = .ok (.getfield 63, 3) := by decide +kernel
theorem dX9_years_28 : decode cX9_years 28 = .ok (.invokestatic 259, 3) := by decide +kernel
theorem dX9_years_31 : decode cX9_years 31 = .ok (.iconst 0, 1) := by decide +kernel
theorem dX9_years_32 : decode cX9_years 32 = .ok (.istore_n 2, 1) := by decide +kernel
theorem dX9_years_33 : decode cX9_years 33 = .ok (.iload_n 2, 1) := by decide +kernel
theorem dX9_years_34 : decode cX9_years 34 = .ok (.iload_n 1, 1) := by decide +kernel
theorem dX9_years_35 : decode cX9_years 35 = .ok (.if_icmp .ge 85, 3) := by decide +kernel
theorem dX9_years_38 : decode cX9_years 38 = .ok (.iconst 0, 1) := by decide +kernel
theorem dX9_years_39 : decode cX9_years 39 = .ok (.istore_n 3, 1) := by decide +kernel
theorem dX9_years_40 : decode cX9_years 40 = .ok (.iload_n 3, 1) := by decide +kernel
theorem dX9_years_41 : decode cX9_years 41 = .ok (.aload_n 0, 1) := by decide +kernel
theorem dX9_years_42 : decode cX9_years 42 = .ok (.getfield 80, 3) := by decide +kernel
theorem dX9_years_45 : decode cX9_years 45 = .ok (.if_icmp .ge 64, 3) := by decide +kernel
theorem dX9_years_48 : decode cX9_years 48 = .ok (.aload_n 0, 1) := by decide +kernel
theorem dX9_years_49 : decode cX9_years 49 = .ok (.iload_n 3, 1) := by decide +kernel
theorem dX9_years_50 : decode cX9_years 50 = .ok (.invokevirtual 178, 3) := by decide +kernel
theorem dX9_years_53 : decode cX9_years 53 = .ok (.istore 4, 2) := by decide +kernel
theorem dX9_years_55 : decode cX9_years 55 = .ok (.iload 4, 2) := by decide +kernel
theorem dX9_years_57 : decode cX9_years 57 = .ok (.ifCond .eq 46, 3) := by decide +kernel
theorem dX9_years_60 : decode cX9_years 60 = .ok (.aload_n 0, 1) := by decide +kernel
theorem dX9_years_61 : decode cX9_years 61 = .ok (.aload_n 0, 1) := by decide +kernel
theorem dX9_years_62 : decode cX9_years 62 = .ok (.getfield 273, 3) := by decide +kernel
theorem dX9_years_65 : decode cX9_years 65 = .ok (.ldc2_w 279, 3) := by decide +kernel
theorem dX9_years_68 : decode cX9_years 68 = .ok (.lmul, 1) := by decide +kernel
theorem dX9_years_69 : decode cX9_years 69 = .ok (.ldc2_w 281, 3) := by decide +kernel
theorem dX9_years_72 : decode cX9_years 72 = .ok (.ladd, 1) := by decide +kernel
theorem dX9_years_73 : decode cX9_years 73 = .ok (.putfield 273, 3) := by decide +kernel
theorem dX9_years_76 : decode cX9_years 76 = .ok (.aload_n 0, 1) := by decide +kernel
theorem dX9_years_77 : decode cX9_years 77 = .ok (.iload_n 3, 1) := by decide +kernel
theorem dX9_years_78 : decode cX9_years 78 = .ok (.iload 4, 2) := by decide +kernel
theorem dX9_years_80 : decode cX9_years 80 = .ok (.aload_n 0, 1) := by decide +kernel
theorem dX9_years_81 : decode cX9_years 81 = .ok (.getfield 273, 3) := by decide +kernel
theorem dX9_years_84 : decode cX9_years 84 = .ok (.bipush 33, 2) := by decide +kernel
theorem dX9_years_86 : decode cX9_years 86 = .ok (.lushr, 1) := by decide +kernel
theorem dX9_years_87 : decode cX9_years 87 = .ok (.iload 4, 2) := by decide +kernel
theorem dX9_years_89 : decode cX9_years 89 = .ok (.invokestatic 251, 3) := by decide +kernel
theorem dX9_years_92 : decode cX9_years 92 = .ok (.i2l, 1) := by decide +kernel
theorem dX9_years_93 : decode cX9_years 93 = .ok (.lrem, 1) := by decide +kernel
theorem dX9_years_94 : decode cX9_years 94 = .ok (.l2i, 1) := by decide +kernel
theorem dX9_years_95 : decode cX9_years 95 = .ok (.invokestatic 254, 3) := by decide +kernel
theorem dX9_years_98 : decode cX9_years 98 = .ok (.invokevirtual 187, 3) := by decide +kernel
theorem dX9_years_101 : decode cX9_years 101 = .ok (.istore 5, 2) := by decide +kernel
theorem dX9_years_103 : decode cX9_years 103 = .ok (.iinc 3 1, 3) := by decide +kernel
theorem dX9_years_106 : decode cX9_years 106 = .ok (.goto (-66), 3) := by decide +kernel
theorem dX9_years_109 : decode cX9_years 109 = .ok (.aload_n 0, 1) := by decide +kernel
theorem dX9_years_110 : decode cX9_years 110 = .ok (.invokevirtual 190, 3) := by decide +kernel
theorem dX9_years_113 : decode cX9_years 113 = .ok (.istore_n 3, 1) := by decide +kernel
theorem dX9_years_114 : decode cX9_years 114 = .ok (.iinc 2 1, 3) := by decide +kernel
theorem dX9_years_117 : decode cX9_years 117 = .ok (.goto (-84), 3) := by decide +kernel
theorem dX9_years_120 : decode cX9_years 120 = .ok (.aload_n 0, 1) := by decide +kernel
theorem dX9_years_121 : decode cX9_years 121 = .ok (.invokevirtual 283, 3) := by decide +kernel
theorem dX9_years_124 : decode cX9_years 124 = .ok (.istore_n 2, 1) := by decide +kernel
theorem dX9_years_125 : decode cX9_years 125 = .ok (.aload_n 0, 1) := by decide +kernel
theorem dX9_years_126 : decode cX9_years 126 = .ok (.getfield 63, 3) := by decide +kernel
theorem dX9_years_129 : decode cX9_years 129 = .ok (.aload_n 0, 1) := by decide +kernel
theorem dX9_years_130 : decode cX9_years 130 = .ok (.getfield 19, 3) := by decide +kernel
theorem dX9_years_133 : decode cX9_years 133 = .ok (.invokestatic 259, 3) := by decide +kernel
theorem dX9_years_136 : decode cX9_years 136 = .ok (.iload_n 2, 1) := by decide +kernel
theorem dX9_years_137 : decode cX9_years 137 = .ok (.ireturn, 1) := by decide +kernel
theorem dX9_keep_0 : decode cX9_keep 0 = .ok (.aload_n 0, 1) := by decide +kernel
theorem dX9_keep_1 : decode cX9_keep 1 = .ok (.iconst 0, 1) := by decide +kernel
theorem dX9_keep_2 : decode cX9_keep 2 = .ok (.putfield 69, 3) := by decide +kernel
theorem dX9_keep_5 : decode cX9_keep 5 = .ok (.iload_n 1, 1) := by decide +kernel
theorem dX9_keep_6 : decode cX9_keep 6 = .ok (.i2l, 1) := by decide +kernel
theorem dX9_keep_7 : decode cX9_keep 7 = .ok (.lconst 0, 1) := by decide +kernel
theorem dX9_keep_8 : decode cX9_keep 8 = .ok (.lconst 1, 1) := by decide +kernel
theorem dX9_keep_9 : decode cX9_keep 9 = .ok (.invokestatic 76, 3) := by decide +kernel
theorem dX9_keep_12 : decode cX9_keep 12 = .ok (.ifCond .ne 5, 3) := by decide +kernel
theorem dX9_keep_15 : decode cX9_keep 15 = .ok (.iconst (-1), 1) := by decide +kernel
theorem dX9_keep_16 : decode cX9_keep 16 = .ok (.ireturn, 1) := by decide +kernel
theorem dX9_keep_17 : decode cX9_keep 17 = .ok (.iconst 0, 1) := by decide +kernel
theorem dX9_keep_18 : decode cX9_keep 18 = .ok (.istore_n 2, 1) := by decide +kernel
theorem dX9_keep_19 : decode cX9_keep 19 = .ok (.iload_n 2, 1) := by decide +kernel
theorem dX9_keep_20 : decode cX9_keep 20 = .ok (.bipush 43, 2) := by decide +kernel
theorem dX9_keep_22 : decode cX9_keep 22 = .ok (.if_icmp .ge 26, 3) := by decide +kernel
theorem dX9_keep_25 : decode cX9_keep 25 = .ok (.aload_n 0, 1) := by decide +kernel
theorem dX9_keep_26 : decode cX9_keep 26 = .ok (.getfield 25, 3) := by decide +kernel
theorem dX9_keep_29 : decode cX9_keep 29 = .ok (.bipush 43, 2) := by decide +kernel
theorem dX9_keep_31 : decode cX9_keep 31 = .ok (.iload_n 1, 1) := by decide +kernel
theorem dX9_keep_32 : decode cX9_keep 32 = .ok (.imul, 1) := by decide +kernel
theorem dX9_keep_33 : decode cX9_keep 33 = .ok (.iload_n 2, 1) := by decide +kernel
theorem dX9_keep_34 : decode cX9_keep 34 = .ok (.iadd, 1) := by decide +kernel
theorem dX9_keep_35 : decode cX9_keep 35 = .ok (.aload_n 0, 1) := by decide +kernel
theorem dX9_keep_36 : decode cX9_keep 36 = .ok (.getfield 19, 3) := by decide +kernel
theorem dX9_keep_39 : decode cX9_keep 39 = .ok (.iload_n 2, 1) := by decide +kernel
theorem dX9_keep_40 : decode cX9_keep 40 = .ok (.iaload, 1) := by decide +kernel
theorem dX9_keep_41 : decode cX9_keep 41 = .ok (.iastore, 1) := by decide +kernel
theorem dX9_keep_42 : decode cX9_keep 42 = .ok (.iinc 2 1, 3) := by decide +kernel
theorem dX9_keep_45 : decode cX9_keep 45 = .ok (.goto (-26), 3) := by decide +kernel
theorem dX9_keep_48 : decode cX9_keep 48 = .ok (.aload_n 0, 1) := by decide +kernel
theorem dX9_keep_49 : decode cX9_keep 49 = .ok (.getfield 28, 3) := by decide +kernel
theorem dX9_keep_52 : decode cX9_keep 52 = .ok (.iload_n 1, 1) := by decide +kernel
theorem dX9_keep_53 : decode cX9_keep 53 = .ok (.iconst 1, 1) := by decide +kernel
theorem dX9_keep_54 : decode cX9_keep 54 = .ok (.bastore, 1) := by decide +kernel
theorem dX9_keep_55 : decode cX9_keep 55 = .ok (.aload_n 0, 1) := by decide +kernel
theorem dX9_keep_56 : decode cX9_keep 56 = .ok (.getfield 19, 3) := by decide +kernel
theorem dX9_keep_59 : decode cX9_keep 59 = .ok (.iconst 0, 1) := by decide +kernel
theorem dX9_keep_60 : decode cX9_keep 60 = .ok (.iaload, 1) := by decide +kernel
theorem dX9_keep_61 : decode cX9_keep 61 = .ok (.ireturn, 1) := by decide +kernel
theorem dX9_again_0 : decode cX9_again 0 = .ok (.aload_n 0, 1) := by decide +kernel
theorem dX9_again_1 : decode cX9_again 1 = .ok (.iconst 0, 1) := by decide +kernel
theorem dX9_again_2 : decode cX9_again 2 = .ok (.putfield 69, 3) := by decide +kernel
theorem dX9_again_5 : decode cX9_again 5 = .ok (.iload_n 1, 1) := by decide +kernel
theorem dX9_again_6 : decode cX9_again 6 = .ok (.i2l, 1) := by decide +kernel
theorem dX9_again_7 : decode cX9_again 7 = .ok (.lconst 0, 1) := by decide +kernel
theorem dX9_again_8 : decode cX9_again 8 = .ok (.lconst 1, 1) := by decide +kernel
theorem dX9_again_9 : decode cX9_again 9 = .ok (.invokestatic 76, 3) := by decide +kernel
theorem dX9_again_12 : decode cX9_again 12 = .ok (.ifCond .ne 5, 3) := by decide +kernel
theorem dX9_again_15 : decode cX9_again 15 = .ok (.iconst (-1), 1) := by decide +kernel
theorem dX9_again_16 : decode cX9_again 16 = .ok (.ireturn, 1) := by decide +kernel
theorem dX9_again_17 : decode cX9_again 17 = .ok (.aload_n 0, 1) := by decide +kernel
theorem dX9_again_18 : decode cX9_again 18 = .ok (.getfield 28, 3) := by decide +kernel
theorem dX9_again_21 : decode cX9_again 21 = .ok (.iload_n 1, 1) := by decide +kernel
theorem dX9_again_22 : decode cX9_again 22 = .ok (.baload, 1) := by decide +kernel
theorem dX9_again_23 : decode cX9_again 23 = .ok (.ifCond .ne 6, 3) := by decide +kernel
theorem dX9_again_26 : decode cX9_again 26 = .ok (.bipush (-3), 2) := by decide +kernel
theorem dX9_again_28 : decode cX9_again 28 = .ok (.ireturn, 1) := by decide +kernel
theorem dX9_again_29 : decode cX9_again 29 = .ok (.iconst 0, 1) := by decide +kernel
theorem dX9_again_30 : decode cX9_again 30 = .ok (.istore_n 2, 1) := by decide +kernel
theorem dX9_again_31 : decode cX9_again 31 = .ok (.iload_n 2, 1) := by decide +kernel
theorem dX9_again_32 : decode cX9_again 32 = .ok (.bipush 43, 2) := by decide +kernel
theorem dX9_again_34 : decode cX9_again 34 = .ok (.if_icmp .ge 26, 3) := by decide +kernel
theorem dX9_again_37 : decode cX9_again 37 = .ok (.aload_n 0, 1) := by decide +kernel
theorem dX9_again_38 : decode cX9_again 38 = .ok (.getfield 19, 3) := by decide +kernel
theorem dX9_again_41 : decode cX9_again 41 = .ok (.iload_n 2, 1) := by decide +kernel
theorem dX9_again_42 : decode cX9_again 42 = .ok (.aload_n 0, 1) := by decide +kernel
theorem dX9_again_43 : decode cX9_again 43 = .ok (.getfield 25, 3) := by decide +kernel
theorem dX9_again_46 : decode cX9_again 46 = .ok (.bipush 43, 2) := by decide +kernel
theorem dX9_again_48 : decode cX9_again 48 = .ok (.iload_n 1, 1) := by decide +kernel
theorem dX9_again_49 : decode cX9_again 49 = .ok (.imul, 1) := by decide +kernel
theorem dX9_again_50 : decode cX9_again 50 = .ok (.iload_n 2, 1) := by decide +kernel
theorem dX9_again_51 : decode cX9_again 51 = .ok (.iadd, 1) := by decide +kernel
theorem dX9_again_52 : decode cX9_again 52 = .ok (.iaload, 1) := by decide +kernel
theorem dX9_again_53 : decode cX9_again 53 = .ok (.iastore, 1) := by decide +kernel
theorem dX9_again_54 : decode cX9_again 54 = .ok (.iinc 2 1, 3) := by decide +kernel
theorem dX9_again_57 : decode cX9_again 57 = .ok (.goto (-26), 3) := by decide +kernel
theorem dX9_again_60 : decode cX9_again 60 = .ok (.aload_n 0, 1) := by decide +kernel
theorem dX9_again_61 : decode cX9_again 61 = .ok (.iconst 0, 1) := by decide +kernel
theorem dX9_again_62 : decode cX9_again 62 = .ok (.putfield 159, 3) := by decide +kernel
theorem dX9_again_65 : decode cX9_again 65 = .ok (.aload_n 0, 1) := by decide +kernel
theorem dX9_again_66 : decode cX9_again 66 = .ok (.getfield 19, 3) := by decide +kernel
theorem dX9_again_69 : decode cX9_again 69 = .ok (.iconst 0, 1) := by decide +kernel
theorem dX9_again_70 : decode cX9_again 70 = .ok (.iaload, 1) := by decide +kernel
theorem dX9_again_71 : decode cX9_again 71 = .ok (.ireturn, 1) := by decide +kernel
theorem dX9_count_0 : decode cX9_count 0 = .ok (.aload_n 0, 1) := by decide +kernel
theorem dX9_count_1 : decode cX9_count 1 = .ok (.iconst 0, 1) := by decide +kernel
theorem dX9_count_2 : decode cX9_count 2 = .ok (.putfield 69, 3) := by decide +kernel
theorem dX9_count_5 : decode cX9_count 5 = .ok (.iconst 0, 1) := by decide +kernel
theorem dX9_count_6 : decode cX9_count 6 = .ok (.istore_n 2, 1) := by decide +kernel
theorem dX9_count_7 : decode cX9_count 7 = .ok (.iconst 0, 1) := by decide +kernel
theorem dX9_count_8 : decode cX9_count 8 = .ok (.istore_n 3, 1) := by decide +kernel
theorem dX9_count_9 : decode cX9_count 9 = .ok (.iload_n 3, 1) := by decide +kernel
theorem dX9_count_10 : decode cX9_count 10 = .ok (.aload_n 0, 1) := by decide +kernel
theorem dX9_count_11 : decode cX9_count 11 = .ok (.getfield 73, 3) := by decide +kernel
theorem dX9_count_14 : decode cX9_count 14 = .ok (.if_icmp .ge 20, 3) := by decide +kernel
theorem dX9_count_17 : decode cX9_count 17 = .ok (.iload_n 2, 1) := by decide +kernel
theorem dX9_count_18 : decode cX9_count 18 = .ok (.aload_n 0, 1) := by decide +kernel
theorem dX9_count_19 : decode cX9_count 19 = .ok (.getfield 19, 3) := by decide +kernel
theorem dX9_count_22 : decode cX9_count 22 = .ok (.iconst 1, 1) := by decide +kernel
theorem dX9_count_23 : decode cX9_count 23 = .ok (.iload_n 3, 1) := by decide +kernel
theorem dX9_count_24 : decode cX9_count 24 = .ok (.iadd, 1) := by decide +kernel
theorem dX9_count_25 : decode cX9_count 25 = .ok (.iaload, 1) := by decide +kernel
theorem dX9_count_26 : decode cX9_count 26 = .ok (.iadd, 1) := by decide +kernel
theorem dX9_count_27 : decode cX9_count 27 = .ok (.istore_n 2, 1) := by decide +kernel
theorem dX9_count_28 : decode cX9_count 28 = .ok (.iinc 3 1, 3) := by decide +kernel
theorem dX9_count_31 : decode cX9_count 31 = .ok (.goto (-22), 3) := by decide +kernel
theorem dX9_count_34 : decode cX9_count 34 = .ok (.iload_n 1, 1) := by decide +kernel
theorem dX9_count_35 : decode cX9_count 35 = .ok (.tableswitch 111 0 10 #[57, 62, 67, 72, 79, 84, 89, 91, 96, 101, 106], 57) := by decide +kernel
theorem dX9_count_92 : decode cX9_count 92 = .ok (.aload_n 0, 1) := by decide +kernel
theorem dX9_count_93 : decode cX9_count 93 = .ok (.getfield 93, 3) := by decide +kernel
theorem dX9_count_96 : decode cX9_count 96 = .ok (.ireturn, 1) := by decide +kernel
theorem dX9_count_97 : decode cX9_count 97 = .ok (.aload_n 0, 1) := by decide +kernel
theorem dX9_count_98 : decode cX9_count 98 = .ok (.getfield 73, 3) := by decide +kernel
theorem dX9_count_101 : decode cX9_count 101 = .ok (.ireturn, 1) := by decide +kernel
theorem dX9_count_102 : decode cX9_count 102 = .ok (.aload_n 0, 1) := by decide +kernel
theorem dX9_count_103 : decode cX9_count 103 = .ok (.getfield 80, 3) := by decide +kernel
theorem dX9_count_106 : decode cX9_count 106 = .ok (.ireturn, 1) := by decide +kernel
theorem dX9_count_107 : decode cX9_count 107 = .ok (.aload_n 0, 1) := by decide +kernel
theorem dX9_count_108 : decode cX9_count 108 = .ok (.getfield 19, 3) := by decide +kernel
theorem dX9_count_111 : decode cX9_count 111 = .ok (.iconst 0, 1) := by decide +kernel
theorem dX9_count_112 : decode cX9_count 112 = .ok (.iaload, 1) := by decide +kernel
theorem dX9_count_113 : decode cX9_count 113 = .ok (.ireturn, 1) := by decide +kernel
theorem dX9_count_114 : decode cX9_count 114 = .ok (.aload_n 0, 1) := by decide +kernel
theorem dX9_count_115 : decode cX9_count 115 = .ok (.invokevirtual 283, 3) := by decide +kernel
theorem dX9_count_118 : decode cX9_count 118 = .ok (.ireturn, 1) := by decide +kernel
theorem dX9_count_119 : decode cX9_count 119 = .ok (.aload_n 0, 1) := by decide +kernel
theorem dX9_count_120 : decode cX9_count 120 = .ok (.invokevirtual 218, 3) := by decide +kernel
theorem dX9_count_123 : decode cX9_count 123 = .ok (.ireturn, 1) := by decide +kernel
theorem dX9_count_124 : decode cX9_count 124 = .ok (.iload_n 2, 1) := by decide +kernel
theorem dX9_count_125 : decode cX9_count 125 = .ok (.ireturn, 1) := by decide +kernel
theorem dX9_count_126 : decode cX9_count 126 = .ok (.aload_n 0, 1) := by decide +kernel
theorem dX9_count_127 : decode cX9_count 127 = .ok (.getfield 159, 3) := by decide +kernel
theorem dX9_count_130 : decode cX9_count 130 = .ok (.ireturn, 1) := by decide +kernel
theorem dX9_count_131 : decode cX9_count 131 = .ok (.aload_n 0, 1) := by decide +kernel
theorem dX9_count_132 : decode cX9_count 132 = .ok (.getfield 203, 3) := by decide +kernel
theorem dX9_count_135 : decode cX9_count 135 = .ok (.ireturn, 1) := by decide +kernel
theorem dX9_count_136 : decode cX9_count 136 = .ok (.aload_n 0, 1) := by decide +kernel
theorem dX9_count_137 : decode cX9_count 137 = .ok (.getfield 156, 3) := by decide +kernel
theorem dX9_count_140 : decode cX9_count 140 = .ok (.ireturn, 1) := by decide +kernel
theorem dX9_count_141 : decode cX9_count 141 = .ok (.aload_n 0, 1) := by decide +kernel
theorem dX9_count_142 : decode cX9_count 142 = .ok (.invokevirtual 171, 3) := by decide +kernel
theorem dX9_count_145 : decode cX9_count 145 = .ok (.ireturn, 1) := by decide +kernel
theorem dX9_count_146 : decode cX9_count 146 = .ok (.bipush (-2), 2) := by decide +kernel
theorem dX9_count_148 : decode cX9_count 148 = .ok (.ireturn, 1) := by decide +kernel
theorem dJ6_bitCount_0f7a4_0 : decode cJ6_bitCount_0f7a4 0 = .ok (.iload_n 0, 1) := by decide +kernel
theorem dJ6_bitCount_0f7a4_1 : decode cJ6_bitCount_0f7a4 1 = .ok (.iload_n 0, 1) := by decide +kernel
theorem dJ6_bitCount_0f7a4_2 : decode cJ6_bitCount_0f7a4 2 = .ok (.iconst 1, 1) := by decide +kernel
theorem dJ6_bitCount_0f7a4_3 : decode cJ6_bitCount_0f7a4 3 = .ok (.iushr, 1) := by decide +kernel
theorem dJ6_bitCount_0f7a4_4 : decode cJ6_bitCount_0f7a4 4 = .ok (.ldc_w 265, 3) := by decide +kernel
theorem dJ6_bitCount_0f7a4_7 : decode cJ6_bitCount_0f7a4 7 = .ok (.iand, 1) := by decide +kernel
theorem dJ6_bitCount_0f7a4_8 : decode cJ6_bitCount_0f7a4 8 = .ok (.isub, 1) := by decide +kernel
theorem dJ6_bitCount_0f7a4_9 : decode cJ6_bitCount_0f7a4 9 = .ok (.istore_n 0, 1) := by decide +kernel
theorem dJ6_bitCount_0f7a4_10 : decode cJ6_bitCount_0f7a4 10 = .ok (.iload_n 0, 1) := by decide +kernel
theorem dJ6_bitCount_0f7a4_11 : decode cJ6_bitCount_0f7a4 11 = .ok (.ldc_w 266, 3) := by decide +kernel
theorem dJ6_bitCount_0f7a4_14 : decode cJ6_bitCount_0f7a4 14 = .ok (.iand, 1) := by decide +kernel
theorem dJ6_bitCount_0f7a4_15 : decode cJ6_bitCount_0f7a4 15 = .ok (.iload_n 0, 1) := by decide +kernel
theorem dJ6_bitCount_0f7a4_16 : decode cJ6_bitCount_0f7a4 16 = .ok (.iconst 2, 1) := by decide +kernel
theorem dJ6_bitCount_0f7a4_17 : decode cJ6_bitCount_0f7a4 17 = .ok (.iushr, 1) := by decide +kernel
theorem dJ6_bitCount_0f7a4_18 : decode cJ6_bitCount_0f7a4 18 = .ok (.ldc_w 266, 3) := by decide +kernel
theorem dJ6_bitCount_0f7a4_21 : decode cJ6_bitCount_0f7a4 21 = .ok (.iand, 1) := by decide +kernel
theorem dJ6_bitCount_0f7a4_22 : decode cJ6_bitCount_0f7a4 22 = .ok (.iadd, 1) := by decide +kernel
theorem dJ6_bitCount_0f7a4_23 : decode cJ6_bitCount_0f7a4 23 = .ok (.istore_n 0, 1) := by decide +kernel
theorem dJ6_bitCount_0f7a4_24 : decode cJ6_bitCount_0f7a4 24 = .ok (.iload_n 0, 1) := by decide +kernel
theorem dJ6_bitCount_0f7a4_25 : decode cJ6_bitCount_0f7a4 25 = .ok (.iload_n 0, 1) := by decide +kernel
theorem dJ6_bitCount_0f7a4_26 : decode cJ6_bitCount_0f7a4 26 = .ok (.iconst 4, 1) := by decide +kernel
theorem dJ6_bitCount_0f7a4_27 : decode cJ6_bitCount_0f7a4 27 = .ok (.iushr, 1) := by decide +kernel
theorem dJ6_bitCount_0f7a4_28 : decode cJ6_bitCount_0f7a4 28 = .ok (.iadd, 1) := by decide +kernel
theorem dJ6_bitCount_0f7a4_29 : decode cJ6_bitCount_0f7a4 29 = .ok (.ldc_w 267, 3) := by decide +kernel
theorem dJ6_bitCount_0f7a4_32 : decode cJ6_bitCount_0f7a4 32 = .ok (.iand, 1) := by decide +kernel
theorem dJ6_bitCount_0f7a4_33 : decode cJ6_bitCount_0f7a4 33 = .ok (.istore_n 0, 1) := by decide +kernel
theorem dJ6_bitCount_0f7a4_34 : decode cJ6_bitCount_0f7a4 34 = .ok (.iload_n 0, 1) := by decide +kernel
theorem dJ6_bitCount_0f7a4_35 : decode cJ6_bitCount_0f7a4 35 = .ok (.iload_n 0, 1) := by decide +kernel
theorem dJ6_bitCount_0f7a4_36 : decode cJ6_bitCount_0f7a4 36 = .ok (.bipush 8, 2) := by decide +kernel
theorem dJ6_bitCount_0f7a4_38 : decode cJ6_bitCount_0f7a4 38 = .ok (.iushr, 1) := by decide +kernel
theorem dJ6_bitCount_0f7a4_39 : decode cJ6_bitCount_0f7a4 39 = .ok (.iadd, 1) := by decide +kernel
theorem dJ6_bitCount_0f7a4_40 : decode cJ6_bitCount_0f7a4 40 = .ok (.istore_n 0, 1) := by decide +kernel
theorem dJ6_bitCount_0f7a4_41 : decode cJ6_bitCount_0f7a4 41 = .ok (.iload_n 0, 1) := by decide +kernel
theorem dJ6_bitCount_0f7a4_42 : decode cJ6_bitCount_0f7a4 42 = .ok (.iload_n 0, 1) := by decide +kernel
theorem dJ6_bitCount_0f7a4_43 : decode cJ6_bitCount_0f7a4 43 = .ok (.bipush 16, 2) := by decide +kernel
theorem dJ6_bitCount_0f7a4_45 : decode cJ6_bitCount_0f7a4 45 = .ok (.iushr, 1) := by decide +kernel
theorem dJ6_bitCount_0f7a4_46 : decode cJ6_bitCount_0f7a4 46 = .ok (.iadd, 1) := by decide +kernel
theorem dJ6_bitCount_0f7a4_47 : decode cJ6_bitCount_0f7a4 47 = .ok (.istore_n 0, 1) := by decide +kernel
theorem dJ6_bitCount_0f7a4_48 : decode cJ6_bitCount_0f7a4 48 = .ok (.iload_n 0, 1) := by decide +kernel
theorem dJ6_bitCount_0f7a4_49 : decode cJ6_bitCount_0f7a4 49 = .ok (.bipush 63, 2) := by decide +kernel
theorem dJ6_bitCount_0f7a4_51 : decode cJ6_bitCount_0f7a4 51 = .ok (.iand, 1) := by decide +kernel
theorem dJ6_bitCount_0f7a4_52 : decode cJ6_bitCount_0f7a4 52 = .ok (.ireturn, 1) := by decide +kernel
theorem dJ9_max_7cf53_0 : decode cJ9_max_7cf53 0 = .ok (.iload_n 0, 1) := by decide +kernel
theorem dJ9_max_7cf53_1 : decode cJ9_max_7cf53 1 = .ok (.iload_n 1, 1) := by decide +kernel
theorem dJ9_max_7cf53_2 : decode cJ9_max_7cf53 2 = .ok (.if_icmp .lt 7, 3) := by decide +kernel
theorem dJ9_max_7cf53_5 : decode cJ9_max_7cf53 5 = .ok (.iload_n 0, 1) := by decide +kernel
theorem dJ9_max_7cf53_6 : decode cJ9_max_7cf53 6 = .ok (.goto 4, 3) := by decide +kernel
theorem dJ9_max_7cf53_9 : decode cJ9_max_7cf53 9 = .ok (.iload_n 1, 1) := by decide +kernel
theorem dJ9_max_7cf53_10 : decode cJ9_max_7cf53 10 = .ok (.ireturn, 1) := by decide +kernel
theorem dJ9_min_7cf53_0 : decode cJ9_min_7cf53 0 = .ok (.iload_n 0, 1) := by decide +kernel
theorem dJ9_min_7cf53_1 : decode cJ9_min_7cf53 1 = .ok (.iload_n 1, 1) := by decide +kernel
theorem dJ9_min_7cf53_2 : decode cJ9_min_7cf53 2 = .ok (.if_icmp .gt 7, 3) := by decide +kernel
theorem dJ9_min_7cf53_5 : decode cJ9_min_7cf53 5 = .ok (.iload_n 0, 1) := by decide +kernel
theorem dJ9_min_7cf53_6 : decode cJ9_min_7cf53 6 = .ok (.goto 4, 3) := by decide +kernel
theorem dJ9_min_7cf53_9 : decode cJ9_min_7cf53 9 = .ok (.iload_n 1, 1) := by decide +kernel
theorem dJ9_min_7cf53_10 : decode cJ9_min_7cf53 10 = .ok (.ireturn, 1) := by decide +kernel
theorem dL_law_0 : decode cL_law 0 = .ok (.new 7, 3) := by decide +kernel
theorem dL_law_3 : decode cL_law 3 = .ok (.dup, 1) := by decide +kernel
theorem dL_law_4 : decode cL_law 4 = .ok (.invokespecial 9, 3) := by decide +kernel
theorem dL_law_7 : decode cL_law 7 = .ok (.astore_n 1, 1) := by decide +kernel
theorem dL_law_8 : decode cL_law 8 = .ok (.new 10, 3) := by decide +kernel
theorem dL_law_11 : decode cL_law 11 = .ok (.dup, 1) := by decide +kernel
theorem dL_law_12 : decode cL_law 12 = .ok (.invokespecial 12, 3) := by decide +kernel
theorem dL_law_15 : decode cL_law 15 = .ok (.astore_n 2, 1) := by decide +kernel
theorem dL_law_16 : decode cL_law 16 = .ok (.iconst 0, 1) := by decide +kernel
theorem dL_law_17 : decode cL_law 17 = .ok (.istore_n 3, 1) := by decide +kernel
theorem dL_law_18 : decode cL_law 18 = .ok (.iload_n 3, 1) := by decide +kernel
theorem dL_law_19 : decode cL_law 19 = .ok (.aload_n 0, 1) := by decide +kernel
theorem dL_law_20 : decode cL_law 20 = .ok (.arraylength, 1) := by decide +kernel
theorem dL_law_21 : decode cL_law 21 = .ok (.iconst 4, 1) := by decide +kernel
theorem dL_law_22 : decode cL_law 22 = .ok (.isub, 1) := by decide +kernel
theorem dL_law_23 : decode cL_law 23 = .ok (.if_icmp .gt 1205, 3) := by decide +kernel
theorem dL_law_26 : decode cL_law 26 = .ok (.aload_n 0, 1) := by decide +kernel
theorem dL_law_27 : decode cL_law 27 = .ok (.iload_n 3, 1) := by decide +kernel
theorem dL_law_28 : decode cL_law 28 = .ok (.iaload, 1) := by decide +kernel
theorem dL_law_29 : decode cL_law 29 = .ok (.bipush 63, 2) := by decide +kernel
theorem dL_law_31 : decode cL_law 31 = .ok (.iand, 1) := by decide +kernel
theorem dL_law_32 : decode cL_law 32 = .ok (.tableswitch 1190 0 37 #[168, 231, 244, 257, 270, 303, 336, 359, 392, 425, 438, 461, 494, 507, 540, 563, 586, 609, 652, 711, 760, 773, 787, 800, 823, 846, 896, 909, 922, 945, 958, 971, 984, 1044, 1098, 1121, 1144, 1167], 168) := by decide +kernel
theorem dL_law_200 : decode cL_law 200 = .ok (.aload_n 1, 1) := by decide +kernel
theorem dL_law_201 : decode cL_law 201 = .ok (.aload_n 0, 1) := by decide +kernel
theorem dL_law_202 : decode cL_law 202 = .ok (.iload_n 3, 1) := by decide +kernel
theorem dL_law_203 : decode cL_law 203 = .ok (.iconst 1, 1) := by decide +kernel
theorem dL_law_204 : decode cL_law 204 = .ok (.iadd, 1) := by decide +kernel
theorem dL_law_205 : decode cL_law 205 = .ok (.iaload, 1) := by decide +kernel
theorem dL_law_206 : decode cL_law 206 = .ok (.aload_n 0, 1) := by decide +kernel
theorem dL_law_207 : decode cL_law 207 = .ok (.iload_n 3, 1) := by decide +kernel
theorem dL_law_208 : decode cL_law 208 = .ok (.iconst 2, 1) := by decide +kernel
theorem dL_law_209 : decode cL_law 209 = .ok (.iadd, 1) := by decide +kernel
theorem dL_law_210 : decode cL_law 210 = .ok (.iaload, 1) := by decide +kernel
theorem dL_law_211 : decode cL_law 211 = .ok (.i2l, 1) := by decide +kernel
theorem dL_law_212 : decode cL_law 212 = .ok (.bipush 32, 2) := by decide +kernel
theorem dL_law_214 : decode cL_law 214 = .ok (.lshl, 1) := by decide +kernel
theorem dL_law_215 : decode cL_law 215 = .ok (.aload_n 0, 1) := by decide +kernel
theorem dL_law_216 : decode cL_law 216 = .ok (.iload_n 3, 1) := by decide +kernel
theorem dL_law_217 : decode cL_law 217 = .ok (.iconst 3, 1) := by decide +kernel
theorem dL_law_218 : decode cL_law 218 = .ok (.iadd, 1) := by decide +kernel
theorem dL_law_219 : decode cL_law 219 = .ok (.iaload, 1) := by decide +kernel
theorem dL_law_220 : decode cL_law 220 = .ok (.i2l, 1) := by decide +kernel
theorem dL_law_221 : decode cL_law 221 = .ok (.ldc2_w 13, 3) := by decide +kernel
theorem dL_law_224 : decode cL_law 224 = .ok (.land, 1) := by decide +kernel
theorem dL_law_225 : decode cL_law 225 = .ok (.lor, 1) := by decide +kernel
theorem dL_law_226 : decode cL_law 226 = .ok (.invokevirtual 15, 3) := by decide +kernel
theorem dL_law_229 : decode cL_law 229 = .ok (.aload_n 2, 1) := by decide +kernel
theorem dL_law_230 : decode cL_law 230 = .ok (.aload_n 0, 1) := by decide +kernel
theorem dL_law_231 : decode cL_law 231 = .ok (.iload_n 3, 1) := by decide +kernel
theorem dL_law_232 : decode cL_law 232 = .ok (.iconst 1, 1) := by decide +kernel
theorem dL_law_233 : decode cL_law 233 = .ok (.iadd, 1) := by decide +kernel
theorem dL_law_234 : decode cL_law 234 = .ok (.iaload, 1) := by decide +kernel
theorem dL_law_235 : decode cL_law 235 = .ok (.aload_n 0, 1) := by decide +kernel
theorem dL_law_236 : decode cL_law 236 = .ok (.iload_n 3, 1) := by decide +kernel
theorem dL_law_237 : decode cL_law 237 = .ok (.iconst 2, 1) := by decide +kernel
theorem dL_law_238 : decode cL_law 238 = .ok (.iadd, 1) := by decide +kernel
theorem dL_law_239 : decode cL_law 239 = .ok (.iaload, 1) := by decide +kernel
theorem dL_law_240 : decode cL_law 240 = .ok (.i2l, 1) := by decide +kernel
theorem dL_law_241 : decode cL_law 241 = .ok (.bipush 32, 2) := by decide +kernel
theorem dL_law_243 : decode cL_law 243 = .ok (.lshl, 1) := by decide +kernel
theorem dL_law_244 : decode cL_law 244 = .ok (.aload_n 0, 1) := by decide +kernel
theorem dL_law_245 : decode cL_law 245 = .ok (.iload_n 3, 1) := by decide +kernel
theorem dL_law_246 : decode cL_law 246 = .ok (.iconst 3, 1) := by decide +kernel
theorem dL_law_247 : decode cL_law 247 = .ok (.iadd, 1) := by decide +kernel
theorem dL_law_248 : decode cL_law 248 = .ok (.iaload, 1) := by decide +kernel
theorem dL_law_249 : decode cL_law 249 = .ok (.i2l, 1) := by decide +kernel
theorem dL_law_250 : decode cL_law 250 = .ok (.ldc2_w 13, 3) := by decide +kernel
theorem dL_law_253 : decode cL_law 253 = .ok (.land, 1) := by decide +kernel
theorem dL_law_254 : decode cL_law 254 = .ok (.lor, 1) := by decide +kernel
theorem dL_law_255 : decode cL_law 255 = .ok (.invokevirtual 19, 3) := by decide +kernel
theorem dL_law_258 : decode cL_law 258 = .ok (.if_icmp .eq 964, 3) := by decide +kernel
theorem dL_law_261 : decode cL_law 261 = .ok (.iconst 0, 1) := by decide +kernel
theorem dL_law_262 : decode cL_law 262 = .ok (.ireturn, 1) := by decide +kernel
theorem dL_law_263 : decode cL_law 263 = .ok (.aload_n 1, 1) := by decide +kernel
theorem dL_law_264 : decode cL_law 264 = .ok (.invokevirtual 20, 3) := by decide +kernel
theorem dL_law_267 : decode cL_law 267 = .ok (.aload_n 2, 1) := by decide +kernel
theorem dL_law_268 : decode cL_law 268 = .ok (.invokevirtual 24, 3) := by decide +kernel
theorem dL_law_271 : decode cL_law 271 = .ok (.if_icmp .eq 951, 3) := by decide +kernel
theorem dL_law_274 : decode cL_law 274 = .ok (.iconst 0, 1) := by decide +kernel
theorem dL_law_275 : decode cL_law 275 = .ok (.ireturn, 1) := by decide +kernel
theorem dL_law_276 : decode cL_law 276 = .ok (.aload_n 1, 1) := by decide +kernel
theorem dL_law_277 : decode cL_law 277 = .ok (.invokevirtual 25, 3) := by decide +kernel
theorem dL_law_280 : decode cL_law 280 = .ok (.aload_n 2, 1) := by decide +kernel
theorem dL_law_281 : decode cL_law 281 = .ok (.invokevirtual 28, 3) := by decide +kernel
theorem dL_law_284 : decode cL_law 284 = .ok (.if_icmp .eq 938, 3) := by decide +kernel
theorem dL_law_287 : decode cL_law 287 = .ok (.iconst 0, 1) := by decide +kernel
theorem dL_law_288 : decode cL_law 288 = .ok (.ireturn, 1) := by decide +kernel
theorem dL_law_289 : decode cL_law 289 = .ok (.aload_n 1, 1) := by decide +kernel
theorem dL_law_290 : decode cL_law 290 = .ok (.invokevirtual 29, 3) := by decide +kernel
theorem dL_law_293 : decode cL_law 293 = .ok (.aload_n 2, 1) := by decide +kernel
theorem dL_law_294 : decode cL_law 294 = .ok (.invokevirtual 32, 3) := by decide +kernel
theorem dL_law_297 : decode cL_law 297 = .ok (.if_icmp .eq 925, 3) := by decide +kernel
theorem dL_law_300 : decode cL_law 300 = .ok (.iconst 0, 1) := by decide +kernel
theorem dL_law_301 : decode cL_law 301 = .ok (.ireturn, 1) := by decide +kernel
theorem dL_law_302 : decode cL_law 302 = .ok (.aload_n 1, 1) := by decide +kernel
theorem dL_law_303 : decode cL_law 303 = .ok (.aload_n 0, 1) := by decide +kernel
theorem dL_law_304 : decode cL_law 304 = .ok (.iload_n 3, 1) := by decide +kernel
theorem dL_law_305 : decode cL_law 305 = .ok (.iconst 1, 1) := by decide +kernel
theorem dL_law_306 : decode cL_law 306 = .ok (.iadd, 1) := by decide +kernel
theorem dL_law_307 : decode cL_law 307 = .ok (.iaload, 1) := by decide +kernel
theorem dL_law_308 : decode cL_law 308 = .ok (.aload_n 0, 1) := by decide +kernel
theorem dL_law_309 : decode cL_law 309 = .ok (.iload_n 3, 1) := by decide +kernel
theorem dL_law_310 : decode cL_law 310 = .ok (.iconst 2, 1) := by decide +kernel
theorem dL_law_311 : decode cL_law 311 = .ok (.iadd, 1) := by decide +kernel
theorem dL_law_312 : decode cL_law 312 = .ok (.iaload, 1) := by decide +kernel
theorem dL_law_313 : decode cL_law 313 = .ok (.invokevirtual 33, 3) := by decide +kernel
theorem dL_law_316 : decode cL_law 316 = .ok (.aload_n 2, 1) := by decide +kernel
theorem dL_law_317 : decode cL_law 317 = .ok (.aload_n 0, 1) := by decide +kernel
theorem dL_law_318 : decode cL_law 318 = .ok (.iload_n 3, 1) := by decide +kernel
theorem dL_law_319 : decode cL_law 319 = .ok (.iconst 1, 1) := by decide +kernel
theorem dL_law_320 : decode cL_law 320 = .ok (.iadd, 1) := by decide +kernel
theorem dL_law_321 : decode cL_law 321 = .ok (.iaload, 1) := by decide +kernel
theorem dL_law_322 : decode cL_law 322 = .ok (.aload_n 0, 1) := by decide +kernel
theorem dL_law_323 : decode cL_law 323 = .ok (.iload_n 3, 1) := by decide +kernel
theorem dL_law_324 : decode cL_law 324 = .ok (.iconst 2, 1) := by decide +kernel
theorem dL_law_325 : decode cL_law 325 = .ok (.iadd, 1) := by decide +kernel
theorem dL_law_326 : decode cL_law 326 = .ok (.iaload, 1) := by decide +kernel
theorem dL_law_327 : decode cL_law 327 = .ok (.invokevirtual 37, 3) := by decide +kernel
theorem dL_law_330 : decode cL_law 330 = .ok (.if_icmp .eq 892, 3) := by decide +kernel
theorem dL_law_333 : decode cL_law 333 = .ok (.iconst 0, 1) := by decide +kernel
theorem dL_law_334 : decode cL_law 334 = .ok (.ireturn, 1) := by decide +kernel
theorem dL_law_335 : decode cL_law 335 = .ok (.aload_n 1, 1) := by decide +kernel
theorem dL_law_336 : decode cL_law 336 = .ok (.aload_n 0, 1) := by decide +kernel
theorem dL_law_337 : decode cL_law 337 = .ok (.iload_n 3, 1) := by decide +kernel
theorem dL_law_338 : decode cL_law 338 = .ok (.iconst 1, 1) := by decide +kernel
theorem dL_law_339 : decode cL_law 339 = .ok (.iadd, 1) := by decide +kernel
theorem dL_law_340 : decode cL_law 340 = .ok (.iaload, 1) := by decide +kernel
theorem dL_law_341 : decode cL_law 341 = .ok (.aload_n 0, 1) := by decide +kernel
theorem dL_law_342 : decode cL_law 342 = .ok (.iload_n 3, 1) := by decide +kernel
theorem dL_law_343 : decode cL_law 343 = .ok (.iconst 2, 1) := by decide +kernel
theorem dL_law_344 : decode cL_law 344 = .ok (.iadd, 1) := by decide +kernel
theorem dL_law_345 : decode cL_law 345 = .ok (.iaload, 1) := by decide +kernel
theorem dL_law_346 : decode cL_law 346 = .ok (.invokevirtual 38, 3) := by decide +kernel
theorem dL_law_349 : decode cL_law 349 = .ok (.aload_n 2, 1) := by decide +kernel
theorem dL_law_350 : decode cL_law 350 = .ok (.aload_n 0, 1) := by decide +kernel
theorem dL_law_351 : decode cL_law 351 = .ok (.iload_n 3, 1) := by decide +kernel
theorem dL_law_352 : decode cL_law 352 = .ok (.iconst 1, 1) := by decide +kernel
theorem dL_law_353 : decode cL_law 353 = .ok (.iadd, 1) := by decide +kernel
theorem dL_law_354 : decode cL_law 354 = .ok (.iaload, 1) := by decide +kernel
theorem dL_law_355 : decode cL_law 355 = .ok (.aload_n 0, 1) := by decide +kernel
theorem dL_law_356 : decode cL_law 356 = .ok (.iload_n 3, 1) := by decide +kernel
theorem dL_law_357 : decode cL_law 357 = .ok (.iconst 2, 1) := by decide +kernel
theorem dL_law_358 : decode cL_law 358 = .ok (.iadd, 1) := by decide +kernel
theorem dL_law_359 : decode cL_law 359 = .ok (.iaload, 1) := by decide +kernel
theorem dL_law_360 : decode cL_law 360 = .ok (.invokevirtual 41, 3) := by decide +kernel
theorem dL_law_363 : decode cL_law 363 = .ok (.if_icmp .eq 859, 3) := by decide +kernel
theorem dL_law_366 : decode cL_law 366 = .ok (.iconst 0, 1) := by decide +kernel
theorem dL_law_367 : decode cL_law 367 = .ok (.ireturn, 1) := by decide +kernel
theorem dL_law_368 : decode cL_law 368 = .ok (.aload_n 1, 1) := by decide +kernel
theorem dL_law_369 : decode cL_law 369 = .ok (.aload_n 0, 1) := by decide +kernel
theorem dL_law_370 : decode cL_law 370 = .ok (.iload_n 3, 1) := by decide +kernel
theorem dL_law_371 : decode cL_law 371 = .ok (.iconst 1, 1) := by decide +kernel
theorem dL_law_372 : decode cL_law 372 = .ok (.iadd, 1) := by decide +kernel
theorem dL_law_373 : decode cL_law 373 = .ok (.iaload, 1) := by decide +kernel
theorem dL_law_374 : decode cL_law 374 = .ok (.invokevirtual 42, 3) := by decide +kernel
theorem dL_law_377 : decode cL_law 377 = .ok (.aload_n 2, 1) := by decide +kernel
theorem dL_law_378 : decode cL_law 378 = .ok (.aload_n 0, 1) := by decide +kernel
theorem dL_law_379 : decode cL_law 379 = .ok (.iload_n 3, 1) := by decide +kernel
theorem dL_law_380 : decode cL_law 380 = .ok (.iconst 1, 1) := by decide +kernel
theorem dL_law_381 : decode cL_law 381 = .ok (.iadd, 1) := by decide +kernel
theorem dL_law_382 : decode cL_law 382 = .ok (.iaload, 1) := by decide +kernel
theorem dL_law_383 : decode cL_law 383 = .ok (.invokevirtual 46, 3) := by decide +kernel
theorem dL_law_386 : decode cL_law 386 = .ok (.if_icmp .eq 836, 3) := by decide +kernel
theorem dL_law_389 : decode cL_law 389 = .ok (.iconst 0, 1) := by decide +kernel
theorem dL_law_390 : decode cL_law 390 = .ok (.ireturn, 1) := by decide +kernel
theorem dL_law_391 : decode cL_law 391 = .ok (.aload_n 1, 1) := by decide +kernel
theorem dL_law_392 : decode cL_law 392 = .ok (.aload_n 0, 1) := by decide +kernel
theorem dL_law_393 : decode cL_law 393 = .ok (.iload_n 3, 1) := by decide +kernel
theorem dL_law_394 : decode cL_law 394 = .ok (.iconst 1, 1) := by decide +kernel
theorem dL_law_395 : decode cL_law 395 = .ok (.iadd, 1) := by decide +kernel
theorem dL_law_396 : decode cL_law 396 = .ok (.iaload, 1) := by decide +kernel
theorem dL_law_397 : decode cL_law 397 = .ok (.aload_n 0, 1) := by decide +kernel
theorem dL_law_398 : decode cL_law 398 = .ok (.iload_n 3, 1) := by decide +kernel
theorem dL_law_399 : decode cL_law 399 = .ok (.iconst 2, 1) := by decide +kernel
theorem dL_law_400 : decode cL_law 400 = .ok (.iadd, 1) := by decide +kernel
theorem dL_law_401 : decode cL_law 401 = .ok (.iaload, 1) := by decide +kernel
theorem dL_law_402 : decode cL_law 402 = .ok (.invokevirtual 47, 3) := by decide +kernel
theorem dL_law_405 : decode cL_law 405 = .ok (.aload_n 2, 1) := by decide +kernel
theorem dL_law_406 : decode cL_law 406 = .ok (.aload_n 0, 1) := by decide +kernel
theorem dL_law_407 : decode cL_law 407 = .ok (.iload_n 3, 1) := by decide +kernel
theorem dL_law_408 : decode cL_law 408 = .ok (.iconst 1, 1) := by decide +kernel
theorem dL_law_409 : decode cL_law 409 = .ok (.iadd, 1) := by decide +kernel
theorem dL_law_410 : decode cL_law 410 = .ok (.iaload, 1) := by decide +kernel
theorem dL_law_411 : decode cL_law 411 = .ok (.aload_n 0, 1) := by decide +kernel
theorem dL_law_412 : decode cL_law 412 = .ok (.iload_n 3, 1) := by decide +kernel
theorem dL_law_413 : decode cL_law 413 = .ok (.iconst 2, 1) := by decide +kernel
theorem dL_law_414 : decode cL_law 414 = .ok (.iadd, 1) := by decide +kernel
theorem dL_law_415 : decode cL_law 415 = .ok (.iaload, 1) := by decide +kernel
theorem dL_law_416 : decode cL_law 416 = .ok (.invokevirtual 50, 3) := by decide +kernel
theorem dL_law_419 : decode cL_law 419 = .ok (.if_icmp .eq 803, 3) := by decide +kernel
theorem dL_law_422 : decode cL_law 422 = .ok (.iconst 0, 1) := by decide +kernel
theorem dL_law_423 : decode cL_law 423 = .ok (.ireturn, 1) := by decide +kernel
theorem dL_law_424 : decode cL_law 424 = .ok (.aload_n 1, 1) := by decide +kernel
theorem dL_law_425 : decode cL_law 425 = .ok (.aload_n 0, 1) := by decide +kernel
theorem dL_law_426 : decode cL_law 426 = .ok (.iload_n 3, 1) := by decide +kernel
theorem dL_law_427 : decode cL_law 427 = .ok (.iconst 1, 1) := by decide +kernel
theorem dL_law_428 : decode cL_law 428 = .ok (.iadd, 1) := by decide +kernel
theorem dL_law_429 : decode cL_law 429 = .ok (.iaload, 1) := by decide +kernel
theorem dL_law_430 : decode cL_law 430 = .ok (.aload_n 0, 1) := by decide +kernel
theorem dL_law_431 : decode cL_law 431 = .ok (.iload_n 3, 1) := by decide +kernel
theorem dL_law_432 : decode cL_law 432 = .ok (.iconst 2, 1) := by decide +kernel
theorem dL_law_433 : decode cL_law 433 = .ok (.iadd, 1) := by decide +kernel
theorem dL_law_434 : decode cL_law 434 = .ok (.iaload, 1) := by decide +kernel
theorem dL_law_435 : decode cL_law 435 = .ok (.invokevirtual 51, 3) := by decide +kernel
theorem dL_law_438 : decode cL_law 438 = .ok (.aload_n 2, 1) := by decide +kernel
theorem dL_law_439 : decode cL_law 439 = .ok (.aload_n 0, 1) := by decide +kernel
theorem dL_law_440 : decode cL_law 440 = .ok (.iload_n 3, 1) := by decide +kernel
theorem dL_law_441 : decode cL_law 441 = .ok (.iconst 1, 1) := by decide +kernel
theorem dL_law_442 : decode cL_law 442 = .ok (.iadd, 1) := by decide +kernel
theorem dL_law_443 : decode cL_law 443 = .ok (.iaload, 1) := by decide +kernel
theorem dL_law_444 : decode cL_law 444 = .ok (.aload_n 0, 1) := by decide +kernel
theorem dL_law_445 : decode cL_law 445 = .ok (.iload_n 3, 1) := by decide +kernel
theorem dL_law_446 : decode cL_law 446 = .ok (.iconst 2, 1) := by decide +kernel
theorem dL_law_447 : decode cL_law 447 = .ok (.iadd, 1) := by decide +kernel
theorem dL_law_448 : decode cL_law 448 = .ok (.iaload, 1) := by decide +kernel
theorem dL_law_449 : decode cL_law 449 = .ok (.invokevirtual 54, 3) := by decide +kernel
theorem dL_law_452 : decode cL_law 452 = .ok (.if_icmp .eq 770, 3) := by decide +kernel
theorem dL_law_455 : decode cL_law 455 = .ok (.iconst 0, 1) := by decide +kernel
theorem dL_law_456 : decode cL_law 456 = .ok (.ireturn, 1) := by decide +kernel
theorem dL_law_457 : decode cL_law 457 = .ok (.aload_n 1, 1) := by decide +kernel
theorem dL_law_458 : decode cL_law 458 = .ok (.invokevirtual 55, 3) := by decide +kernel
theorem dL_law_461 : decode cL_law 461 = .ok (.aload_n 2, 1) := by decide +kernel
theorem dL_law_462 : decode cL_law 462 = .ok (.invokevirtual 58, 3) := by decide +kernel
theorem dL_law_465 : decode cL_law 465 = .ok (.if_icmp .eq 757, 3) := by decide +kernel
theorem dL_law_468 : decode cL_law 468 = .ok (.iconst 0, 1) := by decide +kernel
theorem dL_law_469 : decode cL_law 469 = .ok (.ireturn, 1) := by decide +kernel
theorem dL_law_470 : decode cL_law 470 = .ok (.aload_n 1, 1) := by decide +kernel
theorem dL_law_471 : decode cL_law 471 = .ok (.aload_n 0, 1) := by decide +kernel
theorem dL_law_472 : decode cL_law 472 = .ok (.iload_n 3, 1) := by decide +kernel
theorem dL_law_473 : decode cL_law 473 = .ok (.iconst 1, 1) := by decide +kernel
theorem dL_law_474 : decode cL_law 474 = .ok (.iadd, 1) := by decide +kernel
theorem dL_law_475 : decode cL_law 475 = .ok (.iaload, 1) := by decide +kernel
theorem dL_law_476 : decode cL_law 476 = .ok (.invokevirtual 59, 3) := by decide +kernel
theorem dL_law_479 : decode cL_law 479 = .ok (.aload_n 2, 1) := by decide +kernel
theorem dL_law_480 : decode cL_law 480 = .ok (.aload_n 0, 1) := by decide +kernel
theorem dL_law_481 : decode cL_law 481 = .ok (.iload_n 3, 1) := by decide +kernel
theorem dL_law_482 : decode cL_law 482 = .ok (.iconst 1, 1) := by decide +kernel
theorem dL_law_483 : decode cL_law 483 = .ok (.iadd, 1) := by decide +kernel
theorem dL_law_484 : decode cL_law 484 = .ok (.iaload, 1) := by decide +kernel
theorem dL_law_485 : decode cL_law 485 = .ok (.invokevirtual 62, 3) := by decide +kernel
theorem dL_law_488 : decode cL_law 488 = .ok (.if_icmp .eq 734, 3) := by decide +kernel
theorem dL_law_491 : decode cL_law 491 = .ok (.iconst 0, 1) := by decide +kernel
theorem dL_law_492 : decode cL_law 492 = .ok (.ireturn, 1) := by decide +kernel
theorem dL_law_493 : decode cL_law 493 = .ok (.aload_n 1, 1) := by decide +kernel
theorem dL_law_494 : decode cL_law 494 = .ok (.aload_n 0, 1) := by decide +kernel
theorem dL_law_495 : decode cL_law 495 = .ok (.iload_n 3, 1) := by decide +kernel
theorem dL_law_496 : decode cL_law 496 = .ok (.iconst 1, 1) := by decide +kernel
theorem dL_law_497 : decode cL_law 497 = .ok (.iadd, 1) := by decide +kernel
theorem dL_law_498 : decode cL_law 498 = .ok (.iaload, 1) := by decide +kernel
theorem dL_law_499 : decode cL_law 499 = .ok (.aload_n 0, 1) := by decide +kernel
theorem dL_law_500 : decode cL_law 500 = .ok (.iload_n 3, 1) := by decide +kernel
theorem dL_law_501 : decode cL_law 501 = .ok (.iconst 2, 1) := by decide +kernel
theorem dL_law_502 : decode cL_law 502 = .ok (.iadd, 1) := by decide +kernel
theorem dL_law_503 : decode cL_law 503 = .ok (.iaload, 1) := by decide +kernel
theorem dL_law_504 : decode cL_law 504 = .ok (.invokevirtual 63, 3) := by decide +kernel
theorem dL_law_507 : decode cL_law 507 = .ok (.aload_n 2, 1) := by decide +kernel
theorem dL_law_508 : decode cL_law 508 = .ok (.aload_n 0, 1) := by decide +kernel
theorem dL_law_509 : decode cL_law 509 = .ok (.iload_n 3, 1) := by decide +kernel
theorem dL_law_510 : decode cL_law 510 = .ok (.iconst 1, 1) := by decide +kernel
theorem dL_law_511 : decode cL_law 511 = .ok (.iadd, 1) := by decide +kernel
theorem dL_law_512 : decode cL_law 512 = .ok (.iaload, 1) := by decide +kernel
theorem dL_law_513 : decode cL_law 513 = .ok (.aload_n 0, 1) := by decide +kernel
theorem dL_law_514 : decode cL_law 514 = .ok (.iload_n 3, 1) := by decide +kernel
theorem dL_law_515 : decode cL_law 515 = .ok (.iconst 2, 1) := by decide +kernel
theorem dL_law_516 : decode cL_law 516 = .ok (.iadd, 1) := by decide +kernel
theorem dL_law_517 : decode cL_law 517 = .ok (.iaload, 1) := by decide +kernel
theorem dL_law_518 : decode cL_law 518 = .ok (.invokevirtual 66, 3) := by decide +kernel
theorem dL_law_521 : decode cL_law 521 = .ok (.if_icmp .eq 701, 3) := by decide +kernel
theorem dL_law_524 : decode cL_law 524 = .ok (.iconst 0, 1) := by decide +kernel
theorem dL_law_525 : decode cL_law 525 = .ok (.ireturn, 1) := by decide +kernel
theorem dL_law_526 : decode cL_law 526 = .ok (.aload_n 1, 1) := by decide +kernel
theorem dL_law_527 : decode cL_law 527 = .ok (.invokevirtual 67, 3) := by decide +kernel
theorem dL_law_530 : decode cL_law 530 = .ok (.aload_n 2, 1) := by decide +kernel
theorem dL_law_531 : decode cL_law 531 = .ok (.invokevirtual 70, 3) := by decide +kernel
theorem dL_law_534 : decode cL_law 534 = .ok (.if_icmp .eq 688, 3) := by decide +kernel
theorem dL_law_537 : decode cL_law 537 = .ok (.iconst 0, 1) := by decide +kernel
theorem dL_law_538 : decode cL_law 538 = .ok (.ireturn, 1) := by decide +kernel
theorem dL_law_539 : decode cL_law 539 = .ok (.aload_n 1, 1) := by decide +kernel
theorem dL_law_540 : decode cL_law 540 = .ok (.aload_n 0, 1) := by decide +kernel
theorem dL_law_541 : decode cL_law 541 = .ok (.iload_n 3, 1) := by decide +kernel
theorem dL_law_542 : decode cL_law 542 = .ok (.iconst 1, 1) := by decide +kernel
theorem dL_law_543 : decode cL_law 543 = .ok (.iadd, 1) := by decide +kernel
theorem dL_law_544 : decode cL_law 544 = .ok (.iaload, 1) := by decide +kernel
theorem dL_law_545 : decode cL_law 545 = .ok (.aload_n 0, 1) := by decide +kernel
theorem dL_law_546 : decode cL_law 546 = .ok (.iload_n 3, 1) := by decide +kernel
theorem dL_law_547 : decode cL_law 547 = .ok (.iconst 2, 1) := by decide +kernel
theorem dL_law_548 : decode cL_law 548 = .ok (.iadd, 1) := by decide +kernel
theorem dL_law_549 : decode cL_law 549 = .ok (.iaload, 1) := by decide +kernel
theorem dL_law_550 : decode cL_law 550 = .ok (.invokevirtual 71, 3) := by decide +kernel
theorem dL_law_553 : decode cL_law 553 = .ok (.aload_n 2, 1) := by decide +kernel
theorem dL_law_554 : decode cL_law 554 = .ok (.aload_n 0, 1) := by decide +kernel
theorem dL_law_555 : decode cL_law 555 = .ok (.iload_n 3, 1) := by decide +kernel
theorem dL_law_556 : decode cL_law 556 = .ok (.iconst 1, 1) := by decide +kernel
theorem dL_law_557 : decode cL_law 557 = .ok (.iadd, 1) := by decide +kernel
theorem dL_law_558 : decode cL_law 558 = .ok (.iaload, 1) := by decide +kernel
theorem dL_law_559 : decode cL_law 559 = .ok (.aload_n 0, 1) := by decide +kernel
theorem dL_law_560 : decode cL_law 560 = .ok (.iload_n 3, 1) := by decide +kernel
theorem dL_law_561 : decode cL_law 561 = .ok (.iconst 2, 1) := by decide +kernel
theorem dL_law_562 : decode cL_law 562 = .ok (.iadd, 1) := by decide +kernel
theorem dL_law_563 : decode cL_law 563 = .ok (.iaload, 1) := by decide +kernel
theorem dL_law_564 : decode cL_law 564 = .ok (.invokevirtual 74, 3) := by decide +kernel
theorem dL_law_567 : decode cL_law 567 = .ok (.if_icmp .eq 655, 3) := by decide +kernel
theorem dL_law_570 : decode cL_law 570 = .ok (.iconst 0, 1) := by decide +kernel
theorem dL_law_571 : decode cL_law 571 = .ok (.ireturn, 1) := by decide +kernel
theorem dL_law_572 : decode cL_law 572 = .ok (.aload_n 1, 1) := by decide +kernel
theorem dL_law_573 : decode cL_law 573 = .ok (.aload_n 0, 1) := by decide +kernel
theorem dL_law_574 : decode cL_law 574 = .ok (.iload_n 3, 1) := by decide +kernel
theorem dL_law_575 : decode cL_law 575 = .ok (.iconst 1, 1) := by decide +kernel
theorem dL_law_576 : decode cL_law 576 = .ok (.iadd, 1) := by decide +kernel
theorem dL_law_577 : decode cL_law 577 = .ok (.iaload, 1) := by decide +kernel
theorem dL_law_578 : decode cL_law 578 = .ok (.invokevirtual 75, 3) := by decide +kernel
theorem dL_law_581 : decode cL_law 581 = .ok (.aload_n 2, 1) := by decide +kernel
theorem dL_law_582 : decode cL_law 582 = .ok (.aload_n 0, 1) := by decide +kernel
theorem dL_law_583 : decode cL_law 583 = .ok (.iload_n 3, 1) := by decide +kernel
theorem dL_law_584 : decode cL_law 584 = .ok (.iconst 1, 1) := by decide +kernel
theorem dL_law_585 : decode cL_law 585 = .ok (.iadd, 1) := by decide +kernel
theorem dL_law_586 : decode cL_law 586 = .ok (.iaload, 1) := by decide +kernel
theorem dL_law_587 : decode cL_law 587 = .ok (.invokevirtual 78, 3) := by decide +kernel
theorem dL_law_590 : decode cL_law 590 = .ok (.if_icmp .eq 632, 3) := by decide +kernel
theorem dL_law_593 : decode cL_law 593 = .ok (.iconst 0, 1) := by decide +kernel
theorem dL_law_594 : decode cL_law 594 = .ok (.ireturn, 1) := by decide +kernel
theorem dL_law_595 : decode cL_law 595 = .ok (.aload_n 1, 1) := by decide +kernel
theorem dL_law_596 : decode cL_law 596 = .ok (.aload_n 0, 1) := by decide +kernel
theorem dL_law_597 : decode cL_law 597 = .ok (.iload_n 3, 1) := by decide +kernel
theorem dL_law_598 : decode cL_law 598 = .ok (.iconst 1, 1) := by decide +kernel
theorem dL_law_599 : decode cL_law 599 = .ok (.iadd, 1) := by decide +kernel
theorem dL_law_600 : decode cL_law 600 = .ok (.iaload, 1) := by decide +kernel
theorem dL_law_601 : decode cL_law 601 = .ok (.invokevirtual 79, 3) := by decide +kernel
theorem dL_law_604 : decode cL_law 604 = .ok (.aload_n 2, 1) := by decide +kernel
theorem dL_law_605 : decode cL_law 605 = .ok (.aload_n 0, 1) := by decide +kernel
theorem dL_law_606 : decode cL_law 606 = .ok (.iload_n 3, 1) := by decide +kernel
theorem dL_law_607 : decode cL_law 607 = .ok (.iconst 1, 1) := by decide +kernel
theorem dL_law_608 : decode cL_law 608 = .ok (.iadd, 1) := by decide +kernel
theorem dL_law_609 : decode cL_law 609 = .ok (.iaload, 1) := by decide +kernel
theorem dL_law_610 : decode cL_law 610 = .ok (.invokevirtual 82, 3) := by decide +kernel
theorem dL_law_613 : decode cL_law 613 = .ok (.if_icmp .eq 609, 3) := by decide +kernel
theorem dL_law_616 : decode cL_law 616 = .ok (.iconst 0, 1) := by decide +kernel
theorem dL_law_617 : decode cL_law 617 = .ok (.ireturn, 1) := by decide +kernel
theorem dL_law_618 : decode cL_law 618 = .ok (.aload_n 1, 1) := by decide +kernel
theorem dL_law_619 : decode cL_law 619 = .ok (.aload_n 0, 1) := by decide +kernel
theorem dL_law_620 : decode cL_law 620 = .ok (.iload_n 3, 1) := by decide +kernel
theorem dL_law_621 : decode cL_law 621 = .ok (.iconst 1, 1) := by decide +kernel
theorem dL_law_622 : decode cL_law 622 = .ok (.iadd, 1) := by decide +kernel
theorem dL_law_623 : decode cL_law 623 = .ok (.iaload, 1) := by decide +kernel
theorem dL_law_624 : decode cL_law 624 = .ok (.invokevirtual 83, 3) := by decide +kernel
theorem dL_law_627 : decode cL_law 627 = .ok (.aload_n 2, 1) := by decide +kernel
theorem dL_law_628 : decode cL_law 628 = .ok (.aload_n 0, 1) := by decide +kernel
theorem dL_law_629 : decode cL_law 629 = .ok (.iload_n 3, 1) := by decide +kernel
theorem dL_law_630 : decode cL_law 630 = .ok (.iconst 1, 1) := by decide +kernel
theorem dL_law_631 : decode cL_law 631 = .ok (.iadd, 1) := by decide +kernel
theorem dL_law_632 : decode cL_law 632 = .ok (.iaload, 1) := by decide +kernel
theorem dL_law_633 : decode cL_law 633 = .ok (.invokevirtual 86, 3) := by decide +kernel
theorem dL_law_636 : decode cL_law 636 = .ok (.if_icmp .eq 586, 3) := by decide +kernel
theorem dL_law_639 : decode cL_law 639 = .ok (.iconst 0, 1) := by decide +kernel
theorem dL_law_640 : decode cL_law 640 = .ok (.ireturn, 1) := by decide +kernel
theorem dL_law_641 : decode cL_law 641 = .ok (.aload_n 1, 1) := by decide +kernel
theorem dL_law_642 : decode cL_law 642 = .ok (.aload_n 0, 1) := by decide +kernel
theorem dL_law_643 : decode cL_law 643 = .ok (.iload_n 3, 1) := by decide +kernel
theorem dL_law_644 : decode cL_law 644 = .ok (.iconst 1, 1) := by decide +kernel
theorem dL_law_645 : decode cL_law 645 = .ok (.iadd, 1) := by decide +kernel
theorem dL_law_646 : decode cL_law 646 = .ok (.iaload, 1) := by decide +kernel
theorem dL_law_647 : decode cL_law 647 = .ok (.aload_n 0, 1) := by decide +kernel
theorem dL_law_648 : decode cL_law 648 = .ok (.iload_n 3, 1) := by decide +kernel
theorem dL_law_649 : decode cL_law 649 = .ok (.iconst 2, 1) := by decide +kernel
theorem dL_law_650 : decode cL_law 650 = .ok (.iadd, 1) := by decide +kernel
theorem dL_law_651 : decode cL_law 651 = .ok (.iaload, 1) := by decide +kernel
theorem dL_law_652 : decode cL_law 652 = .ok (.aload_n 0, 1) := by decide +kernel
theorem dL_law_653 : decode cL_law 653 = .ok (.iload_n 3, 1) := by decide +kernel
theorem dL_law_654 : decode cL_law 654 = .ok (.iconst 3, 1) := by decide +kernel
theorem dL_law_655 : decode cL_law 655 = .ok (.iadd, 1) := by decide +kernel
theorem dL_law_656 : decode cL_law 656 = .ok (.iaload, 1) := by decide +kernel
theorem dL_law_657 : decode cL_law 657 = .ok (.invokevirtual 87, 3) := by decide +kernel
theorem dL_law_660 : decode cL_law 660 = .ok (.aload_n 2, 1) := by decide +kernel
theorem dL_law_661 : decode cL_law 661 = .ok (.aload_n 0, 1) := by decide +kernel
theorem dL_law_662 : decode cL_law 662 = .ok (.iload_n 3, 1) := by decide +kernel
theorem dL_law_663 : decode cL_law 663 = .ok (.iconst 1, 1) := by decide +kernel
theorem dL_law_664 : decode cL_law 664 = .ok (.iadd, 1) := by decide +kernel
theorem dL_law_665 : decode cL_law 665 = .ok (.iaload, 1) := by decide +kernel
theorem dL_law_666 : decode cL_law 666 = .ok (.aload_n 0, 1) := by decide +kernel
theorem dL_law_667 : decode cL_law 667 = .ok (.iload_n 3, 1) := by decide +kernel
theorem dL_law_668 : decode cL_law 668 = .ok (.iconst 2, 1) := by decide +kernel
theorem dL_law_669 : decode cL_law 669 = .ok (.iadd, 1) := by decide +kernel
theorem dL_law_670 : decode cL_law 670 = .ok (.iaload, 1) := by decide +kernel
theorem dL_law_671 : decode cL_law 671 = .ok (.aload_n 0, 1) := by decide +kernel
theorem dL_law_672 : decode cL_law 672 = .ok (.iload_n 3, 1) := by decide +kernel
theorem dL_law_673 : decode cL_law 673 = .ok (.iconst 3, 1) := by decide +kernel
theorem dL_law_674 : decode cL_law 674 = .ok (.iadd, 1) := by decide +kernel
theorem dL_law_675 : decode cL_law 675 = .ok (.iaload, 1) := by decide +kernel
theorem dL_law_676 : decode cL_law 676 = .ok (.invokevirtual 91, 3) := by decide +kernel
theorem dL_law_679 : decode cL_law 679 = .ok (.if_icmp .eq 543, 3) := by decide +kernel
theorem dL_law_682 : decode cL_law 682 = .ok (.iconst 0, 1) := by decide +kernel
theorem dL_law_683 : decode cL_law 683 = .ok (.ireturn, 1) := by decide +kernel
theorem dL_law_684 : decode cL_law 684 = .ok (.aload_n 1, 1) := by decide +kernel
theorem dL_law_685 : decode cL_law 685 = .ok (.aload_n 0, 1) := by decide +kernel
theorem dL_law_686 : decode cL_law 686 = .ok (.iload_n 3, 1) := by decide +kernel
theorem dL_law_687 : decode cL_law 687 = .ok (.iconst 1, 1) := by decide +kernel
theorem dL_law_688 : decode cL_law 688 = .ok (.iadd, 1) := by decide +kernel
theorem dL_law_689 : decode cL_law 689 = .ok (.iaload, 1) := by decide +kernel
theorem dL_law_690 : decode cL_law 690 = .ok (.aload_n 0, 1) := by decide +kernel
theorem dL_law_691 : decode cL_law 691 = .ok (.iload_n 3, 1) := by decide +kernel
theorem dL_law_692 : decode cL_law 692 = .ok (.iconst 2, 1) := by decide +kernel
theorem dL_law_693 : decode cL_law 693 = .ok (.iadd, 1) := by decide +kernel
theorem dL_law_694 : decode cL_law 694 = .ok (.iaload, 1) := by decide +kernel
theorem dL_law_695 : decode cL_law 695 = .ok (.aload_n 0, 1) := by decide +kernel
theorem dL_law_696 : decode cL_law 696 = .ok (.iload_n 3, 1) := by decide +kernel
theorem dL_law_697 : decode cL_law 697 = .ok (.iconst 3, 1) := by decide +kernel
theorem dL_law_698 : decode cL_law 698 = .ok (.iadd, 1) := by decide +kernel
theorem dL_law_699 : decode cL_law 699 = .ok (.iaload, 1) := by decide +kernel
theorem dL_law_700 : decode cL_law 700 = .ok (.ifCond .eq 7, 3) := by decide +kernel
theorem dL_law_703 : decode cL_law 703 = .ok (.iconst 1, 1) := by decide +kernel
theorem dL_law_704 : decode cL_law 704 = .ok (.goto 4, 3) := by decide +kernel
theorem dL_law_707 : decode cL_law 707 = .ok (.iconst 0, 1) := by decide +kernel
theorem dL_law_708 : decode cL_law 708 = .ok (.invokevirtual 92, 3) := by decide +kernel
theorem dL_law_711 : decode cL_law 711 = .ok (.aload_n 2, 1) := by decide +kernel
theorem dL_law_712 : decode cL_law 712 = .ok (.aload_n 0, 1) := by decide +kernel
theorem dL_law_713 : decode cL_law 713 = .ok (.iload_n 3, 1) := by decide +kernel
theorem dL_law_714 : decode cL_law 714 = .ok (.iconst 1, 1) := by decide +kernel
theorem dL_law_715 : decode cL_law 715 = .ok (.iadd, 1) := by decide +kernel
theorem dL_law_716 : decode cL_law 716 = .ok (.iaload, 1) := by decide +kernel
theorem dL_law_717 : decode cL_law 717 = .ok (.aload_n 0, 1) := by decide +kernel
theorem dL_law_718 : decode cL_law 718 = .ok (.iload_n 3, 1) := by decide +kernel
theorem dL_law_719 : decode cL_law 719 = .ok (.iconst 2, 1) := by decide +kernel
theorem dL_law_720 : decode cL_law 720 = .ok (.iadd, 1) := by decide +kernel
theorem dL_law_721 : decode cL_law 721 = .ok (.iaload, 1) := by decide +kernel
theorem dL_law_722 : decode cL_law 722 = .ok (.aload_n 0, 1) := by decide +kernel
theorem dL_law_723 : decode cL_law 723 = .ok (.iload_n 3, 1) := by decide +kernel
theorem dL_law_724 : decode cL_law 724 = .ok (.iconst 3, 1) := by decide +kernel
theorem dL_law_725 : decode cL_law 725 = .ok (.iadd, 1) := by decide +kernel
theorem dL_law_726 : decode cL_law 726 = .ok (.iaload, 1) := by decide +kernel
theorem dL_law_727 : decode cL_law 727 = .ok (.ifCond .eq 7, 3) := by decide +kernel
theorem dL_law_730 : decode cL_law 730 = .ok (.iconst 1, 1) := by decide +kernel
theorem dL_law_731 : decode cL_law 731 = .ok (.goto 4, 3) := by decide +kernel
theorem dL_law_734 : decode cL_law 734 = .ok (.iconst 0, 1) := by decide +kernel
theorem dL_law_735 : decode cL_law 735 = .ok (.invokevirtual 96, 3) := by decide +kernel
theorem dL_law_738 : decode cL_law 738 = .ok (.if_icmp .eq 484, 3) := by decide +kernel
theorem dL_law_741 : decode cL_law 741 = .ok (.iconst 0, 1) := by decide +kernel
theorem dL_law_742 : decode cL_law 742 = .ok (.ireturn, 1) := by decide +kernel
theorem dL_law_743 : decode cL_law 743 = .ok (.aload_n 1, 1) := by decide +kernel
theorem dL_law_744 : decode cL_law 744 = .ok (.aload_n 0, 1) := by decide +kernel
theorem dL_law_745 : decode cL_law 745 = .ok (.iload_n 3, 1) := by decide +kernel
theorem dL_law_746 : decode cL_law 746 = .ok (.iconst 1, 1) := by decide +kernel
theorem dL_law_747 : decode cL_law 747 = .ok (.iadd, 1) := by decide +kernel
theorem dL_law_748 : decode cL_law 748 = .ok (.iaload, 1) := by decide +kernel
theorem dL_law_749 : decode cL_law 749 = .ok (.aload_n 0, 1) := by decide +kernel
theorem dL_law_750 : decode cL_law 750 = .ok (.iload_n 3, 1) := by decide +kernel
theorem dL_law_751 : decode cL_law 751 = .ok (.iconst 2, 1) := by decide +kernel
theorem dL_law_752 : decode cL_law 752 = .ok (.iadd, 1) := by decide +kernel
theorem dL_law_753 : decode cL_law 753 = .ok (.iaload, 1) := by decide +kernel
theorem dL_law_754 : decode cL_law 754 = .ok (.ifCond .eq 7, 3) := by decide +kernel
theorem dL_law_757 : decode cL_law 757 = .ok (.iconst 1, 1) := by decide +kernel
theorem dL_law_758 : decode cL_law 758 = .ok (.goto 4, 3) := by decide +kernel
theorem dL_law_761 : decode cL_law 761 = .ok (.iconst 0, 1) := by decide +kernel
theorem dL_law_762 : decode cL_law 762 = .ok (.invokevirtual 97, 3) := by decide +kernel
theorem dL_law_765 : decode cL_law 765 = .ok (.aload_n 2, 1) := by decide +kernel
theorem dL_law_766 : decode cL_law 766 = .ok (.aload_n 0, 1) := by decide +kernel
theorem dL_law_767 : decode cL_law 767 = .ok (.iload_n 3, 1) := by decide +kernel
theorem dL_law_768 : decode cL_law 768 = .ok (.iconst 1, 1) := by decide +kernel
theorem dL_law_769 : decode cL_law 769 = .ok (.iadd, 1) := by decide +kernel
theorem dL_law_770 : decode cL_law 770 = .ok (.iaload, 1) := by decide +kernel
theorem dL_law_771 : decode cL_law 771 = .ok (.aload_n 0, 1) := by decide +kernel
theorem dL_law_772 : decode cL_law 772 = .ok (.iload_n 3, 1) := by decide +kernel
theorem dL_law_773 : decode cL_law 773 = .ok (.iconst 2, 1) := by decide +kernel
theorem dL_law_774 : decode cL_law 774 = .ok (.iadd, 1) := by decide +kernel
theorem dL_law_775 : decode cL_law 775 = .ok (.iaload, 1) := by decide +kernel
theorem dL_law_776 : decode cL_law 776 = .ok (.ifCond .eq 7, 3) := by decide +kernel
theorem dL_law_779 : decode cL_law 779 = .ok (.iconst 1, 1) := by decide +kernel
theorem dL_law_780 : decode cL_law 780 = .ok (.goto 4, 3) := by decide +kernel
theorem dL_law_783 : decode cL_law 783 = .ok (.iconst 0, 1) := by decide +kernel
theorem dL_law_784 : decode cL_law 784 = .ok (.invokevirtual 101, 3) := by decide +kernel
theorem dL_law_787 : decode cL_law 787 = .ok (.if_icmp .eq 435, 3) := by decide +kernel
theorem dL_law_790 : decode cL_law 790 = .ok (.iconst 0, 1) := by decide +kernel
theorem dL_law_791 : decode cL_law 791 = .ok (.ireturn, 1) := by decide +kernel
theorem dL_law_792 : decode cL_law 792 = .ok (.aload_n 1, 1) := by decide +kernel
theorem dL_law_793 : decode cL_law 793 = .ok (.invokevirtual 102, 3) := by decide +kernel
theorem dL_law_796 : decode cL_law 796 = .ok (.aload_n 2, 1) := by decide +kernel
theorem dL_law_797 : decode cL_law 797 = .ok (.invokevirtual 105, 3) := by decide +kernel
theorem dL_law_800 : decode cL_law 800 = .ok (.if_icmp .eq 422, 3) := by decide +kernel
theorem dL_law_803 : decode cL_law 803 = .ok (.iconst 0, 1) := by decide +kernel
theorem dL_law_804 : decode cL_law 804 = .ok (.ireturn, 1) := by decide +kernel
theorem dL_law_805 : decode cL_law 805 = .ok (.aload_n 1, 1) := by decide +kernel
theorem dL_law_806 : decode cL_law 806 = .ok (.invokevirtual 106, 3) := by decide +kernel
theorem dL_law_809 : decode cL_law 809 = .ok (.aload_n 2, 1) := by decide +kernel
theorem dL_law_810 : decode cL_law 810 = .ok (.invokevirtual 110, 3) := by decide +kernel
theorem dL_law_813 : decode cL_law 813 = .ok (.lcmp, 1) := by decide +kernel
theorem dL_law_814 : decode cL_law 814 = .ok (.ifCond .eq 408, 3) := by decide +kernel
theorem dL_law_817 : decode cL_law 817 = .ok (.iconst 0, 1) := by decide +kernel
theorem dL_law_818 : decode cL_law 818 = .ok (.ireturn, 1) := by decide +kernel
theorem dL_law_819 : decode cL_law 819 = .ok (.aload_n 1, 1) := by decide +kernel
theorem dL_law_820 : decode cL_law 820 = .ok (.invokevirtual 111, 3) := by decide +kernel
theorem dL_law_823 : decode cL_law 823 = .ok (.aload_n 2, 1) := by decide +kernel
theorem dL_law_824 : decode cL_law 824 = .ok (.invokevirtual 114, 3) := by decide +kernel
theorem dL_law_827 : decode cL_law 827 = .ok (.if_icmp .eq 395, 3) := by decide +kernel
theorem dL_law_830 : decode cL_law 830 = .ok (.iconst 0, 1) := by decide +kernel
theorem dL_law_831 : decode cL_law 831 = .ok (.ireturn, 1) := by decide +kernel
theorem dL_law_832 : decode cL_law 832 = .ok (.aload_n 1, 1) := by decide +kernel
theorem dL_law_833 : decode cL_law 833 = .ok (.aload_n 0, 1) := by decide +kernel
theorem dL_law_834 : decode cL_law 834 = .ok (.iload_n 3, 1) := by decide +kernel
theorem dL_law_835 : decode cL_law 835 = .ok (.iconst 1, 1) := by decide +kernel
theorem dL_law_836 : decode cL_law 836 = .ok (.iadd, 1) := by decide +kernel
theorem dL_law_837 : decode cL_law 837 = .ok (.iaload, 1) := by decide +kernel
theorem dL_law_838 : decode cL_law 838 = .ok (.invokevirtual 115, 3) := by decide +kernel
theorem dL_law_841 : decode cL_law 841 = .ok (.aload_n 2, 1) := by decide +kernel
theorem dL_law_842 : decode cL_law 842 = .ok (.aload_n 0, 1) := by decide +kernel
theorem dL_law_843 : decode cL_law 843 = .ok (.iload_n 3, 1) := by decide +kernel
theorem dL_law_844 : decode cL_law 844 = .ok (.iconst 1, 1) := by decide +kernel
theorem dL_law_845 : decode cL_law 845 = .ok (.iadd, 1) := by decide +kernel
theorem dL_law_846 : decode cL_law 846 = .ok (.iaload, 1) := by decide +kernel
theorem dL_law_847 : decode cL_law 847 = .ok (.invokevirtual 118, 3) := by decide +kernel
theorem dL_law_850 : decode cL_law 850 = .ok (.if_icmp .eq 372, 3) := by decide +kernel
theorem dL_law_853 : decode cL_law 853 = .ok (.iconst 0, 1) := by decide +kernel
theorem dL_law_854 : decode cL_law 854 = .ok (.ireturn, 1) := by decide +kernel
theorem dL_law_855 : decode cL_law 855 = .ok (.aload_n 1, 1) := by decide +kernel
theorem dL_law_856 : decode cL_law 856 = .ok (.aload_n 0, 1) := by decide +kernel
theorem dL_law_857 : decode cL_law 857 = .ok (.iload_n 3, 1) := by decide +kernel
theorem dL_law_858 : decode cL_law 858 = .ok (.iconst 1, 1) := by decide +kernel
theorem dL_law_859 : decode cL_law 859 = .ok (.iadd, 1) := by decide +kernel
theorem dL_law_860 : decode cL_law 860 = .ok (.iaload, 1) := by decide +kernel
theorem dL_law_861 : decode cL_law 861 = .ok (.invokevirtual 119, 3) := by decide +kernel
theorem dL_law_864 : decode cL_law 864 = .ok (.aload_n 2, 1) := by decide +kernel
theorem dL_law_865 : decode cL_law 865 = .ok (.aload_n 0, 1) := by decide +kernel
theorem dL_law_866 : decode cL_law 866 = .ok (.iload_n 3, 1) := by decide +kernel
theorem dL_law_867 : decode cL_law 867 = .ok (.iconst 1, 1) := by decide +kernel
theorem dL_law_868 : decode cL_law 868 = .ok (.iadd, 1) := by decide +kernel
theorem dL_law_869 : decode cL_law 869 = .ok (.iaload, 1) := by decide +kernel
theorem dL_law_870 : decode cL_law 870 = .ok (.invokevirtual 122, 3) := by decide +kernel
theorem dL_law_873 : decode cL_law 873 = .ok (.if_icmp .eq 349, 3) := by decide +kernel
theorem dL_law_876 : decode cL_law 876 = .ok (.iconst 0, 1) := by decide +kernel
theorem dL_law_877 : decode cL_law 877 = .ok (.ireturn, 1) := by decide +kernel
theorem dL_law_878 : decode cL_law 878 = .ok (.aload_n 1, 1) := by decide +kernel
theorem dL_law_879 : decode cL_law 879 = .ok (.aload_n 0, 1) := by decide +kernel
theorem dL_law_880 : decode cL_law 880 = .ok (.iload_n 3, 1) := by decide +kernel
theorem dL_law_881 : decode cL_law 881 = .ok (.iconst 1, 1) := by decide +kernel
theorem dL_law_882 : decode cL_law 882 = .ok (.iadd, 1) := by decide +kernel
theorem dL_law_883 : decode cL_law 883 = .ok (.iaload, 1) := by decide +kernel
theorem dL_law_884 : decode cL_law 884 = .ok (.aload_n 0, 1) := by decide +kernel
theorem dL_law_885 : decode cL_law 885 = .ok (.iload_n 3, 1) := by decide +kernel
theorem dL_law_886 : decode cL_law 886 = .ok (.iconst 2, 1) := by decide +kernel
theorem dL_law_887 : decode cL_law 887 = .ok (.iadd, 1) := by decide +kernel
theorem dL_law_888 : decode cL_law 888 = .ok (.iaload, 1) := by decide +kernel
theorem dL_law_889 : decode cL_law 889 = .ok (.ifCond .eq 7, 3) := by decide +kernel
theorem dL_law_892 : decode cL_law 892 = .ok (.iconst 1, 1) := by decide +kernel
theorem dL_law_893 : decode cL_law 893 = .ok (.goto 4, 3) := by decide +kernel
theorem dL_law_896 : decode cL_law 896 = .ok (.iconst 0, 1) := by decide +kernel
theorem dL_law_897 : decode cL_law 897 = .ok (.invokevirtual 123, 3) := by decide +kernel
theorem dL_law_900 : decode cL_law 900 = .ok (.aload_n 2, 1) := by decide +kernel
theorem dL_law_901 : decode cL_law 901 = .ok (.aload_n 0, 1) := by decide +kernel
theorem dL_law_902 : decode cL_law 902 = .ok (.iload_n 3, 1) := by decide +kernel
theorem dL_law_903 : decode cL_law 903 = .ok (.iconst 1, 1) := by decide +kernel
theorem dL_law_904 : decode cL_law 904 = .ok (.iadd, 1) := by decide +kernel
theorem dL_law_905 : decode cL_law 905 = .ok (.iaload, 1) := by decide +kernel
theorem dL_law_906 : decode cL_law 906 = .ok (.aload_n 0, 1) := by decide +kernel
theorem dL_law_907 : decode cL_law 907 = .ok (.iload_n 3, 1) := by decide +kernel
theorem dL_law_908 : decode cL_law 908 = .ok (.iconst 2, 1) := by decide +kernel
theorem dL_law_909 : decode cL_law 909 = .ok (.iadd, 1) := by decide +kernel
theorem dL_law_910 : decode cL_law 910 = .ok (.iaload, 1) := by decide +kernel
theorem dL_law_911 : decode cL_law 911 = .ok (.ifCond .eq 7, 3) := by decide +kernel
theorem dL_law_914 : decode cL_law 914 = .ok (.iconst 1, 1) := by decide +kernel
theorem dL_law_915 : decode cL_law 915 = .ok (.goto 4, 3) := by decide +kernel
theorem dL_law_918 : decode cL_law 918 = .ok (.iconst 0, 1) := by decide +kernel
theorem dL_law_919 : decode cL_law 919 = .ok (.invokevirtual 127, 3) := by decide +kernel
theorem dL_law_922 : decode cL_law 922 = .ok (.lcmp, 1) := by decide +kernel
theorem dL_law_923 : decode cL_law 923 = .ok (.ifCond .eq 299, 3) := by decide +kernel
theorem dL_law_926 : decode cL_law 926 = .ok (.iconst 0, 1) := by decide +kernel
theorem dL_law_927 : decode cL_law 927 = .ok (.ireturn, 1) := by decide +kernel
theorem dL_law_928 : decode cL_law 928 = .ok (.aload_n 1, 1) := by decide +kernel
theorem dL_law_929 : decode cL_law 929 = .ok (.invokevirtual 128, 3) := by decide +kernel
theorem dL_law_932 : decode cL_law 932 = .ok (.aload_n 2, 1) := by decide +kernel
theorem dL_law_933 : decode cL_law 933 = .ok (.invokevirtual 131, 3) := by decide +kernel
theorem dL_law_936 : decode cL_law 936 = .ok (.if_icmp .eq 286, 3) := by decide +kernel
theorem dL_law_939 : decode cL_law 939 = .ok (.iconst 0, 1) := by decide +kernel
theorem dL_law_940 : decode cL_law 940 = .ok (.ireturn, 1) := by decide +kernel
theorem dL_law_941 : decode cL_law 941 = .ok (.aload_n 1, 1) := by decide +kernel
theorem dL_law_942 : decode cL_law 942 = .ok (.invokevirtual 132, 3) := by decide +kernel
theorem dL_law_945 : decode cL_law 945 = .ok (.aload_n 2, 1) := by decide +kernel
theorem dL_law_946 : decode cL_law 946 = .ok (.invokevirtual 135, 3) := by decide +kernel
theorem dL_law_949 : decode cL_law 949 = .ok (.if_icmp .eq 273, 3) := by decide +kernel
theorem dL_law_952 : decode cL_law 952 = .ok (.iconst 0, 1) := by decide +kernel
theorem dL_law_953 : decode cL_law 953 = .ok (.ireturn, 1) := by decide +kernel
theorem dL_law_954 : decode cL_law 954 = .ok (.aload_n 1, 1) := by decide +kernel
theorem dL_law_955 : decode cL_law 955 = .ok (.aload_n 0, 1) := by decide +kernel
theorem dL_law_956 : decode cL_law 956 = .ok (.iload_n 3, 1) := by decide +kernel
theorem dL_law_957 : decode cL_law 957 = .ok (.iconst 1, 1) := by decide +kernel
theorem dL_law_958 : decode cL_law 958 = .ok (.iadd, 1) := by decide +kernel
theorem dL_law_959 : decode cL_law 959 = .ok (.iaload, 1) := by decide +kernel
theorem dL_law_960 : decode cL_law 960 = .ok (.invokevirtual 136, 3) := by decide +kernel
theorem dL_law_963 : decode cL_law 963 = .ok (.aload_n 2, 1) := by decide +kernel
theorem dL_law_964 : decode cL_law 964 = .ok (.aload_n 0, 1) := by decide +kernel
theorem dL_law_965 : decode cL_law 965 = .ok (.iload_n 3, 1) := by decide +kernel
theorem dL_law_966 : decode cL_law 966 = .ok (.iconst 1, 1) := by decide +kernel
theorem dL_law_967 : decode cL_law 967 = .ok (.iadd, 1) := by decide +kernel
theorem dL_law_968 : decode cL_law 968 = .ok (.iaload, 1) := by decide +kernel
theorem dL_law_969 : decode cL_law 969 = .ok (.invokevirtual 139, 3) := by decide +kernel
theorem dL_law_972 : decode cL_law 972 = .ok (.if_icmp .eq 250, 3) := by decide +kernel
theorem dL_law_975 : decode cL_law 975 = .ok (.iconst 0, 1) := by decide +kernel
theorem dL_law_976 : decode cL_law 976 = .ok (.ireturn, 1) := by decide +kernel
theorem dL_law_977 : decode cL_law 977 = .ok (.aload_n 1, 1) := by decide +kernel
theorem dL_law_978 : decode cL_law 978 = .ok (.invokevirtual 140, 3) := by decide +kernel
theorem dL_law_981 : decode cL_law 981 = .ok (.aload_n 2, 1) := by decide +kernel
theorem dL_law_982 : decode cL_law 982 = .ok (.invokevirtual 143, 3) := by decide +kernel
theorem dL_law_985 : decode cL_law 985 = .ok (.if_icmp .eq 237, 3) := by decide +kernel
theorem dL_law_988 : decode cL_law 988 = .ok (.iconst 0, 1) := by decide +kernel
theorem dL_law_989 : decode cL_law 989 = .ok (.ireturn, 1) := by decide +kernel
theorem dL_law_990 : decode cL_law 990 = .ok (.aload_n 1, 1) := by decide +kernel
theorem dL_law_991 : decode cL_law 991 = .ok (.invokevirtual 144, 3) := by decide +kernel
theorem dL_law_994 : decode cL_law 994 = .ok (.aload_n 2, 1) := by decide +kernel
theorem dL_law_995 : decode cL_law 995 = .ok (.invokevirtual 147, 3) := by decide +kernel
theorem dL_law_998 : decode cL_law 998 = .ok (.if_icmp .eq 224, 3) := by decide +kernel
theorem dL_law_1001 : decode cL_law 1001 = .ok (.iconst 0, 1) := by decide +kernel
theorem dL_law_1002 : decode cL_law 1002 = .ok (.ireturn, 1) := by decide +kernel
theorem dL_law_1003 : decode cL_law 1003 = .ok (.aload_n 1, 1) := by decide +kernel
theorem dL_law_1004 : decode cL_law 1004 = .ok (.invokevirtual 148, 3) := by decide +kernel
theorem dL_law_1007 : decode cL_law 1007 = .ok (.aload_n 2, 1) := by decide +kernel
theorem dL_law_1008 : decode cL_law 1008 = .ok (.invokevirtual 151, 3) := by decide +kernel
theorem dL_law_1011 : decode cL_law 1011 = .ok (.if_icmp .eq 211, 3) := by decide +kernel
theorem dL_law_1014 : decode cL_law 1014 = .ok (.iconst 0, 1) := by decide +kernel
theorem dL_law_1015 : decode cL_law 1015 = .ok (.ireturn, 1) := by decide +kernel
theorem dL_law_1016 : decode cL_law 1016 = .ok (.aload_n 1, 1) := by decide +kernel
theorem dL_law_1017 : decode cL_law 1017 = .ok (.aload_n 0, 1) := by decide +kernel
theorem dL_law_1018 : decode cL_law 1018 = .ok (.iload_n 3, 1) := by decide +kernel
theorem dL_law_1019 : decode cL_law 1019 = .ok (.iconst 1, 1) := by decide +kernel
theorem dL_law_1020 : decode cL_law 1020 = .ok (.iadd, 1) := by decide +kernel
theorem dL_law_1021 : decode cL_law 1021 = .ok (.iaload, 1) := by decide +kernel
theorem dL_law_1022 : decode cL_law 1022 = .ok (.aload_n 0, 1) := by decide +kernel
theorem dL_law_1023 : decode cL_law 1023 = .ok (.iload_n 3, 1) := by decide +kernel
theorem dL_law_1024 : decode cL_law 1024 = .ok (.iconst 2, 1) := by decide +kernel
theorem dL_law_1025 : decode cL_law 1025 = .ok (.iadd, 1) := by decide +kernel
theorem dL_law_1026 : decode cL_law 1026 = .ok (.iaload, 1) := by decide +kernel
theorem dL_law_1027 : decode cL_law 1027 = .ok (.aload_n 0, 1) := by decide +kernel
theorem dL_law_1028 : decode cL_law 1028 = .ok (.iload_n 3, 1) := by decide +kernel
theorem dL_law_1029 : decode cL_law 1029 = .ok (.iconst 3, 1) := by decide +kernel
theorem dL_law_1030 : decode cL_law 1030 = .ok (.iadd, 1) := by decide +kernel
theorem dL_law_1031 : decode cL_law 1031 = .ok (.iaload, 1) := by decide +kernel
theorem dL_law_1032 : decode cL_law 1032 = .ok (.ifCond .eq 7, 3) := by decide +kernel
theorem dL_law_1035 : decode cL_law 1035 = .ok (.iconst 1, 1) := by decide +kernel
theorem dL_law_1036 : decode cL_law 1036 = .ok (.goto 4, 3) := by decide +kernel
theorem dL_law_1039 : decode cL_law 1039 = .ok (.iconst 0, 1) := by decide +kernel
theorem dL_law_1040 : decode cL_law 1040 = .ok (.invokevirtual 152, 3) := by decide +kernel
theorem dL_law_1043 : decode cL_law 1043 = .ok (.aload_n 2, 1) := by decide +kernel
theorem dL_law_1044 : decode cL_law 1044 = .ok (.aload_n 0, 1) := by decide +kernel
theorem dL_law_1045 : decode cL_law 1045 = .ok (.iload_n 3, 1) := by decide +kernel
theorem dL_law_1046 : decode cL_law 1046 = .ok (.iconst 1, 1) := by decide +kernel
theorem dL_law_1047 : decode cL_law 1047 = .ok (.iadd, 1) := by decide +kernel
theorem dL_law_1048 : decode cL_law 1048 = .ok (.iaload, 1) := by decide +kernel
theorem dL_law_1049 : decode cL_law 1049 = .ok (.aload_n 0, 1) := by decide +kernel
theorem dL_law_1050 : decode cL_law 1050 = .ok (.iload_n 3, 1) := by decide +kernel
theorem dL_law_1051 : decode cL_law 1051 = .ok (.iconst 2, 1) := by decide +kernel
theorem dL_law_1052 : decode cL_law 1052 = .ok (.iadd, 1) := by decide +kernel
theorem dL_law_1053 : decode cL_law 1053 = .ok (.iaload, 1) := by decide +kernel
theorem dL_law_1054 : decode cL_law 1054 = .ok (.aload_n 0, 1) := by decide +kernel
theorem dL_law_1055 : decode cL_law 1055 = .ok (.iload_n 3, 1) := by decide +kernel
theorem dL_law_1056 : decode cL_law 1056 = .ok (.iconst 3, 1) := by decide +kernel
theorem dL_law_1057 : decode cL_law 1057 = .ok (.iadd, 1) := by decide +kernel
theorem dL_law_1058 : decode cL_law 1058 = .ok (.iaload, 1) := by decide +kernel
theorem dL_law_1059 : decode cL_law 1059 = .ok (.ifCond .eq 7, 3) := by decide +kernel
theorem dL_law_1062 : decode cL_law 1062 = .ok (.iconst 1, 1) := by decide +kernel
theorem dL_law_1063 : decode cL_law 1063 = .ok (.goto 4, 3) := by decide +kernel
theorem dL_law_1066 : decode cL_law 1066 = .ok (.iconst 0, 1) := by decide +kernel
theorem dL_law_1067 : decode cL_law 1067 = .ok (.invokevirtual 156, 3) := by decide +kernel
theorem dL_law_1070 : decode cL_law 1070 = .ok (.lcmp, 1) := by decide +kernel
theorem dL_law_1071 : decode cL_law 1071 = .ok (.ifCond .eq 151, 3) := by decide +kernel
theorem dL_law_1074 : decode cL_law 1074 = .ok (.iconst 0, 1) := by decide +kernel
theorem dL_law_1075 : decode cL_law 1075 = .ok (.ireturn, 1) := by decide +kernel
theorem dL_law_1076 : decode cL_law 1076 = .ok (.aload_n 1, 1) := by decide +kernel
theorem dL_law_1077 : decode cL_law 1077 = .ok (.aload_n 0, 1) := by decide +kernel
theorem dL_law_1078 : decode cL_law 1078 = .ok (.iload_n 3, 1) := by decide +kernel
theorem dL_law_1079 : decode cL_law 1079 = .ok (.iconst 1, 1) := by decide +kernel
theorem dL_law_1080 : decode cL_law 1080 = .ok (.iadd, 1) := by decide +kernel
theorem dL_law_1081 : decode cL_law 1081 = .ok (.iaload, 1) := by decide +kernel
theorem dL_law_1082 : decode cL_law 1082 = .ok (.i2l, 1) := by decide +kernel
theorem dL_law_1083 : decode cL_law 1083 = .ok (.bipush 32, 2) := by decide +kernel
theorem dL_law_1085 : decode cL_law 1085 = .ok (.lshl, 1) := by decide +kernel
theorem dL_law_1086 : decode cL_law 1086 = .ok (.aload_n 0, 1) := by decide +kernel
theorem dL_law_1087 : decode cL_law 1087 = .ok (.iload_n 3, 1) := by decide +kernel
theorem dL_law_1088 : decode cL_law 1088 = .ok (.iconst 2, 1) := by decide +kernel
theorem dL_law_1089 : decode cL_law 1089 = .ok (.iadd, 1) := by decide +kernel
theorem dL_law_1090 : decode cL_law 1090 = .ok (.iaload, 1) := by decide +kernel
theorem dL_law_1091 : decode cL_law 1091 = .ok (.i2l, 1) := by decide +kernel
theorem dL_law_1092 : decode cL_law 1092 = .ok (.ldc2_w 13, 3) := by decide +kernel
theorem dL_law_1095 : decode cL_law 1095 = .ok (.land, 1) := by decide +kernel
theorem dL_law_1096 : decode cL_law 1096 = .ok (.lor, 1) := by decide +kernel
theorem dL_law_1097 : decode cL_law 1097 = .ok (.invokevirtual 157, 3) := by decide +kernel
theorem dL_law_1100 : decode cL_law 1100 = .ok (.aload_n 2, 1) := by decide +kernel
theorem dL_law_1101 : decode cL_law 1101 = .ok (.aload_n 0, 1) := by decide +kernel
theorem dL_law_1102 : decode cL_law 1102 = .ok (.iload_n 3, 1) := by decide +kernel
theorem dL_law_1103 : decode cL_law 1103 = .ok (.iconst 1, 1) := by decide +kernel
theorem dL_law_1104 : decode cL_law 1104 = .ok (.iadd, 1) := by decide +kernel
theorem dL_law_1105 : decode cL_law 1105 = .ok (.iaload, 1) := by decide +kernel
theorem dL_law_1106 : decode cL_law 1106 = .ok (.i2l, 1) := by decide +kernel
theorem dL_law_1107 : decode cL_law 1107 = .ok (.bipush 32, 2) := by decide +kernel
theorem dL_law_1109 : decode cL_law 1109 = .ok (.lshl, 1) := by decide +kernel
theorem dL_law_1110 : decode cL_law 1110 = .ok (.aload_n 0, 1) := by decide +kernel
theorem dL_law_1111 : decode cL_law 1111 = .ok (.iload_n 3, 1) := by decide +kernel
theorem dL_law_1112 : decode cL_law 1112 = .ok (.iconst 2, 1) := by decide +kernel
theorem dL_law_1113 : decode cL_law 1113 = .ok (.iadd, 1) := by decide +kernel
theorem dL_law_1114 : decode cL_law 1114 = .ok (.iaload, 1) := by decide +kernel
theorem dL_law_1115 : decode cL_law 1115 = .ok (.i2l, 1) := by decide +kernel
theorem dL_law_1116 : decode cL_law 1116 = .ok (.ldc2_w 13, 3) := by decide +kernel
theorem dL_law_1119 : decode cL_law 1119 = .ok (.land, 1) := by decide +kernel
theorem dL_law_1120 : decode cL_law 1120 = .ok (.lor, 1) := by decide +kernel
theorem dL_law_1121 : decode cL_law 1121 = .ok (.invokevirtual 161, 3) := by decide +kernel
theorem dL_law_1124 : decode cL_law 1124 = .ok (.lcmp, 1) := by decide +kernel
theorem dL_law_1125 : decode cL_law 1125 = .ok (.ifCond .eq 97, 3) := by decide +kernel
theorem dL_law_1128 : decode cL_law 1128 = .ok (.iconst 0, 1) := by decide +kernel
theorem dL_law_1129 : decode cL_law 1129 = .ok (.ireturn, 1) := by decide +kernel
theorem dL_law_1130 : decode cL_law 1130 = .ok (.aload_n 1, 1) := by decide +kernel
theorem dL_law_1131 : decode cL_law 1131 = .ok (.aload_n 0, 1) := by decide +kernel
theorem dL_law_1132 : decode cL_law 1132 = .ok (.iload_n 3, 1) := by decide +kernel
theorem dL_law_1133 : decode cL_law 1133 = .ok (.iconst 1, 1) := by decide +kernel
theorem dL_law_1134 : decode cL_law 1134 = .ok (.iadd, 1) := by decide +kernel
theorem dL_law_1135 : decode cL_law 1135 = .ok (.iaload, 1) := by decide +kernel
theorem dL_law_1136 : decode cL_law 1136 = .ok (.invokevirtual 162, 3) := by decide +kernel
theorem dL_law_1139 : decode cL_law 1139 = .ok (.aload_n 2, 1) := by decide +kernel
theorem dL_law_1140 : decode cL_law 1140 = .ok (.aload_n 0, 1) := by decide +kernel
theorem dL_law_1141 : decode cL_law 1141 = .ok (.iload_n 3, 1) := by decide +kernel
theorem dL_law_1142 : decode cL_law 1142 = .ok (.iconst 1, 1) := by decide +kernel
theorem dL_law_1143 : decode cL_law 1143 = .ok (.iadd, 1) := by decide +kernel
theorem dL_law_1144 : decode cL_law 1144 = .ok (.iaload, 1) := by decide +kernel
theorem dL_law_1145 : decode cL_law 1145 = .ok (.invokevirtual 165, 3) := by decide +kernel
theorem dL_law_1148 : decode cL_law 1148 = .ok (.if_icmp .eq 74, 3) := by decide +kernel
theorem dL_law_1151 : decode cL_law 1151 = .ok (.iconst 0, 1) := by decide +kernel
theorem dL_law_1152 : decode cL_law 1152 = .ok (.ireturn, 1) := by decide +kernel
theorem dL_law_1153 : decode cL_law 1153 = .ok (.aload_n 1, 1) := by decide +kernel
theorem dL_law_1154 : decode cL_law 1154 = .ok (.aload_n 0, 1) := by decide +kernel
theorem dL_law_1155 : decode cL_law 1155 = .ok (.iload_n 3, 1) := by decide +kernel
theorem dL_law_1156 : decode cL_law 1156 = .ok (.iconst 1, 1) := by decide +kernel
theorem dL_law_1157 : decode cL_law 1157 = .ok (.iadd, 1) := by decide +kernel
theorem dL_law_1158 : decode cL_law 1158 = .ok (.iaload, 1) := by decide +kernel
theorem dL_law_1159 : decode cL_law 1159 = .ok (.invokevirtual 166, 3) := by decide +kernel
theorem dL_law_1162 : decode cL_law 1162 = .ok (.aload_n 2, 1) := by decide +kernel
theorem dL_law_1163 : decode cL_law 1163 = .ok (.aload_n 0, 1) := by decide +kernel
theorem dL_law_1164 : decode cL_law 1164 = .ok (.iload_n 3, 1) := by decide +kernel
theorem dL_law_1165 : decode cL_law 1165 = .ok (.iconst 1, 1) := by decide +kernel
theorem dL_law_1166 : decode cL_law 1166 = .ok (.iadd, 1) := by decide +kernel
theorem dL_law_1167 : decode cL_law 1167 = .ok (.iaload, 1) := by decide +kernel
theorem dL_law_1168 : decode cL_law 1168 = .ok (.invokevirtual 169, 3) := by decide +kernel
theorem dL_law_1171 : decode cL_law 1171 = .ok (.if_icmp .eq 51, 3) := by decide +kernel
theorem dL_law_1174 : decode cL_law 1174 = .ok (.iconst 0, 1) := by decide +kernel
theorem dL_law_1175 : decode cL_law 1175 = .ok (.ireturn, 1) := by decide +kernel
theorem dL_law_1176 : decode cL_law 1176 = .ok (.aload_n 1, 1) := by decide +kernel
theorem dL_law_1177 : decode cL_law 1177 = .ok (.aload_n 0, 1) := by decide +kernel
theorem dL_law_1178 : decode cL_law 1178 = .ok (.iload_n 3, 1) := by decide +kernel
theorem dL_law_1179 : decode cL_law 1179 = .ok (.iconst 1, 1) := by decide +kernel
theorem dL_law_1180 : decode cL_law 1180 = .ok (.iadd, 1) := by decide +kernel
theorem dL_law_1181 : decode cL_law 1181 = .ok (.iaload, 1) := by decide +kernel
theorem dL_law_1182 : decode cL_law 1182 = .ok (.invokevirtual 170, 3) := by decide +kernel
theorem dL_law_1185 : decode cL_law 1185 = .ok (.aload_n 2, 1) := by decide +kernel
theorem dL_law_1186 : decode cL_law 1186 = .ok (.aload_n 0, 1) := by decide +kernel
theorem dL_law_1187 : decode cL_law 1187 = .ok (.iload_n 3, 1) := by decide +kernel
theorem dL_law_1188 : decode cL_law 1188 = .ok (.iconst 1, 1) := by decide +kernel
theorem dL_law_1189 : decode cL_law 1189 = .ok (.iadd, 1) := by decide +kernel
theorem dL_law_1190 : decode cL_law 1190 = .ok (.iaload, 1) := by decide +kernel
theorem dL_law_1191 : decode cL_law 1191 = .ok (.invokevirtual 173, 3) := by decide +kernel
theorem dL_law_1194 : decode cL_law 1194 = .ok (.if_icmp .eq 28, 3) := by decide +kernel
theorem dL_law_1197 : decode cL_law 1197 = .ok (.iconst 0, 1) := by decide +kernel
theorem dL_law_1198 : decode cL_law 1198 = .ok (.ireturn, 1) := by decide +kernel
theorem dL_law_1199 : decode cL_law 1199 = .ok (.aload_n 1, 1) := by decide +kernel
theorem dL_law_1200 : decode cL_law 1200 = .ok (.aload_n 0, 1) := by decide +kernel
theorem dL_law_1201 : decode cL_law 1201 = .ok (.iload_n 3, 1) := by decide +kernel
theorem dL_law_1202 : decode cL_law 1202 = .ok (.iconst 1, 1) := by decide +kernel
theorem dL_law_1203 : decode cL_law 1203 = .ok (.iadd, 1) := by decide +kernel
theorem dL_law_1204 : decode cL_law 1204 = .ok (.iaload, 1) := by decide +kernel
theorem dL_law_1205 : decode cL_law 1205 = .ok (.invokevirtual 174, 3) := by decide +kernel
theorem dL_law_1208 : decode cL_law 1208 = .ok (.aload_n 2, 1) := by decide +kernel
theorem dL_law_1209 : decode cL_law 1209 = .ok (.aload_n 0, 1) := by decide +kernel
theorem dL_law_1210 : decode cL_law 1210 = .ok (.iload_n 3, 1) := by decide +kernel
theorem dL_law_1211 : decode cL_law 1211 = .ok (.iconst 1, 1) := by decide +kernel
theorem dL_law_1212 : decode cL_law 1212 = .ok (.iadd, 1) := by decide +kernel
theorem dL_law_1213 : decode cL_law 1213 = .ok (.iaload, 1) := by decide +kernel
theorem dL_law_1214 : decode cL_law 1214 = .ok (.invokevirtual 177, 3) := by decide +kernel
theorem dL_law_1217 : decode cL_law 1217 = .ok (.if_icmp .eq 5, 3) := by decide +kernel
theorem dL_law_1220 : decode cL_law 1220 = .ok (.iconst 0, 1) := by decide +kernel
theorem dL_law_1221 : decode cL_law 1221 = .ok (.ireturn, 1) := by decide +kernel
theorem dL_law_1222 : decode cL_law 1222 = .ok (.iinc 3 4, 3) := by decide +kernel
theorem dL_law_1225 : decode cL_law 1225 = .ok (.goto (-1207), 3) := by decide +kernel
theorem dL_law_1228 : decode cL_law 1228 = .ok (.iconst 1, 1) := by decide +kernel
theorem dL_law_1229 : decode cL_law 1229 = .ok (.ireturn, 1) := by decide +kernel
