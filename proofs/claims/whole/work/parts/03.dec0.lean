theorem dX0_init_0 : decode cX0_init 0 = .ok (.aload_n 0, 1) := by decide +kernel
theorem dX0_init_1 : decode cX0_init 1 = .ok (.invokespecial 3, 3) := by decide +kernel
theorem dX0_init_4 : decode cX0_init 4 = .ok (.aload_n 0, 1) := by decide +kernel
theorem dX0_init_5 : decode cX0_init 5 = .ok (.bipush 16, 2) := by decide +kernel
theorem dX0_init_7 : decode cX0_init 7 = .ok (.anewarray 9, 3) := by decide +kernel
theorem dX0_init_10 : decode cX0_init 10 = .ok (.putfield 11, 3) := by decide +kernel
theorem dX0_init_13 : decode cX0_init 13 = .ok (.aload_n 0, 1) := by decide +kernel
theorem dX0_init_14 : decode cX0_init 14 = .ok (.iconst 0, 1) := by decide +kernel
theorem dX0_init_15 : decode cX0_init 15 = .ok (.putfield 17, 3) := by decide +kernel
theorem dX0_init_18 : decode cX0_init 18 = .ok (.aload_n 0, 1) := by decide +kernel
theorem dX0_init_19 : decode cX0_init 19 = .ok (.iconst 0, 1) := by decide +kernel
theorem dX0_init_20 : decode cX0_init 20 = .ok (.putfield 21, 3) := by decide +kernel
theorem dX0_init_23 : decode cX0_init 23 = .ok (.aload_n 0, 1) := by decide +kernel
theorem dX0_init_24 : decode cX0_init 24 = .ok (.getfield 11, 3) := by decide +kernel
theorem dX0_init_27 : decode cX0_init 27 = .ok (.invokestatic 24, 3) := by decide +kernel
theorem dX0_init_30 : decode cX0_init 30 = .ok (.return_, 1) := by decide +kernel
theorem dX0_clear_0 : decode cX0_clear 0 = .ok (.aload_n 0, 1) := by decide +kernel
theorem dX0_clear_1 : decode cX0_clear 1 = .ok (.iconst 0, 1) := by decide +kernel
theorem dX0_clear_2 : decode cX0_clear 2 = .ok (.putfield 21, 3) := by decide +kernel
theorem dX0_clear_5 : decode cX0_clear 5 = .ok (.return_, 1) := by decide +kernel
theorem dX0_add_0 : decode cX0_add 0 = .ok (.aload_n 0, 1) := by decide +kernel
theorem dX0_add_1 : decode cX0_add 1 = .ok (.getfield 21, 3) := by decide +kernel
theorem dX0_add_4 : decode cX0_add 4 = .ok (.bipush 16, 2) := by decide +kernel
theorem dX0_add_6 : decode cX0_add 6 = .ok (.if_icmp .lt 22, 3) := by decide +kernel
theorem dX0_add_9 : decode cX0_add 9 = .ok (.aload_n 0, 1) := by decide +kernel
theorem dX0_add_10 : decode cX0_add 10 = .ok (.aload_n 0, 1) := by decide +kernel
theorem dX0_add_11 : decode cX0_add 11 = .ok (.getfield 17, 3) := by decide +kernel
theorem dX0_add_14 : decode cX0_add 14 = .ok (.iconst 1, 1) := by decide +kernel
theorem dX0_add_15 : decode cX0_add 15 = .ok (.iadd, 1) := by decide +kernel
theorem dX0_add_16 : decode cX0_add 16 = .ok (.bipush 16, 2) := by decide +kernel
theorem dX0_add_18 : decode cX0_add 18 = .ok (.irem, 1) := by decide +kernel
theorem dX0_add_19 : decode cX0_add 19 = .ok (.putfield 17, 3) := by decide +kernel
theorem dX0_add_22 : decode cX0_add 22 = .ok (.aload_n 0, 1) := by decide +kernel
theorem dX0_add_23 : decode cX0_add 23 = .ok (.bipush 15, 2) := by decide +kernel
theorem dX0_add_25 : decode cX0_add 25 = .ok (.putfield 21, 3) := by decide +kernel
theorem dX0_add_28 : decode cX0_add 28 = .ok (.aload_n 0, 1) := by decide +kernel
theorem dX0_add_29 : decode cX0_add 29 = .ok (.getfield 11, 3) := by decide +kernel
theorem dX0_add_32 : decode cX0_add 32 = .ok (.aload_n 0, 1) := by decide +kernel
theorem dX0_add_33 : decode cX0_add 33 = .ok (.getfield 17, 3) := by decide +kernel
theorem dX0_add_36 : decode cX0_add 36 = .ok (.aload_n 0, 1) := by decide +kernel
theorem dX0_add_37 : decode cX0_add 37 = .ok (.getfield 21, 3) := by decide +kernel
theorem dX0_add_40 : decode cX0_add 40 = .ok (.iadd, 1) := by decide +kernel
theorem dX0_add_41 : decode cX0_add 41 = .ok (.bipush 16, 2) := by decide +kernel
theorem dX0_add_43 : decode cX0_add 43 = .ok (.irem, 1) := by decide +kernel
theorem dX0_add_44 : decode cX0_add 44 = .ok (.invokestatic 28, 3) := by decide +kernel
theorem dX0_add_47 : decode cX0_add 47 = .ok (.astore_n 2, 1) := by decide +kernel
theorem dX0_add_48 : decode cX0_add 48 = .ok (.aload_n 2, 1) := by decide +kernel
theorem dX0_add_49 : decode cX0_add 49 = .ok (.ifnull 18, 3) := by decide +kernel
theorem dX0_add_52 : decode cX0_add 52 = .ok (.aload_n 2, 1) := by decide +kernel
theorem dX0_add_53 : decode cX0_add 53 = .ok (.aload_n 1, 1) := by decide +kernel
theorem dX0_add_54 : decode cX0_add 54 = .ok (.invokevirtual 32, 3) := by decide +kernel
theorem dX0_add_57 : decode cX0_add 57 = .ok (.aload_n 0, 1) := by decide +kernel
theorem dX0_add_58 : decode cX0_add 58 = .ok (.dup, 1) := by decide +kernel
theorem dX0_add_59 : decode cX0_add 59 = .ok (.getfield 21, 3) := by decide +kernel
theorem dX0_add_62 : decode cX0_add 62 = .ok (.iconst 1, 1) := by decide +kernel
theorem dX0_add_63 : decode cX0_add 63 = .ok (.iadd, 1) := by decide +kernel
theorem dX0_add_64 : decode cX0_add 64 = .ok (.putfield 21, 3) := by decide +kernel
theorem dX0_add_67 : decode cX0_add 67 = .ok (.return_, 1) := by decide +kernel
theorem dX0_takeBack_0 : decode cX0_takeBack 0 = .ok (.aload_n 0, 1) := by decide +kernel
theorem dX0_takeBack_1 : decode cX0_takeBack 1 = .ok (.getfield 21, 3) := by decide +kernel
theorem dX0_takeBack_4 : decode cX0_takeBack 4 = .ok (.ifCond .gt 5, 3) := by decide +kernel
theorem dX0_takeBack_7 : decode cX0_takeBack 7 = .ok (.iconst 0, 1) := by decide +kernel
theorem dX0_takeBack_8 : decode cX0_takeBack 8 = .ok (.ireturn, 1) := by decide +kernel
theorem dX0_takeBack_9 : decode cX0_takeBack 9 = .ok (.aload_n 0, 1) := by decide +kernel
theorem dX0_takeBack_10 : decode cX0_takeBack 10 = .ok (.getfield 11, 3) := by decide +kernel
theorem dX0_takeBack_13 : decode cX0_takeBack 13 = .ok (.aload_n 0, 1) := by decide +kernel
theorem dX0_takeBack_14 : decode cX0_takeBack 14 = .ok (.getfield 17, 3) := by decide +kernel
theorem dX0_takeBack_17 : decode cX0_takeBack 17 = .ok (.aload_n 0, 1) := by decide +kernel
theorem dX0_takeBack_18 : decode cX0_takeBack 18 = .ok (.getfield 21, 3) := by decide +kernel
theorem dX0_takeBack_21 : decode cX0_takeBack 21 = .ok (.iadd, 1) := by decide +kernel
theorem dX0_takeBack_22 : decode cX0_takeBack 22 = .ok (.iconst 1, 1) := by decide +kernel
theorem dX0_takeBack_23 : decode cX0_takeBack 23 = .ok (.isub, 1) := by decide +kernel
theorem dX0_takeBack_24 : decode cX0_takeBack 24 = .ok (.bipush 16, 2) := by decide +kernel
theorem dX0_takeBack_26 : decode cX0_takeBack 26 = .ok (.irem, 1) := by decide +kernel
theorem dX0_takeBack_27 : decode cX0_takeBack 27 = .ok (.invokestatic 28, 3) := by decide +kernel
theorem dX0_takeBack_30 : decode cX0_takeBack 30 = .ok (.astore_n 2, 1) := by decide +kernel
theorem dX0_takeBack_31 : decode cX0_takeBack 31 = .ok (.aload_n 2, 1) := by decide +kernel
theorem dX0_takeBack_32 : decode cX0_takeBack 32 = .ok (.ifnonnull 5, 3) := by decide +kernel
theorem dX0_takeBack_35 : decode cX0_takeBack 35 = .ok (.iconst 0, 1) := by decide +kernel
theorem dX0_takeBack_36 : decode cX0_takeBack 36 = .ok (.ireturn, 1) := by decide +kernel
theorem dX0_takeBack_37 : decode cX0_takeBack 37 = .ok (.aload_n 1, 1) := by decide +kernel
theorem dX0_takeBack_38 : decode cX0_takeBack 38 = .ok (.aload_n 2, 1) := by decide +kernel
theorem dX0_takeBack_39 : decode cX0_takeBack 39 = .ok (.invokevirtual 32, 3) := by decide +kernel
theorem dX0_takeBack_42 : decode cX0_takeBack 42 = .ok (.aload_n 0, 1) := by decide +kernel
theorem dX0_takeBack_43 : decode cX0_takeBack 43 = .ok (.dup, 1) := by decide +kernel
theorem dX0_takeBack_44 : decode cX0_takeBack 44 = .ok (.getfield 21, 3) := by decide +kernel
theorem dX0_takeBack_47 : decode cX0_takeBack 47 = .ok (.iconst 1, 1) := by decide +kernel
theorem dX0_takeBack_48 : decode cX0_takeBack 48 = .ok (.isub, 1) := by decide +kernel
theorem dX0_takeBack_49 : decode cX0_takeBack 49 = .ok (.putfield 21, 3) := by decide +kernel
theorem dX0_takeBack_52 : decode cX0_takeBack 52 = .ok (.iconst 1, 1) := by decide +kernel
theorem dX0_takeBack_53 : decode cX0_takeBack 53 = .ok (.ireturn, 1) := by decide +kernel
theorem dX1_init_0 : decode cX1_init 0 = .ok (.aload_n 0, 1) := by decide +kernel
theorem dX1_init_1 : decode cX1_init 1 = .ok (.invokespecial 3, 3) := by decide +kernel
theorem dX1_init_4 : decode cX1_init 4 = .ok (.aload_n 0, 1) := by decide +kernel
theorem dX1_init_5 : decode cX1_init 5 = .ok (.bipush 16, 2) := by decide +kernel
theorem dX1_init_7 : decode cX1_init 7 = .ok (.anewarray 9, 3) := by decide +kernel
theorem dX1_init_10 : decode cX1_init 10 = .ok (.putfield 11, 3) := by decide +kernel
theorem dX1_init_13 : decode cX1_init 13 = .ok (.aload_n 0, 1) := by decide +kernel
theorem dX1_init_14 : decode cX1_init 14 = .ok (.new 17, 3) := by decide +kernel
theorem dX1_init_17 : decode cX1_init 17 = .ok (.dup, 1) := by decide +kernel
theorem dX1_init_18 : decode cX1_init 18 = .ok (.invokespecial 19, 3) := by decide +kernel
theorem dX1_init_21 : decode cX1_init 21 = .ok (.putfield 20, 3) := by decide +kernel
theorem dX1_init_24 : decode cX1_init 24 = .ok (.aload_n 0, 1) := by decide +kernel
theorem dX1_init_25 : decode cX1_init 25 = .ok (.getfield 11, 3) := by decide +kernel
theorem dX1_init_28 : decode cX1_init 28 = .ok (.invokestatic 24, 3) := by decide +kernel
theorem dX1_init_31 : decode cX1_init 31 = .ok (.return_, 1) := by decide +kernel
theorem dX1_ofBeingWolf_0 : decode cX1_ofBeingWolf 0 = .ok (.aload_n 0, 1) := by decide +kernel
theorem dX1_ofBeingWolf_1 : decode cX1_ofBeingWolf 1 = .ok (.aload_n 1, 1) := by decide +kernel
theorem dX1_ofBeingWolf_2 : decode cX1_ofBeingWolf 2 = .ok (.putfield 20, 3) := by decide +kernel
theorem dX1_ofBeingWolf_5 : decode cX1_ofBeingWolf 5 = .ok (.aload_n 0, 1) := by decide +kernel
theorem dX1_ofBeingWolf_6 : decode cX1_ofBeingWolf 6 = .ok (.getfield 11, 3) := by decide +kernel
theorem dX1_ofBeingWolf_9 : decode cX1_ofBeingWolf 9 = .ok (.iconst 0, 1) := by decide +kernel
theorem dX1_ofBeingWolf_10 : decode cX1_ofBeingWolf 10 = .ok (.invokestatic 28, 3) := by decide +kernel
theorem dX1_ofBeingWolf_13 : decode cX1_ofBeingWolf 13 = .ok (.astore 5, 2) := by decide +kernel
theorem dX1_ofBeingWolf_15 : decode cX1_ofBeingWolf 15 = .ok (.aload 5, 2) := by decide +kernel
theorem dX1_ofBeingWolf_17 : decode cX1_ofBeingWolf 17 = .ok (.ifnonnull 5, 3) := by decide +kernel
theorem dX1_ofBeingWolf_20 : decode cX1_ofBeingWolf 20 = .ok (.lconst 0, 1) := by decide +kernel
theorem dX1_ofBeingWolf_21 : decode cX1_ofBeingWolf 21 = .ok (.lreturn, 1) := by decide +kernel
theorem dX1_ofBeingWolf_22 : decode cX1_ofBeingWolf 22 = .ok (.aload 5, 2) := by decide +kernel
theorem dX1_ofBeingWolf_24 : decode cX1_ofBeingWolf 24 = .ok (.aload_n 2, 1) := by decide +kernel
theorem dX1_ofBeingWolf_25 : decode cX1_ofBeingWolf 25 = .ok (.invokevirtual 32, 3) := by decide +kernel
theorem dX1_ofBeingWolf_28 : decode cX1_ofBeingWolf 28 = .ok (.aload_n 0, 1) := by decide +kernel
theorem dX1_ofBeingWolf_29 : decode cX1_ofBeingWolf 29 = .ok (.iconst 0, 1) := by decide +kernel
theorem dX1_ofBeingWolf_30 : decode cX1_ofBeingWolf 30 = .ok (.iconst 0, 1) := by decide +kernel
theorem dX1_ofBeingWolf_31 : decode cX1_ofBeingWolf 31 = .ok (.iload 4, 2) := by decide +kernel
theorem dX1_ofBeingWolf_33 : decode cX1_ofBeingWolf 33 = .ok (.iload_n 3, 1) := by decide +kernel
theorem dX1_ofBeingWolf_34 : decode cX1_ofBeingWolf 34 = .ok (.invokevirtual 36, 3) := by decide +kernel
theorem dX1_ofBeingWolf_37 : decode cX1_ofBeingWolf 37 = .ok (.lreturn, 1) := by decide +kernel
theorem dX1_shares_0 : decode cX1_shares 0 = .ok (.aload_n 0, 1) := by decide +kernel
theorem dX1_shares_1 : decode cX1_shares 1 = .ok (.getfield 11, 3) := by decide +kernel
theorem dX1_shares_4 : decode cX1_shares 4 = .ok (.iload_n 1, 1) := by decide +kernel
theorem dX1_shares_5 : decode cX1_shares 5 = .ok (.invokestatic 28, 3) := by decide +kernel
theorem dX1_shares_8 : decode cX1_shares 8 = .ok (.astore 5, 2) := by decide +kernel
theorem dX1_shares_10 : decode cX1_shares 10 = .ok (.aload 5, 2) := by decide +kernel
theorem dX1_shares_12 : decode cX1_shares 12 = .ok (.ifnonnull 5, 3) := by decide +kernel
theorem dX1_shares_15 : decode cX1_shares 15 = .ok (.lconst 0, 1) := by decide +kernel
theorem dX1_shares_16 : decode cX1_shares 16 = .ok (.lreturn, 1) := by decide +kernel
theorem dX1_shares_17 : decode cX1_shares 17 = .ok (.aload 5, 2) := by decide +kernel
theorem dX1_shares_19 : decode cX1_shares 19 = .ok (.getfield 40, 3) := by decide +kernel
theorem dX1_shares_22 : decode cX1_shares 22 = .ok (.aload 5, 2) := by decide +kernel
theorem dX1_shares_24 : decode cX1_shares 24 = .ok (.getfield 44, 3) := by decide +kernel
theorem dX1_shares_27 : decode cX1_shares 27 = .ok (.ior, 1) := by decide +kernel
theorem dX1_shares_28 : decode cX1_shares 28 = .ok (.iload 4, 2) := by decide +kernel
theorem dX1_shares_30 : decode cX1_shares 30 = .ok (.invokestatic 47, 3) := by decide +kernel
theorem dX1_shares_33 : decode cX1_shares 33 = .ok (.ifCond .eq 21, 3) := by decide +kernel
theorem dX1_shares_36 : decode cX1_shares 36 = .ok (.ldc2_w 51, 3) := by decide +kernel
theorem dX1_shares_39 : decode cX1_shares 39 = .ok (.aload_n 0, 1) := by decide +kernel
theorem dX1_shares_40 : decode cX1_shares 40 = .ok (.getfield 20, 3) := by decide +kernel
theorem dX1_shares_43 : decode cX1_shares 43 = .ok (.getfield 53, 3) := by decide +kernel
theorem dX1_shares_46 : decode cX1_shares 46 = .ok (.iload_n 3, 1) := by decide +kernel
theorem dX1_shares_47 : decode cX1_shares 47 = .ok (.imul, 1) := by decide +kernel
theorem dX1_shares_48 : decode cX1_shares 48 = .ok (.iload_n 2, 1) := by decide +kernel
theorem dX1_shares_49 : decode cX1_shares 49 = .ok (.isub, 1) := by decide +kernel
theorem dX1_shares_50 : decode cX1_shares 50 = .ok (.invokestatic 56, 3) := by decide +kernel
theorem dX1_shares_53 : decode cX1_shares 53 = .ok (.lreturn, 1) := by decide +kernel
theorem dX1_shares_54 : decode cX1_shares 54 = .ok (.iload_n 2, 1) := by decide +kernel
theorem dX1_shares_55 : decode cX1_shares 55 = .ok (.aload_n 0, 1) := by decide +kernel
theorem dX1_shares_56 : decode cX1_shares 56 = .ok (.getfield 20, 3) := by decide +kernel
theorem dX1_shares_59 : decode cX1_shares 59 = .ok (.getfield 53, 3) := by decide +kernel
theorem dX1_shares_62 : decode cX1_shares 62 = .ok (.if_icmp .lt 21, 3) := by decide +kernel
theorem dX1_shares_65 : decode cX1_shares 65 = .ok (.iload_n 3, 1) := by decide +kernel
theorem dX1_shares_66 : decode cX1_shares 66 = .ok (.iconst 1, 1) := by decide +kernel
theorem dX1_shares_67 : decode cX1_shares 67 = .ok (.if_icmp .le 14, 3) := by decide +kernel
theorem dX1_shares_70 : decode cX1_shares 70 = .ok (.aload_n 0, 1) := by decide +kernel
theorem dX1_shares_71 : decode cX1_shares 71 = .ok (.iload_n 1, 1) := by decide +kernel
theorem dX1_shares_72 : decode cX1_shares 72 = .ok (.iload_n 3, 1) := by decide +kernel
theorem dX1_shares_73 : decode cX1_shares 73 = .ok (.iload 4, 2) := by decide +kernel
theorem dX1_shares_75 : decode cX1_shares 75 = .ok (.invokevirtual 60, 3) := by decide +kernel
theorem dX1_shares_78 : decode cX1_shares 78 = .ok (.goto 4, 3) := by decide +kernel
theorem dX1_shares_81 : decode cX1_shares 81 = .ok (.lconst 0, 1) := by decide +kernel
theorem dX1_shares_82 : decode cX1_shares 82 = .ok (.lreturn, 1) := by decide +kernel
theorem dX1_shares_83 : decode cX1_shares 83 = .ok (.aload 5, 2) := by decide +kernel
theorem dX1_shares_85 : decode cX1_shares 85 = .ok (.aload_n 0, 1) := by decide +kernel
theorem dX1_shares_86 : decode cX1_shares 86 = .ok (.getfield 20, 3) := by decide +kernel
theorem dX1_shares_89 : decode cX1_shares 89 = .ok (.iload_n 2, 1) := by decide +kernel
theorem dX1_shares_90 : decode cX1_shares 90 = .ok (.invokevirtual 64, 3) := by decide +kernel
theorem dX1_shares_93 : decode cX1_shares 93 = .ok (.istore 6, 2) := by decide +kernel
theorem dX1_shares_95 : decode cX1_shares 95 = .ok (.iload 6, 2) := by decide +kernel
theorem dX1_shares_97 : decode cX1_shares 97 = .ok (.invokestatic 68, 3) := by decide +kernel
theorem dX1_shares_100 : decode cX1_shares 100 = .ok (.istore 7, 2) := by decide +kernel
theorem dX1_shares_102 : decode cX1_shares 102 = .ok (.iload 7, 2) := by decide +kernel
theorem dX1_shares_104 : decode cX1_shares 104 = .ok (.ifCond .ne 7, 3) := by decide +kernel
theorem dX1_shares_107 : decode cX1_shares 107 = .ok (.iconst 0, 1) := by decide +kernel
theorem dX1_shares_108 : decode cX1_shares 108 = .ok (.goto 8, 3) := by decide +kernel
theorem dX1_shares_111 : decode cX1_shares 111 = .ok (.bipush 6, 2) := by decide +kernel
theorem dX1_shares_113 : decode cX1_shares 113 = .ok (.iload 7, 2) := by decide +kernel
theorem dX1_shares_115 : decode cX1_shares 115 = .ok (.idiv, 1) := by decide +kernel
theorem dX1_shares_116 : decode cX1_shares 116 = .ok (.istore 8, 2) := by decide +kernel
theorem dX1_shares_118 : decode cX1_shares 118 = .ok (.iload_n 3, 1) := by decide +kernel
theorem dX1_shares_119 : decode cX1_shares 119 = .ok (.iconst 1, 1) := by decide +kernel
theorem dX1_shares_120 : decode cX1_shares 120 = .ok (.if_icmp .ne 24, 3) := by decide +kernel
theorem dX1_shares_123 : decode cX1_shares 123 = .ok (.iload 6, 2) := by decide +kernel
theorem dX1_shares_125 : decode cX1_shares 125 = .ok (.aload_n 0, 1) := by decide +kernel
theorem dX1_shares_126 : decode cX1_shares 126 = .ok (.getfield 20, 3) := by decide +kernel
theorem dX1_shares_129 : decode cX1_shares 129 = .ok (.getfield 74, 3) := by decide +kernel
theorem dX1_shares_132 : decode cX1_shares 132 = .ok (.iload 4, 2) := by decide +kernel
theorem dX1_shares_134 : decode cX1_shares 134 = .ok (.invokestatic 78, 3) := by decide +kernel
theorem dX1_shares_137 : decode cX1_shares 137 = .ok (.invokestatic 82, 3) := by decide +kernel
theorem dX1_shares_140 : decode cX1_shares 140 = .ok (.iand, 1) := by decide +kernel
theorem dX1_shares_141 : decode cX1_shares 141 = .ok (.goto 5, 3) := by decide +kernel
theorem dX1_shares_144 : decode cX1_shares 144 = .ok (.iload 6, 2) := by decide +kernel
theorem dX1_shares_146 : decode cX1_shares 146 = .ok (.istore 9, 2) := by decide +kernel
theorem dX1_shares_148 : decode cX1_shares 148 = .ok (.bipush 6, 2) := by decide +kernel
theorem dX1_shares_150 : decode cX1_shares 150 = .ok (.iload 8, 2) := by decide +kernel
theorem dX1_shares_152 : decode cX1_shares 152 = .ok (.iload 9, 2) := by decide +kernel
theorem dX1_shares_154 : decode cX1_shares 154 = .ok (.invokestatic 68, 3) := by decide +kernel
theorem dX1_shares_157 : decode cX1_shares 157 = .ok (.imul, 1) := by decide +kernel
theorem dX1_shares_158 : decode cX1_shares 158 = .ok (.isub, 1) := by decide +kernel
theorem dX1_shares_159 : decode cX1_shares 159 = .ok (.istore 10, 2) := by decide +kernel
theorem dX1_shares_161 : decode cX1_shares 161 = .ok (.iload 10, 2) := by decide +kernel
theorem dX1_shares_163 : decode cX1_shares 163 = .ok (.ifCond .ne 7, 3) := by decide +kernel
theorem dX1_shares_166 : decode cX1_shares 166 = .ok (.lconst 0, 1) := by decide +kernel
theorem dX1_shares_167 : decode cX1_shares 167 = .ok (.goto 18, 3) := by decide +kernel
theorem dX1_shares_170 : decode cX1_shares 170 = .ok (.iload 10, 2) := by decide +kernel
theorem dX1_shares_172 : decode cX1_shares 172 = .ok (.i2l, 1) := by decide +kernel
theorem dX1_shares_173 : decode cX1_shares 173 = .ok (.aload_n 0, 1) := by decide +kernel
theorem dX1_shares_174 : decode cX1_shares 174 = .ok (.iload_n 1, 1) := by decide +kernel
theorem dX1_shares_175 : decode cX1_shares 175 = .ok (.iload_n 2, 1) := by decide +kernel
theorem dX1_shares_176 : decode cX1_shares 176 = .ok (.iconst 1, 1) := by decide +kernel
theorem dX1_shares_177 : decode cX1_shares 177 = .ok (.iadd, 1) := by decide +kernel
theorem dX1_shares_178 : decode cX1_shares 178 = .ok (.iload_n 3, 1) := by decide +kernel
theorem dX1_shares_179 : decode cX1_shares 179 = .ok (.iload 4, 2) := by decide +kernel
theorem dX1_shares_181 : decode cX1_shares 181 = .ok (.invokevirtual 36, 3) := by decide +kernel
theorem dX1_shares_184 : decode cX1_shares 184 = .ok (.lmul, 1) := by decide +kernel
theorem dX1_shares_185 : decode cX1_shares 185 = .ok (.lstore 11, 2) := by decide +kernel
theorem dX1_shares_187 : decode cX1_shares 187 = .ok (.aload_n 0, 1) := by decide +kernel
theorem dX1_shares_188 : decode cX1_shares 188 = .ok (.getfield 11, 3) := by decide +kernel
theorem dX1_shares_191 : decode cX1_shares 191 = .ok (.iload_n 1, 1) := by decide +kernel
theorem dX1_shares_192 : decode cX1_shares 192 = .ok (.iconst 1, 1) := by decide +kernel
theorem dX1_shares_193 : decode cX1_shares 193 = .ok (.iadd, 1) := by decide +kernel
theorem dX1_shares_194 : decode cX1_shares 194 = .ok (.invokestatic 28, 3) := by decide +kernel
theorem dX1_shares_197 : decode cX1_shares 197 = .ok (.astore 13, 2) := by decide +kernel
theorem dX1_shares_199 : decode cX1_shares 199 = .ok (.iconst 0, 1) := by decide +kernel
theorem dX1_shares_200 : decode cX1_shares 200 = .ok (.istore 14, 2) := by decide +kernel
theorem dX1_shares_202 : decode cX1_shares 202 = .ok (.iload 14, 2) := by decide +kernel
theorem dX1_shares_204 : decode cX1_shares 204 = .ok (.iconst 4, 1) := by decide +kernel
theorem dX1_shares_205 : decode cX1_shares 205 = .ok (.if_icmp .ge 66, 3) := by decide +kernel
theorem dX1_shares_208 : decode cX1_shares 208 = .ok (.aload 13, 2) := by decide +kernel
theorem dX1_shares_210 : decode cX1_shares 210 = .ok (.ifnull 61, 3) := by decide +kernel
theorem dX1_shares_213 : decode cX1_shares 213 = .ok (.iload 9, 2) := by decide +kernel
theorem dX1_shares_215 : decode cX1_shares 215 = .ok (.iload 14, 2) := by decide +kernel
theorem dX1_shares_217 : decode cX1_shares 217 = .ok (.invokestatic 47, 3) := by decide +kernel
theorem dX1_shares_220 : decode cX1_shares 220 = .ok (.ifCond .eq 45, 3) := by decide +kernel
theorem dX1_shares_223 : decode cX1_shares 223 = .ok (.aload 13, 2) := by decide +kernel
theorem dX1_shares_225 : decode cX1_shares 225 = .ok (.aload 5, 2) := by decide +kernel
theorem dX1_shares_227 : decode cX1_shares 227 = .ok (.invokevirtual 32, 3) := by decide +kernel
theorem dX1_shares_230 : decode cX1_shares 230 = .ok (.aload 13, 2) := by decide +kernel
theorem dX1_shares_232 : decode cX1_shares 232 = .ok (.aload_n 0, 1) := by decide +kernel
theorem dX1_shares_233 : decode cX1_shares 233 = .ok (.getfield 20, 3) := by decide +kernel
theorem dX1_shares_236 : decode cX1_shares 236 = .ok (.iload_n 2, 1) := by decide +kernel
theorem dX1_shares_237 : decode cX1_shares 237 = .ok (.iload 14, 2) := by decide +kernel
theorem dX1_shares_239 : decode cX1_shares 239 = .ok (.invokevirtual 85, 3) := by decide +kernel
theorem dX1_shares_242 : decode cX1_shares 242 = .ok (.pop, 1) := by decide +kernel
theorem dX1_shares_243 : decode cX1_shares 243 = .ok (.lload 11, 2) := by decide +kernel
theorem dX1_shares_245 : decode cX1_shares 245 = .ok (.iload 8, 2) := by decide +kernel
theorem dX1_shares_247 : decode cX1_shares 247 = .ok (.i2l, 1) := by decide +kernel
theorem dX1_shares_248 : decode cX1_shares 248 = .ok (.aload_n 0, 1) := by decide +kernel
theorem dX1_shares_249 : decode cX1_shares 249 = .ok (.iload_n 1, 1) := by decide +kernel
theorem dX1_shares_250 : decode cX1_shares 250 = .ok (.iconst 1, 1) := by decide +kernel
theorem dX1_shares_251 : decode cX1_shares 251 = .ok (.iadd, 1) := by decide +kernel
theorem dX1_shares_252 : decode cX1_shares 252 = .ok (.iload_n 2, 1) := by decide +kernel
theorem dX1_shares_253 : decode cX1_shares 253 = .ok (.iconst 1, 1) := by decide +kernel
theorem dX1_shares_254 : decode cX1_shares 254 = .ok (.iadd, 1) := by decide +kernel
theorem dX1_shares_255 : decode cX1_shares 255 = .ok (.iload_n 3, 1) := by decide +kernel
theorem dX1_shares_256 : decode cX1_shares 256 = .ok (.iload 4, 2) := by decide +kernel
theorem dX1_shares_258 : decode cX1_shares 258 = .ok (.invokevirtual 36, 3) := by decide +kernel
theorem dX1_shares_261 : decode cX1_shares 261 = .ok (.lmul, 1) := by decide +kernel
theorem dX1_shares_262 : decode cX1_shares 262 = .ok (.ladd, 1) := by decide +kernel
theorem dX1_shares_263 : decode cX1_shares 263 = .ok (.lstore 11, 2) := by decide +kernel
theorem dX1_shares_265 : decode cX1_shares 265 = .ok (.iinc 14 1, 3) := by decide +kernel
theorem dX1_shares_268 : decode cX1_shares 268 = .ok (.goto (-66), 3) := by decide +kernel
theorem dX1_shares_271 : decode cX1_shares 271 = .ok (.lload 11, 2) := by decide +kernel
theorem dX1_shares_273 : decode cX1_shares 273 = .ok (.lreturn, 1) := by decide +kernel
theorem dX1_sharesAfterDawn_0 : decode cX1_sharesAfterDawn 0 = .ok (.aload_n 0, 1) := by decide +kernel
theorem dX1_sharesAfterDawn_1 : decode cX1_sharesAfterDawn 1 = .ok (.getfield 11, 3) := by decide +kernel
theorem dX1_sharesAfterDawn_4 : decode cX1_sharesAfterDawn 4 = .ok (.iload_n 1, 1) := by decide +kernel
theorem dX1_sharesAfterDawn_5 : decode cX1_sharesAfterDawn 5 = .ok (.invokestatic 28, 3) := by decide +kernel
theorem dX1_sharesAfterDawn_8 : decode cX1_sharesAfterDawn 8 = .ok (.astore 4, 2) := by decide +kernel
theorem dX1_sharesAfterDawn_10 : decode cX1_sharesAfterDawn 10 = .ok (.aload_n 0, 1) := by decide +kernel
theorem dX1_sharesAfterDawn_11 : decode cX1_sharesAfterDawn 11 = .ok (.getfield 11, 3) := by decide +kernel
theorem dX1_sharesAfterDawn_14 : decode cX1_sharesAfterDawn 14 = .ok (.iload_n 1, 1) := by decide +kernel
theorem dX1_sharesAfterDawn_15 : decode cX1_sharesAfterDawn 15 = .ok (.iconst 1, 1) := by decide +kernel
theorem dX1_sharesAfterDawn_16 : decode cX1_sharesAfterDawn 16 = .ok (.iadd, 1) := by decide +kernel
theorem dX1_sharesAfterDawn_17 : decode cX1_sharesAfterDawn 17 = .ok (.invokestatic 28, 3) := by decide +kernel
theorem dX1_sharesAfterDawn_20 : decode cX1_sharesAfterDawn 20 = .ok (.astore 5, 2) := by decide +kernel
theorem dX1_sharesAfterDawn_22 : decode cX1_sharesAfterDawn 22 = .ok (.aload 4, 2) := by decide +kernel
theorem dX1_sharesAfterDawn_24 : decode cX1_sharesAfterDawn 24 = .ok (.ifnull 8, 3) := by decide +kernel
theorem dX1_sharesAfterDawn_27 : decode cX1_sharesAfterDawn 27 = .ok (.aload 5, 2) := by decide +kernel
theorem dX1_sharesAfterDawn_29 : decode cX1_sharesAfterDawn 29 = .ok (.ifnonnull 5, 3) := by decide +kernel
theorem dX1_sharesAfterDawn_32 : decode cX1_sharesAfterDawn 32 = .ok (.lconst 0, 1) := by decide +kernel
theorem dX1_sharesAfterDawn_33 : decode cX1_sharesAfterDawn 33 = .ok (.lreturn, 1) := by decide +kernel
theorem dX1_sharesAfterDawn_34 : decode cX1_sharesAfterDawn 34 = .ok (.aload 5, 2) := by decide +kernel
theorem dX1_sharesAfterDawn_36 : decode cX1_sharesAfterDawn 36 = .ok (.aload 4, 2) := by decide +kernel
theorem dX1_sharesAfterDawn_38 : decode cX1_sharesAfterDawn 38 = .ok (.invokevirtual 32, 3) := by decide +kernel
theorem dX1_sharesAfterDawn_41 : decode cX1_sharesAfterDawn 41 = .ok (.aload 5, 2) := by decide +kernel
theorem dX1_sharesAfterDawn_43 : decode cX1_sharesAfterDawn 43 = .ok (.invokevirtual 89, 3) := by decide +kernel
theorem dX1_sharesAfterDawn_46 : decode cX1_sharesAfterDawn 46 = .ok (.pop, 1) := by decide +kernel
theorem dX1_sharesAfterDawn_47 : decode cX1_sharesAfterDawn 47 = .ok (.aload_n 0, 1) := by decide +kernel
theorem dX1_sharesAfterDawn_48 : decode cX1_sharesAfterDawn 48 = .ok (.iload_n 1, 1) := by decide +kernel
theorem dX1_sharesAfterDawn_49 : decode cX1_sharesAfterDawn 49 = .ok (.iconst 1, 1) := by decide +kernel
theorem dX1_sharesAfterDawn_50 : decode cX1_sharesAfterDawn 50 = .ok (.iadd, 1) := by decide +kernel
theorem dX1_sharesAfterDawn_51 : decode cX1_sharesAfterDawn 51 = .ok (.iconst 0, 1) := by decide +kernel
theorem dX1_sharesAfterDawn_52 : decode cX1_sharesAfterDawn 52 = .ok (.iload_n 2, 1) := by decide +kernel
theorem dX1_sharesAfterDawn_53 : decode cX1_sharesAfterDawn 53 = .ok (.iconst 1, 1) := by decide +kernel
theorem dX1_sharesAfterDawn_54 : decode cX1_sharesAfterDawn 54 = .ok (.isub, 1) := by decide +kernel
theorem dX1_sharesAfterDawn_55 : decode cX1_sharesAfterDawn 55 = .ok (.iload_n 3, 1) := by decide +kernel
theorem dX1_sharesAfterDawn_56 : decode cX1_sharesAfterDawn 56 = .ok (.invokevirtual 36, 3) := by decide +kernel
theorem dX1_sharesAfterDawn_59 : decode cX1_sharesAfterDawn 59 = .ok (.lreturn, 1) := by decide +kernel
theorem dX2_init_0 : decode cX2_init 0 = .ok (.aload_n 0, 1) := by decide +kernel
theorem dX2_init_1 : decode cX2_init 1 = .ok (.invokespecial 3, 3) := by decide +kernel
theorem dX2_init_4 : decode cX2_init 4 = .ok (.aload_n 0, 1) := by decide +kernel
theorem dX2_init_5 : decode cX2_init 5 = .ok (.iconst 0, 1) := by decide +kernel
theorem dX2_init_6 : decode cX2_init 6 = .ok (.putfield 9, 3) := by decide +kernel
theorem dX2_init_9 : decode cX2_init 9 = .ok (.aload_n 0, 1) := by decide +kernel
theorem dX2_init_10 : decode cX2_init 10 = .ok (.iconst 0, 1) := by decide +kernel
theorem dX2_init_11 : decode cX2_init 11 = .ok (.putfield 15, 3) := by decide +kernel
theorem dX2_init_14 : decode cX2_init 14 = .ok (.aload_n 0, 1) := by decide +kernel
theorem dX2_init_15 : decode cX2_init 15 = .ok (.iconst 0, 1) := by decide +kernel
theorem dX2_init_16 : decode cX2_init 16 = .ok (.putfield 18, 3) := by decide +kernel
theorem dX2_init_19 : decode cX2_init 19 = .ok (.aload_n 0, 1) := by decide +kernel
theorem dX2_init_20 : decode cX2_init 20 = .ok (.iconst 0, 1) := by decide +kernel
theorem dX2_init_21 : decode cX2_init 21 = .ok (.putfield 21, 3) := by decide +kernel
theorem dX2_init_24 : decode cX2_init 24 = .ok (.aload_n 0, 1) := by decide +kernel
theorem dX2_init_25 : decode cX2_init 25 = .ok (.iconst 0, 1) := by decide +kernel
theorem dX2_init_26 : decode cX2_init 26 = .ok (.putfield 24, 3) := by decide +kernel
theorem dX2_init_29 : decode cX2_init 29 = .ok (.aload_n 0, 1) := by decide +kernel
theorem dX2_init_30 : decode cX2_init 30 = .ok (.iconst 0, 1) := by decide +kernel
theorem dX2_init_31 : decode cX2_init 31 = .ok (.putfield 27, 3) := by decide +kernel
theorem dX2_init_34 : decode cX2_init 34 = .ok (.aload_n 0, 1) := by decide +kernel
theorem dX2_init_35 : decode cX2_init 35 = .ok (.iconst 0, 1) := by decide +kernel
theorem dX2_init_36 : decode cX2_init 36 = .ok (.putfield 30, 3) := by decide +kernel
theorem dX2_init_39 : decode cX2_init 39 = .ok (.aload_n 0, 1) := by decide +kernel
theorem dX2_init_40 : decode cX2_init 40 = .ok (.lconst 0, 1) := by decide +kernel
theorem dX2_init_41 : decode cX2_init 41 = .ok (.putfield 33, 3) := by decide +kernel
theorem dX2_init_44 : decode cX2_init 44 = .ok (.aload_n 0, 1) := by decide +kernel
theorem dX2_init_45 : decode cX2_init 45 = .ok (.lconst 0, 1) := by decide +kernel
theorem dX2_init_46 : decode cX2_init 46 = .ok (.putfield 37, 3) := by decide +kernel
theorem dX2_init_49 : decode cX2_init 49 = .ok (.aload_n 0, 1) := by decide +kernel
theorem dX2_init_50 : decode cX2_init 50 = .ok (.lconst 0, 1) := by decide +kernel
theorem dX2_init_51 : decode cX2_init 51 = .ok (.putfield 40, 3) := by decide +kernel
theorem dX2_init_54 : decode cX2_init 54 = .ok (.return_, 1) := by decide +kernel
theorem dX2_copyFrom_0 : decode cX2_copyFrom 0 = .ok (.aload_n 0, 1) := by decide +kernel
theorem dX2_copyFrom_1 : decode cX2_copyFrom 1 = .ok (.aload_n 1, 1) := by decide +kernel
theorem dX2_copyFrom_2 : decode cX2_copyFrom 2 = .ok (.getfield 9, 3) := by decide +kernel
theorem dX2_copyFrom_5 : decode cX2_copyFrom 5 = .ok (.putfield 9, 3) := by decide +kernel
theorem dX2_copyFrom_8 : decode cX2_copyFrom 8 = .ok (.aload_n 0, 1) := by decide +kernel
theorem dX2_copyFrom_9 : decode cX2_copyFrom 9 = .ok (.aload_n 1, 1) := by decide +kernel
theorem dX2_copyFrom_10 : decode cX2_copyFrom 10 = .ok (.getfield 15, 3) := by decide +kernel
theorem dX2_copyFrom_13 : decode cX2_copyFrom 13 = .ok (.putfield 15, 3) := by decide +kernel
theorem dX2_copyFrom_16 : decode cX2_copyFrom 16 = .ok (.aload_n 0, 1) := by decide +kernel
theorem dX2_copyFrom_17 : decode cX2_copyFrom 17 = .ok (.aload_n 1, 1) := by decide +kernel
theorem dX2_copyFrom_18 : decode cX2_copyFrom 18 = .ok (.getfield 18, 3) := by decide +kernel
theorem dX2_copyFrom_21 : decode cX2_copyFrom 21 = .ok (.putfield 18, 3) := by decide +kernel
theorem dX2_copyFrom_24 : decode cX2_copyFrom 24 = .ok (.aload_n 0, 1) := by decide +kernel
theorem dX2_copyFrom_25 : decode cX2_copyFrom 25 = .ok (.aload_n 1, 1) := by decide +kernel
theorem dX2_copyFrom_26 : decode cX2_copyFrom 26 = .ok (.getfield 21, 3) := by decide +kernel
theorem dX2_copyFrom_29 : decode cX2_copyFrom 29 = .ok (.putfield 21, 3) := by decide +kernel
theorem dX2_copyFrom_32 : decode cX2_copyFrom 32 = .ok (.aload_n 0, 1) := by decide +kernel
theorem dX2_copyFrom_33 : decode cX2_copyFrom 33 = .ok (.aload_n 1, 1) := by decide +kernel
theorem dX2_copyFrom_34 : decode cX2_copyFrom 34 = .ok (.getfield 24, 3) := by decide +kernel
theorem dX2_copyFrom_37 : decode cX2_copyFrom 37 = .ok (.putfield 24, 3) := by decide +kernel
theorem dX2_copyFrom_40 : decode cX2_copyFrom 40 = .ok (.aload_n 0, 1) := by decide +kernel
theorem dX2_copyFrom_41 : decode cX2_copyFrom 41 = .ok (.aload_n 1, 1) := by decide +kernel
theorem dX2_copyFrom_42 : decode cX2_copyFrom 42 = .ok (.getfield 27, 3) := by decide +kernel
theorem dX2_copyFrom_45 : decode cX2_copyFrom 45 = .ok (.putfield 27, 3) := by decide +kernel
theorem dX2_copyFrom_48 : decode cX2_copyFrom 48 = .ok (.aload_n 0, 1) := by decide +kernel
theorem dX2_copyFrom_49 : decode cX2_copyFrom 49 = .ok (.aload_n 1, 1) := by decide +kernel
theorem dX2_copyFrom_50 : decode cX2_copyFrom 50 = .ok (.getfield 30, 3) := by decide +kernel
theorem dX2_copyFrom_53 : decode cX2_copyFrom 53 = .ok (.putfield 30, 3) := by decide +kernel
theorem dX2_copyFrom_56 : decode cX2_copyFrom 56 = .ok (.aload_n 0, 1) := by decide +kernel
theorem dX2_copyFrom_57 : decode cX2_copyFrom 57 = .ok (.aload_n 1, 1) := by decide +kernel
theorem dX2_copyFrom_58 : decode cX2_copyFrom 58 = .ok (.getfield 33, 3) := by decide +kernel
theorem dX2_copyFrom_61 : decode cX2_copyFrom 61 = .ok (.putfield 33, 3) := by decide +kernel
theorem dX2_copyFrom_64 : decode cX2_copyFrom 64 = .ok (.aload_n 0, 1) := by decide +kernel
theorem dX2_copyFrom_65 : decode cX2_copyFrom 65 = .ok (.aload_n 1, 1) := by decide +kernel
theorem dX2_copyFrom_66 : decode cX2_copyFrom 66 = .ok (.getfield 37, 3) := by decide +kernel
theorem dX2_copyFrom_69 : decode cX2_copyFrom 69 = .ok (.putfield 37, 3) := by decide +kernel
theorem dX2_copyFrom_72 : decode cX2_copyFrom 72 = .ok (.aload_n 0, 1) := by decide +kernel
theorem dX2_copyFrom_73 : decode cX2_copyFrom 73 = .ok (.aload_n 1, 1) := by decide +kernel
theorem dX2_copyFrom_74 : decode cX2_copyFrom 74 = .ok (.getfield 40, 3) := by decide +kernel
theorem dX2_copyFrom_77 : decode cX2_copyFrom 77 = .ok (.putfield 40, 3) := by decide +kernel
theorem dX2_copyFrom_80 : decode cX2_copyFrom 80 = .ok (.return_, 1) := by decide +kernel
theorem dX2_begin_0 : decode cX2_begin 0 = .ok (.aload_n 0, 1) := by decide +kernel
theorem dX2_begin_1 : decode cX2_begin 1 = .ok (.iconst 0, 1) := by decide +kernel
theorem dX2_begin_2 : decode cX2_begin 2 = .ok (.putfield 9, 3) := by decide +kernel
theorem dX2_begin_5 : decode cX2_begin 5 = .ok (.aload_n 0, 1) := by decide +kernel
theorem dX2_begin_6 : decode cX2_begin 6 = .ok (.aload_n 1, 1) := by decide +kernel
theorem dX2_begin_7 : decode cX2_begin 7 = .ok (.getfield 43, 3) := by decide +kernel
theorem dX2_begin_10 : decode cX2_begin 10 = .ok (.putfield 15, 3) := by decide +kernel
theorem dX2_begin_13 : decode cX2_begin 13 = .ok (.aload_n 0, 1) := by decide +kernel
theorem dX2_begin_14 : decode cX2_begin 14 = .ok (.iconst 0, 1) := by decide +kernel
theorem dX2_begin_15 : decode cX2_begin 15 = .ok (.putfield 18, 3) := by decide +kernel
theorem dX2_begin_18 : decode cX2_begin 18 = .ok (.aload_n 0, 1) := by decide +kernel
theorem dX2_begin_19 : decode cX2_begin 19 = .ok (.iconst 0, 1) := by decide +kernel
theorem dX2_begin_20 : decode cX2_begin 20 = .ok (.putfield 21, 3) := by decide +kernel
theorem dX2_begin_23 : decode cX2_begin 23 = .ok (.aload_n 0, 1) := by decide +kernel
theorem dX2_begin_24 : decode cX2_begin 24 = .ok (.iconst 0, 1) := by decide +kernel
theorem dX2_begin_25 : decode cX2_begin 25 = .ok (.putfield 24, 3) := by decide +kernel
theorem dX2_begin_28 : decode cX2_begin 28 = .ok (.aload_n 0, 1) := by decide +kernel
theorem dX2_begin_29 : decode cX2_begin 29 = .ok (.aload_n 1, 1) := by decide +kernel
theorem dX2_begin_30 : decode cX2_begin 30 = .ok (.getfield 46, 3) := by decide +kernel
theorem dX2_begin_33 : decode cX2_begin 33 = .ok (.putfield 27, 3) := by decide +kernel
theorem dX2_begin_36 : decode cX2_begin 36 = .ok (.aload_n 0, 1) := by decide +kernel
theorem dX2_begin_37 : decode cX2_begin 37 = .ok (.aload_n 1, 1) := by decide +kernel
theorem dX2_begin_38 : decode cX2_begin 38 = .ok (.getfield 47, 3) := by decide +kernel
theorem dX2_begin_41 : decode cX2_begin 41 = .ok (.putfield 30, 3) := by decide +kernel
theorem dX2_begin_44 : decode cX2_begin 44 = .ok (.aload_n 0, 1) := by decide +kernel
theorem dX2_begin_45 : decode cX2_begin 45 = .ok (.aload_n 1, 1) := by decide +kernel
theorem dX2_begin_46 : decode cX2_begin 46 = .ok (.getfield 48, 3) := by decide +kernel
theorem dX2_begin_49 : decode cX2_begin 49 = .ok (.putfield 33, 3) := by decide +kernel
theorem dX2_begin_52 : decode cX2_begin 52 = .ok (.aload_n 0, 1) := by decide +kernel
theorem dX2_begin_53 : decode cX2_begin 53 = .ok (.lconst 0, 1) := by decide +kernel
theorem dX2_begin_54 : decode cX2_begin 54 = .ok (.putfield 37, 3) := by decide +kernel
theorem dX2_begin_57 : decode cX2_begin 57 = .ok (.aload_n 0, 1) := by decide +kernel
theorem dX2_begin_58 : decode cX2_begin 58 = .ok (.lconst 0, 1) := by decide +kernel
theorem dX2_begin_59 : decode cX2_begin 59 = .ok (.putfield 40, 3) := by decide +kernel
theorem dX2_begin_62 : decode cX2_begin 62 = .ok (.return_, 1) := by decide +kernel
theorem dX2_there_0 : decode cX2_there 0 = .ok (.aload_n 1, 1) := by decide +kernel
theorem dX2_there_1 : decode cX2_there 1 = .ok (.getfield 49, 3) := by decide +kernel
theorem dX2_there_4 : decode cX2_there 4 = .ok (.invokestatic 52, 3) := by decide +kernel
theorem dX2_there_7 : decode cX2_there 7 = .ok (.aload_n 0, 1) := by decide +kernel
theorem dX2_there_8 : decode cX2_there 8 = .ok (.getfield 21, 3) := by decide +kernel
theorem dX2_there_11 : decode cX2_there 11 = .ok (.iconst (-1), 1) := by decide +kernel
theorem dX2_there_12 : decode cX2_there 12 = .ok (.ixor, 1) := by decide +kernel
theorem dX2_there_13 : decode cX2_there 13 = .ok (.iand, 1) := by decide +kernel
theorem dX2_there_14 : decode cX2_there 14 = .ok (.ireturn, 1) := by decide +kernel
theorem dX2_openHouses_0 : decode cX2_openHouses 0 = .ok (.aload_n 1, 1) := by decide +kernel
theorem dX2_openHouses_1 : decode cX2_openHouses 1 = .ok (.getfield 56, 3) := by decide +kernel
theorem dX2_openHouses_4 : decode cX2_openHouses 4 = .ok (.invokestatic 52, 3) := by decide +kernel
theorem dX2_openHouses_7 : decode cX2_openHouses 7 = .ok (.aload_n 0, 1) := by decide +kernel
theorem dX2_openHouses_8 : decode cX2_openHouses 8 = .ok (.getfield 27, 3) := by decide +kernel
theorem dX2_openHouses_11 : decode cX2_openHouses 11 = .ok (.iconst (-1), 1) := by decide +kernel
theorem dX2_openHouses_12 : decode cX2_openHouses 12 = .ok (.ixor, 1) := by decide +kernel
theorem dX2_openHouses_13 : decode cX2_openHouses 13 = .ok (.iand, 1) := by decide +kernel
theorem dX2_openHouses_14 : decode cX2_openHouses 14 = .ok (.aload_n 0, 1) := by decide +kernel
theorem dX2_openHouses_15 : decode cX2_openHouses 15 = .ok (.getfield 30, 3) := by decide +kernel
theorem dX2_openHouses_18 : decode cX2_openHouses 18 = .ok (.iconst (-1), 1) := by decide +kernel
theorem dX2_openHouses_19 : decode cX2_openHouses 19 = .ok (.ixor, 1) := by decide +kernel
theorem dX2_openHouses_20 : decode cX2_openHouses 20 = .ok (.iand, 1) := by decide +kernel
theorem dX2_openHouses_21 : decode cX2_openHouses 21 = .ok (.ireturn, 1) := by decide +kernel
theorem dX2_boltOf_0 : decode cX2_boltOf 0 = .ok (.aload_n 0, 1) := by decide +kernel
theorem dX2_boltOf_1 : decode cX2_boltOf 1 = .ok (.getfield 30, 3) := by decide +kernel
theorem dX2_boltOf_4 : decode cX2_boltOf 4 = .ok (.iload_n 1, 1) := by decide +kernel
theorem dX2_boltOf_5 : decode cX2_boltOf 5 = .ok (.invokestatic 59, 3) := by decide +kernel
theorem dX2_boltOf_8 : decode cX2_boltOf 8 = .ok (.ifCond .eq 5, 3) := by decide +kernel
theorem dX2_boltOf_11 : decode cX2_boltOf 11 = .ok (.iconst 2, 1) := by decide +kernel
theorem dX2_boltOf_12 : decode cX2_boltOf 12 = .ok (.ireturn, 1) := by decide +kernel
theorem dX2_boltOf_13 : decode cX2_boltOf 13 = .ok (.aload_n 0, 1) := by decide +kernel
theorem dX2_boltOf_14 : decode cX2_boltOf 14 = .ok (.getfield 27, 3) := by decide +kernel
theorem dX2_boltOf_17 : decode cX2_boltOf 17 = .ok (.iload_n 1, 1) := by decide +kernel
theorem dX2_boltOf_18 : decode cX2_boltOf 18 = .ok (.invokestatic 59, 3) := by decide +kernel
theorem dX2_boltOf_21 : decode cX2_boltOf 21 = .ok (.ifCond .eq 7, 3) := by decide +kernel
theorem dX2_boltOf_24 : decode cX2_boltOf 24 = .ok (.iconst 1, 1) := by decide +kernel
theorem dX2_boltOf_25 : decode cX2_boltOf 25 = .ok (.goto 4, 3) := by decide +kernel
theorem dX2_boltOf_28 : decode cX2_boltOf 28 = .ok (.iconst 0, 1) := by decide +kernel
theorem dX2_boltOf_29 : decode cX2_boltOf 29 = .ok (.ireturn, 1) := by decide +kernel
theorem dX2_setBolt_0 : decode cX2_setBolt 0 = .ok (.aload_n 0, 1) := by decide +kernel
theorem dX2_setBolt_1 : decode cX2_setBolt 1 = .ok (.iload_n 2, 1) := by decide +kernel
theorem dX2_setBolt_2 : decode cX2_setBolt 2 = .ok (.iconst 1, 1) := by decide +kernel
theorem dX2_setBolt_3 : decode cX2_setBolt 3 = .ok (.if_icmp .ne 15, 3) := by decide +kernel
theorem dX2_setBolt_6 : decode cX2_setBolt 6 = .ok (.aload_n 0, 1) := by decide +kernel
theorem dX2_setBolt_7 : decode cX2_setBolt 7 = .ok (.getfield 27, 3) := by decide +kernel
theorem dX2_setBolt_10 : decode cX2_setBolt 10 = .ok (.iload_n 1, 1) := by decide +kernel
theorem dX2_setBolt_11 : decode cX2_setBolt 11 = .ok (.invokestatic 63, 3) := by decide +kernel
theorem dX2_setBolt_14 : decode cX2_setBolt 14 = .ok (.ior, 1) := by decide +kernel
theorem dX2_setBolt_15 : decode cX2_setBolt 15 = .ok (.goto 14, 3) := by decide +kernel
theorem dX2_setBolt_18 : decode cX2_setBolt 18 = .ok (.aload_n 0, 1) := by decide +kernel
theorem dX2_setBolt_19 : decode cX2_setBolt 19 = .ok (.getfield 27, 3) := by decide +kernel
theorem dX2_setBolt_22 : decode cX2_setBolt 22 = .ok (.iload_n 1, 1) := by decide +kernel
theorem dX2_setBolt_23 : decode cX2_setBolt 23 = .ok (.invokestatic 63, 3) := by decide +kernel
theorem dX2_setBolt_26 : decode cX2_setBolt 26 = .ok (.iconst (-1), 1) := by decide +kernel
theorem dX2_setBolt_27 : decode cX2_setBolt 27 = .ok (.ixor, 1) := by decide +kernel
theorem dX2_setBolt_28 : decode cX2_setBolt 28 = .ok (.iand, 1) := by decide +kernel
theorem dX2_setBolt_29 : decode cX2_setBolt 29 = .ok (.putfield 27, 3) := by decide +kernel
theorem dX2_setBolt_32 : decode cX2_setBolt 32 = .ok (.aload_n 0, 1) := by decide +kernel
theorem dX2_setBolt_33 : decode cX2_setBolt 33 = .ok (.iload_n 2, 1) := by decide +kernel
theorem dX2_setBolt_34 : decode cX2_setBolt 34 = .ok (.iconst 2, 1) := by decide +kernel
theorem dX2_setBolt_35 : decode cX2_setBolt 35 = .ok (.if_icmp .ne 15, 3) := by decide +kernel
theorem dX2_setBolt_38 : decode cX2_setBolt 38 = .ok (.aload_n 0, 1) := by decide +kernel
theorem dX2_setBolt_39 : decode cX2_setBolt 39 = .ok (.getfield 30, 3) := by decide +kernel
theorem dX2_setBolt_42 : decode cX2_setBolt 42 = .ok (.iload_n 1, 1) := by decide +kernel
theorem dX2_setBolt_43 : decode cX2_setBolt 43 = .ok (.invokestatic 63, 3) := by decide +kernel
theorem dX2_setBolt_46 : decode cX2_setBolt 46 = .ok (.ior, 1) := by decide +kernel
theorem dX2_setBolt_47 : decode cX2_setBolt 47 = .ok (.goto 14, 3) := by decide +kernel
theorem dX2_setBolt_50 : decode cX2_setBolt 50 = .ok (.aload_n 0, 1) := by decide +kernel
theorem dX2_setBolt_51 : decode cX2_setBolt 51 = .ok (.getfield 30, 3) := by decide +kernel
theorem dX2_setBolt_54 : decode cX2_setBolt 54 = .ok (.iload_n 1, 1) := by decide +kernel
theorem dX2_setBolt_55 : decode cX2_setBolt 55 = .ok (.invokestatic 63, 3) := by decide +kernel
theorem dX2_setBolt_58 : decode cX2_setBolt 58 = .ok (.iconst (-1), 1) := by decide +kernel
theorem dX2_setBolt_59 : decode cX2_setBolt 59 = .ok (.ixor, 1) := by decide +kernel
theorem dX2_setBolt_60 : decode cX2_setBolt 60 = .ok (.iand, 1) := by decide +kernel
theorem dX2_setBolt_61 : decode cX2_setBolt 61 = .ok (.putfield 30, 3) := by decide +kernel
theorem dX2_setBolt_64 : decode cX2_setBolt 64 = .ok (.return_, 1) := by decide +kernel
theorem dX2_reach_0 : decode cX2_reach 0 = .ok (.aload_n 1, 1) := by decide +kernel
theorem dX2_reach_1 : decode cX2_reach 1 = .ok (.getfield 66, 3) := by decide +kernel
theorem dX2_reach_4 : decode cX2_reach 4 = .ok (.iload_n 2, 1) := by decide +kernel
theorem dX2_reach_5 : decode cX2_reach 5 = .ok (.invokestatic 69, 3) := by decide +kernel
theorem dX2_reach_8 : decode cX2_reach 8 = .ok (.istore_n 3, 1) := by decide +kernel
theorem dX2_reach_9 : decode cX2_reach 9 = .ok (.aload_n 0, 1) := by decide +kernel
theorem dX2_reach_10 : decode cX2_reach 10 = .ok (.getfield 30, 3) := by decide +kernel
theorem dX2_reach_13 : decode cX2_reach 13 = .ok (.iload_n 3, 1) := by decide +kernel
theorem dX2_reach_14 : decode cX2_reach 14 = .ok (.invokestatic 59, 3) := by decide +kernel
theorem dX2_reach_17 : decode cX2_reach 17 = .ok (.ifCond .eq 7, 3) := by decide +kernel
theorem dX2_reach_20 : decode cX2_reach 20 = .ok (.iconst 0, 1) := by decide +kernel
theorem dX2_reach_21 : decode cX2_reach 21 = .ok (.goto 17, 3) := by decide +kernel
theorem dX2_reach_24 : decode cX2_reach 24 = .ok (.aload_n 1, 1) := by decide +kernel
theorem dX2_reach_25 : decode cX2_reach 25 = .ok (.getfield 73, 3) := by decide +kernel
theorem dX2_reach_28 : decode cX2_reach 28 = .ok (.iload_n 3, 1) := by decide +kernel
theorem dX2_reach_29 : decode cX2_reach 29 = .ok (.invokestatic 69, 3) := by decide +kernel
theorem dX2_reach_32 : decode cX2_reach 32 = .ok (.aload_n 0, 1) := by decide +kernel
theorem dX2_reach_33 : decode cX2_reach 33 = .ok (.aload_n 1, 1) := by decide +kernel
theorem dX2_reach_34 : decode cX2_reach 34 = .ok (.invokevirtual 76, 3) := by decide +kernel
theorem dX2_reach_37 : decode cX2_reach 37 = .ok (.iand, 1) := by decide +kernel
theorem dX2_reach_38 : decode cX2_reach 38 = .ok (.ireturn, 1) := by decide +kernel
theorem dX2_goals_0 : decode cX2_goals 0 = .ok (.aload_n 0, 1) := by decide +kernel
theorem dX2_goals_1 : decode cX2_goals 1 = .ok (.getfield 15, 3) := by decide +kernel
theorem dX2_goals_4 : decode cX2_goals 4 = .ok (.aload_n 0, 1) := by decide +kernel
theorem dX2_goals_5 : decode cX2_goals 5 = .ok (.getfield 21, 3) := by decide +kernel
theorem dX2_goals_8 : decode cX2_goals 8 = .ok (.iconst (-1), 1) := by decide +kernel
theorem dX2_goals_9 : decode cX2_goals 9 = .ok (.ixor, 1) := by decide +kernel
theorem dX2_goals_10 : decode cX2_goals 10 = .ok (.iand, 1) := by decide +kernel
theorem dX2_goals_11 : decode cX2_goals 11 = .ok (.aload_n 0, 1) := by decide +kernel
theorem dX2_goals_12 : decode cX2_goals 12 = .ok (.getfield 24, 3) := by decide +kernel
theorem dX2_goals_15 : decode cX2_goals 15 = .ok (.iconst (-1), 1) := by decide +kernel
theorem dX2_goals_16 : decode cX2_goals 16 = .ok (.ixor, 1) := by decide +kernel
theorem dX2_goals_17 : decode cX2_goals 17 = .ok (.iand, 1) := by decide +kernel
theorem dX2_goals_18 : decode cX2_goals 18 = .ok (.iload_n 2, 1) := by decide +kernel
theorem dX2_goals_19 : decode cX2_goals 19 = .ok (.invokestatic 59, 3) := by decide +kernel
theorem dX2_goals_22 : decode cX2_goals 22 = .ok (.ifCond .eq 12, 3) := by decide +kernel
theorem dX2_goals_25 : decode cX2_goals 25 = .ok (.aload_n 0, 1) := by decide +kernel
theorem dX2_goals_26 : decode cX2_goals 26 = .ok (.aload_n 1, 1) := by decide +kernel
theorem dX2_goals_27 : decode cX2_goals 27 = .ok (.iload_n 2, 1) := by decide +kernel
theorem dX2_goals_28 : decode cX2_goals 28 = .ok (.invokevirtual 80, 3) := by decide +kernel
theorem dX2_goals_31 : decode cX2_goals 31 = .ok (.goto 4, 3) := by decide +kernel
theorem dX2_goals_34 : decode cX2_goals 34 = .ok (.iconst 0, 1) := by decide +kernel
theorem dX2_goals_35 : decode cX2_goals 35 = .ok (.ireturn, 1) := by decide +kernel
theorem dX2_victim_0 : decode cX2_victim 0 = .ok (.aload_n 0, 1) := by decide +kernel
theorem dX2_victim_1 : decode cX2_victim 1 = .ok (.getfield 33, 3) := by decide +kernel
theorem dX2_victim_4 : decode cX2_victim 4 = .ok (.iload_n 3, 1) := by decide +kernel
theorem dX2_victim_5 : decode cX2_victim 5 = .ok (.invokestatic 69, 3) := by decide +kernel
theorem dX2_victim_8 : decode cX2_victim 8 = .ok (.ifCond .le 6, 3) := by decide +kernel
theorem dX2_victim_11 : decode cX2_victim 11 = .ok (.bipush (-9), 2) := by decide +kernel
theorem dX2_victim_13 : decode cX2_victim 13 = .ok (.ireturn, 1) := by decide +kernel
theorem dX2_victim_14 : decode cX2_victim 14 = .ok (.aload_n 0, 1) := by decide +kernel
theorem dX2_victim_15 : decode cX2_victim 15 = .ok (.aload_n 1, 1) := by decide +kernel
theorem dX2_victim_16 : decode cX2_victim 16 = .ok (.invokevirtual 84, 3) := by decide +kernel
theorem dX2_victim_19 : decode cX2_victim 19 = .ok (.aload_n 1, 1) := by decide +kernel
theorem dX2_victim_20 : decode cX2_victim 20 = .ok (.iload_n 3, 1) := by decide +kernel
theorem dX2_victim_21 : decode cX2_victim 21 = .ok (.invokevirtual 87, 3) := by decide +kernel
theorem dX2_victim_24 : decode cX2_victim 24 = .ok (.iand, 1) := by decide +kernel
theorem dX2_victim_25 : decode cX2_victim 25 = .ok (.aload_n 0, 1) := by decide +kernel
theorem dX2_victim_26 : decode cX2_victim 26 = .ok (.getfield 15, 3) := by decide +kernel
theorem dX2_victim_29 : decode cX2_victim 29 = .ok (.iconst (-1), 1) := by decide +kernel
theorem dX2_victim_30 : decode cX2_victim 30 = .ok (.ixor, 1) := by decide +kernel
theorem dX2_victim_31 : decode cX2_victim 31 = .ok (.iand, 1) := by decide +kernel
theorem dX2_victim_32 : decode cX2_victim 32 = .ok (.aload_n 0, 1) := by decide +kernel
theorem dX2_victim_33 : decode cX2_victim 33 = .ok (.getfield 18, 3) := by decide +kernel
theorem dX2_victim_36 : decode cX2_victim 36 = .ok (.iconst (-1), 1) := by decide +kernel
theorem dX2_victim_37 : decode cX2_victim 37 = .ok (.ixor, 1) := by decide +kernel
theorem dX2_victim_38 : decode cX2_victim 38 = .ok (.iand, 1) := by decide +kernel
theorem dX2_victim_39 : decode cX2_victim 39 = .ok (.aload_n 1, 1) := by decide +kernel
theorem dX2_victim_40 : decode cX2_victim 40 = .ok (.getfield 90, 3) := by decide +kernel
theorem dX2_victim_43 : decode cX2_victim 43 = .ok (.iload_n 2, 1) := by decide +kernel
theorem dX2_victim_44 : decode cX2_victim 44 = .ok (.invokestatic 69, 3) := by decide +kernel
theorem dX2_victim_47 : decode cX2_victim 47 = .ok (.iconst (-1), 1) := by decide +kernel
theorem dX2_victim_48 : decode cX2_victim 48 = .ok (.ixor, 1) := by decide +kernel
theorem dX2_victim_49 : decode cX2_victim 49 = .ok (.iand, 1) := by decide +kernel
theorem dX2_victim_50 : decode cX2_victim 50 = .ok (.istore 4, 2) := by decide +kernel
theorem dX2_victim_52 : decode cX2_victim 52 = .ok (.iload 4, 2) := by decide +kernel
theorem dX2_victim_54 : decode cX2_victim 54 = .ok (.iconst 0, 1) := by decide +kernel
theorem dX2_victim_55 : decode cX2_victim 55 = .ok (.invokestatic 93, 3) := by decide +kernel
theorem dX2_victim_58 : decode cX2_victim 58 = .ok (.ireturn, 1) := by decide +kernel
theorem dX2_walk_0 : decode cX2_walk 0 = .ok (.aload_n 0, 1) := by decide +kernel
theorem dX2_walk_1 : decode cX2_walk 1 = .ok (.aload_n 1, 1) := by decide +kernel
theorem dX2_walk_2 : decode cX2_walk 2 = .ok (.iload_n 2, 1) := by decide +kernel
theorem dX2_walk_3 : decode cX2_walk 3 = .ok (.iload_n 3, 1) := by decide +kernel
theorem dX2_walk_4 : decode cX2_walk 4 = .ok (.invokevirtual 97, 3) := by decide +kernel
theorem dX2_walk_7 : decode cX2_walk 7 = .ok (.istore 4, 2) := by decide +kernel
theorem dX2_walk_9 : decode cX2_walk 9 = .ok (.aload_n 0, 1) := by decide +kernel
theorem dX2_walk_10 : decode cX2_walk 10 = .ok (.dup, 1) := by decide +kernel
theorem dX2_walk_11 : decode cX2_walk 11 = .ok (.getfield 24, 3) := by decide +kernel
theorem dX2_walk_14 : decode cX2_walk 14 = .ok (.iload_n 2, 1) := by decide +kernel
theorem dX2_walk_15 : decode cX2_walk 15 = .ok (.invokestatic 63, 3) := by decide +kernel
theorem dX2_walk_18 : decode cX2_walk 18 = .ok (.ior, 1) := by decide +kernel
theorem dX2_walk_19 : decode cX2_walk 19 = .ok (.putfield 24, 3) := by decide +kernel
theorem dX2_walk_22 : decode cX2_walk 22 = .ok (.aload_n 1, 1) := by decide +kernel
theorem dX2_walk_23 : decode cX2_walk 23 = .ok (.getfield 101, 3) := by decide +kernel
theorem dX2_walk_26 : decode cX2_walk 26 = .ok (.aload_n 1, 1) := by decide +kernel
theorem dX2_walk_27 : decode cX2_walk 27 = .ok (.getfield 66, 3) := by decide +kernel
theorem dX2_walk_30 : decode cX2_walk 30 = .ok (.iload_n 2, 1) := by decide +kernel
theorem dX2_walk_31 : decode cX2_walk 31 = .ok (.invokestatic 69, 3) := by decide +kernel
theorem dX2_walk_34 : decode cX2_walk 34 = .ok (.invokestatic 69, 3) := by decide +kernel
theorem dX2_walk_37 : decode cX2_walk 37 = .ok (.iload_n 3, 1) := by decide +kernel
theorem dX2_walk_38 : decode cX2_walk 38 = .ok (.invokestatic 59, 3) := by decide +kernel
theorem dX2_walk_41 : decode cX2_walk 41 = .ok (.ifCond .ne 25, 3) := by decide +kernel
theorem dX2_walk_44 : decode cX2_walk 44 = .ok (.aload_n 0, 1) := by decide +kernel
theorem dX2_walk_45 : decode cX2_walk 45 = .ok (.aload_n 0, 1) := by decide +kernel
theorem dX2_walk_46 : decode cX2_walk 46 = .ok (.getfield 37, 3) := by decide +kernel
theorem dX2_walk_49 : decode cX2_walk 49 = .ok (.iload_n 3, 1) := by decide +kernel
theorem dX2_walk_50 : decode cX2_walk 50 = .ok (.aload_n 0, 1) := by decide +kernel
theorem dX2_walk_51 : decode cX2_walk 51 = .ok (.getfield 37, 3) := by decide +kernel
theorem dX2_walk_54 : decode cX2_walk 54 = .ok (.iload_n 3, 1) := by decide +kernel
theorem dX2_walk_55 : decode cX2_walk 55 = .ok (.invokestatic 69, 3) := by decide +kernel
theorem dX2_walk_58 : decode cX2_walk 58 = .ok (.iconst 1, 1) := by decide +kernel
theorem dX2_walk_59 : decode cX2_walk 59 = .ok (.iadd, 1) := by decide +kernel
theorem dX2_walk_60 : decode cX2_walk 60 = .ok (.invokestatic 104, 3) := by decide +kernel
theorem dX2_walk_63 : decode cX2_walk 63 = .ok (.putfield 37, 3) := by decide +kernel
theorem dX2_walk_66 : decode cX2_walk 66 = .ok (.aload_n 0, 1) := by decide +kernel
theorem dX2_walk_67 : decode cX2_walk 67 = .ok (.getfield 33, 3) := by decide +kernel
theorem dX2_walk_70 : decode cX2_walk 70 = .ok (.iload_n 3, 1) := by decide +kernel
theorem dX2_walk_71 : decode cX2_walk 71 = .ok (.invokestatic 69, 3) := by decide +kernel
theorem dX2_walk_74 : decode cX2_walk 74 = .ok (.ifCond .le 25, 3) := by decide +kernel
theorem dX2_walk_77 : decode cX2_walk 77 = .ok (.aload_n 0, 1) := by decide +kernel
theorem dX2_walk_78 : decode cX2_walk 78 = .ok (.aload_n 0, 1) := by decide +kernel
theorem dX2_walk_79 : decode cX2_walk 79 = .ok (.getfield 33, 3) := by decide +kernel
theorem dX2_walk_82 : decode cX2_walk 82 = .ok (.iload_n 3, 1) := by decide +kernel
theorem dX2_walk_83 : decode cX2_walk 83 = .ok (.aload_n 0, 1) := by decide +kernel
theorem dX2_walk_84 : decode cX2_walk 84 = .ok (.getfield 33, 3) := by decide +kernel
theorem dX2_walk_87 : decode cX2_walk 87 = .ok (.iload_n 3, 1) := by decide +kernel
theorem dX2_walk_88 : decode cX2_walk 88 = .ok (.invokestatic 69, 3) := by decide +kernel
theorem dX2_walk_91 : decode cX2_walk 91 = .ok (.iconst 1, 1) := by decide +kernel
theorem dX2_walk_92 : decode cX2_walk 92 = .ok (.isub, 1) := by decide +kernel
theorem dX2_walk_93 : decode cX2_walk 93 = .ok (.invokestatic 104, 3) := by decide +kernel
theorem dX2_walk_96 : decode cX2_walk 96 = .ok (.putfield 33, 3) := by decide +kernel
theorem dX2_walk_99 : decode cX2_walk 99 = .ok (.iload 4, 2) := by decide +kernel
theorem dX2_walk_101 : decode cX2_walk 101 = .ok (.bipush (-9), 2) := by decide +kernel
theorem dX2_walk_103 : decode cX2_walk 103 = .ok (.if_icmp .eq 33, 3) := by decide +kernel
theorem dX2_walk_106 : decode cX2_walk 106 = .ok (.aload_n 0, 1) := by decide +kernel
theorem dX2_walk_107 : decode cX2_walk 107 = .ok (.dup, 1) := by decide +kernel
theorem dX2_walk_108 : decode cX2_walk 108 = .ok (.getfield 18, 3) := by decide +kernel
theorem dX2_walk_111 : decode cX2_walk 111 = .ok (.iload 4, 2) := by decide +kernel
theorem dX2_walk_113 : decode cX2_walk 113 = .ok (.invokestatic 63, 3) := by decide +kernel
theorem dX2_walk_116 : decode cX2_walk 116 = .ok (.ior, 1) := by decide +kernel
theorem dX2_walk_117 : decode cX2_walk 117 = .ok (.putfield 18, 3) := by decide +kernel
theorem dX2_walk_120 : decode cX2_walk 120 = .ok (.aload_n 0, 1) := by decide +kernel
theorem dX2_walk_121 : decode cX2_walk 121 = .ok (.aload_n 0, 1) := by decide +kernel
theorem dX2_walk_122 : decode cX2_walk 122 = .ok (.getfield 40, 3) := by decide +kernel
theorem dX2_walk_125 : decode cX2_walk 125 = .ok (.iload 4, 2) := by decide +kernel
theorem dX2_walk_127 : decode cX2_walk 127 = .ok (.iload_n 2, 1) := by decide +kernel
theorem dX2_walk_128 : decode cX2_walk 128 = .ok (.iconst 1, 1) := by decide +kernel
theorem dX2_walk_129 : decode cX2_walk 129 = .ok (.iadd, 1) := by decide +kernel
theorem dX2_walk_130 : decode cX2_walk 130 = .ok (.invokestatic 104, 3) := by decide +kernel
theorem dX2_walk_133 : decode cX2_walk 133 = .ok (.putfield 40, 3) := by decide +kernel
theorem dX2_walk_136 : decode cX2_walk 136 = .ok (.iload 4, 2) := by decide +kernel
theorem dX2_walk_138 : decode cX2_walk 138 = .ok (.ireturn, 1) := by decide +kernel
theorem dX2_nextNight_0 : decode cX2_nextNight 0 = .ok (.aload_n 0, 1) := by decide +kernel
theorem dX2_nextNight_1 : decode cX2_nextNight 1 = .ok (.getfield 18, 3) := by decide +kernel
theorem dX2_nextNight_4 : decode cX2_nextNight 4 = .ok (.aload_n 0, 1) := by decide +kernel
theorem dX2_nextNight_5 : decode cX2_nextNight 5 = .ok (.getfield 15, 3) := by decide +kernel
theorem dX2_nextNight_8 : decode cX2_nextNight 8 = .ok (.iconst (-1), 1) := by decide +kernel
theorem dX2_nextNight_9 : decode cX2_nextNight 9 = .ok (.ixor, 1) := by decide +kernel
theorem dX2_nextNight_10 : decode cX2_nextNight 10 = .ok (.iand, 1) := by decide +kernel
theorem dX2_nextNight_11 : decode cX2_nextNight 11 = .ok (.istore_n 1, 1) := by decide +kernel
theorem dX2_nextNight_12 : decode cX2_nextNight 12 = .ok (.aload_n 0, 1) := by decide +kernel
theorem dX2_nextNight_13 : decode cX2_nextNight 13 = .ok (.dup, 1) := by decide +kernel
theorem dX2_nextNight_14 : decode cX2_nextNight 14 = .ok (.getfield 15, 3) := by decide +kernel
theorem dX2_nextNight_17 : decode cX2_nextNight 17 = .ok (.aload_n 0, 1) := by decide +kernel
theorem dX2_nextNight_18 : decode cX2_nextNight 18 = .ok (.getfield 18, 3) := by decide +kernel
theorem dX2_nextNight_21 : decode cX2_nextNight 21 = .ok (.ior, 1) := by decide +kernel
theorem dX2_nextNight_22 : decode cX2_nextNight 22 = .ok (.putfield 15, 3) := by decide +kernel
theorem dX2_nextNight_25 : decode cX2_nextNight 25 = .ok (.aload_n 0, 1) := by decide +kernel
theorem dX2_nextNight_26 : decode cX2_nextNight 26 = .ok (.iconst 0, 1) := by decide +kernel
theorem dX2_nextNight_27 : decode cX2_nextNight 27 = .ok (.putfield 18, 3) := by decide +kernel
theorem dX2_nextNight_30 : decode cX2_nextNight 30 = .ok (.aload_n 0, 1) := by decide +kernel
theorem dX2_nextNight_31 : decode cX2_nextNight 31 = .ok (.iconst 0, 1) := by decide +kernel
theorem dX2_nextNight_32 : decode cX2_nextNight 32 = .ok (.putfield 24, 3) := by decide +kernel
theorem dX2_nextNight_35 : decode cX2_nextNight 35 = .ok (.aload_n 0, 1) := by decide +kernel
theorem dX2_nextNight_36 : decode cX2_nextNight 36 = .ok (.lconst 0, 1) := by decide +kernel
theorem dX2_nextNight_37 : decode cX2_nextNight 37 = .ok (.putfield 37, 3) := by decide +kernel
theorem dX2_nextNight_40 : decode cX2_nextNight 40 = .ok (.aload_n 0, 1) := by decide +kernel
theorem dX2_nextNight_41 : decode cX2_nextNight 41 = .ok (.dup, 1) := by decide +kernel
theorem dX2_nextNight_42 : decode cX2_nextNight 42 = .ok (.getfield 9, 3) := by decide +kernel
theorem dX2_nextNight_45 : decode cX2_nextNight 45 = .ok (.iconst 1, 1) := by decide +kernel
theorem dX2_nextNight_46 : decode cX2_nextNight 46 = .ok (.iadd, 1) := by decide +kernel
theorem dX2_nextNight_47 : decode cX2_nextNight 47 = .ok (.putfield 9, 3) := by decide +kernel
theorem dX2_nextNight_50 : decode cX2_nextNight 50 = .ok (.iload_n 1, 1) := by decide +kernel
theorem dX2_nextNight_51 : decode cX2_nextNight 51 = .ok (.ireturn, 1) := by decide +kernel
theorem dX2_biterOf_0 : decode cX2_biterOf 0 = .ok (.aload_n 0, 1) := by decide +kernel
theorem dX2_biterOf_1 : decode cX2_biterOf 1 = .ok (.getfield 40, 3) := by decide +kernel
theorem dX2_biterOf_4 : decode cX2_biterOf 4 = .ok (.iload_n 1, 1) := by decide +kernel
theorem dX2_biterOf_5 : decode cX2_biterOf 5 = .ok (.invokestatic 69, 3) := by decide +kernel
theorem dX2_biterOf_8 : decode cX2_biterOf 8 = .ok (.istore_n 2, 1) := by decide +kernel
theorem dX2_biterOf_9 : decode cX2_biterOf 9 = .ok (.iload_n 2, 1) := by decide +kernel
theorem dX2_biterOf_10 : decode cX2_biterOf 10 = .ok (.ifCond .ne 8, 3) := by decide +kernel
theorem dX2_biterOf_13 : decode cX2_biterOf 13 = .ok (.bipush (-9), 2) := by decide +kernel
theorem dX2_biterOf_15 : decode cX2_biterOf 15 = .ok (.goto 6, 3) := by decide +kernel
theorem dX2_biterOf_18 : decode cX2_biterOf 18 = .ok (.iload_n 2, 1) := by decide +kernel
theorem dX2_biterOf_19 : decode cX2_biterOf 19 = .ok (.iconst 1, 1) := by decide +kernel
theorem dX2_biterOf_20 : decode cX2_biterOf 20 = .ok (.isub, 1) := by decide +kernel
theorem dX2_biterOf_21 : decode cX2_biterOf 21 = .ok (.ireturn, 1) := by decide +kernel
theorem dX2_firstOf_0 : decode cX2_firstOf 0 = .ok (.iload_n 1, 1) := by decide +kernel
theorem dX2_firstOf_1 : decode cX2_firstOf 1 = .ok (.istore_n 2, 1) := by decide +kernel
theorem dX2_firstOf_2 : decode cX2_firstOf 2 = .ok (.iconst 0, 1) := by decide +kernel
theorem dX2_firstOf_3 : decode cX2_firstOf 3 = .ok (.istore_n 3, 1) := by decide +kernel
theorem dX2_firstOf_4 : decode cX2_firstOf 4 = .ok (.iload_n 3, 1) := by decide +kernel
theorem dX2_firstOf_5 : decode cX2_firstOf 5 = .ok (.bipush 6, 2) := by decide +kernel
theorem dX2_firstOf_7 : decode cX2_firstOf 7 = .ok (.if_icmp .ge 25, 3) := by decide +kernel
theorem dX2_firstOf_10 : decode cX2_firstOf 10 = .ok (.aload_n 0, 1) := by decide +kernel
theorem dX2_firstOf_11 : decode cX2_firstOf 11 = .ok (.iload_n 2, 1) := by decide +kernel
theorem dX2_firstOf_12 : decode cX2_firstOf 12 = .ok (.invokevirtual 108, 3) := by decide +kernel
theorem dX2_firstOf_15 : decode cX2_firstOf 15 = .ok (.bipush (-9), 2) := by decide +kernel
theorem dX2_firstOf_17 : decode cX2_firstOf 17 = .ok (.if_icmp .eq 15, 3) := by decide +kernel
theorem dX2_firstOf_20 : decode cX2_firstOf 20 = .ok (.aload_n 0, 1) := by decide +kernel
theorem dX2_firstOf_21 : decode cX2_firstOf 21 = .ok (.iload_n 2, 1) := by decide +kernel
theorem dX2_firstOf_22 : decode cX2_firstOf 22 = .ok (.invokevirtual 108, 3) := by decide +kernel
theorem dX2_firstOf_25 : decode cX2_firstOf 25 = .ok (.istore_n 2, 1) := by decide +kernel
theorem dX2_firstOf_26 : decode cX2_firstOf 26 = .ok (.iinc 3 1, 3) := by decide +kernel
theorem dX2_firstOf_29 : decode cX2_firstOf 29 = .ok (.goto (-25), 3) := by decide +kernel
theorem dX2_firstOf_32 : decode cX2_firstOf 32 = .ok (.iload_n 2, 1) := by decide +kernel
theorem dX2_firstOf_33 : decode cX2_firstOf 33 = .ok (.ireturn, 1) := by decide +kernel
theorem dX2_bitesAhead_0 : decode cX2_bitesAhead 0 = .ok (.iload_n 1, 1) := by decide +kernel
theorem dX2_bitesAhead_1 : decode cX2_bitesAhead 1 = .ok (.istore_n 2, 1) := by decide +kernel
theorem dX2_bitesAhead_2 : decode cX2_bitesAhead 2 = .ok (.iconst 0, 1) := by decide +kernel
theorem dX2_bitesAhead_3 : decode cX2_bitesAhead 3 = .ok (.istore_n 3, 1) := by decide +kernel
theorem dX2_bitesAhead_4 : decode cX2_bitesAhead 4 = .ok (.iconst 0, 1) := by decide +kernel
theorem dX2_bitesAhead_5 : decode cX2_bitesAhead 5 = .ok (.istore 4, 2) := by decide +kernel
theorem dX2_bitesAhead_7 : decode cX2_bitesAhead 7 = .ok (.iload 4, 2) := by decide +kernel
theorem dX2_bitesAhead_9 : decode cX2_bitesAhead 9 = .ok (.bipush 6, 2) := by decide +kernel
theorem dX2_bitesAhead_11 : decode cX2_bitesAhead 11 = .ok (.if_icmp .ge 28, 3) := by decide +kernel
theorem dX2_bitesAhead_14 : decode cX2_bitesAhead 14 = .ok (.aload_n 0, 1) := by decide +kernel
theorem dX2_bitesAhead_15 : decode cX2_bitesAhead 15 = .ok (.iload_n 2, 1) := by decide +kernel
theorem dX2_bitesAhead_16 : decode cX2_bitesAhead 16 = .ok (.invokevirtual 108, 3) := by decide +kernel
theorem dX2_bitesAhead_19 : decode cX2_bitesAhead 19 = .ok (.bipush (-9), 2) := by decide +kernel
theorem dX2_bitesAhead_21 : decode cX2_bitesAhead 21 = .ok (.if_icmp .eq 18, 3) := by decide +kernel
theorem dX2_bitesAhead_24 : decode cX2_bitesAhead 24 = .ok (.aload_n 0, 1) := by decide +kernel
theorem dX2_bitesAhead_25 : decode cX2_bitesAhead 25 = .ok (.iload_n 2, 1) := by decide +kernel
theorem dX2_bitesAhead_26 : decode cX2_bitesAhead 26 = .ok (.invokevirtual 108, 3) := by decide +kernel
theorem dX2_bitesAhead_29 : decode cX2_bitesAhead 29 = .ok (.istore_n 2, 1) := by decide +kernel
theorem dX2_bitesAhead_30 : decode cX2_bitesAhead 30 = .ok (.iinc 3 1, 3) := by decide +kernel
theorem dX2_bitesAhead_33 : decode cX2_bitesAhead 33 = .ok (.iinc 4 1, 3) := by decide +kernel
theorem dX2_bitesAhead_36 : decode cX2_bitesAhead 36 = .ok (.goto (-29), 3) := by decide +kernel
theorem dX2_bitesAhead_39 : decode cX2_bitesAhead 39 = .ok (.iload_n 3, 1) := by decide +kernel
theorem dX2_bitesAhead_40 : decode cX2_bitesAhead 40 = .ok (.ireturn, 1) := by decide +kernel
theorem dX2_allSheep_0 : decode cX2_allSheep 0 = .ok (.iconst 0, 1) := by decide +kernel
theorem dX2_allSheep_1 : decode cX2_allSheep 1 = .ok (.istore_n 1, 1) := by decide +kernel
theorem dX2_allSheep_2 : decode cX2_allSheep 2 = .ok (.iconst 0, 1) := by decide +kernel
theorem dX2_allSheep_3 : decode cX2_allSheep 3 = .ok (.istore_n 2, 1) := by decide +kernel
theorem dX2_allSheep_4 : decode cX2_allSheep 4 = .ok (.iload_n 2, 1) := by decide +kernel
theorem dX2_allSheep_5 : decode cX2_allSheep 5 = .ok (.iconst 4, 1) := by decide +kernel
theorem dX2_allSheep_6 : decode cX2_allSheep 6 = .ok (.if_icmp .ge 20, 3) := by decide +kernel
theorem dX2_allSheep_9 : decode cX2_allSheep 9 = .ok (.iload_n 1, 1) := by decide +kernel
theorem dX2_allSheep_10 : decode cX2_allSheep 10 = .ok (.aload_n 0, 1) := by decide +kernel
theorem dX2_allSheep_11 : decode cX2_allSheep 11 = .ok (.getfield 33, 3) := by decide +kernel
theorem dX2_allSheep_14 : decode cX2_allSheep 14 = .ok (.iload_n 2, 1) := by decide +kernel
theorem dX2_allSheep_15 : decode cX2_allSheep 15 = .ok (.invokestatic 69, 3) := by decide +kernel
theorem dX2_allSheep_18 : decode cX2_allSheep 18 = .ok (.iadd, 1) := by decide +kernel
theorem dX2_allSheep_19 : decode cX2_allSheep 19 = .ok (.istore_n 1, 1) := by decide +kernel
theorem dX2_allSheep_20 : decode cX2_allSheep 20 = .ok (.iinc 2 1, 3) := by decide +kernel
theorem dX2_allSheep_23 : decode cX2_allSheep 23 = .ok (.goto (-19), 3) := by decide +kernel
theorem dX2_allSheep_26 : decode cX2_allSheep 26 = .ok (.iload_n 1, 1) := by decide +kernel
theorem dX2_allSheep_27 : decode cX2_allSheep 27 = .ok (.ireturn, 1) := by decide +kernel
theorem dX3_init_0 : decode cX3_init 0 = .ok (.aload_n 0, 1) := by decide +kernel
theorem dX3_init_1 : decode cX3_init 1 = .ok (.invokespecial 3, 3) := by decide +kernel
theorem dX3_init_4 : decode cX3_init 4 = .ok (.aload_n 0, 1) := by decide +kernel
theorem dX3_init_5 : decode cX3_init 5 = .ok (.new 9, 3) := by decide +kernel
theorem dX3_init_8 : decode cX3_init 8 = .ok (.dup, 1) := by decide +kernel
theorem dX3_init_9 : decode cX3_init 9 = .ok (.invokespecial 11, 3) := by decide +kernel
theorem dX3_init_12 : decode cX3_init 12 = .ok (.putfield 12, 3) := by decide +kernel
theorem dX3_init_15 : decode cX3_init 15 = .ok (.aload_n 0, 1) := by decide +kernel
theorem dX3_init_16 : decode cX3_init 16 = .ok (.iconst 0, 1) := by decide +kernel
theorem dX3_init_17 : decode cX3_init 17 = .ok (.putfield 18, 3) := by decide +kernel
theorem dX3_init_20 : decode cX3_init 20 = .ok (.aload_n 0, 1) := by decide +kernel
theorem dX3_init_21 : decode cX3_init 21 = .ok (.bipush (-9), 2) := by decide +kernel
theorem dX3_init_23 : decode cX3_init 23 = .ok (.putfield 22, 3) := by decide +kernel
theorem dX3_init_26 : decode cX3_init 26 = .ok (.aload_n 0, 1) := by decide +kernel
theorem dX3_init_27 : decode cX3_init 27 = .ok (.bipush (-9), 2) := by decide +kernel
theorem dX3_init_29 : decode cX3_init 29 = .ok (.putfield 25, 3) := by decide +kernel
theorem dX3_init_32 : decode cX3_init 32 = .ok (.aload_n 0, 1) := by decide +kernel
theorem dX3_init_33 : decode cX3_init 33 = .ok (.aload_n 1, 1) := by decide +kernel
theorem dX3_init_34 : decode cX3_init 34 = .ok (.putfield 28, 3) := by decide +kernel
theorem dX3_init_37 : decode cX3_init 37 = .ok (.return_, 1) := by decide +kernel
theorem dX3_read_0 : decode cX3_read 0 = .ok (.aload_n 0, 1) := by decide +kernel
theorem dX3_read_1 : decode cX3_read 1 = .ok (.getfield 28, 3) := by decide +kernel
theorem dX3_read_4 : decode cX3_read 4 = .ok (.aload_n 0, 1) := by decide +kernel
theorem dX3_read_5 : decode cX3_read 5 = .ok (.getfield 18, 3) := by decide +kernel
theorem dX3_read_8 : decode cX3_read 8 = .ok (.invokevirtual 32, 3) := by decide +kernel
theorem dX3_read_11 : decode cX3_read 11 = .ok (.bipush 86, 2) := by decide +kernel
theorem dX3_read_13 : decode cX3_read 13 = .ok (.if_icmp .eq 8, 3) := by decide +kernel
theorem dX3_read_16 : decode cX3_read 16 = .ok (.aload_n 0, 1) := by decide +kernel
theorem dX3_read_17 : decode cX3_read 17 = .ok (.getfield 18, 3) := by decide +kernel
theorem dX3_read_20 : decode cX3_read 20 = .ok (.ireturn, 1) := by decide +kernel
theorem dX3_read_21 : decode cX3_read 21 = .ok (.aload_n 0, 1) := by decide +kernel
theorem dX3_read_22 : decode cX3_read 22 = .ok (.dup, 1) := by decide +kernel
theorem dX3_read_23 : decode cX3_read 23 = .ok (.getfield 18, 3) := by decide +kernel
theorem dX3_read_26 : decode cX3_read 26 = .ok (.iconst 1, 1) := by decide +kernel
theorem dX3_read_27 : decode cX3_read 27 = .ok (.iadd, 1) := by decide +kernel
theorem dX3_read_28 : decode cX3_read 28 = .ok (.putfield 18, 3) := by decide +kernel
theorem dX3_read_31 : decode cX3_read 31 = .ok (.iconst 0, 1) := by decide +kernel
theorem dX3_read_32 : decode cX3_read 32 = .ok (.istore_n 1, 1) := by decide +kernel
theorem dX3_read_33 : decode cX3_read 33 = .ok (.iload_n 1, 1) := by decide +kernel
theorem dX3_read_34 : decode cX3_read 34 = .ok (.bipush 96, 2) := by decide +kernel
theorem dX3_read_36 : decode cX3_read 36 = .ok (.if_icmp .ge 35, 3) := by decide +kernel
theorem dX3_read_39 : decode cX3_read 39 = .ok (.aload_n 0, 1) := by decide +kernel
theorem dX3_read_40 : decode cX3_read 40 = .ok (.getfield 18, 3) := by decide +kernel
theorem dX3_read_43 : decode cX3_read 43 = .ok (.aload_n 0, 1) := by decide +kernel
theorem dX3_read_44 : decode cX3_read 44 = .ok (.getfield 28, 3) := by decide +kernel
theorem dX3_read_47 : decode cX3_read 47 = .ok (.getfield 38, 3) := by decide +kernel
theorem dX3_read_50 : decode cX3_read 50 = .ok (.if_icmp .ge 21, 3) := by decide +kernel
theorem dX3_read_53 : decode cX3_read 53 = .ok (.aload_n 0, 1) := by decide +kernel
theorem dX3_read_54 : decode cX3_read 54 = .ok (.invokevirtual 41, 3) := by decide +kernel
theorem dX3_read_57 : decode cX3_read 57 = .ok (.ifCond .ne 8, 3) := by decide +kernel
theorem dX3_read_60 : decode cX3_read 60 = .ok (.aload_n 0, 1) := by decide +kernel
theorem dX3_read_61 : decode cX3_read 61 = .ok (.getfield 18, 3) := by decide +kernel
theorem dX3_read_64 : decode cX3_read 64 = .ok (.ireturn, 1) := by decide +kernel
theorem dX3_read_65 : decode cX3_read 65 = .ok (.iinc 1 1, 3) := by decide +kernel
theorem dX3_read_68 : decode cX3_read 68 = .ok (.goto (-35), 3) := by decide +kernel
theorem dX3_read_71 : decode cX3_read 71 = .ok (.bipush (-9), 2) := by decide +kernel
theorem dX3_read_73 : decode cX3_read 73 = .ok (.ireturn, 1) := by decide +kernel
theorem dX3_readPart_0 : decode cX3_readPart 0 = .ok (.aload_n 0, 1) := by decide +kernel
theorem dX3_readPart_1 : decode cX3_readPart 1 = .ok (.getfield 28, 3) := by decide +kernel
theorem dX3_readPart_4 : decode cX3_readPart 4 = .ok (.aload_n 0, 1) := by decide +kernel
theorem dX3_readPart_5 : decode cX3_readPart 5 = .ok (.getfield 18, 3) := by decide +kernel
theorem dX3_readPart_8 : decode cX3_readPart 8 = .ok (.invokevirtual 32, 3) := by decide +kernel
theorem dX3_readPart_11 : decode cX3_readPart 11 = .ok (.lookupswitch 61 #[(72, 41), (75, 56), (80, 51), (82, 46)], 41) := by decide +kernel
theorem dX3_readPart_52 : decode cX3_readPart 52 = .ok (.aload_n 0, 1) := by decide +kernel
theorem dX3_readPart_53 : decode cX3_readPart 53 = .ok (.invokevirtual 45, 3) := by decide +kernel
theorem dX3_readPart_56 : decode cX3_readPart 56 = .ok (.ireturn, 1) := by decide +kernel
theorem dX3_readPart_57 : decode cX3_readPart 57 = .ok (.aload_n 0, 1) := by decide +kernel
theorem dX3_readPart_58 : decode cX3_readPart 58 = .ok (.invokevirtual 48, 3) := by decide +kernel
theorem dX3_readPart_61 : decode cX3_readPart 61 = .ok (.ireturn, 1) := by decide +kernel
theorem dX3_readPart_62 : decode cX3_readPart 62 = .ok (.aload_n 0, 1) := by decide +kernel
theorem dX3_readPart_63 : decode cX3_readPart 63 = .ok (.invokevirtual 51, 3) := by decide +kernel
theorem dX3_readPart_66 : decode cX3_readPart 66 = .ok (.ireturn, 1) := by decide +kernel
theorem dX3_readPart_67 : decode cX3_readPart 67 = .ok (.aload_n 0, 1) := by decide +kernel
theorem dX3_readPart_68 : decode cX3_readPart 68 = .ok (.invokevirtual 54, 3) := by decide +kernel
theorem dX3_readPart_71 : decode cX3_readPart 71 = .ok (.ireturn, 1) := by decide +kernel
theorem dX3_readPart_72 : decode cX3_readPart 72 = .ok (.iconst 0, 1) := by decide +kernel
theorem dX3_readPart_73 : decode cX3_readPart 73 = .ok (.ireturn, 1) := by decide +kernel
theorem dX3_readHouse_0 : decode cX3_readHouse 0 = .ok (.aload_n 0, 1) := by decide +kernel
theorem dX3_readHouse_1 : decode cX3_readHouse 1 = .ok (.getfield 12, 3) := by decide +kernel
theorem dX3_readHouse_4 : decode cX3_readHouse 4 = .ok (.getfield 57, 3) := by decide +kernel
theorem dX3_readHouse_7 : decode cX3_readHouse 7 = .ok (.iconst 4, 1) := by decide +kernel
theorem dX3_readHouse_8 : decode cX3_readHouse 8 = .ok (.if_icmp .lt 5, 3) := by decide +kernel
theorem dX3_readHouse_11 : decode cX3_readHouse 11 = .ok (.iconst 0, 1) := by decide +kernel
theorem dX3_readHouse_12 : decode cX3_readHouse 12 = .ok (.ireturn, 1) := by decide +kernel
theorem dX3_readHouse_13 : decode cX3_readHouse 13 = .ok (.aload_n 0, 1) := by decide +kernel
theorem dX3_readHouse_14 : decode cX3_readHouse 14 = .ok (.dup, 1) := by decide +kernel
theorem dX3_readHouse_15 : decode cX3_readHouse 15 = .ok (.getfield 18, 3) := by decide +kernel
theorem dX3_readHouse_18 : decode cX3_readHouse 18 = .ok (.iconst 1, 1) := by decide +kernel
theorem dX3_readHouse_19 : decode cX3_readHouse 19 = .ok (.iadd, 1) := by decide +kernel
theorem dX3_readHouse_20 : decode cX3_readHouse 20 = .ok (.putfield 18, 3) := by decide +kernel
theorem dX3_readHouse_23 : decode cX3_readHouse 23 = .ok (.aload_n 0, 1) := by decide +kernel
theorem dX3_readHouse_24 : decode cX3_readHouse 24 = .ok (.bipush 10, 2) := by decide +kernel
theorem dX3_readHouse_26 : decode cX3_readHouse 26 = .ok (.invokestatic 60, 3) := by decide +kernel
theorem dX3_readHouse_29 : decode cX3_readHouse 29 = .ok (.invokevirtual 63, 3) := by decide +kernel
theorem dX3_readHouse_32 : decode cX3_readHouse 32 = .ok (.istore_n 1, 1) := by decide +kernel
theorem dX3_readHouse_33 : decode cX3_readHouse 33 = .ok (.iload_n 1, 1) := by decide +kernel
theorem dX3_readHouse_34 : decode cX3_readHouse 34 = .ok (.ifCond .ge 8, 3) := by decide +kernel
theorem dX3_readHouse_37 : decode cX3_readHouse 37 = .ok (.bipush (-9), 2) := by decide +kernel
theorem dX3_readHouse_39 : decode cX3_readHouse 39 = .ok (.goto 11, 3) := by decide +kernel
theorem dX3_readHouse_42 : decode cX3_readHouse 42 = .ok (.aload_n 0, 1) := by decide +kernel
theorem dX3_readHouse_43 : decode cX3_readHouse 43 = .ok (.iconst 3, 1) := by decide +kernel
theorem dX3_readHouse_44 : decode cX3_readHouse 44 = .ok (.invokestatic 60, 3) := by decide +kernel
theorem dX3_readHouse_47 : decode cX3_readHouse 47 = .ok (.invokevirtual 63, 3) := by decide +kernel
theorem dX3_readHouse_50 : decode cX3_readHouse 50 = .ok (.istore_n 2, 1) := by decide +kernel
theorem dX3_readHouse_51 : decode cX3_readHouse 51 = .ok (.iload_n 2, 1) := by decide +kernel
theorem dX3_readHouse_52 : decode cX3_readHouse 52 = .ok (.ifCond .ge 5, 3) := by decide +kernel
theorem dX3_readHouse_55 : decode cX3_readHouse 55 = .ok (.iconst 0, 1) := by decide +kernel
theorem dX3_readHouse_56 : decode cX3_readHouse 56 = .ok (.ireturn, 1) := by decide +kernel
theorem dX3_readHouse_57 : decode cX3_readHouse 57 = .ok (.aload_n 0, 1) := by decide +kernel
theorem dX3_readHouse_58 : decode cX3_readHouse 58 = .ok (.getfield 12, 3) := by decide +kernel
theorem dX3_readHouse_61 : decode cX3_readHouse 61 = .ok (.iload_n 1, 1) := by decide +kernel
theorem dX3_readHouse_62 : decode cX3_readHouse 62 = .ok (.iload_n 2, 1) := by decide +kernel
theorem dX3_readHouse_63 : decode cX3_readHouse 63 = .ok (.invokevirtual 66, 3) := by decide +kernel
theorem dX3_readHouse_66 : decode cX3_readHouse 66 = .ok (.iconst 1, 1) := by decide +kernel
theorem dX3_readHouse_67 : decode cX3_readHouse 67 = .ok (.ireturn, 1) := by decide +kernel
theorem dX3_readPath_0 : decode cX3_readPath 0 = .ok (.aload_n 0, 1) := by decide +kernel
theorem dX3_readPath_1 : decode cX3_readPath 1 = .ok (.aload_n 0, 1) := by decide +kernel
theorem dX3_readPath_2 : decode cX3_readPath 2 = .ok (.getfield 12, 3) := by decide +kernel
theorem dX3_readPath_5 : decode cX3_readPath 5 = .ok (.getfield 70, 3) := by decide +kernel
theorem dX3_readPath_8 : decode cX3_readPath 8 = .ok (.aload_n 0, 1) := by decide +kernel
theorem dX3_readPath_9 : decode cX3_readPath 9 = .ok (.getfield 12, 3) := by decide +kernel
theorem dX3_readPath_12 : decode cX3_readPath 12 = .ok (.getfield 57, 3) := by decide +kernel
theorem dX3_readPath_15 : decode cX3_readPath 15 = .ok (.invokevirtual 74, 3) := by decide +kernel
theorem dX3_readPath_18 : decode cX3_readPath 18 = .ok (.ifCond .eq 14, 3) := by decide +kernel
theorem dX3_readPath_21 : decode cX3_readPath 21 = .ok (.aload_n 0, 1) := by decide +kernel
theorem dX3_readPath_22 : decode cX3_readPath 22 = .ok (.iconst 2, 1) := by decide +kernel
theorem dX3_readPath_23 : decode cX3_readPath 23 = .ok (.invokestatic 60, 3) := by decide +kernel
theorem dX3_readPath_26 : decode cX3_readPath 26 = .ok (.invokevirtual 63, 3) := by decide +kernel
theorem dX3_readPath_29 : decode cX3_readPath 29 = .ok (.goto 5, 3) := by decide +kernel
theorem dX3_readPath_32 : decode cX3_readPath 32 = .ok (.bipush (-9), 2) := by decide +kernel
theorem dX3_readPath_34 : decode cX3_readPath 34 = .ok (.istore_n 1, 1) := by decide +kernel
theorem dX3_readPath_35 : decode cX3_readPath 35 = .ok (.iload_n 1, 1) := by decide +kernel
theorem dX3_readPath_36 : decode cX3_readPath 36 = .ok (.ifCond .ge 5, 3) := by decide +kernel
theorem dX3_readPath_39 : decode cX3_readPath 39 = .ok (.iconst 0, 1) := by decide +kernel
theorem dX3_readPath_40 : decode cX3_readPath 40 = .ok (.ireturn, 1) := by decide +kernel
theorem dX3_readPath_41 : decode cX3_readPath 41 = .ok (.aload_n 0, 1) := by decide +kernel
theorem dX3_readPath_42 : decode cX3_readPath 42 = .ok (.getfield 12, 3) := by decide +kernel
theorem dX3_readPath_45 : decode cX3_readPath 45 = .ok (.aload_n 0, 1) := by decide +kernel
theorem dX3_readPath_46 : decode cX3_readPath 46 = .ok (.getfield 22, 3) := by decide +kernel
theorem dX3_readPath_49 : decode cX3_readPath 49 = .ok (.aload_n 0, 1) := by decide +kernel
theorem dX3_readPath_50 : decode cX3_readPath 50 = .ok (.getfield 25, 3) := by decide +kernel
theorem dX3_readPath_53 : decode cX3_readPath 53 = .ok (.iload_n 1, 1) := by decide +kernel
theorem dX3_readPath_54 : decode cX3_readPath 54 = .ok (.iconst 1, 1) := by decide +kernel
theorem dX3_readPath_55 : decode cX3_readPath 55 = .ok (.if_icmp .ne 7, 3) := by decide +kernel
theorem dX3_readPath_58 : decode cX3_readPath 58 = .ok (.iconst 1, 1) := by decide +kernel
theorem dX3_readPath_59 : decode cX3_readPath 59 = .ok (.goto 4, 3) := by decide +kernel
theorem dX3_readPath_62 : decode cX3_readPath 62 = .ok (.iconst 0, 1) := by decide +kernel
theorem dX3_readPath_63 : decode cX3_readPath 63 = .ok (.invokevirtual 78, 3) := by decide +kernel
theorem dX3_readPath_66 : decode cX3_readPath 66 = .ok (.iconst 1, 1) := by decide +kernel
theorem dX3_readPath_67 : decode cX3_readPath 67 = .ok (.ireturn, 1) := by decide +kernel
theorem dX3_readPerson_0 : decode cX3_readPerson 0 = .ok (.aload_n 0, 1) := by decide +kernel
theorem dX3_readPerson_1 : decode cX3_readPerson 1 = .ok (.getfield 12, 3) := by decide +kernel
theorem dX3_readPerson_4 : decode cX3_readPerson 4 = .ok (.getfield 82, 3) := by decide +kernel
theorem dX3_readPerson_7 : decode cX3_readPerson 7 = .ok (.bipush 6, 2) := by decide +kernel
theorem dX3_readPerson_9 : decode cX3_readPerson 9 = .ok (.if_icmp .ge 13, 3) := by decide +kernel
theorem dX3_readPerson_12 : decode cX3_readPerson 12 = .ok (.aload_n 0, 1) := by decide +kernel
theorem dX3_readPerson_13 : decode cX3_readPerson 13 = .ok (.getfield 12, 3) := by decide +kernel
theorem dX3_readPerson_16 : decode cX3_readPerson 16 = .ok (.getfield 57, 3) := by decide +kernel
theorem dX3_readPerson_19 : decode cX3_readPerson 19 = .ok (.ifCond .ne 5, 3) := by decide +kernel
theorem dX3_readPerson_22 : decode cX3_readPerson 22 = .ok (.iconst 0, 1) := by decide +kernel
theorem dX3_readPerson_23 : decode cX3_readPerson 23 = .ok (.ireturn, 1) := by decide +kernel
theorem dX3_readPerson_24 : decode cX3_readPerson 24 = .ok (.aload_n 0, 1) := by decide +kernel
theorem dX3_readPerson_25 : decode cX3_readPerson 25 = .ok (.dup, 1) := by decide +kernel
theorem dX3_readPerson_26 : decode cX3_readPerson 26 = .ok (.getfield 18, 3) := by decide +kernel
theorem dX3_readPerson_29 : decode cX3_readPerson 29 = .ok (.iconst 1, 1) := by decide +kernel
theorem dX3_readPerson_30 : decode cX3_readPerson 30 = .ok (.iadd, 1) := by decide +kernel
theorem dX3_readPerson_31 : decode cX3_readPerson 31 = .ok (.putfield 18, 3) := by decide +kernel
theorem dX3_readPerson_34 : decode cX3_readPerson 34 = .ok (.aload_n 0, 1) := by decide +kernel
theorem dX3_readPerson_35 : decode cX3_readPerson 35 = .ok (.aload_n 0, 1) := by decide +kernel
theorem dX3_readPerson_36 : decode cX3_readPerson 36 = .ok (.getfield 12, 3) := by decide +kernel
theorem dX3_readPerson_39 : decode cX3_readPerson 39 = .ok (.getfield 57, 3) := by decide +kernel
theorem dX3_readPerson_42 : decode cX3_readPerson 42 = .ok (.invokestatic 60, 3) := by decide +kernel
theorem dX3_readPerson_45 : decode cX3_readPerson 45 = .ok (.invokevirtual 63, 3) := by decide +kernel
theorem dX3_readPerson_48 : decode cX3_readPerson 48 = .ok (.istore_n 1, 1) := by decide +kernel
theorem dX3_readPerson_49 : decode cX3_readPerson 49 = .ok (.iload_n 1, 1) := by decide +kernel
theorem dX3_readPerson_50 : decode cX3_readPerson 50 = .ok (.ifCond .ge 8, 3) := by decide +kernel
theorem dX3_readPerson_53 : decode cX3_readPerson 53 = .ok (.bipush (-9), 2) := by decide +kernel
theorem dX3_readPerson_55 : decode cX3_readPerson 55 = .ok (.goto 11, 3) := by decide +kernel
theorem dX3_readPerson_58 : decode cX3_readPerson 58 = .ok (.aload_n 0, 1) := by decide +kernel
theorem dX3_readPerson_59 : decode cX3_readPerson 59 = .ok (.iconst 2, 1) := by decide +kernel
theorem dX3_readPerson_60 : decode cX3_readPerson 60 = .ok (.invokestatic 60, 3) := by decide +kernel
theorem dX3_readPerson_63 : decode cX3_readPerson 63 = .ok (.invokevirtual 63, 3) := by decide +kernel
theorem dX3_readPerson_66 : decode cX3_readPerson 66 = .ok (.istore_n 2, 1) := by decide +kernel
theorem dX3_readPerson_67 : decode cX3_readPerson 67 = .ok (.iload_n 2, 1) := by decide +kernel
theorem dX3_readPerson_68 : decode cX3_readPerson 68 = .ok (.ifCond .ge 5, 3) := by decide +kernel
theorem dX3_readPerson_71 : decode cX3_readPerson 71 = .ok (.iconst 0, 1) := by decide +kernel
theorem dX3_readPerson_72 : decode cX3_readPerson 72 = .ok (.ireturn, 1) := by decide +kernel
theorem dX3_readPerson_73 : decode cX3_readPerson 73 = .ok (.aload_n 0, 1) := by decide +kernel
theorem dX3_readPerson_74 : decode cX3_readPerson 74 = .ok (.getfield 12, 3) := by decide +kernel
theorem dX3_readPerson_77 : decode cX3_readPerson 77 = .ok (.iload_n 1, 1) := by decide +kernel
theorem dX3_readPerson_78 : decode cX3_readPerson 78 = .ok (.iload_n 2, 1) := by decide +kernel
theorem dX3_readPerson_79 : decode cX3_readPerson 79 = .ok (.iconst 1, 1) := by decide +kernel
theorem dX3_readPerson_80 : decode cX3_readPerson 80 = .ok (.if_icmp .ne 7, 3) := by decide +kernel
theorem dX3_readPerson_83 : decode cX3_readPerson 83 = .ok (.iconst 1, 1) := by decide +kernel
theorem dX3_readPerson_84 : decode cX3_readPerson 84 = .ok (.goto 4, 3) := by decide +kernel
theorem dX3_readPerson_87 : decode cX3_readPerson 87 = .ok (.iconst 0, 1) := by decide +kernel
theorem dX3_readPerson_88 : decode cX3_readPerson 88 = .ok (.invokevirtual 85, 3) := by decide +kernel
theorem dX3_readPerson_91 : decode cX3_readPerson 91 = .ok (.iconst 1, 1) := by decide +kernel
theorem dX3_readPerson_92 : decode cX3_readPerson 92 = .ok (.ireturn, 1) := by decide +kernel
theorem dX3_readKin_0 : decode cX3_readKin 0 = .ok (.aload_n 0, 1) := by decide +kernel
theorem dX3_readKin_1 : decode cX3_readKin 1 = .ok (.aload_n 0, 1) := by decide +kernel
theorem dX3_readKin_2 : decode cX3_readKin 2 = .ok (.getfield 12, 3) := by decide +kernel
theorem dX3_readKin_5 : decode cX3_readKin 5 = .ok (.getfield 89, 3) := by decide +kernel
theorem dX3_readKin_8 : decode cX3_readKin 8 = .ok (.aload_n 0, 1) := by decide +kernel
theorem dX3_readKin_9 : decode cX3_readKin 9 = .ok (.getfield 12, 3) := by decide +kernel
theorem dX3_readKin_12 : decode cX3_readKin 12 = .ok (.getfield 82, 3) := by decide +kernel
theorem dX3_readKin_15 : decode cX3_readKin 15 = .ok (.invokevirtual 74, 3) := by decide +kernel
theorem dX3_readKin_18 : decode cX3_readKin 18 = .ok (.ifCond .ne 5, 3) := by decide +kernel
theorem dX3_readKin_21 : decode cX3_readKin 21 = .ok (.iconst 0, 1) := by decide +kernel
theorem dX3_readKin_22 : decode cX3_readKin 22 = .ok (.ireturn, 1) := by decide +kernel
theorem dX3_readKin_23 : decode cX3_readKin 23 = .ok (.aload_n 0, 1) := by decide +kernel
theorem dX3_readKin_24 : decode cX3_readKin 24 = .ok (.getfield 12, 3) := by decide +kernel
theorem dX3_readKin_27 : decode cX3_readKin 27 = .ok (.aload_n 0, 1) := by decide +kernel
theorem dX3_readKin_28 : decode cX3_readKin 28 = .ok (.getfield 22, 3) := by decide +kernel
theorem dX3_readKin_31 : decode cX3_readKin 31 = .ok (.aload_n 0, 1) := by decide +kernel
theorem dX3_readKin_32 : decode cX3_readKin 32 = .ok (.getfield 25, 3) := by decide +kernel
theorem dX3_readKin_35 : decode cX3_readKin 35 = .ok (.invokevirtual 92, 3) := by decide +kernel
theorem dX3_readKin_38 : decode cX3_readKin 38 = .ok (.iconst 1, 1) := by decide +kernel
theorem dX3_readKin_39 : decode cX3_readKin 39 = .ok (.ireturn, 1) := by decide +kernel
theorem dX3_readEnds_0 : decode cX3_readEnds 0 = .ok (.lload_n 1, 1) := by decide +kernel
theorem dX3_readEnds_1 : decode cX3_readEnds 1 = .ok (.iload_n 3, 1) := by decide +kernel
theorem dX3_readEnds_2 : decode cX3_readEnds 2 = .ok (.invokestatic 95, 3) := by decide +kernel
theorem dX3_readEnds_5 : decode cX3_readEnds 5 = .ok (.istore 4, 2) := by decide +kernel
theorem dX3_readEnds_7 : decode cX3_readEnds 7 = .ok (.iload 4, 2) := by decide +kernel
theorem dX3_readEnds_9 : decode cX3_readEnds 9 = .ok (.ifCond .ne 5, 3) := by decide +kernel
theorem dX3_readEnds_12 : decode cX3_readEnds 12 = .ok (.iconst 0, 1) := by decide +kernel
theorem dX3_readEnds_13 : decode cX3_readEnds 13 = .ok (.ireturn, 1) := by decide +kernel
theorem dX3_readEnds_14 : decode cX3_readEnds 14 = .ok (.aload_n 0, 1) := by decide +kernel
theorem dX3_readEnds_15 : decode cX3_readEnds 15 = .ok (.dup, 1) := by decide +kernel
theorem dX3_readEnds_16 : decode cX3_readEnds 16 = .ok (.getfield 18, 3) := by decide +kernel
theorem dX3_readEnds_19 : decode cX3_readEnds 19 = .ok (.iconst 1, 1) := by decide +kernel
theorem dX3_readEnds_20 : decode cX3_readEnds 20 = .ok (.iadd, 1) := by decide +kernel
theorem dX3_readEnds_21 : decode cX3_readEnds 21 = .ok (.putfield 18, 3) := by decide +kernel
theorem dX3_readEnds_24 : decode cX3_readEnds 24 = .ok (.aload_n 0, 1) := by decide +kernel
theorem dX3_readEnds_25 : decode cX3_readEnds 25 = .ok (.aload_n 0, 1) := by decide +kernel
theorem dX3_readEnds_26 : decode cX3_readEnds 26 = .ok (.iload 4, 2) := by decide +kernel
theorem dX3_readEnds_28 : decode cX3_readEnds 28 = .ok (.invokevirtual 63, 3) := by decide +kernel
theorem dX3_readEnds_31 : decode cX3_readEnds 31 = .ok (.putfield 22, 3) := by decide +kernel
theorem dX3_readEnds_34 : decode cX3_readEnds 34 = .ok (.aload_n 0, 1) := by decide +kernel
theorem dX3_readEnds_35 : decode cX3_readEnds 35 = .ok (.aload_n 0, 1) := by decide +kernel
theorem dX3_readEnds_36 : decode cX3_readEnds 36 = .ok (.getfield 22, 3) := by decide +kernel
theorem dX3_readEnds_39 : decode cX3_readEnds 39 = .ok (.ifCond .ge 8, 3) := by decide +kernel
theorem dX3_readEnds_42 : decode cX3_readEnds 42 = .ok (.bipush (-9), 2) := by decide +kernel
theorem dX3_readEnds_44 : decode cX3_readEnds 44 = .ok (.goto 16, 3) := by decide +kernel
theorem dX3_readEnds_47 : decode cX3_readEnds 47 = .ok (.aload_n 0, 1) := by decide +kernel
theorem dX3_readEnds_48 : decode cX3_readEnds 48 = .ok (.lload_n 1, 1) := by decide +kernel
theorem dX3_readEnds_49 : decode cX3_readEnds 49 = .ok (.iload_n 3, 1) := by decide +kernel
theorem dX3_readEnds_50 : decode cX3_readEnds 50 = .ok (.aload_n 0, 1) := by decide +kernel
theorem dX3_readEnds_51 : decode cX3_readEnds 51 = .ok (.getfield 22, 3) := by decide +kernel
theorem dX3_readEnds_54 : decode cX3_readEnds 54 = .ok (.invokestatic 99, 3) := by decide +kernel
theorem dX3_readEnds_57 : decode cX3_readEnds 57 = .ok (.invokevirtual 63, 3) := by decide +kernel
theorem dX3_readEnds_60 : decode cX3_readEnds 60 = .ok (.putfield 25, 3) := by decide +kernel
theorem dX3_readEnds_63 : decode cX3_readEnds 63 = .ok (.aload_n 0, 1) := by decide +kernel
theorem dX3_readEnds_64 : decode cX3_readEnds 64 = .ok (.getfield 25, 3) := by decide +kernel
theorem dX3_readEnds_67 : decode cX3_readEnds 67 = .ok (.ifCond .lt 7, 3) := by decide +kernel
theorem dX3_readEnds_70 : decode cX3_readEnds 70 = .ok (.iconst 1, 1) := by decide +kernel
theorem dX3_readEnds_71 : decode cX3_readEnds 71 = .ok (.goto 4, 3) := by decide +kernel
theorem dX3_readEnds_74 : decode cX3_readEnds 74 = .ok (.iconst 0, 1) := by decide +kernel
theorem dX3_readEnds_75 : decode cX3_readEnds 75 = .ok (.ireturn, 1) := by decide +kernel
theorem dX3_figure_0 : decode cX3_figure 0 = .ok (.aload_n 0, 1) := by decide +kernel
theorem dX3_figure_1 : decode cX3_figure 1 = .ok (.getfield 28, 3) := by decide +kernel
theorem dX3_figure_4 : decode cX3_figure 4 = .ok (.aload_n 0, 1) := by decide +kernel
theorem dX3_figure_5 : decode cX3_figure 5 = .ok (.getfield 18, 3) := by decide +kernel
theorem dX3_figure_8 : decode cX3_figure 8 = .ok (.invokevirtual 32, 3) := by decide +kernel
theorem dX3_figure_11 : decode cX3_figure 11 = .ok (.bipush 48, 2) := by decide +kernel
theorem dX3_figure_13 : decode cX3_figure 13 = .ok (.isub, 1) := by decide +kernel
theorem dX3_figure_14 : decode cX3_figure 14 = .ok (.istore_n 2, 1) := by decide +kernel
theorem dX3_figure_15 : decode cX3_figure 15 = .ok (.iload_n 2, 1) := by decide +kernel
theorem dX3_figure_16 : decode cX3_figure 16 = .ok (.ifCond .lt 17, 3) := by decide +kernel
theorem dX3_figure_19 : decode cX3_figure 19 = .ok (.iload_n 2, 1) := by decide +kernel
theorem dX3_figure_20 : decode cX3_figure 20 = .ok (.bipush 9, 2) := by decide +kernel
theorem dX3_figure_22 : decode cX3_figure 22 = .ok (.if_icmp .gt 11, 3) := by decide +kernel
theorem dX3_figure_25 : decode cX3_figure 25 = .ok (.iload_n 1, 1) := by decide +kernel
theorem dX3_figure_26 : decode cX3_figure 26 = .ok (.iload_n 2, 1) := by decide +kernel
theorem dX3_figure_27 : decode cX3_figure 27 = .ok (.invokestatic 103, 3) := by decide +kernel
theorem dX3_figure_30 : decode cX3_figure 30 = .ok (.ifCond .ne 6, 3) := by decide +kernel
theorem dX3_figure_33 : decode cX3_figure 33 = .ok (.bipush (-9), 2) := by decide +kernel
theorem dX3_figure_35 : decode cX3_figure 35 = .ok (.ireturn, 1) := by decide +kernel
theorem dX3_figure_36 : decode cX3_figure 36 = .ok (.aload_n 0, 1) := by decide +kernel
theorem dX3_figure_37 : decode cX3_figure 37 = .ok (.dup, 1) := by decide +kernel
theorem dX3_figure_38 : decode cX3_figure 38 = .ok (.getfield 18, 3) := by decide +kernel
theorem dX3_figure_41 : decode cX3_figure 41 = .ok (.iconst 1, 1) := by decide +kernel
theorem dX3_figure_42 : decode cX3_figure 42 = .ok (.iadd, 1) := by decide +kernel
theorem dX3_figure_43 : decode cX3_figure 43 = .ok (.putfield 18, 3) := by decide +kernel
theorem dX3_figure_46 : decode cX3_figure 46 = .ok (.iload_n 2, 1) := by decide +kernel
theorem dX3_figure_47 : decode cX3_figure 47 = .ok (.ireturn, 1) := by decide +kernel
theorem dX3_unlinked_0 : decode cX3_unlinked 0 = .ok (.iload_n 2, 1) := by decide +kernel
theorem dX3_unlinked_1 : decode cX3_unlinked 1 = .ok (.invokestatic 60, 3) := by decide +kernel
theorem dX3_unlinked_4 : decode cX3_unlinked 4 = .ok (.lload_n 0, 1) := by decide +kernel
theorem dX3_unlinked_5 : decode cX3_unlinked 5 = .ok (.iload_n 3, 1) := by decide +kernel
theorem dX3_unlinked_6 : decode cX3_unlinked 6 = .ok (.invokestatic 107, 3) := by decide +kernel
theorem dX3_unlinked_9 : decode cX3_unlinked 9 = .ok (.iconst (-1), 1) := by decide +kernel
theorem dX3_unlinked_10 : decode cX3_unlinked 10 = .ok (.ixor, 1) := by decide +kernel
theorem dX3_unlinked_11 : decode cX3_unlinked 11 = .ok (.iand, 1) := by decide +kernel
theorem dX3_unlinked_12 : decode cX3_unlinked 12 = .ok (.iload_n 3, 1) := by decide +kernel
theorem dX3_unlinked_13 : decode cX3_unlinked 13 = .ok (.invokestatic 110, 3) := by decide +kernel
theorem dX3_unlinked_16 : decode cX3_unlinked 16 = .ok (.iconst (-1), 1) := by decide +kernel
theorem dX3_unlinked_17 : decode cX3_unlinked 17 = .ok (.ixor, 1) := by decide +kernel
theorem dX3_unlinked_18 : decode cX3_unlinked 18 = .ok (.iand, 1) := by decide +kernel
theorem dX3_unlinked_19 : decode cX3_unlinked 19 = .ok (.ireturn, 1) := by decide +kernel
theorem dX3_linkable_0 : decode cX3_linkable 0 = .ok (.iconst 0, 1) := by decide +kernel
theorem dX3_linkable_1 : decode cX3_linkable 1 = .ok (.istore_n 3, 1) := by decide +kernel
theorem dX3_linkable_2 : decode cX3_linkable 2 = .ok (.iconst 0, 1) := by decide +kernel
theorem dX3_linkable_3 : decode cX3_linkable 3 = .ok (.istore 4, 2) := by decide +kernel
theorem dX3_linkable_5 : decode cX3_linkable 5 = .ok (.iload 4, 2) := by decide +kernel
theorem dX3_linkable_7 : decode cX3_linkable 7 = .ok (.iload_n 2, 1) := by decide +kernel
theorem dX3_linkable_8 : decode cX3_linkable 8 = .ok (.if_icmp .ge 27, 3) := by decide +kernel
theorem dX3_linkable_11 : decode cX3_linkable 11 = .ok (.lload_n 0, 1) := by decide +kernel
theorem dX3_linkable_12 : decode cX3_linkable 12 = .ok (.iload_n 2, 1) := by decide +kernel
theorem dX3_linkable_13 : decode cX3_linkable 13 = .ok (.iload 4, 2) := by decide +kernel
theorem dX3_linkable_15 : decode cX3_linkable 15 = .ok (.invokestatic 99, 3) := by decide +kernel
theorem dX3_linkable_18 : decode cX3_linkable 18 = .ok (.ifCond .eq 11, 3) := by decide +kernel
theorem dX3_linkable_21 : decode cX3_linkable 21 = .ok (.iload_n 3, 1) := by decide +kernel
theorem dX3_linkable_22 : decode cX3_linkable 22 = .ok (.iload 4, 2) := by decide +kernel
theorem dX3_linkable_24 : decode cX3_linkable 24 = .ok (.invokestatic 110, 3) := by decide +kernel
theorem dX3_linkable_27 : decode cX3_linkable 27 = .ok (.ior, 1) := by decide +kernel
theorem dX3_linkable_28 : decode cX3_linkable 28 = .ok (.istore_n 3, 1) := by decide +kernel
theorem dX3_linkable_29 : decode cX3_linkable 29 = .ok (.iinc 4 1, 3) := by decide +kernel
theorem dX3_linkable_32 : decode cX3_linkable 32 = .ok (.goto (-27), 3) := by decide +kernel
theorem dX3_linkable_35 : decode cX3_linkable 35 = .ok (.iload_n 3, 1) := by decide +kernel
theorem dX3_linkable_36 : decode cX3_linkable 36 = .ok (.ireturn, 1) := by decide +kernel
theorem dX4_init_0 : decode cX4_init 0 = .ok (.aload_n 0, 1) := by decide +kernel
theorem dX4_init_1 : decode cX4_init 1 = .ok (.invokespecial 3, 3) := by decide +kernel
theorem dX4_init_4 : decode cX4_init 4 = .ok (.aload_n 0, 1) := by decide +kernel
theorem dX4_init_5 : decode cX4_init 5 = .ok (.bipush 6, 2) := by decide +kernel
theorem dX4_init_7 : decode cX4_init 7 = .ok (.newarray .int, 2) := by decide +kernel
theorem dX4_init_9 : decode cX4_init 9 = .ok (.putfield 9, 3) := by decide +kernel
theorem dX4_init_12 : decode cX4_init 12 = .ok (.aload_n 0, 1) := by decide +kernel
theorem dX4_init_13 : decode cX4_init 13 = .ok (.bipush 6, 2) := by decide +kernel
theorem dX4_init_15 : decode cX4_init 15 = .ok (.newarray .int, 2) := by decide +kernel
theorem dX4_init_17 : decode cX4_init 17 = .ok (.putfield 15, 3) := by decide +kernel
theorem dX4_init_20 : decode cX4_init 20 = .ok (.aload_n 0, 1) := by decide +kernel
theorem dX4_init_21 : decode cX4_init 21 = .ok (.bipush 6, 2) := by decide +kernel
theorem dX4_init_23 : decode cX4_init 23 = .ok (.newarray .int, 2) := by decide +kernel
theorem dX4_init_25 : decode cX4_init 25 = .ok (.putfield 18, 3) := by decide +kernel
theorem dX4_init_28 : decode cX4_init 28 = .ok (.aload_n 0, 1) := by decide +kernel
theorem dX4_init_29 : decode cX4_init 29 = .ok (.bipush 6, 2) := by decide +kernel
theorem dX4_init_31 : decode cX4_init 31 = .ok (.newarray .int, 2) := by decide +kernel
theorem dX4_init_33 : decode cX4_init 33 = .ok (.putfield 21, 3) := by decide +kernel
theorem dX4_init_36 : decode cX4_init 36 = .ok (.aload_n 0, 1) := by decide +kernel
theorem dX4_init_37 : decode cX4_init 37 = .ok (.iconst 0, 1) := by decide +kernel
theorem dX4_init_38 : decode cX4_init 38 = .ok (.putfield 24, 3) := by decide +kernel
theorem dX4_init_41 : decode cX4_init 41 = .ok (.return_, 1) := by decide +kernel
theorem dX4_add_0 : decode cX4_add 0 = .ok (.aload_n 0, 1) := by decide +kernel
theorem dX4_add_1 : decode cX4_add 1 = .ok (.getfield 24, 3) := by decide +kernel
theorem dX4_add_4 : decode cX4_add 4 = .ok (.ifCond .lt 12, 3) := by decide +kernel
theorem dX4_add_7 : decode cX4_add 7 = .ok (.aload_n 0, 1) := by decide +kernel
theorem dX4_add_8 : decode cX4_add 8 = .ok (.getfield 24, 3) := by decide +kernel
theorem dX4_add_11 : decode cX4_add 11 = .ok (.bipush 6, 2) := by decide +kernel
theorem dX4_add_13 : decode cX4_add 13 = .ok (.if_icmp .lt 6, 3) := by decide +kernel
theorem dX4_add_16 : decode cX4_add 16 = .ok (.bipush (-4), 2) := by decide +kernel
theorem dX4_add_18 : decode cX4_add 18 = .ok (.ireturn, 1) := by decide +kernel
theorem dX4_add_19 : decode cX4_add 19 = .ok (.aload_n 0, 1) := by decide +kernel
theorem dX4_add_20 : decode cX4_add 20 = .ok (.getfield 9, 3) := by decide +kernel
theorem dX4_add_23 : decode cX4_add 23 = .ok (.aload_n 0, 1) := by decide +kernel
theorem dX4_add_24 : decode cX4_add 24 = .ok (.getfield 24, 3) := by decide +kernel
theorem dX4_add_27 : decode cX4_add 27 = .ok (.iload_n 1, 1) := by decide +kernel
theorem dX4_add_28 : decode cX4_add 28 = .ok (.invokestatic 28, 3) := by decide +kernel
theorem dX4_add_31 : decode cX4_add 31 = .ok (.aload_n 0, 1) := by decide +kernel
theorem dX4_add_32 : decode cX4_add 32 = .ok (.getfield 15, 3) := by decide +kernel
theorem dX4_add_35 : decode cX4_add 35 = .ok (.aload_n 0, 1) := by decide +kernel
theorem dX4_add_36 : decode cX4_add 36 = .ok (.getfield 24, 3) := by decide +kernel
theorem dX4_add_39 : decode cX4_add 39 = .ok (.iload_n 2, 1) := by decide +kernel
theorem dX4_add_40 : decode cX4_add 40 = .ok (.invokestatic 28, 3) := by decide +kernel
theorem dX4_add_43 : decode cX4_add 43 = .ok (.aload_n 0, 1) := by decide +kernel
theorem dX4_add_44 : decode cX4_add 44 = .ok (.getfield 18, 3) := by decide +kernel
theorem dX4_add_47 : decode cX4_add 47 = .ok (.aload_n 0, 1) := by decide +kernel
theorem dX4_add_48 : decode cX4_add 48 = .ok (.getfield 24, 3) := by decide +kernel
theorem dX4_add_51 : decode cX4_add 51 = .ok (.iload_n 3, 1) := by decide +kernel
theorem dX4_add_52 : decode cX4_add 52 = .ok (.invokestatic 28, 3) := by decide +kernel
theorem dX4_add_55 : decode cX4_add 55 = .ok (.aload_n 0, 1) := by decide +kernel
theorem dX4_add_56 : decode cX4_add 56 = .ok (.getfield 21, 3) := by decide +kernel
theorem dX4_add_59 : decode cX4_add 59 = .ok (.aload_n 0, 1) := by decide +kernel
theorem dX4_add_60 : decode cX4_add 60 = .ok (.getfield 24, 3) := by decide +kernel
theorem dX4_add_63 : decode cX4_add 63 = .ok (.iload 4, 2) := by decide +kernel
theorem dX4_add_65 : decode cX4_add 65 = .ok (.invokestatic 28, 3) := by decide +kernel
theorem dX4_add_68 : decode cX4_add 68 = .ok (.aload_n 0, 1) := by decide +kernel
theorem dX4_add_69 : decode cX4_add 69 = .ok (.dup, 1) := by decide +kernel
theorem dX4_add_70 : decode cX4_add 70 = .ok (.getfield 24, 3) := by decide +kernel
theorem dX4_add_73 : decode cX4_add 73 = .ok (.iconst 1, 1) := by decide +kernel
theorem dX4_add_74 : decode cX4_add 74 = .ok (.iadd, 1) := by decide +kernel
theorem dX4_add_75 : decode cX4_add 75 = .ok (.putfield 24, 3) := by decide +kernel
theorem dX4_add_78 : decode cX4_add 78 = .ok (.aload_n 0, 1) := by decide +kernel
theorem dX4_add_79 : decode cX4_add 79 = .ok (.getfield 24, 3) := by decide +kernel
theorem dX4_add_82 : decode cX4_add 82 = .ok (.ireturn, 1) := by decide +kernel
theorem dX4_isOf_0 : decode cX4_isOf 0 = .ok (.aload_n 0, 1) := by decide +kernel
theorem dX4_isOf_1 : decode cX4_isOf 1 = .ok (.getfield 9, 3) := by decide +kernel
theorem dX4_isOf_4 : decode cX4_isOf 4 = .ok (.iload_n 1, 1) := by decide +kernel
theorem dX4_isOf_5 : decode cX4_isOf 5 = .ok (.invokestatic 32, 3) := by decide +kernel
theorem dX4_isOf_8 : decode cX4_isOf 8 = .ok (.iload_n 2, 1) := by decide +kernel
theorem dX4_isOf_9 : decode cX4_isOf 9 = .ok (.if_icmp .ne 19, 3) := by decide +kernel
theorem dX4_isOf_12 : decode cX4_isOf 12 = .ok (.aload_n 0, 1) := by decide +kernel
theorem dX4_isOf_13 : decode cX4_isOf 13 = .ok (.getfield 15, 3) := by decide +kernel
theorem dX4_isOf_16 : decode cX4_isOf 16 = .ok (.iload_n 1, 1) := by decide +kernel
theorem dX4_isOf_17 : decode cX4_isOf 17 = .ok (.invokestatic 32, 3) := by decide +kernel
theorem dX4_isOf_20 : decode cX4_isOf 20 = .ok (.iload_n 3, 1) := by decide +kernel
theorem dX4_isOf_21 : decode cX4_isOf 21 = .ok (.if_icmp .ne 7, 3) := by decide +kernel
theorem dX4_isOf_24 : decode cX4_isOf 24 = .ok (.iconst 1, 1) := by decide +kernel
theorem dX4_isOf_25 : decode cX4_isOf 25 = .ok (.goto 4, 3) := by decide +kernel
theorem dX4_isOf_28 : decode cX4_isOf 28 = .ok (.iconst 0, 1) := by decide +kernel
theorem dX4_isOf_29 : decode cX4_isOf 29 = .ok (.ireturn, 1) := by decide +kernel
theorem dX4_place_0 : decode cX4_place 0 = .ok (.aload_n 0, 1) := by decide +kernel
theorem dX4_place_1 : decode cX4_place 1 = .ok (.getfield 18, 3) := by decide +kernel
theorem dX4_place_4 : decode cX4_place 4 = .ok (.iload_n 1, 1) := by decide +kernel
theorem dX4_place_5 : decode cX4_place 5 = .ok (.invokestatic 32, 3) := by decide +kernel
theorem dX4_place_8 : decode cX4_place 8 = .ok (.ireturn, 1) := by decide +kernel
theorem dX4_value_0 : decode cX4_value 0 = .ok (.aload_n 0, 1) := by decide +kernel
theorem dX4_value_1 : decode cX4_value 1 = .ok (.getfield 21, 3) := by decide +kernel
theorem dX4_value_4 : decode cX4_value 4 = .ok (.iload_n 1, 1) := by decide +kernel
theorem dX4_value_5 : decode cX4_value 5 = .ok (.invokestatic 32, 3) := by decide +kernel
theorem dX4_value_8 : decode cX4_value 8 = .ok (.ireturn, 1) := by decide +kernel
theorem dX5_init_0 : decode cX5_init 0 = .ok (.aload_n 0, 1) := by decide +kernel
theorem dX5_init_1 : decode cX5_init 1 = .ok (.invokespecial 3, 3) := by decide +kernel
theorem dX5_init_4 : decode cX5_init 4 = .ok (.aload_n 0, 1) := by decide +kernel
theorem dX5_init_5 : decode cX5_init 5 = .ok (.bipush 64, 2) := by decide +kernel
theorem dX5_init_7 : decode cX5_init 7 = .ok (.newarray .long, 2) := by decide +kernel
theorem dX5_init_9 : decode cX5_init 9 = .ok (.putfield 9, 3) := by decide +kernel
theorem dX5_init_12 : decode cX5_init 12 = .ok (.aload_n 0, 1) := by decide +kernel
theorem dX5_init_13 : decode cX5_init 13 = .ok (.sipush 729, 3) := by decide +kernel
theorem dX5_init_16 : decode cX5_init 16 = .ok (.newarray .int, 2) := by decide +kernel
theorem dX5_init_18 : decode cX5_init 18 = .ok (.putfield 15, 3) := by decide +kernel
theorem dX5_init_21 : decode cX5_init 21 = .ok (.aload_n 0, 1) := by decide +kernel
theorem dX5_init_22 : decode cX5_init 22 = .ok (.sipush 729, 3) := by decide +kernel
theorem dX5_init_25 : decode cX5_init 25 = .ok (.newarray .int, 2) := by decide +kernel
theorem dX5_init_27 : decode cX5_init 27 = .ok (.putfield 19, 3) := by decide +kernel
theorem dX5_init_30 : decode cX5_init 30 = .ok (.aload_n 0, 1) := by decide +kernel
theorem dX5_init_31 : decode cX5_init 31 = .ok (.iconst 0, 1) := by decide +kernel
theorem dX5_init_32 : decode cX5_init 32 = .ok (.putfield 22, 3) := by decide +kernel
theorem dX5_init_35 : decode cX5_init 35 = .ok (.aload_n 0, 1) := by decide +kernel
theorem dX5_init_36 : decode cX5_init 36 = .ok (.iconst 0, 1) := by decide +kernel
theorem dX5_init_37 : decode cX5_init 37 = .ok (.putfield 26, 3) := by decide +kernel
theorem dX5_init_40 : decode cX5_init 40 = .ok (.aload_n 0, 1) := by decide +kernel
theorem dX5_init_41 : decode cX5_init 41 = .ok (.lconst 0, 1) := by decide +kernel
theorem dX5_init_42 : decode cX5_init 42 = .ok (.putfield 29, 3) := by decide +kernel
theorem dX5_init_45 : decode cX5_init 45 = .ok (.aload_n 0, 1) := by decide +kernel
theorem dX5_init_46 : decode cX5_init 46 = .ok (.lconst 0, 1) := by decide +kernel
theorem dX5_init_47 : decode cX5_init 47 = .ok (.putfield 33, 3) := by decide +kernel
theorem dX5_init_50 : decode cX5_init 50 = .ok (.return_, 1) := by decide +kernel
theorem dX5_tell_0 : decode cX5_tell 0 = .ok (.aload_n 0, 1) := by decide +kernel
theorem dX5_tell_1 : decode cX5_tell 1 = .ok (.aload_n 1, 1) := by decide +kernel
theorem dX5_tell_2 : decode cX5_tell 2 = .ok (.getfield 36, 3) := by decide +kernel
theorem dX5_tell_5 : decode cX5_tell 5 = .ok (.putfield 22, 3) := by decide +kernel
theorem dX5_tell_8 : decode cX5_tell 8 = .ok (.aload_n 2, 1) := by decide +kernel
theorem dX5_tell_9 : decode cX5_tell 9 = .ok (.aload_n 1, 1) := by decide +kernel
theorem dX5_tell_10 : decode cX5_tell 10 = .ok (.invokevirtual 39, 3) := by decide +kernel
theorem dX5_tell_13 : decode cX5_tell 13 = .ok (.istore 4, 2) := by decide +kernel
theorem dX5_tell_15 : decode cX5_tell 15 = .ok (.iconst 0, 1) := by decide +kernel
theorem dX5_tell_16 : decode cX5_tell 16 = .ok (.istore 5, 2) := by decide +kernel
theorem dX5_tell_18 : decode cX5_tell 18 = .ok (.iload 5, 2) := by decide +kernel
theorem dX5_tell_20 : decode cX5_tell 20 = .ok (.aload_n 0, 1) := by decide +kernel
theorem dX5_tell_21 : decode cX5_tell 21 = .ok (.getfield 9, 3) := by decide +kernel
theorem dX5_tell_24 : decode cX5_tell 24 = .ok (.arraylength, 1) := by decide +kernel
theorem dX5_tell_25 : decode cX5_tell 25 = .ok (.if_icmp .ge 42, 3) := by decide +kernel
theorem dX5_tell_28 : decode cX5_tell 28 = .ok (.aload_n 0, 1) := by decide +kernel
theorem dX5_tell_29 : decode cX5_tell 29 = .ok (.getfield 9, 3) := by decide +kernel
theorem dX5_tell_32 : decode cX5_tell 32 = .ok (.iload 5, 2) := by decide +kernel
theorem dX5_tell_34 : decode cX5_tell 34 = .ok (.iload 5, 2) := by decide +kernel
theorem dX5_tell_36 : decode cX5_tell 36 = .ok (.iload 4, 2) := by decide +kernel
theorem dX5_tell_38 : decode cX5_tell 38 = .ok (.iconst (-1), 1) := by decide +kernel
theorem dX5_tell_39 : decode cX5_tell 39 = .ok (.ixor, 1) := by decide +kernel
theorem dX5_tell_40 : decode cX5_tell 40 = .ok (.iand, 1) := by decide +kernel
theorem dX5_tell_41 : decode cX5_tell 41 = .ok (.ifCond .ne 18, 3) := by decide +kernel
theorem dX5_tell_44 : decode cX5_tell 44 = .ok (.iload 5, 2) := by decide +kernel
theorem dX5_tell_46 : decode cX5_tell 46 = .ok (.iload 4, 2) := by decide +kernel
theorem dX5_tell_48 : decode cX5_tell 48 = .ok (.aload_n 3, 1) := by decide +kernel
theorem dX5_tell_49 : decode cX5_tell 49 = .ok (.invokestatic 45, 3) := by decide +kernel
theorem dX5_tell_52 : decode cX5_tell 52 = .ok (.ifCond .eq 7, 3) := by decide +kernel
theorem dX5_tell_55 : decode cX5_tell 55 = .ok (.lconst 1, 1) := by decide +kernel
theorem dX5_tell_56 : decode cX5_tell 56 = .ok (.goto 4, 3) := by decide +kernel
theorem dX5_tell_59 : decode cX5_tell 59 = .ok (.lconst 0, 1) := by decide +kernel
theorem dX5_tell_60 : decode cX5_tell 60 = .ok (.lastore, 1) := by decide +kernel
theorem dX5_tell_61 : decode cX5_tell 61 = .ok (.iinc 5 1, 3) := by decide +kernel
theorem dX5_tell_64 : decode cX5_tell 64 = .ok (.goto (-46), 3) := by decide +kernel
theorem dX5_tell_67 : decode cX5_tell 67 = .ok (.iconst 0, 1) := by decide +kernel
theorem dX5_tell_68 : decode cX5_tell 68 = .ok (.istore 5, 2) := by decide +kernel
theorem dX5_tell_70 : decode cX5_tell 70 = .ok (.iload 5, 2) := by decide +kernel
theorem dX5_tell_72 : decode cX5_tell 72 = .ok (.iconst 3, 1) := by decide +kernel
theorem dX5_tell_73 : decode cX5_tell 73 = .ok (.if_icmp .ge 81, 3) := by decide +kernel
theorem dX5_tell_76 : decode cX5_tell 76 = .ok (.aload_n 0, 1) := by decide +kernel
theorem dX5_tell_77 : decode cX5_tell 77 = .ok (.aload_n 1, 1) := by decide +kernel
theorem dX5_tell_78 : decode cX5_tell 78 = .ok (.aload_n 2, 1) := by decide +kernel
theorem dX5_tell_79 : decode cX5_tell 79 = .ok (.aload_n 3, 1) := by decide +kernel
theorem dX5_tell_80 : decode cX5_tell 80 = .ok (.iload 5, 2) := by decide +kernel
theorem dX5_tell_82 : decode cX5_tell 82 = .ok (.invokevirtual 49, 3) := by decide +kernel
theorem dX5_tell_85 : decode cX5_tell 85 = .ok (.lstore 6, 2) := by decide +kernel
theorem dX5_tell_87 : decode cX5_tell 87 = .ok (.iconst 0, 1) := by decide +kernel
theorem dX5_tell_88 : decode cX5_tell 88 = .ok (.istore 8, 2) := by decide +kernel
theorem dX5_tell_90 : decode cX5_tell 90 = .ok (.iload 8, 2) := by decide +kernel
theorem dX5_tell_92 : decode cX5_tell 92 = .ok (.aload_n 0, 1) := by decide +kernel
theorem dX5_tell_93 : decode cX5_tell 93 = .ok (.getfield 9, 3) := by decide +kernel
theorem dX5_tell_96 : decode cX5_tell 96 = .ok (.arraylength, 1) := by decide +kernel
theorem dX5_tell_97 : decode cX5_tell 97 = .ok (.if_icmp .ge 51, 3) := by decide +kernel
theorem dX5_tell_100 : decode cX5_tell 100 = .ok (.aload_n 0, 1) := by decide +kernel
theorem dX5_tell_101 : decode cX5_tell 101 = .ok (.getfield 9, 3) := by decide +kernel
theorem dX5_tell_104 : decode cX5_tell 104 = .ok (.iload 8, 2) := by decide +kernel
theorem dX5_tell_106 : decode cX5_tell 106 = .ok (.laload, 1) := by decide +kernel
theorem dX5_tell_107 : decode cX5_tell 107 = .ok (.lconst 0, 1) := by decide +kernel
theorem dX5_tell_108 : decode cX5_tell 108 = .ok (.lcmp, 1) := by decide +kernel
theorem dX5_tell_109 : decode cX5_tell 109 = .ok (.ifCond .eq 33, 3) := by decide +kernel
theorem dX5_tell_112 : decode cX5_tell 112 = .ok (.aload_n 0, 1) := by decide +kernel
theorem dX5_tell_113 : decode cX5_tell 113 = .ok (.getfield 9, 3) := by decide +kernel
theorem dX5_tell_116 : decode cX5_tell 116 = .ok (.iload 8, 2) := by decide +kernel
theorem dX5_tell_118 : decode cX5_tell 118 = .ok (.dup2, 1) := by decide +kernel
theorem dX5_tell_119 : decode cX5_tell 119 = .ok (.laload, 1) := by decide +kernel
theorem dX5_tell_120 : decode cX5_tell 120 = .ok (.lload 6, 2) := by decide +kernel
theorem dX5_tell_122 : decode cX5_tell 122 = .ok (.lconst 0, 1) := by decide +kernel
theorem dX5_tell_123 : decode cX5_tell 123 = .ok (.lcmp, 1) := by decide +kernel
theorem dX5_tell_124 : decode cX5_tell 124 = .ok (.ifCond .ge 7, 3) := by decide +kernel
theorem dX5_tell_127 : decode cX5_tell 127 = .ok (.lconst 0, 1) := by decide +kernel
theorem dX5_tell_128 : decode cX5_tell 128 = .ok (.goto 12, 3) := by decide +kernel
theorem dX5_tell_131 : decode cX5_tell 131 = .ok (.aload_n 0, 1) := by decide +kernel
theorem dX5_tell_132 : decode cX5_tell 132 = .ok (.iload 8, 2) := by decide +kernel
theorem dX5_tell_134 : decode cX5_tell 134 = .ok (.iconst 0, 1) := by decide +kernel
theorem dX5_tell_135 : decode cX5_tell 135 = .ok (.lload 6, 2) := by decide +kernel
theorem dX5_tell_137 : decode cX5_tell 137 = .ok (.invokevirtual 53, 3) := by decide +kernel
theorem dX5_tell_140 : decode cX5_tell 140 = .ok (.lmul, 1) := by decide +kernel
theorem dX5_tell_141 : decode cX5_tell 141 = .ok (.lastore, 1) := by decide +kernel
theorem dX5_tell_142 : decode cX5_tell 142 = .ok (.iinc 8 1, 3) := by decide +kernel
theorem dX5_tell_145 : decode cX5_tell 145 = .ok (.goto (-55), 3) := by decide +kernel
theorem dX5_tell_148 : decode cX5_tell 148 = .ok (.iinc 5 1, 3) := by decide +kernel
theorem dX5_tell_151 : decode cX5_tell 151 = .ok (.goto (-81), 3) := by decide +kernel
theorem dX5_tell_154 : decode cX5_tell 154 = .ok (.return_, 1) := by decide +kernel
theorem dX5_spoonsFit_0 : decode cX5_spoonsFit 0 = .ok (.iconst 0, 1) := by decide +kernel
theorem dX5_spoonsFit_1 : decode cX5_spoonsFit 1 = .ok (.istore_n 3, 1) := by decide +kernel
theorem dX5_spoonsFit_2 : decode cX5_spoonsFit 2 = .ok (.iload_n 3, 1) := by decide +kernel
theorem dX5_spoonsFit_3 : decode cX5_spoonsFit 3 = .ok (.aload_n 2, 1) := by decide +kernel
theorem dX5_spoonsFit_4 : decode cX5_spoonsFit 4 = .ok (.getfield 57, 3) := by decide +kernel
theorem dX5_spoonsFit_7 : decode cX5_spoonsFit 7 = .ok (.if_icmp .ge 71, 3) := by decide +kernel
theorem dX5_spoonsFit_10 : decode cX5_spoonsFit 10 = .ok (.aload_n 2, 1) := by decide +kernel
theorem dX5_spoonsFit_11 : decode cX5_spoonsFit 11 = .ok (.iload_n 3, 1) := by decide +kernel
theorem dX5_spoonsFit_12 : decode cX5_spoonsFit 12 = .ok (.iconst 2, 1) := by decide +kernel
theorem dX5_spoonsFit_13 : decode cX5_spoonsFit 13 = .ok (.iconst 0, 1) := by decide +kernel
theorem dX5_spoonsFit_14 : decode cX5_spoonsFit 14 = .ok (.invokevirtual 62, 3) := by decide +kernel
theorem dX5_spoonsFit_17 : decode cX5_spoonsFit 17 = .ok (.ifCond .eq 19, 3) := by decide +kernel
theorem dX5_spoonsFit_20 : decode cX5_spoonsFit 20 = .ok (.iload_n 1, 1) := by decide +kernel
theorem dX5_spoonsFit_21 : decode cX5_spoonsFit 21 = .ok (.aload_n 2, 1) := by decide +kernel
theorem dX5_spoonsFit_22 : decode cX5_spoonsFit 22 = .ok (.iload_n 3, 1) := by decide +kernel
theorem dX5_spoonsFit_23 : decode cX5_spoonsFit 23 = .ok (.invokevirtual 66, 3) := by decide +kernel
theorem dX5_spoonsFit_26 : decode cX5_spoonsFit 26 = .ok (.invokestatic 70, 3) := by decide +kernel
theorem dX5_spoonsFit_29 : decode cX5_spoonsFit 29 = .ok (.ifCond .eq 7, 3) := by decide +kernel
theorem dX5_spoonsFit_32 : decode cX5_spoonsFit 32 = .ok (.iconst 1, 1) := by decide +kernel
theorem dX5_spoonsFit_33 : decode cX5_spoonsFit 33 = .ok (.goto 4, 3) := by decide +kernel
theorem dX5_spoonsFit_36 : decode cX5_spoonsFit 36 = .ok (.iconst 0, 1) := by decide +kernel
theorem dX5_spoonsFit_37 : decode cX5_spoonsFit 37 = .ok (.istore 4, 2) := by decide +kernel
theorem dX5_spoonsFit_39 : decode cX5_spoonsFit 39 = .ok (.iload 4, 2) := by decide +kernel
theorem dX5_spoonsFit_41 : decode cX5_spoonsFit 41 = .ok (.ifCond .eq 31, 3) := by decide +kernel
theorem dX5_spoonsFit_44 : decode cX5_spoonsFit 44 = .ok (.iload_n 0, 1) := by decide +kernel
theorem dX5_spoonsFit_45 : decode cX5_spoonsFit 45 = .ok (.aload_n 2, 1) := by decide +kernel
theorem dX5_spoonsFit_46 : decode cX5_spoonsFit 46 = .ok (.iload_n 3, 1) := by decide +kernel
theorem dX5_spoonsFit_47 : decode cX5_spoonsFit 47 = .ok (.invokevirtual 66, 3) := by decide +kernel
theorem dX5_spoonsFit_50 : decode cX5_spoonsFit 50 = .ok (.invokestatic 70, 3) := by decide +kernel
theorem dX5_spoonsFit_53 : decode cX5_spoonsFit 53 = .ok (.aload_n 2, 1) := by decide +kernel
theorem dX5_spoonsFit_54 : decode cX5_spoonsFit 54 = .ok (.iload_n 3, 1) := by decide +kernel
theorem dX5_spoonsFit_55 : decode cX5_spoonsFit 55 = .ok (.invokevirtual 74, 3) := by decide +kernel
theorem dX5_spoonsFit_58 : decode cX5_spoonsFit 58 = .ok (.iconst 1, 1) := by decide +kernel
theorem dX5_spoonsFit_59 : decode cX5_spoonsFit 59 = .ok (.if_icmp .ne 7, 3) := by decide +kernel
theorem dX5_spoonsFit_62 : decode cX5_spoonsFit 62 = .ok (.iconst 1, 1) := by decide +kernel
theorem dX5_spoonsFit_63 : decode cX5_spoonsFit 63 = .ok (.goto 4, 3) := by decide +kernel
theorem dX5_spoonsFit_66 : decode cX5_spoonsFit 66 = .ok (.iconst 0, 1) := by decide +kernel
theorem dX5_spoonsFit_67 : decode cX5_spoonsFit 67 = .ok (.if_icmp .ne 5, 3) := by decide +kernel
theorem dX5_spoonsFit_70 : decode cX5_spoonsFit 70 = .ok (.iconst 0, 1) := by decide +kernel
theorem dX5_spoonsFit_71 : decode cX5_spoonsFit 71 = .ok (.ireturn, 1) := by decide +kernel
theorem dX5_spoonsFit_72 : decode cX5_spoonsFit 72 = .ok (.iinc 3 1, 3) := by decide +kernel
theorem dX5_spoonsFit_75 : decode cX5_spoonsFit 75 = .ok (.goto (-73), 3) := by decide +kernel
theorem dX5_spoonsFit_78 : decode cX5_spoonsFit 78 = .ok (.iconst 1, 1) := by decide +kernel
theorem dX5_spoonsFit_79 : decode cX5_spoonsFit 79 = .ok (.ireturn, 1) := by decide +kernel
theorem dX5_look_0 : decode cX5_look 0 = .ok (.aload_n 2, 1) := by decide +kernel
theorem dX5_look_1 : decode cX5_look 1 = .ok (.aload_n 1, 1) := by decide +kernel
theorem dX5_look_2 : decode cX5_look 2 = .ok (.invokevirtual 39, 3) := by decide +kernel
theorem dX5_look_5 : decode cX5_look 5 = .ok (.istore 5, 2) := by decide +kernel
theorem dX5_look_7 : decode cX5_look 7 = .ok (.iconst 0, 1) := by decide +kernel
theorem dX5_look_8 : decode cX5_look 8 = .ok (.istore 6, 2) := by decide +kernel
theorem dX5_look_10 : decode cX5_look 10 = .ok (.aload_n 0, 1) := by decide +kernel
theorem dX5_look_11 : decode cX5_look 11 = .ok (.iconst 0, 1) := by decide +kernel
theorem dX5_look_12 : decode cX5_look 12 = .ok (.putfield 26, 3) := by decide +kernel
theorem dX5_look_15 : decode cX5_look 15 = .ok (.iconst 0, 1) := by decide +kernel
theorem dX5_look_16 : decode cX5_look 16 = .ok (.istore 7, 2) := by decide +kernel
theorem dX5_look_18 : decode cX5_look 18 = .ok (.lconst 0, 1) := by decide +kernel
theorem dX5_look_19 : decode cX5_look 19 = .ok (.lstore 8, 2) := by decide +kernel
theorem dX5_look_21 : decode cX5_look 21 = .ok (.iconst 0, 1) := by decide +kernel
theorem dX5_look_22 : decode cX5_look 22 = .ok (.istore 10, 2) := by decide +kernel
theorem dX5_look_24 : decode cX5_look 24 = .ok (.iload 10, 2) := by decide +kernel
theorem dX5_look_26 : decode cX5_look 26 = .ok (.aload_n 3, 1) := by decide +kernel
theorem dX5_look_27 : decode cX5_look 27 = .ok (.getfield 57, 3) := by decide +kernel
theorem dX5_look_30 : decode cX5_look 30 = .ok (.if_icmp .ge 162, 3) := by decide +kernel
theorem dX5_look_33 : decode cX5_look 33 = .ok (.aload_n 3, 1) := by decide +kernel
theorem dX5_look_34 : decode cX5_look 34 = .ok (.iload 10, 2) := by decide +kernel
theorem dX5_look_36 : decode cX5_look 36 = .ok (.invokevirtual 66, 3) := by decide +kernel
theorem dX5_look_39 : decode cX5_look 39 = .ok (.istore 11, 2) := by decide +kernel
theorem dX5_look_41 : decode cX5_look 41 = .ok (.aload_n 3, 1) := by decide +kernel
theorem dX5_look_42 : decode cX5_look 42 = .ok (.iload 10, 2) := by decide +kernel
theorem dX5_look_44 : decode cX5_look 44 = .ok (.invokevirtual 74, 3) := by decide +kernel
theorem dX5_look_47 : decode cX5_look 47 = .ok (.istore 12, 2) := by decide +kernel
theorem dX5_look_49 : decode cX5_look 49 = .ok (.aload_n 3, 1) := by decide +kernel
theorem dX5_look_50 : decode cX5_look 50 = .ok (.iload 10, 2) := by decide +kernel
theorem dX5_look_52 : decode cX5_look 52 = .ok (.iconst 1, 1) := by decide +kernel
theorem dX5_look_53 : decode cX5_look 53 = .ok (.iload 4, 2) := by decide +kernel
theorem dX5_look_55 : decode cX5_look 55 = .ok (.invokevirtual 62, 3) := by decide +kernel
theorem dX5_look_58 : decode cX5_look 58 = .ok (.ifCond .eq 60, 3) := by decide +kernel
theorem dX5_look_61 : decode cX5_look 61 = .ok (.iload 5, 2) := by decide +kernel
theorem dX5_look_63 : decode cX5_look 63 = .ok (.iload 11, 2) := by decide +kernel
theorem dX5_look_65 : decode cX5_look 65 = .ok (.invokestatic 70, 3) := by decide +kernel
theorem dX5_look_68 : decode cX5_look 68 = .ok (.ifCond .eq 50, 3) := by decide +kernel
theorem dX5_look_71 : decode cX5_look 71 = .ok (.iload 6, 2) := by decide +kernel
theorem dX5_look_73 : decode cX5_look 73 = .ok (.iload 12, 2) := by decide +kernel
theorem dX5_look_75 : decode cX5_look 75 = .ok (.iconst 1, 1) := by decide +kernel
theorem dX5_look_76 : decode cX5_look 76 = .ok (.if_icmp .ne 11, 3) := by decide +kernel
theorem dX5_look_79 : decode cX5_look 79 = .ok (.iload 11, 2) := by decide +kernel
theorem dX5_look_81 : decode cX5_look 81 = .ok (.invokestatic 77, 3) := by decide +kernel
theorem dX5_look_84 : decode cX5_look 84 = .ok (.goto 4, 3) := by decide +kernel
theorem dX5_look_87 : decode cX5_look 87 = .ok (.iconst 0, 1) := by decide +kernel
theorem dX5_look_88 : decode cX5_look 88 = .ok (.ior, 1) := by decide +kernel
theorem dX5_look_89 : decode cX5_look 89 = .ok (.istore 6, 2) := by decide +kernel
theorem dX5_look_91 : decode cX5_look 91 = .ok (.aload_n 0, 1) := by decide +kernel
theorem dX5_look_92 : decode cX5_look 92 = .ok (.dup, 1) := by decide +kernel
theorem dX5_look_93 : decode cX5_look 93 = .ok (.getfield 26, 3) := by decide +kernel
theorem dX5_look_96 : decode cX5_look 96 = .ok (.iload 12, 2) := by decide +kernel
theorem dX5_look_98 : decode cX5_look 98 = .ok (.iconst 1, 1) := by decide +kernel
theorem dX5_look_99 : decode cX5_look 99 = .ok (.if_icmp .ne 7, 3) := by decide +kernel
theorem dX5_look_102 : decode cX5_look 102 = .ok (.iconst 0, 1) := by decide +kernel
theorem dX5_look_103 : decode cX5_look 103 = .ok (.goto 8, 3) := by decide +kernel
theorem dX5_look_106 : decode cX5_look 106 = .ok (.iload 11, 2) := by decide +kernel
theorem dX5_look_108 : decode cX5_look 108 = .ok (.invokestatic 77, 3) := by decide +kernel
theorem dX5_look_111 : decode cX5_look 111 = .ok (.ior, 1) := by decide +kernel
theorem dX5_look_112 : decode cX5_look 112 = .ok (.putfield 26, 3) := by decide +kernel
theorem dX5_look_115 : decode cX5_look 115 = .ok (.goto 71, 3) := by decide +kernel
theorem dX5_look_118 : decode cX5_look 118 = .ok (.aload_n 3, 1) := by decide +kernel
theorem dX5_look_119 : decode cX5_look 119 = .ok (.iload 10, 2) := by decide +kernel
theorem dX5_look_121 : decode cX5_look 121 = .ok (.iconst 0, 1) := by decide +kernel
theorem dX5_look_122 : decode cX5_look 122 = .ok (.iload 4, 2) := by decide +kernel
theorem dX5_look_124 : decode cX5_look 124 = .ok (.invokevirtual 62, 3) := by decide +kernel
theorem dX5_look_127 : decode cX5_look 127 = .ok (.ifCond .eq 59, 3) := by decide +kernel
theorem dX5_look_130 : decode cX5_look 130 = .ok (.iload 11, 2) := by decide +kernel
theorem dX5_look_132 : decode cX5_look 132 = .ok (.aload_n 1, 1) := by decide +kernel
theorem dX5_look_133 : decode cX5_look 133 = .ok (.getfield 80, 3) := by decide +kernel
theorem dX5_look_136 : decode cX5_look 136 = .ok (.if_icmp .ge 50, 3) := by decide +kernel
theorem dX5_look_139 : decode cX5_look 139 = .ok (.iload 7, 2) := by decide +kernel
theorem dX5_look_141 : decode cX5_look 141 = .ok (.iload 11, 2) := by decide +kernel
theorem dX5_look_143 : decode cX5_look 143 = .ok (.invokestatic 70, 3) := by decide +kernel
theorem dX5_look_146 : decode cX5_look 146 = .ok (.ifCond .eq 19, 3) := by decide +kernel
theorem dX5_look_149 : decode cX5_look 149 = .ok (.lload 8, 2) := by decide +kernel
theorem dX5_look_151 : decode cX5_look 151 = .ok (.iload 11, 2) := by decide +kernel
theorem dX5_look_153 : decode cX5_look 153 = .ok (.invokestatic 83, 3) := by decide +kernel
theorem dX5_look_156 : decode cX5_look 156 = .ok (.iload 12, 2) := by decide +kernel
theorem dX5_look_158 : decode cX5_look 158 = .ok (.if_icmp .eq 7, 3) := by decide +kernel
theorem dX5_look_161 : decode cX5_look 161 = .ok (.ldc2_w 87, 3) := by decide +kernel
theorem dX5_look_164 : decode cX5_look 164 = .ok (.lreturn, 1) := by decide +kernel
theorem dX5_look_165 : decode cX5_look 165 = .ok (.iload 7, 2) := by decide +kernel
theorem dX5_look_167 : decode cX5_look 167 = .ok (.iload 11, 2) := by decide +kernel
theorem dX5_look_169 : decode cX5_look 169 = .ok (.invokestatic 77, 3) := by decide +kernel
theorem dX5_look_172 : decode cX5_look 172 = .ok (.ior, 1) := by decide +kernel
theorem dX5_look_173 : decode cX5_look 173 = .ok (.istore 7, 2) := by decide +kernel
theorem dX5_look_175 : decode cX5_look 175 = .ok (.lload 8, 2) := by decide +kernel
theorem dX5_look_177 : decode cX5_look 177 = .ok (.iload 11, 2) := by decide +kernel
theorem dX5_look_179 : decode cX5_look 179 = .ok (.iload 12, 2) := by decide +kernel
theorem dX5_look_181 : decode cX5_look 181 = .ok (.invokestatic 89, 3) := by decide +kernel
theorem dX5_look_184 : decode cX5_look 184 = .ok (.lstore 8, 2) := by decide +kernel
theorem dX5_look_186 : decode cX5_look 186 = .ok (.iinc 10 1, 3) := by decide +kernel
theorem dX5_look_189 : decode cX5_look 189 = .ok (.goto (-165), 3) := by decide +kernel
theorem dX5_look_192 : decode cX5_look 192 = .ok (.iconst 0, 1) := by decide +kernel
theorem dX5_look_193 : decode cX5_look 193 = .ok (.istore 10, 2) := by decide +kernel
theorem dX5_look_195 : decode cX5_look 195 = .ok (.iload 10, 2) := by decide +kernel
theorem dX5_look_197 : decode cX5_look 197 = .ok (.aload_n 1, 1) := by decide +kernel
theorem dX5_look_198 : decode cX5_look 198 = .ok (.getfield 36, 3) := by decide +kernel
theorem dX5_look_201 : decode cX5_look 201 = .ok (.if_icmp .ge 118, 3) := by decide +kernel
theorem dX5_look_204 : decode cX5_look 204 = .ok (.iload 6, 2) := by decide +kernel
theorem dX5_look_206 : decode cX5_look 206 = .ok (.iload 10, 2) := by decide +kernel
theorem dX5_look_208 : decode cX5_look 208 = .ok (.invokestatic 70, 3) := by decide +kernel
theorem dX5_look_211 : decode cX5_look 211 = .ok (.ifCond .eq 7, 3) := by decide +kernel
theorem dX5_look_214 : decode cX5_look 214 = .ok (.iconst 0, 1) := by decide +kernel
theorem dX5_look_215 : decode cX5_look 215 = .ok (.goto 10, 3) := by decide +kernel
theorem dX5_look_218 : decode cX5_look 218 = .ok (.aload_n 2, 1) := by decide +kernel
theorem dX5_look_219 : decode cX5_look 219 = .ok (.aload_n 1, 1) := by decide +kernel
theorem dX5_look_220 : decode cX5_look 220 = .ok (.iload 10, 2) := by decide +kernel
theorem dX5_look_222 : decode cX5_look 222 = .ok (.invokevirtual 93, 3) := by decide +kernel
theorem dX5_look_225 : decode cX5_look 225 = .ok (.istore 11, 2) := by decide +kernel
theorem dX5_look_227 : decode cX5_look 227 = .ok (.iload 11, 2) := by decide +kernel
theorem dX5_look_229 : decode cX5_look 229 = .ok (.iload 7, 2) := by decide +kernel
theorem dX5_look_231 : decode cX5_look 231 = .ok (.iand, 1) := by decide +kernel
theorem dX5_look_232 : decode cX5_look 232 = .ok (.aload_n 1, 1) := by decide +kernel
theorem dX5_look_233 : decode cX5_look 233 = .ok (.getfield 97, 3) := by decide +kernel
theorem dX5_look_236 : decode cX5_look 236 = .ok (.aload_n 1, 1) := by decide +kernel
theorem dX5_look_237 : decode cX5_look 237 = .ok (.getfield 100, 3) := by decide +kernel
theorem dX5_look_240 : decode cX5_look 240 = .ok (.iload 10, 2) := by decide +kernel
theorem dX5_look_242 : decode cX5_look 242 = .ok (.invokestatic 83, 3) := by decide +kernel
theorem dX5_look_245 : decode cX5_look 245 = .ok (.invokestatic 83, 3) := by decide +kernel
theorem dX5_look_248 : decode cX5_look 248 = .ok (.iconst (-1), 1) := by decide +kernel
theorem dX5_look_249 : decode cX5_look 249 = .ok (.ixor, 1) := by decide +kernel
theorem dX5_look_250 : decode cX5_look 250 = .ok (.iand, 1) := by decide +kernel
theorem dX5_look_251 : decode cX5_look 251 = .ok (.istore 12, 2) := by decide +kernel
theorem dX5_look_253 : decode cX5_look 253 = .ok (.aload_n 0, 1) := by decide +kernel
theorem dX5_look_254 : decode cX5_look 254 = .ok (.getfield 26, 3) := by decide +kernel
theorem dX5_look_257 : decode cX5_look 257 = .ok (.iload 10, 2) := by decide +kernel
theorem dX5_look_259 : decode cX5_look 259 = .ok (.invokestatic 70, 3) := by decide +kernel
theorem dX5_look_262 : decode cX5_look 262 = .ok (.ifCond .eq 7, 3) := by decide +kernel
theorem dX5_look_265 : decode cX5_look 265 = .ok (.iconst 0, 1) := by decide +kernel
theorem dX5_look_266 : decode cX5_look 266 = .ok (.goto 4, 3) := by decide +kernel
theorem dX5_look_269 : decode cX5_look 269 = .ok (.iconst 1, 1) := by decide +kernel
theorem dX5_look_270 : decode cX5_look 270 = .ok (.istore 13, 2) := by decide +kernel
theorem dX5_look_272 : decode cX5_look 272 = .ok (.aload_n 0, 1) := by decide +kernel
theorem dX5_look_273 : decode cX5_look 273 = .ok (.aload_n 0, 1) := by decide +kernel
theorem dX5_look_274 : decode cX5_look 274 = .ok (.getfield 33, 3) := by decide +kernel
theorem dX5_look_277 : decode cX5_look 277 = .ok (.iload 10, 2) := by decide +kernel
theorem dX5_look_279 : decode cX5_look 279 = .ok (.iload 12, 2) := by decide +kernel
theorem dX5_look_281 : decode cX5_look 281 = .ok (.invokestatic 89, 3) := by decide +kernel
theorem dX5_look_284 : decode cX5_look 284 = .ok (.putfield 33, 3) := by decide +kernel
theorem dX5_look_287 : decode cX5_look 287 = .ok (.aload_n 0, 1) := by decide +kernel
theorem dX5_look_288 : decode cX5_look 288 = .ok (.aload_n 0, 1) := by decide +kernel
theorem dX5_look_289 : decode cX5_look 289 = .ok (.getfield 29, 3) := by decide +kernel
theorem dX5_look_292 : decode cX5_look 292 = .ok (.iload 10, 2) := by decide +kernel
theorem dX5_look_294 : decode cX5_look 294 = .ok (.iload 11, 2) := by decide +kernel
theorem dX5_look_296 : decode cX5_look 296 = .ok (.iload 12, 2) := by decide +kernel
theorem dX5_look_298 : decode cX5_look 298 = .ok (.iconst (-1), 1) := by decide +kernel
theorem dX5_look_299 : decode cX5_look 299 = .ok (.ixor, 1) := by decide +kernel
theorem dX5_look_300 : decode cX5_look 300 = .ok (.iand, 1) := by decide +kernel
theorem dX5_look_301 : decode cX5_look 301 = .ok (.invokestatic 103, 3) := by decide +kernel
theorem dX5_look_304 : decode cX5_look 304 = .ok (.iload 13, 2) := by decide +kernel
theorem dX5_look_306 : decode cX5_look 306 = .ok (.iadd, 1) := by decide +kernel
theorem dX5_look_307 : decode cX5_look 307 = .ok (.invokestatic 89, 3) := by decide +kernel
theorem dX5_look_310 : decode cX5_look 310 = .ok (.putfield 29, 3) := by decide +kernel
theorem dX5_look_313 : decode cX5_look 313 = .ok (.iinc 10 1, 3) := by decide +kernel
theorem dX5_look_316 : decode cX5_look 316 = .ok (.goto (-121), 3) := by decide +kernel
theorem dX5_look_319 : decode cX5_look 319 = .ok (.lload 8, 2) := by decide +kernel
theorem dX5_look_321 : decode cX5_look 321 = .ok (.lreturn, 1) := by decide +kernel
theorem dX5_ways_0 : decode cX5_ways 0 = .ok (.iload_n 2, 1) := by decide +kernel
theorem dX5_ways_1 : decode cX5_ways 1 = .ok (.aload_n 0, 1) := by decide +kernel
theorem dX5_ways_2 : decode cX5_ways 2 = .ok (.getfield 22, 3) := by decide +kernel
theorem dX5_ways_5 : decode cX5_ways 5 = .ok (.if_icmp .ge 9, 3) := by decide +kernel
theorem dX5_ways_8 : decode cX5_ways 8 = .ok (.iload_n 2, 1) := by decide +kernel
theorem dX5_ways_9 : decode cX5_ways 9 = .ok (.bipush 6, 2) := by decide +kernel
theorem dX5_ways_11 : decode cX5_ways 11 = .ok (.if_icmp .lt 15, 3) := by decide +kernel
theorem dX5_ways_14 : decode cX5_ways 14 = .ok (.lload_n 3, 1) := by decide +kernel
theorem dX5_ways_15 : decode cX5_ways 15 = .ok (.lconst 0, 1) := by decide +kernel
theorem dX5_ways_16 : decode cX5_ways 16 = .ok (.lcmp, 1) := by decide +kernel
theorem dX5_ways_17 : decode cX5_ways 17 = .ok (.ifCond .ne 7, 3) := by decide +kernel
theorem dX5_ways_20 : decode cX5_ways 20 = .ok (.lconst 1, 1) := by decide +kernel
theorem dX5_ways_21 : decode cX5_ways 21 = .ok (.goto 4, 3) := by decide +kernel
theorem dX5_ways_24 : decode cX5_ways 24 = .ok (.lconst 0, 1) := by decide +kernel
theorem dX5_ways_25 : decode cX5_ways 25 = .ok (.lreturn, 1) := by decide +kernel
theorem dX5_ways_26 : decode cX5_ways 26 = .ok (.iload_n 1, 1) := by decide +kernel
theorem dX5_ways_27 : decode cX5_ways 27 = .ok (.iload_n 2, 1) := by decide +kernel
theorem dX5_ways_28 : decode cX5_ways 28 = .ok (.invokestatic 70, 3) := by decide +kernel
theorem dX5_ways_31 : decode cX5_ways 31 = .ok (.ifCond .ne 28, 3) := by decide +kernel
theorem dX5_ways_34 : decode cX5_ways 34 = .ok (.aload_n 0, 1) := by decide +kernel
theorem dX5_ways_35 : decode cX5_ways 35 = .ok (.getfield 26, 3) := by decide +kernel
theorem dX5_ways_38 : decode cX5_ways 38 = .ok (.iload_n 2, 1) := by decide +kernel
theorem dX5_ways_39 : decode cX5_ways 39 = .ok (.invokestatic 70, 3) := by decide +kernel
theorem dX5_ways_42 : decode cX5_ways 42 = .ok (.ifCond .eq 7, 3) := by decide +kernel
theorem dX5_ways_45 : decode cX5_ways 45 = .ok (.lconst 0, 1) := by decide +kernel
theorem dX5_ways_46 : decode cX5_ways 46 = .ok (.goto 12, 3) := by decide +kernel
theorem dX5_ways_49 : decode cX5_ways 49 = .ok (.aload_n 0, 1) := by decide +kernel
theorem dX5_ways_50 : decode cX5_ways 50 = .ok (.iload_n 1, 1) := by decide +kernel
theorem dX5_ways_51 : decode cX5_ways 51 = .ok (.iload_n 2, 1) := by decide +kernel
theorem dX5_ways_52 : decode cX5_ways 52 = .ok (.iconst 1, 1) := by decide +kernel
theorem dX5_ways_53 : decode cX5_ways 53 = .ok (.iadd, 1) := by decide +kernel
theorem dX5_ways_54 : decode cX5_ways 54 = .ok (.lload_n 3, 1) := by decide +kernel
theorem dX5_ways_55 : decode cX5_ways 55 = .ok (.invokevirtual 53, 3) := by decide +kernel
theorem dX5_ways_58 : decode cX5_ways 58 = .ok (.lreturn, 1) := by decide +kernel
theorem dX5_ways_59 : decode cX5_ways 59 = .ok (.aload_n 0, 1) := by decide +kernel
theorem dX5_ways_60 : decode cX5_ways 60 = .ok (.getfield 29, 3) := by decide +kernel
theorem dX5_ways_63 : decode cX5_ways 63 = .ok (.iload_n 2, 1) := by decide +kernel
theorem dX5_ways_64 : decode cX5_ways 64 = .ok (.invokestatic 83, 3) := by decide +kernel
theorem dX5_ways_67 : decode cX5_ways 67 = .ok (.istore 5, 2) := by decide +kernel
theorem dX5_ways_69 : decode cX5_ways 69 = .ok (.iload 5, 2) := by decide +kernel
theorem dX5_ways_71 : decode cX5_ways 71 = .ok (.ifCond .ne 7, 3) := by decide +kernel
theorem dX5_ways_74 : decode cX5_ways 74 = .ok (.lconst 0, 1) := by decide +kernel
theorem dX5_ways_75 : decode cX5_ways 75 = .ok (.goto 16, 3) := by decide +kernel
theorem dX5_ways_78 : decode cX5_ways 78 = .ok (.iload 5, 2) := by decide +kernel
theorem dX5_ways_80 : decode cX5_ways 80 = .ok (.i2l, 1) := by decide +kernel
theorem dX5_ways_81 : decode cX5_ways 81 = .ok (.aload_n 0, 1) := by decide +kernel
theorem dX5_ways_82 : decode cX5_ways 82 = .ok (.iload_n 1, 1) := by decide +kernel
theorem dX5_ways_83 : decode cX5_ways 83 = .ok (.iload_n 2, 1) := by decide +kernel
theorem dX5_ways_84 : decode cX5_ways 84 = .ok (.iconst 1, 1) := by decide +kernel
theorem dX5_ways_85 : decode cX5_ways 85 = .ok (.iadd, 1) := by decide +kernel
theorem dX5_ways_86 : decode cX5_ways 86 = .ok (.lload_n 3, 1) := by decide +kernel
theorem dX5_ways_87 : decode cX5_ways 87 = .ok (.invokevirtual 53, 3) := by decide +kernel
theorem dX5_ways_90 : decode cX5_ways 90 = .ok (.lmul, 1) := by decide +kernel
theorem dX5_ways_91 : decode cX5_ways 91 = .ok (.lstore 6, 2) := by decide +kernel
theorem dX5_ways_93 : decode cX5_ways 93 = .ok (.aload_n 0, 1) := by decide +kernel
theorem dX5_ways_94 : decode cX5_ways 94 = .ok (.getfield 33, 3) := by decide +kernel
theorem dX5_ways_97 : decode cX5_ways 97 = .ok (.iload_n 2, 1) := by decide +kernel
theorem dX5_ways_98 : decode cX5_ways 98 = .ok (.invokestatic 83, 3) := by decide +kernel
theorem dX5_ways_101 : decode cX5_ways 101 = .ok (.istore 8, 2) := by decide +kernel
theorem dX5_ways_103 : decode cX5_ways 103 = .ok (.iconst 0, 1) := by decide +kernel
theorem dX5_ways_104 : decode cX5_ways 104 = .ok (.istore 9, 2) := by decide +kernel
theorem dX5_ways_106 : decode cX5_ways 106 = .ok (.iload 9, 2) := by decide +kernel
theorem dX5_ways_108 : decode cX5_ways 108 = .ok (.iconst 4, 1) := by decide +kernel
theorem dX5_ways_109 : decode cX5_ways 109 = .ok (.if_icmp .ge 55, 3) := by decide +kernel
theorem dX5_ways_112 : decode cX5_ways 112 = .ok (.lload_n 3, 1) := by decide +kernel
theorem dX5_ways_113 : decode cX5_ways 113 = .ok (.iload 9, 2) := by decide +kernel
theorem dX5_ways_115 : decode cX5_ways 115 = .ok (.invokestatic 83, 3) := by decide +kernel
theorem dX5_ways_118 : decode cX5_ways 118 = .ok (.istore 10, 2) := by decide +kernel
theorem dX5_ways_120 : decode cX5_ways 120 = .ok (.iload 8, 2) := by decide +kernel
theorem dX5_ways_122 : decode cX5_ways 122 = .ok (.iload 9, 2) := by decide +kernel
theorem dX5_ways_124 : decode cX5_ways 124 = .ok (.invokestatic 70, 3) := by decide +kernel
theorem dX5_ways_127 : decode cX5_ways 127 = .ok (.ifCond .eq 31, 3) := by decide +kernel
theorem dX5_ways_130 : decode cX5_ways 130 = .ok (.iload 10, 2) := by decide +kernel
theorem dX5_ways_132 : decode cX5_ways 132 = .ok (.ifCond .le 26, 3) := by decide +kernel
theorem dX5_ways_135 : decode cX5_ways 135 = .ok (.lload 6, 2) := by decide +kernel
theorem dX5_ways_137 : decode cX5_ways 137 = .ok (.aload_n 0, 1) := by decide +kernel
theorem dX5_ways_138 : decode cX5_ways 138 = .ok (.iload_n 1, 1) := by decide +kernel
theorem dX5_ways_139 : decode cX5_ways 139 = .ok (.iload_n 2, 1) := by decide +kernel
theorem dX5_ways_140 : decode cX5_ways 140 = .ok (.iconst 1, 1) := by decide +kernel
theorem dX5_ways_141 : decode cX5_ways 141 = .ok (.iadd, 1) := by decide +kernel
theorem dX5_ways_142 : decode cX5_ways 142 = .ok (.lload_n 3, 1) := by decide +kernel
theorem dX5_ways_143 : decode cX5_ways 143 = .ok (.iload 9, 2) := by decide +kernel
theorem dX5_ways_145 : decode cX5_ways 145 = .ok (.iload 10, 2) := by decide +kernel
theorem dX5_ways_147 : decode cX5_ways 147 = .ok (.iconst 1, 1) := by decide +kernel
theorem dX5_ways_148 : decode cX5_ways 148 = .ok (.isub, 1) := by decide +kernel
theorem dX5_ways_149 : decode cX5_ways 149 = .ok (.invokestatic 89, 3) := by decide +kernel
theorem dX5_ways_152 : decode cX5_ways 152 = .ok (.invokevirtual 53, 3) := by decide +kernel
theorem dX5_ways_155 : decode cX5_ways 155 = .ok (.ladd, 1) := by decide +kernel
theorem dX5_ways_156 : decode cX5_ways 156 = .ok (.lstore 6, 2) := by decide +kernel
theorem dX5_ways_158 : decode cX5_ways 158 = .ok (.iinc 9 1, 3) := by decide +kernel
theorem dX5_ways_161 : decode cX5_ways 161 = .ok (.goto (-55), 3) := by decide +kernel
theorem dX5_ways_164 : decode cX5_ways 164 = .ok (.lload 6, 2) := by decide +kernel
theorem dX5_ways_166 : decode cX5_ways 166 = .ok (.lreturn, 1) := by decide +kernel
theorem dX5_all_0 : decode cX5_all 0 = .ok (.lconst 0, 1) := by decide +kernel
theorem dX5_all_1 : decode cX5_all 1 = .ok (.lstore_n 1, 1) := by decide +kernel
theorem dX5_all_2 : decode cX5_all 2 = .ok (.iconst 0, 1) := by decide +kernel
theorem dX5_all_3 : decode cX5_all 3 = .ok (.istore_n 3, 1) := by decide +kernel
theorem dX5_all_4 : decode cX5_all 4 = .ok (.iload_n 3, 1) := by decide +kernel
theorem dX5_all_5 : decode cX5_all 5 = .ok (.aload_n 0, 1) := by decide +kernel
theorem dX5_all_6 : decode cX5_all 6 = .ok (.getfield 9, 3) := by decide +kernel
theorem dX5_all_9 : decode cX5_all 9 = .ok (.arraylength, 1) := by decide +kernel
theorem dX5_all_10 : decode cX5_all 10 = .ok (.if_icmp .ge 18, 3) := by decide +kernel
theorem dX5_all_13 : decode cX5_all 13 = .ok (.lload_n 1, 1) := by decide +kernel
theorem dX5_all_14 : decode cX5_all 14 = .ok (.aload_n 0, 1) := by decide +kernel
theorem dX5_all_15 : decode cX5_all 15 = .ok (.getfield 9, 3) := by decide +kernel
theorem dX5_all_18 : decode cX5_all 18 = .ok (.iload_n 3, 1) := by decide +kernel
theorem dX5_all_19 : decode cX5_all 19 = .ok (.laload, 1) := by decide +kernel
theorem dX5_all_20 : decode cX5_all 20 = .ok (.ladd, 1) := by decide +kernel
theorem dX5_all_21 : decode cX5_all 21 = .ok (.lstore_n 1, 1) := by decide +kernel
theorem dX5_all_22 : decode cX5_all 22 = .ok (.iinc 3 1, 3) := by decide +kernel
theorem dX5_all_25 : decode cX5_all 25 = .ok (.goto (-21), 3) := by decide +kernel
theorem dX5_all_28 : decode cX5_all 28 = .ok (.lload_n 1, 1) := by decide +kernel
theorem dX5_all_29 : decode cX5_all 29 = .ok (.lreturn, 1) := by decide +kernel
theorem dX5_allWith_0 : decode cX5_allWith 0 = .ok (.lconst 0, 1) := by decide +kernel
theorem dX5_allWith_1 : decode cX5_allWith 1 = .ok (.lstore_n 2, 1) := by decide +kernel
theorem dX5_allWith_2 : decode cX5_allWith 2 = .ok (.iconst 0, 1) := by decide +kernel
theorem dX5_allWith_3 : decode cX5_allWith 3 = .ok (.istore 4, 2) := by decide +kernel
theorem dX5_allWith_5 : decode cX5_allWith 5 = .ok (.iload 4, 2) := by decide +kernel
theorem dX5_allWith_7 : decode cX5_allWith 7 = .ok (.aload_n 0, 1) := by decide +kernel
theorem dX5_allWith_8 : decode cX5_allWith 8 = .ok (.getfield 9, 3) := by decide +kernel
theorem dX5_allWith_11 : decode cX5_allWith 11 = .ok (.arraylength, 1) := by decide +kernel
theorem dX5_allWith_12 : decode cX5_allWith 12 = .ok (.if_icmp .ge 32, 3) := by decide +kernel
theorem dX5_allWith_15 : decode cX5_allWith 15 = .ok (.lload_n 2, 1) := by decide +kernel
theorem dX5_allWith_16 : decode cX5_allWith 16 = .ok (.iload 4, 2) := by decide +kernel
theorem dX5_allWith_18 : decode cX5_allWith 18 = .ok (.iload_n 1, 1) := by decide +kernel
theorem dX5_allWith_19 : decode cX5_allWith 19 = .ok (.invokestatic 70, 3) := by decide +kernel
