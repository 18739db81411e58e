theorem dX9_preyOf_25 : decode cX9_preyOf 25 = .ok (.iload_n 3, 1) := by decide +kernel
theorem dX9_preyOf_26 : decode cX9_preyOf 26 = .ok (.iaload, 1) := by decide +kernel
theorem dX9_preyOf_27 : decode cX9_preyOf 27 = .ok (.iload_n 2, 1) := by decide +kernel
theorem dX9_preyOf_28 : decode cX9_preyOf 28 = .ok (.if_icmp .ne 44, 3) := by decide +kernel
theorem dX9_preyOf_31 : decode cX9_preyOf 31 = .ok (.aload_n 0, 1) := by decide +kernel
theorem dX9_preyOf_32 : decode cX9_preyOf 32 = .ok (.iload_n 3, 1) := by decide +kernel
theorem dX9_preyOf_33 : decode cX9_preyOf 33 = .ok (.invokevirtual 87, 3) := by decide +kernel
theorem dX9_preyOf_36 : decode cX9_preyOf 36 = .ok (.ifCond .eq 36, 3) := by decide +kernel
theorem dX9_preyOf_39 : decode cX9_preyOf 39 = .ok (.aload_n 0, 1) := by decide +kernel
theorem dX9_preyOf_40 : decode cX9_preyOf 40 = .ok (.iload_n 3, 1) := by decide +kernel
theorem dX9_preyOf_41 : decode cX9_preyOf 41 = .ok (.iconst 0, 1) := by decide +kernel
theorem dX9_preyOf_42 : decode cX9_preyOf 42 = .ok (.invokevirtual 83, 3) := by decide +kernel
theorem dX9_preyOf_45 : decode cX9_preyOf 45 = .ok (.ifCond .ne 27, 3) := by decide +kernel
theorem dX9_preyOf_48 : decode cX9_preyOf 48 = .ok (.aload_n 0, 1) := by decide +kernel
theorem dX9_preyOf_49 : decode cX9_preyOf 49 = .ok (.iload_n 3, 1) := by decide +kernel
theorem dX9_preyOf_50 : decode cX9_preyOf 50 = .ok (.iconst 1, 1) := by decide +kernel
theorem dX9_preyOf_51 : decode cX9_preyOf 51 = .ok (.invokevirtual 83, 3) := by decide +kernel
theorem dX9_preyOf_54 : decode cX9_preyOf 54 = .ok (.ifCond .ne 18, 3) := by decide +kernel
theorem dX9_preyOf_57 : decode cX9_preyOf 57 = .ok (.aload_n 0, 1) := by decide +kernel
theorem dX9_preyOf_58 : decode cX9_preyOf 58 = .ok (.getfield 16, 3) := by decide +kernel
theorem dX9_preyOf_61 : decode cX9_preyOf 61 = .ok (.iload_n 1, 1) := by decide +kernel
theorem dX9_preyOf_62 : decode cX9_preyOf 62 = .ok (.iaload, 1) := by decide +kernel
theorem dX9_preyOf_63 : decode cX9_preyOf 63 = .ok (.iload_n 3, 1) := by decide +kernel
theorem dX9_preyOf_64 : decode cX9_preyOf 64 = .ok (.invokestatic 127, 3) := by decide +kernel
theorem dX9_preyOf_67 : decode cX9_preyOf 67 = .ok (.ifCond .ne 5, 3) := by decide +kernel
theorem dX9_preyOf_70 : decode cX9_preyOf 70 = .ok (.iload_n 3, 1) := by decide +kernel
theorem dX9_preyOf_71 : decode cX9_preyOf 71 = .ok (.ireturn, 1) := by decide +kernel
theorem dX9_preyOf_72 : decode cX9_preyOf 72 = .ok (.iinc 3 1, 3) := by decide +kernel
theorem dX9_preyOf_75 : decode cX9_preyOf 75 = .ok (.goto (-73), 3) := by decide +kernel
theorem dX9_preyOf_78 : decode cX9_preyOf 78 = .ok (.bipush (-9), 2) := by decide +kernel
theorem dX9_preyOf_80 : decode cX9_preyOf 80 = .ok (.ireturn, 1) := by decide +kernel
theorem dX9_prey_0 : decode cX9_prey 0 = .ok (.aload_n 0, 1) := by decide +kernel
theorem dX9_prey_1 : decode cX9_prey 1 = .ok (.iconst 0, 1) := by decide +kernel
theorem dX9_prey_2 : decode cX9_prey 2 = .ok (.putfield 69, 3) := by decide +kernel
theorem dX9_prey_5 : decode cX9_prey 5 = .ok (.aload_n 0, 1) := by decide +kernel
theorem dX9_prey_6 : decode cX9_prey 6 = .ok (.iload_n 1, 1) := by decide +kernel
theorem dX9_prey_7 : decode cX9_prey 7 = .ok (.invokevirtual 168, 3) := by decide +kernel
theorem dX9_prey_10 : decode cX9_prey 10 = .ok (.ifCond .ne 11, 3) := by decide +kernel
theorem dX9_prey_13 : decode cX9_prey 13 = .ok (.aload_n 0, 1) := by decide +kernel
theorem dX9_prey_14 : decode cX9_prey 14 = .ok (.iload_n 2, 1) := by decide +kernel
theorem dX9_prey_15 : decode cX9_prey 15 = .ok (.invokevirtual 162, 3) := by decide +kernel
theorem dX9_prey_18 : decode cX9_prey 18 = .ok (.ifCond .eq 5, 3) := by decide +kernel
theorem dX9_prey_21 : decode cX9_prey 21 = .ok (.iconst (-1), 1) := by decide +kernel
theorem dX9_prey_22 : decode cX9_prey 22 = .ok (.ireturn, 1) := by decide +kernel
theorem dX9_prey_23 : decode cX9_prey 23 = .ok (.aload_n 0, 1) := by decide +kernel
theorem dX9_prey_24 : decode cX9_prey 24 = .ok (.iload_n 1, 1) := by decide +kernel
theorem dX9_prey_25 : decode cX9_prey 25 = .ok (.invokevirtual 178, 3) := by decide +kernel
theorem dX9_prey_28 : decode cX9_prey 28 = .ok (.iload_n 2, 1) := by decide +kernel
theorem dX9_prey_29 : decode cX9_prey 29 = .ok (.invokestatic 127, 3) := by decide +kernel
theorem dX9_prey_32 : decode cX9_prey 32 = .ok (.ifCond .eq 12, 3) := by decide +kernel
theorem dX9_prey_35 : decode cX9_prey 35 = .ok (.aload_n 0, 1) := by decide +kernel
theorem dX9_prey_36 : decode cX9_prey 36 = .ok (.iload_n 1, 1) := by decide +kernel
theorem dX9_prey_37 : decode cX9_prey 37 = .ok (.iload_n 2, 1) := by decide +kernel
theorem dX9_prey_38 : decode cX9_prey 38 = .ok (.invokevirtual 181, 3) := by decide +kernel
theorem dX9_prey_41 : decode cX9_prey 41 = .ok (.goto 5, 3) := by decide +kernel
theorem dX9_prey_44 : decode cX9_prey 44 = .ok (.bipush (-3), 2) := by decide +kernel
theorem dX9_prey_46 : decode cX9_prey 46 = .ok (.ireturn, 1) := by decide +kernel
theorem dX9_keeps_0 : decode cX9_keeps 0 = .ok (.aload_n 0, 1) := by decide +kernel
theorem dX9_keeps_1 : decode cX9_keeps 1 = .ok (.getfield 159, 3) := by decide +kernel
theorem dX9_keeps_4 : decode cX9_keeps 4 = .ok (.bipush 16, 2) := by decide +kernel
theorem dX9_keeps_6 : decode cX9_keeps 6 = .ok (.if_icmp .ne 43, 3) := by decide +kernel
theorem dX9_keeps_9 : decode cX9_keeps 9 = .ok (.iconst 0, 1) := by decide +kernel
theorem dX9_keeps_10 : decode cX9_keeps 10 = .ok (.istore_n 1, 1) := by decide +kernel
theorem dX9_keeps_11 : decode cX9_keeps 11 = .ok (.iload_n 1, 1) := by decide +kernel
theorem dX9_keeps_12 : decode cX9_keeps 12 = .ok (.sipush 645, 3) := by decide +kernel
theorem dX9_keeps_15 : decode cX9_keeps 15 = .ok (.if_icmp .ge 24, 3) := by decide +kernel
theorem dX9_keeps_18 : decode cX9_keeps 18 = .ok (.aload_n 0, 1) := by decide +kernel
theorem dX9_keeps_19 : decode cX9_keeps 19 = .ok (.getfield 22, 3) := by decide +kernel
theorem dX9_keeps_22 : decode cX9_keeps 22 = .ok (.iload_n 1, 1) := by decide +kernel
theorem dX9_keeps_23 : decode cX9_keeps 23 = .ok (.aload_n 0, 1) := by decide +kernel
theorem dX9_keeps_24 : decode cX9_keeps 24 = .ok (.getfield 22, 3) := by decide +kernel
theorem dX9_keeps_27 : decode cX9_keeps 27 = .ok (.iload_n 1, 1) := by decide +kernel
theorem dX9_keeps_28 : decode cX9_keeps 28 = .ok (.bipush 43, 2) := by decide +kernel
theorem dX9_keeps_30 : decode cX9_keeps 30 = .ok (.iadd, 1) := by decide +kernel
theorem dX9_keeps_31 : decode cX9_keeps 31 = .ok (.iaload, 1) := by decide +kernel
theorem dX9_keeps_32 : decode cX9_keeps 32 = .ok (.iastore, 1) := by decide +kernel
theorem dX9_keeps_33 : decode cX9_keeps 33 = .ok (.iinc 1 1, 3) := by decide +kernel
theorem dX9_keeps_36 : decode cX9_keeps 36 = .ok (.goto (-25), 3) := by decide +kernel
theorem dX9_keeps_39 : decode cX9_keeps 39 = .ok (.aload_n 0, 1) := by decide +kernel
theorem dX9_keeps_40 : decode cX9_keeps 40 = .ok (.dup, 1) := by decide +kernel
theorem dX9_keeps_41 : decode cX9_keeps 41 = .ok (.getfield 159, 3) := by decide +kernel
theorem dX9_keeps_44 : decode cX9_keeps 44 = .ok (.iconst 1, 1) := by decide +kernel
theorem dX9_keeps_45 : decode cX9_keeps 45 = .ok (.isub, 1) := by decide +kernel
theorem dX9_keeps_46 : decode cX9_keeps 46 = .ok (.putfield 159, 3) := by decide +kernel
theorem dX9_keeps_49 : decode cX9_keeps 49 = .ok (.iconst 0, 1) := by decide +kernel
theorem dX9_keeps_50 : decode cX9_keeps 50 = .ok (.istore_n 1, 1) := by decide +kernel
theorem dX9_keeps_51 : decode cX9_keeps 51 = .ok (.iload_n 1, 1) := by decide +kernel
theorem dX9_keeps_52 : decode cX9_keeps 52 = .ok (.bipush 43, 2) := by decide +kernel
theorem dX9_keeps_54 : decode cX9_keeps 54 = .ok (.if_icmp .ge 29, 3) := by decide +kernel
theorem dX9_keeps_57 : decode cX9_keeps 57 = .ok (.aload_n 0, 1) := by decide +kernel
theorem dX9_keeps_58 : decode cX9_keeps 58 = .ok (.getfield 22, 3) := by decide +kernel
theorem dX9_keeps_61 : decode cX9_keeps 61 = .ok (.bipush 43, 2) := by decide +kernel
theorem dX9_keeps_63 : decode cX9_keeps 63 = .ok (.aload_n 0, 1) := by decide +kernel
theorem dX9_keeps_64 : decode cX9_keeps 64 = .ok (.getfield 159, 3) := by decide +kernel
theorem dX9_keeps_67 : decode cX9_keeps 67 = .ok (.imul, 1) := by decide +kernel
theorem dX9_keeps_68 : decode cX9_keeps 68 = .ok (.iload_n 1, 1) := by decide +kernel
theorem dX9_keeps_69 : decode cX9_keeps 69 = .ok (.iadd, 1) := by decide +kernel
theorem dX9_keeps_70 : decode cX9_keeps 70 = .ok (.aload_n 0, 1) := by decide +kernel
theorem dX9_keeps_71 : decode cX9_keeps 71 = .ok (.getfield 19, 3) := by decide +kernel
theorem dX9_keeps_74 : decode cX9_keeps 74 = .ok (.iload_n 1, 1) := by decide +kernel
theorem dX9_keeps_75 : decode cX9_keeps 75 = .ok (.iaload, 1) := by decide +kernel
theorem dX9_keeps_76 : decode cX9_keeps 76 = .ok (.iastore, 1) := by decide +kernel
theorem dX9_keeps_77 : decode cX9_keeps 77 = .ok (.iinc 1 1, 3) := by decide +kernel
theorem dX9_keeps_80 : decode cX9_keeps 80 = .ok (.goto (-29), 3) := by decide +kernel
theorem dX9_keeps_83 : decode cX9_keeps 83 = .ok (.aload_n 0, 1) := by decide +kernel
theorem dX9_keeps_84 : decode cX9_keeps 84 = .ok (.dup, 1) := by decide +kernel
theorem dX9_keeps_85 : decode cX9_keeps 85 = .ok (.getfield 159, 3) := by decide +kernel
theorem dX9_keeps_88 : decode cX9_keeps 88 = .ok (.iconst 1, 1) := by decide +kernel
theorem dX9_keeps_89 : decode cX9_keeps 89 = .ok (.iadd, 1) := by decide +kernel
theorem dX9_keeps_90 : decode cX9_keeps 90 = .ok (.putfield 159, 3) := by decide +kernel
theorem dX9_keeps_93 : decode cX9_keeps 93 = .ok (.return_, 1) := by decide +kernel
theorem dX9_visits_0 : decode cX9_visits 0 = .ok (.aload_n 0, 1) := by decide +kernel
theorem dX9_visits_1 : decode cX9_visits 1 = .ok (.iload_n 1, 1) := by decide +kernel
theorem dX9_visits_2 : decode cX9_visits 2 = .ok (.iload_n 2, 1) := by decide +kernel
theorem dX9_visits_3 : decode cX9_visits 3 = .ok (.invokevirtual 181, 3) := by decide +kernel
theorem dX9_visits_6 : decode cX9_visits 6 = .ok (.istore_n 3, 1) := by decide +kernel
theorem dX9_visits_7 : decode cX9_visits 7 = .ok (.aload_n 0, 1) := by decide +kernel
theorem dX9_visits_8 : decode cX9_visits 8 = .ok (.getfield 19, 3) := by decide +kernel
theorem dX9_visits_11 : decode cX9_visits 11 = .ok (.bipush 13, 2) := by decide +kernel
theorem dX9_visits_13 : decode cX9_visits 13 = .ok (.iconst 5, 1) := by decide +kernel
theorem dX9_visits_14 : decode cX9_visits 14 = .ok (.iload_n 1, 1) := by decide +kernel
theorem dX9_visits_15 : decode cX9_visits 15 = .ok (.imul, 1) := by decide +kernel
theorem dX9_visits_16 : decode cX9_visits 16 = .ok (.iadd, 1) := by decide +kernel
theorem dX9_visits_17 : decode cX9_visits 17 = .ok (.iconst 3, 1) := by decide +kernel
theorem dX9_visits_18 : decode cX9_visits 18 = .ok (.iadd, 1) := by decide +kernel
theorem dX9_visits_19 : decode cX9_visits 19 = .ok (.iconst 1, 1) := by decide +kernel
theorem dX9_visits_20 : decode cX9_visits 20 = .ok (.iastore, 1) := by decide +kernel
theorem dX9_visits_21 : decode cX9_visits 21 = .ok (.aload_n 0, 1) := by decide +kernel
theorem dX9_visits_22 : decode cX9_visits 22 = .ok (.getfield 19, 3) := by decide +kernel
theorem dX9_visits_25 : decode cX9_visits 25 = .ok (.bipush 9, 2) := by decide +kernel
theorem dX9_visits_27 : decode cX9_visits 27 = .ok (.iload_n 2, 1) := by decide +kernel
theorem dX9_visits_28 : decode cX9_visits 28 = .ok (.iadd, 1) := by decide +kernel
theorem dX9_visits_29 : decode cX9_visits 29 = .ok (.dup2, 1) := by decide +kernel
theorem dX9_visits_30 : decode cX9_visits 30 = .ok (.iaload, 1) := by decide +kernel
theorem dX9_visits_31 : decode cX9_visits 31 = .ok (.aload_n 0, 1) := by decide +kernel
theorem dX9_visits_32 : decode cX9_visits 32 = .ok (.getfield 7, 3) := by decide +kernel
theorem dX9_visits_35 : decode cX9_visits 35 = .ok (.iconst 4, 1) := by decide +kernel
theorem dX9_visits_36 : decode cX9_visits 36 = .ok (.aload_n 0, 1) := by decide +kernel
theorem dX9_visits_37 : decode cX9_visits 37 = .ok (.getfield 13, 3) := by decide +kernel
theorem dX9_visits_40 : decode cX9_visits 40 = .ok (.iload_n 1, 1) := by decide +kernel
theorem dX9_visits_41 : decode cX9_visits 41 = .ok (.iaload, 1) := by decide +kernel
theorem dX9_visits_42 : decode cX9_visits 42 = .ok (.imul, 1) := by decide +kernel
theorem dX9_visits_43 : decode cX9_visits 43 = .ok (.iload_n 2, 1) := by decide +kernel
theorem dX9_visits_44 : decode cX9_visits 44 = .ok (.iadd, 1) := by decide +kernel
theorem dX9_visits_45 : decode cX9_visits 45 = .ok (.iaload, 1) := by decide +kernel
theorem dX9_visits_46 : decode cX9_visits 46 = .ok (.iconst 1, 1) := by decide +kernel
theorem dX9_visits_47 : decode cX9_visits 47 = .ok (.if_icmp .ne 7, 3) := by decide +kernel
theorem dX9_visits_50 : decode cX9_visits 50 = .ok (.iconst 1, 1) := by decide +kernel
theorem dX9_visits_51 : decode cX9_visits 51 = .ok (.goto 4, 3) := by decide +kernel
theorem dX9_visits_54 : decode cX9_visits 54 = .ok (.iconst 0, 1) := by decide +kernel
theorem dX9_visits_55 : decode cX9_visits 55 = .ok (.iadd, 1) := by decide +kernel
theorem dX9_visits_56 : decode cX9_visits 56 = .ok (.iastore, 1) := by decide +kernel
theorem dX9_visits_57 : decode cX9_visits 57 = .ok (.aload_n 0, 1) := by decide +kernel
theorem dX9_visits_58 : decode cX9_visits 58 = .ok (.getfield 19, 3) := by decide +kernel
theorem dX9_visits_61 : decode cX9_visits 61 = .ok (.iconst 1, 1) := by decide +kernel
theorem dX9_visits_62 : decode cX9_visits 62 = .ok (.iload_n 2, 1) := by decide +kernel
theorem dX9_visits_63 : decode cX9_visits 63 = .ok (.iadd, 1) := by decide +kernel
theorem dX9_visits_64 : decode cX9_visits 64 = .ok (.iaload, 1) := by decide +kernel
theorem dX9_visits_65 : decode cX9_visits 65 = .ok (.ifCond .le 15, 3) := by decide +kernel
theorem dX9_visits_68 : decode cX9_visits 68 = .ok (.aload_n 0, 1) := by decide +kernel
theorem dX9_visits_69 : decode cX9_visits 69 = .ok (.getfield 19, 3) := by decide +kernel
theorem dX9_visits_72 : decode cX9_visits 72 = .ok (.iconst 1, 1) := by decide +kernel
theorem dX9_visits_73 : decode cX9_visits 73 = .ok (.iload_n 2, 1) := by decide +kernel
theorem dX9_visits_74 : decode cX9_visits 74 = .ok (.iadd, 1) := by decide +kernel
theorem dX9_visits_75 : decode cX9_visits 75 = .ok (.dup2, 1) := by decide +kernel
theorem dX9_visits_76 : decode cX9_visits 76 = .ok (.iaload, 1) := by decide +kernel
theorem dX9_visits_77 : decode cX9_visits 77 = .ok (.iconst 1, 1) := by decide +kernel
theorem dX9_visits_78 : decode cX9_visits 78 = .ok (.isub, 1) := by decide +kernel
theorem dX9_visits_79 : decode cX9_visits 79 = .ok (.iastore, 1) := by decide +kernel
theorem dX9_visits_80 : decode cX9_visits 80 = .ok (.iload_n 3, 1) := by decide +kernel
theorem dX9_visits_81 : decode cX9_visits 81 = .ok (.bipush (-9), 2) := by decide +kernel
theorem dX9_visits_83 : decode cX9_visits 83 = .ok (.if_icmp .eq 31, 3) := by decide +kernel
theorem dX9_visits_86 : decode cX9_visits 86 = .ok (.aload_n 0, 1) := by decide +kernel
theorem dX9_visits_87 : decode cX9_visits 87 = .ok (.getfield 19, 3) := by decide +kernel
theorem dX9_visits_90 : decode cX9_visits 90 = .ok (.bipush 13, 2) := by decide +kernel
theorem dX9_visits_92 : decode cX9_visits 92 = .ok (.iconst 5, 1) := by decide +kernel
theorem dX9_visits_93 : decode cX9_visits 93 = .ok (.iload_n 3, 1) := by decide +kernel
theorem dX9_visits_94 : decode cX9_visits 94 = .ok (.imul, 1) := by decide +kernel
theorem dX9_visits_95 : decode cX9_visits 95 = .ok (.iadd, 1) := by decide +kernel
theorem dX9_visits_96 : decode cX9_visits 96 = .ok (.iconst 1, 1) := by decide +kernel
theorem dX9_visits_97 : decode cX9_visits 97 = .ok (.iadd, 1) := by decide +kernel
theorem dX9_visits_98 : decode cX9_visits 98 = .ok (.iconst 1, 1) := by decide +kernel
theorem dX9_visits_99 : decode cX9_visits 99 = .ok (.iastore, 1) := by decide +kernel
theorem dX9_visits_100 : decode cX9_visits 100 = .ok (.aload_n 0, 1) := by decide +kernel
theorem dX9_visits_101 : decode cX9_visits 101 = .ok (.getfield 19, 3) := by decide +kernel
theorem dX9_visits_104 : decode cX9_visits 104 = .ok (.bipush 13, 2) := by decide +kernel
theorem dX9_visits_106 : decode cX9_visits 106 = .ok (.iconst 5, 1) := by decide +kernel
theorem dX9_visits_107 : decode cX9_visits 107 = .ok (.iload_n 3, 1) := by decide +kernel
theorem dX9_visits_108 : decode cX9_visits 108 = .ok (.imul, 1) := by decide +kernel
theorem dX9_visits_109 : decode cX9_visits 109 = .ok (.iadd, 1) := by decide +kernel
theorem dX9_visits_110 : decode cX9_visits 110 = .ok (.iconst 4, 1) := by decide +kernel
theorem dX9_visits_111 : decode cX9_visits 111 = .ok (.iadd, 1) := by decide +kernel
theorem dX9_visits_112 : decode cX9_visits 112 = .ok (.iload_n 1, 1) := by decide +kernel
theorem dX9_visits_113 : decode cX9_visits 113 = .ok (.iastore, 1) := by decide +kernel
theorem dX9_visits_114 : decode cX9_visits 114 = .ok (.iload_n 3, 1) := by decide +kernel
theorem dX9_visits_115 : decode cX9_visits 115 = .ok (.ireturn, 1) := by decide +kernel
theorem dX9_dawns_0 : decode cX9_dawns 0 = .ok (.iconst 0, 1) := by decide +kernel
theorem dX9_dawns_1 : decode cX9_dawns 1 = .ok (.istore_n 1, 1) := by decide +kernel
theorem dX9_dawns_2 : decode cX9_dawns 2 = .ok (.iconst 0, 1) := by decide +kernel
theorem dX9_dawns_3 : decode cX9_dawns 3 = .ok (.istore_n 2, 1) := by decide +kernel
theorem dX9_dawns_4 : decode cX9_dawns 4 = .ok (.iload_n 2, 1) := by decide +kernel
theorem dX9_dawns_5 : decode cX9_dawns 5 = .ok (.aload_n 0, 1) := by decide +kernel
theorem dX9_dawns_6 : decode cX9_dawns 6 = .ok (.getfield 80, 3) := by decide +kernel
theorem dX9_dawns_9 : decode cX9_dawns 9 = .ok (.if_icmp .ge 75, 3) := by decide +kernel
theorem dX9_dawns_12 : decode cX9_dawns 12 = .ok (.bipush 13, 2) := by decide +kernel
theorem dX9_dawns_14 : decode cX9_dawns 14 = .ok (.iconst 5, 1) := by decide +kernel
theorem dX9_dawns_15 : decode cX9_dawns 15 = .ok (.iload_n 2, 1) := by decide +kernel
theorem dX9_dawns_16 : decode cX9_dawns 16 = .ok (.imul, 1) := by decide +kernel
theorem dX9_dawns_17 : decode cX9_dawns 17 = .ok (.iadd, 1) := by decide +kernel
theorem dX9_dawns_18 : decode cX9_dawns 18 = .ok (.istore_n 3, 1) := by decide +kernel
theorem dX9_dawns_19 : decode cX9_dawns 19 = .ok (.iload_n 1, 1) := by decide +kernel
theorem dX9_dawns_20 : decode cX9_dawns 20 = .ok (.aload_n 0, 1) := by decide +kernel
theorem dX9_dawns_21 : decode cX9_dawns 21 = .ok (.getfield 19, 3) := by decide +kernel
theorem dX9_dawns_24 : decode cX9_dawns 24 = .ok (.iload_n 3, 1) := by decide +kernel
theorem dX9_dawns_25 : decode cX9_dawns 25 = .ok (.iconst 1, 1) := by decide +kernel
theorem dX9_dawns_26 : decode cX9_dawns 26 = .ok (.iadd, 1) := by decide +kernel
theorem dX9_dawns_27 : decode cX9_dawns 27 = .ok (.iaload, 1) := by decide +kernel
theorem dX9_dawns_28 : decode cX9_dawns 28 = .ok (.iconst 1, 1) := by decide +kernel
theorem dX9_dawns_29 : decode cX9_dawns 29 = .ok (.if_icmp .ne 9, 3) := by decide +kernel
theorem dX9_dawns_32 : decode cX9_dawns 32 = .ok (.iconst 1, 1) := by decide +kernel
theorem dX9_dawns_33 : decode cX9_dawns 33 = .ok (.iload_n 2, 1) := by decide +kernel
theorem dX9_dawns_34 : decode cX9_dawns 34 = .ok (.ishl, 1) := by decide +kernel
theorem dX9_dawns_35 : decode cX9_dawns 35 = .ok (.goto 4, 3) := by decide +kernel
theorem dX9_dawns_38 : decode cX9_dawns 38 = .ok (.iconst 0, 1) := by decide +kernel
theorem dX9_dawns_39 : decode cX9_dawns 39 = .ok (.ior, 1) := by decide +kernel
theorem dX9_dawns_40 : decode cX9_dawns 40 = .ok (.istore_n 1, 1) := by decide +kernel
theorem dX9_dawns_41 : decode cX9_dawns 41 = .ok (.aload_n 0, 1) := by decide +kernel
theorem dX9_dawns_42 : decode cX9_dawns 42 = .ok (.getfield 19, 3) := by decide +kernel
theorem dX9_dawns_45 : decode cX9_dawns 45 = .ok (.iload_n 3, 1) := by decide +kernel
theorem dX9_dawns_46 : decode cX9_dawns 46 = .ok (.iconst 0, 1) := by decide +kernel
theorem dX9_dawns_47 : decode cX9_dawns 47 = .ok (.iadd, 1) := by decide +kernel
theorem dX9_dawns_48 : decode cX9_dawns 48 = .ok (.dup2, 1) := by decide +kernel
theorem dX9_dawns_49 : decode cX9_dawns 49 = .ok (.iaload, 1) := by decide +kernel
theorem dX9_dawns_50 : decode cX9_dawns 50 = .ok (.aload_n 0, 1) := by decide +kernel
theorem dX9_dawns_51 : decode cX9_dawns 51 = .ok (.getfield 19, 3) := by decide +kernel
theorem dX9_dawns_54 : decode cX9_dawns 54 = .ok (.iload_n 3, 1) := by decide +kernel
theorem dX9_dawns_55 : decode cX9_dawns 55 = .ok (.iconst 1, 1) := by decide +kernel
theorem dX9_dawns_56 : decode cX9_dawns 56 = .ok (.iadd, 1) := by decide +kernel
theorem dX9_dawns_57 : decode cX9_dawns 57 = .ok (.iaload, 1) := by decide +kernel
theorem dX9_dawns_58 : decode cX9_dawns 58 = .ok (.ior, 1) := by decide +kernel
theorem dX9_dawns_59 : decode cX9_dawns 59 = .ok (.iastore, 1) := by decide +kernel
theorem dX9_dawns_60 : decode cX9_dawns 60 = .ok (.aload_n 0, 1) := by decide +kernel
theorem dX9_dawns_61 : decode cX9_dawns 61 = .ok (.getfield 19, 3) := by decide +kernel
theorem dX9_dawns_64 : decode cX9_dawns 64 = .ok (.iload_n 3, 1) := by decide +kernel
theorem dX9_dawns_65 : decode cX9_dawns 65 = .ok (.iconst 1, 1) := by decide +kernel
theorem dX9_dawns_66 : decode cX9_dawns 66 = .ok (.iadd, 1) := by decide +kernel
theorem dX9_dawns_67 : decode cX9_dawns 67 = .ok (.iconst 0, 1) := by decide +kernel
theorem dX9_dawns_68 : decode cX9_dawns 68 = .ok (.iastore, 1) := by decide +kernel
theorem dX9_dawns_69 : decode cX9_dawns 69 = .ok (.aload_n 0, 1) := by decide +kernel
theorem dX9_dawns_70 : decode cX9_dawns 70 = .ok (.getfield 19, 3) := by decide +kernel
theorem dX9_dawns_73 : decode cX9_dawns 73 = .ok (.iload_n 3, 1) := by decide +kernel
theorem dX9_dawns_74 : decode cX9_dawns 74 = .ok (.iconst 3, 1) := by decide +kernel
theorem dX9_dawns_75 : decode cX9_dawns 75 = .ok (.iadd, 1) := by decide +kernel
theorem dX9_dawns_76 : decode cX9_dawns 76 = .ok (.iconst 0, 1) := by decide +kernel
theorem dX9_dawns_77 : decode cX9_dawns 77 = .ok (.iastore, 1) := by decide +kernel
theorem dX9_dawns_78 : decode cX9_dawns 78 = .ok (.iinc 2 1, 3) := by decide +kernel
theorem dX9_dawns_81 : decode cX9_dawns 81 = .ok (.goto (-77), 3) := by decide +kernel
theorem dX9_dawns_84 : decode cX9_dawns 84 = .ok (.iconst 0, 1) := by decide +kernel
theorem dX9_dawns_85 : decode cX9_dawns 85 = .ok (.istore_n 2, 1) := by decide +kernel
theorem dX9_dawns_86 : decode cX9_dawns 86 = .ok (.iload_n 2, 1) := by decide +kernel
theorem dX9_dawns_87 : decode cX9_dawns 87 = .ok (.iconst 4, 1) := by decide +kernel
theorem dX9_dawns_88 : decode cX9_dawns 88 = .ok (.if_icmp .ge 19, 3) := by decide +kernel
theorem dX9_dawns_91 : decode cX9_dawns 91 = .ok (.aload_n 0, 1) := by decide +kernel
theorem dX9_dawns_92 : decode cX9_dawns 92 = .ok (.getfield 19, 3) := by decide +kernel
theorem dX9_dawns_95 : decode cX9_dawns 95 = .ok (.bipush 9, 2) := by decide +kernel
theorem dX9_dawns_97 : decode cX9_dawns 97 = .ok (.iload_n 2, 1) := by decide +kernel
theorem dX9_dawns_98 : decode cX9_dawns 98 = .ok (.iadd, 1) := by decide +kernel
theorem dX9_dawns_99 : decode cX9_dawns 99 = .ok (.iconst 0, 1) := by decide +kernel
theorem dX9_dawns_100 : decode cX9_dawns 100 = .ok (.iastore, 1) := by decide +kernel
theorem dX9_dawns_101 : decode cX9_dawns 101 = .ok (.iinc 2 1, 3) := by decide +kernel
theorem dX9_dawns_104 : decode cX9_dawns 104 = .ok (.goto (-18), 3) := by decide +kernel
theorem dX9_dawns_107 : decode cX9_dawns 107 = .ok (.aload_n 0, 1) := by decide +kernel
theorem dX9_dawns_108 : decode cX9_dawns 108 = .ok (.getfield 19, 3) := by decide +kernel
theorem dX9_dawns_111 : decode cX9_dawns 111 = .ok (.iconst 0, 1) := by decide +kernel
theorem dX9_dawns_112 : decode cX9_dawns 112 = .ok (.dup2, 1) := by decide +kernel
theorem dX9_dawns_113 : decode cX9_dawns 113 = .ok (.iaload, 1) := by decide +kernel
theorem dX9_dawns_114 : decode cX9_dawns 114 = .ok (.iconst 1, 1) := by decide +kernel
theorem dX9_dawns_115 : decode cX9_dawns 115 = .ok (.iadd, 1) := by decide +kernel
theorem dX9_dawns_116 : decode cX9_dawns 116 = .ok (.iastore, 1) := by decide +kernel
theorem dX9_dawns_117 : decode cX9_dawns 117 = .ok (.iload_n 1, 1) := by decide +kernel
theorem dX9_dawns_118 : decode cX9_dawns 118 = .ok (.ireturn, 1) := by decide +kernel
theorem dX9_visit_0 : decode cX9_visit 0 = .ok (.aload_n 0, 1) := by decide +kernel
theorem dX9_visit_1 : decode cX9_visit 1 = .ok (.iconst 0, 1) := by decide +kernel
theorem dX9_visit_2 : decode cX9_visit 2 = .ok (.putfield 69, 3) := by decide +kernel
theorem dX9_visit_5 : decode cX9_visit 5 = .ok (.aload_n 0, 1) := by decide +kernel
theorem dX9_visit_6 : decode cX9_visit 6 = .ok (.iload_n 1, 1) := by decide +kernel
theorem dX9_visit_7 : decode cX9_visit 7 = .ok (.invokevirtual 168, 3) := by decide +kernel
theorem dX9_visit_10 : decode cX9_visit 10 = .ok (.ifCond .ne 11, 3) := by decide +kernel
theorem dX9_visit_13 : decode cX9_visit 13 = .ok (.aload_n 0, 1) := by decide +kernel
theorem dX9_visit_14 : decode cX9_visit 14 = .ok (.iload_n 2, 1) := by decide +kernel
theorem dX9_visit_15 : decode cX9_visit 15 = .ok (.invokevirtual 162, 3) := by decide +kernel
theorem dX9_visit_18 : decode cX9_visit 18 = .ok (.ifCond .eq 5, 3) := by decide +kernel
theorem dX9_visit_21 : decode cX9_visit 21 = .ok (.iconst (-1), 1) := by decide +kernel
theorem dX9_visit_22 : decode cX9_visit 22 = .ok (.ireturn, 1) := by decide +kernel
theorem dX9_visit_23 : decode cX9_visit 23 = .ok (.aload_n 0, 1) := by decide +kernel
theorem dX9_visit_24 : decode cX9_visit 24 = .ok (.iload_n 1, 1) := by decide +kernel
theorem dX9_visit_25 : decode cX9_visit 25 = .ok (.invokevirtual 178, 3) := by decide +kernel
theorem dX9_visit_28 : decode cX9_visit 28 = .ok (.iload_n 2, 1) := by decide +kernel
theorem dX9_visit_29 : decode cX9_visit 29 = .ok (.invokestatic 127, 3) := by decide +kernel
theorem dX9_visit_32 : decode cX9_visit 32 = .ok (.ifCond .ne 6, 3) := by decide +kernel
theorem dX9_visit_35 : decode cX9_visit 35 = .ok (.bipush (-3), 2) := by decide +kernel
theorem dX9_visit_37 : decode cX9_visit 37 = .ok (.ireturn, 1) := by decide +kernel
theorem dX9_visit_38 : decode cX9_visit 38 = .ok (.aload_n 0, 1) := by decide +kernel
theorem dX9_visit_39 : decode cX9_visit 39 = .ok (.invokevirtual 184, 3) := by decide +kernel
theorem dX9_visit_42 : decode cX9_visit 42 = .ok (.aload_n 0, 1) := by decide +kernel
theorem dX9_visit_43 : decode cX9_visit 43 = .ok (.iload_n 1, 1) := by decide +kernel
theorem dX9_visit_44 : decode cX9_visit 44 = .ok (.iload_n 2, 1) := by decide +kernel
theorem dX9_visit_45 : decode cX9_visit 45 = .ok (.invokevirtual 187, 3) := by decide +kernel
theorem dX9_visit_48 : decode cX9_visit 48 = .ok (.ireturn, 1) := by decide +kernel
theorem dX9_dawn_0 : decode cX9_dawn 0 = .ok (.aload_n 0, 1) := by decide +kernel
theorem dX9_dawn_1 : decode cX9_dawn 1 = .ok (.iconst 0, 1) := by decide +kernel
theorem dX9_dawn_2 : decode cX9_dawn 2 = .ok (.putfield 69, 3) := by decide +kernel
theorem dX9_dawn_5 : decode cX9_dawn 5 = .ok (.aload_n 0, 1) := by decide +kernel
theorem dX9_dawn_6 : decode cX9_dawn 6 = .ok (.invokevirtual 184, 3) := by decide +kernel
theorem dX9_dawn_9 : decode cX9_dawn 9 = .ok (.aload_n 0, 1) := by decide +kernel
theorem dX9_dawn_10 : decode cX9_dawn 10 = .ok (.invokevirtual 190, 3) := by decide +kernel
theorem dX9_dawn_13 : decode cX9_dawn 13 = .ok (.ireturn, 1) := by decide +kernel
theorem dX9_hang_0 : decode cX9_hang 0 = .ok (.aload_n 0, 1) := by decide +kernel
theorem dX9_hang_1 : decode cX9_hang 1 = .ok (.iconst 0, 1) := by decide +kernel
theorem dX9_hang_2 : decode cX9_hang 2 = .ok (.putfield 69, 3) := by decide +kernel
theorem dX9_hang_5 : decode cX9_hang 5 = .ok (.aload_n 0, 1) := by decide +kernel
theorem dX9_hang_6 : decode cX9_hang 6 = .ok (.iload_n 1, 1) := by decide +kernel
theorem dX9_hang_7 : decode cX9_hang 7 = .ok (.invokevirtual 168, 3) := by decide +kernel
theorem dX9_hang_10 : decode cX9_hang 10 = .ok (.ifCond .eq 5, 3) := by decide +kernel
theorem dX9_hang_13 : decode cX9_hang 13 = .ok (.iconst (-1), 1) := by decide +kernel
theorem dX9_hang_14 : decode cX9_hang 14 = .ok (.ireturn, 1) := by decide +kernel
theorem dX9_hang_15 : decode cX9_hang 15 = .ok (.aload_n 0, 1) := by decide +kernel
theorem dX9_hang_16 : decode cX9_hang 16 = .ok (.iload_n 1, 1) := by decide +kernel
theorem dX9_hang_17 : decode cX9_hang 17 = .ok (.invokevirtual 87, 3) := by decide +kernel
theorem dX9_hang_20 : decode cX9_hang 20 = .ok (.ifCond .ne 6, 3) := by decide +kernel
theorem dX9_hang_23 : decode cX9_hang 23 = .ok (.bipush (-3), 2) := by decide +kernel
theorem dX9_hang_25 : decode cX9_hang 25 = .ok (.ireturn, 1) := by decide +kernel
theorem dX9_hang_26 : decode cX9_hang 26 = .ok (.aload_n 0, 1) := by decide +kernel
theorem dX9_hang_27 : decode cX9_hang 27 = .ok (.invokevirtual 184, 3) := by decide +kernel
theorem dX9_hang_30 : decode cX9_hang 30 = .ok (.aload_n 0, 1) := by decide +kernel
theorem dX9_hang_31 : decode cX9_hang 31 = .ok (.getfield 19, 3) := by decide +kernel
theorem dX9_hang_34 : decode cX9_hang 34 = .ok (.bipush 13, 2) := by decide +kernel
theorem dX9_hang_36 : decode cX9_hang 36 = .ok (.iconst 5, 1) := by decide +kernel
theorem dX9_hang_37 : decode cX9_hang 37 = .ok (.iload_n 1, 1) := by decide +kernel
theorem dX9_hang_38 : decode cX9_hang 38 = .ok (.imul, 1) := by decide +kernel
theorem dX9_hang_39 : decode cX9_hang 39 = .ok (.iadd, 1) := by decide +kernel
theorem dX9_hang_40 : decode cX9_hang 40 = .ok (.iconst 2, 1) := by decide +kernel
theorem dX9_hang_41 : decode cX9_hang 41 = .ok (.iadd, 1) := by decide +kernel
theorem dX9_hang_42 : decode cX9_hang 42 = .ok (.iconst 1, 1) := by decide +kernel
theorem dX9_hang_43 : decode cX9_hang 43 = .ok (.iastore, 1) := by decide +kernel
theorem dX9_hang_44 : decode cX9_hang 44 = .ok (.aload_n 0, 1) := by decide +kernel
theorem dX9_hang_45 : decode cX9_hang 45 = .ok (.iload_n 1, 1) := by decide +kernel
theorem dX9_hang_46 : decode cX9_hang 46 = .ok (.iconst 0, 1) := by decide +kernel
theorem dX9_hang_47 : decode cX9_hang 47 = .ok (.invokevirtual 83, 3) := by decide +kernel
theorem dX9_hang_50 : decode cX9_hang 50 = .ok (.ireturn, 1) := by decide +kernel
theorem dX9_bolt_0 : decode cX9_bolt 0 = .ok (.aload_n 0, 1) := by decide +kernel
theorem dX9_bolt_1 : decode cX9_bolt 1 = .ok (.iconst 0, 1) := by decide +kernel
theorem dX9_bolt_2 : decode cX9_bolt 2 = .ok (.putfield 69, 3) := by decide +kernel
theorem dX9_bolt_5 : decode cX9_bolt 5 = .ok (.aload_n 0, 1) := by decide +kernel
theorem dX9_bolt_6 : decode cX9_bolt 6 = .ok (.iload_n 1, 1) := by decide +kernel
theorem dX9_bolt_7 : decode cX9_bolt 7 = .ok (.invokevirtual 162, 3) := by decide +kernel
theorem dX9_bolt_10 : decode cX9_bolt 10 = .ok (.ifCond .eq 5, 3) := by decide +kernel
theorem dX9_bolt_13 : decode cX9_bolt 13 = .ok (.iconst (-1), 1) := by decide +kernel
theorem dX9_bolt_14 : decode cX9_bolt 14 = .ok (.ireturn, 1) := by decide +kernel
theorem dX9_bolt_15 : decode cX9_bolt 15 = .ok (.iload_n 2, 1) := by decide +kernel
theorem dX9_bolt_16 : decode cX9_bolt 16 = .ok (.i2l, 1) := by decide +kernel
theorem dX9_bolt_17 : decode cX9_bolt 17 = .ok (.lconst 0, 1) := by decide +kernel
theorem dX9_bolt_18 : decode cX9_bolt 18 = .ok (.ldc2_w 193, 3) := by decide +kernel
theorem dX9_bolt_21 : decode cX9_bolt 21 = .ok (.invokestatic 76, 3) := by decide +kernel
theorem dX9_bolt_24 : decode cX9_bolt 24 = .ok (.ifCond .ne 6, 3) := by decide +kernel
theorem dX9_bolt_27 : decode cX9_bolt 27 = .ok (.bipush (-2), 2) := by decide +kernel
theorem dX9_bolt_29 : decode cX9_bolt 29 = .ok (.ireturn, 1) := by decide +kernel
theorem dX9_bolt_30 : decode cX9_bolt 30 = .ok (.aload_n 0, 1) := by decide +kernel
theorem dX9_bolt_31 : decode cX9_bolt 31 = .ok (.getfield 19, 3) := by decide +kernel
theorem dX9_bolt_34 : decode cX9_bolt 34 = .ok (.iconst 5, 1) := by decide +kernel
theorem dX9_bolt_35 : decode cX9_bolt 35 = .ok (.iload_n 1, 1) := by decide +kernel
theorem dX9_bolt_36 : decode cX9_bolt 36 = .ok (.iadd, 1) := by decide +kernel
theorem dX9_bolt_37 : decode cX9_bolt 37 = .ok (.iaload, 1) := by decide +kernel
theorem dX9_bolt_38 : decode cX9_bolt 38 = .ok (.istore_n 3, 1) := by decide +kernel
theorem dX9_bolt_39 : decode cX9_bolt 39 = .ok (.iload_n 3, 1) := by decide +kernel
theorem dX9_bolt_40 : decode cX9_bolt 40 = .ok (.iload_n 2, 1) := by decide +kernel
theorem dX9_bolt_41 : decode cX9_bolt 41 = .ok (.if_icmp .ne 6, 3) := by decide +kernel
theorem dX9_bolt_44 : decode cX9_bolt 44 = .ok (.bipush (-3), 2) := by decide +kernel
theorem dX9_bolt_46 : decode cX9_bolt 46 = .ok (.ireturn, 1) := by decide +kernel
theorem dX9_bolt_47 : decode cX9_bolt 47 = .ok (.aload_n 0, 1) := by decide +kernel
theorem dX9_bolt_48 : decode cX9_bolt 48 = .ok (.invokevirtual 184, 3) := by decide +kernel
theorem dX9_bolt_51 : decode cX9_bolt 51 = .ok (.aload_n 0, 1) := by decide +kernel
theorem dX9_bolt_52 : decode cX9_bolt 52 = .ok (.getfield 19, 3) := by decide +kernel
theorem dX9_bolt_55 : decode cX9_bolt 55 = .ok (.iconst 5, 1) := by decide +kernel
theorem dX9_bolt_56 : decode cX9_bolt 56 = .ok (.iload_n 1, 1) := by decide +kernel
theorem dX9_bolt_57 : decode cX9_bolt 57 = .ok (.iadd, 1) := by decide +kernel
theorem dX9_bolt_58 : decode cX9_bolt 58 = .ok (.iload_n 2, 1) := by decide +kernel
theorem dX9_bolt_59 : decode cX9_bolt 59 = .ok (.iastore, 1) := by decide +kernel
theorem dX9_bolt_60 : decode cX9_bolt 60 = .ok (.iload_n 3, 1) := by decide +kernel
theorem dX9_bolt_61 : decode cX9_bolt 61 = .ok (.ireturn, 1) := by decide +kernel
theorem dX9_undo_0 : decode cX9_undo 0 = .ok (.aload_n 0, 1) := by decide +kernel
theorem dX9_undo_1 : decode cX9_undo 1 = .ok (.iconst 0, 1) := by decide +kernel
theorem dX9_undo_2 : decode cX9_undo 2 = .ok (.putfield 69, 3) := by decide +kernel
theorem dX9_undo_5 : decode cX9_undo 5 = .ok (.aload_n 0, 1) := by decide +kernel
theorem dX9_undo_6 : decode cX9_undo 6 = .ok (.getfield 159, 3) := by decide +kernel
theorem dX9_undo_9 : decode cX9_undo 9 = .ok (.ifCond .ne 6, 3) := by decide +kernel
theorem dX9_undo_12 : decode cX9_undo 12 = .ok (.bipush (-3), 2) := by decide +kernel
theorem dX9_undo_14 : decode cX9_undo 14 = .ok (.ireturn, 1) := by decide +kernel
theorem dX9_undo_15 : decode cX9_undo 15 = .ok (.aload_n 0, 1) := by decide +kernel
theorem dX9_undo_16 : decode cX9_undo 16 = .ok (.dup, 1) := by decide +kernel
theorem dX9_undo_17 : decode cX9_undo 17 = .ok (.getfield 159, 3) := by decide +kernel
theorem dX9_undo_20 : decode cX9_undo 20 = .ok (.iconst 1, 1) := by decide +kernel
theorem dX9_undo_21 : decode cX9_undo 21 = .ok (.isub, 1) := by decide +kernel
theorem dX9_undo_22 : decode cX9_undo 22 = .ok (.putfield 159, 3) := by decide +kernel
theorem dX9_undo_25 : decode cX9_undo 25 = .ok (.iconst 0, 1) := by decide +kernel
theorem dX9_undo_26 : decode cX9_undo 26 = .ok (.istore_n 1, 1) := by decide +kernel
theorem dX9_undo_27 : decode cX9_undo 27 = .ok (.iload_n 1, 1) := by decide +kernel
theorem dX9_undo_28 : decode cX9_undo 28 = .ok (.bipush 43, 2) := by decide +kernel
theorem dX9_undo_30 : decode cX9_undo 30 = .ok (.if_icmp .ge 29, 3) := by decide +kernel
theorem dX9_undo_33 : decode cX9_undo 33 = .ok (.aload_n 0, 1) := by decide +kernel
theorem dX9_undo_34 : decode cX9_undo 34 = .ok (.getfield 19, 3) := by decide +kernel
theorem dX9_undo_37 : decode cX9_undo 37 = .ok (.iload_n 1, 1) := by decide +kernel
theorem dX9_undo_38 : decode cX9_undo 38 = .ok (.aload_n 0, 1) := by decide +kernel
theorem dX9_undo_39 : decode cX9_undo 39 = .ok (.getfield 22, 3) := by decide +kernel
theorem dX9_undo_42 : decode cX9_undo 42 = .ok (.bipush 43, 2) := by decide +kernel
theorem dX9_undo_44 : decode cX9_undo 44 = .ok (.aload_n 0, 1) := by decide +kernel
theorem dX9_undo_45 : decode cX9_undo 45 = .ok (.getfield 159, 3) := by decide +kernel
theorem dX9_undo_48 : decode cX9_undo 48 = .ok (.imul, 1) := by decide +kernel
theorem dX9_undo_49 : decode cX9_undo 49 = .ok (.iload_n 1, 1) := by decide +kernel
theorem dX9_undo_50 : decode cX9_undo 50 = .ok (.iadd, 1) := by decide +kernel
theorem dX9_undo_51 : decode cX9_undo 51 = .ok (.iaload, 1) := by decide +kernel
theorem dX9_undo_52 : decode cX9_undo 52 = .ok (.iastore, 1) := by decide +kernel
theorem dX9_undo_53 : decode cX9_undo 53 = .ok (.iinc 1 1, 3) := by decide +kernel
theorem dX9_undo_56 : decode cX9_undo 56 = .ok (.goto (-29), 3) := by decide +kernel
theorem dX9_undo_59 : decode cX9_undo 59 = .ok (.aload_n 0, 1) := by decide +kernel
theorem dX9_undo_60 : decode cX9_undo 60 = .ok (.getfield 159, 3) := by decide +kernel
theorem dX9_undo_63 : decode cX9_undo 63 = .ok (.ireturn, 1) := by decide +kernel
theorem dX9_judge_0 : decode cX9_judge 0 = .ok (.aload_n 0, 1) := by decide +kernel
theorem dX9_judge_1 : decode cX9_judge 1 = .ok (.iconst 0, 1) := by decide +kernel
theorem dX9_judge_2 : decode cX9_judge 2 = .ok (.putfield 69, 3) := by decide +kernel
theorem dX9_judge_5 : decode cX9_judge 5 = .ok (.iconst 1, 1) := by decide +kernel
theorem dX9_judge_6 : decode cX9_judge 6 = .ok (.istore_n 3, 1) := by decide +kernel
theorem dX9_judge_7 : decode cX9_judge 7 = .ok (.iconst 0, 1) := by decide +kernel
theorem dX9_judge_8 : decode cX9_judge 8 = .ok (.istore 4, 2) := by decide +kernel
theorem dX9_judge_10 : decode cX9_judge 10 = .ok (.iload 4, 2) := by decide +kernel
theorem dX9_judge_12 : decode cX9_judge 12 = .ok (.iload_n 1, 1) := by decide +kernel
theorem dX9_judge_13 : decode cX9_judge 13 = .ok (.if_icmp .ge 26, 3) := by decide +kernel
theorem dX9_judge_16 : decode cX9_judge 16 = .ok (.iload_n 1, 1) := by decide +kernel
theorem dX9_judge_17 : decode cX9_judge 17 = .ok (.i2l, 1) := by decide +kernel
theorem dX9_judge_18 : decode cX9_judge 18 = .ok (.lconst 1, 1) := by decide +kernel
theorem dX9_judge_19 : decode cX9_judge 19 = .ok (.ldc2_w 195, 3) := by decide +kernel
theorem dX9_judge_22 : decode cX9_judge 22 = .ok (.invokestatic 76, 3) := by decide +kernel
theorem dX9_judge_25 : decode cX9_judge 25 = .ok (.ifCond .eq 14, 3) := by decide +kernel
theorem dX9_judge_28 : decode cX9_judge 28 = .ok (.iload_n 3, 1) := by decide +kernel
theorem dX9_judge_29 : decode cX9_judge 29 = .ok (.bipush 100, 2) := by decide +kernel
theorem dX9_judge_31 : decode cX9_judge 31 = .ok (.imul, 1) := by decide +kernel
theorem dX9_judge_32 : decode cX9_judge 32 = .ok (.istore_n 3, 1) := by decide +kernel
theorem dX9_judge_33 : decode cX9_judge 33 = .ok (.iinc 4 1, 3) := by decide +kernel
theorem dX9_judge_36 : decode cX9_judge 36 = .ok (.goto (-26), 3) := by decide +kernel
theorem dX9_judge_39 : decode cX9_judge 39 = .ok (.iload_n 1, 1) := by decide +kernel
theorem dX9_judge_40 : decode cX9_judge 40 = .ok (.i2l, 1) := by decide +kernel
theorem dX9_judge_41 : decode cX9_judge 41 = .ok (.lconst 1, 1) := by decide +kernel
theorem dX9_judge_42 : decode cX9_judge 42 = .ok (.ldc2_w 195, 3) := by decide +kernel
theorem dX9_judge_45 : decode cX9_judge 45 = .ok (.invokestatic 76, 3) := by decide +kernel
theorem dX9_judge_48 : decode cX9_judge 48 = .ok (.ifCond .eq 16, 3) := by decide +kernel
theorem dX9_judge_51 : decode cX9_judge 51 = .ok (.iload_n 2, 1) := by decide +kernel
theorem dX9_judge_52 : decode cX9_judge 52 = .ok (.i2l, 1) := by decide +kernel
theorem dX9_judge_53 : decode cX9_judge 53 = .ok (.lconst 0, 1) := by decide +kernel
theorem dX9_judge_54 : decode cX9_judge 54 = .ok (.iload_n 3, 1) := by decide +kernel
theorem dX9_judge_55 : decode cX9_judge 55 = .ok (.iconst 1, 1) := by decide +kernel
theorem dX9_judge_56 : decode cX9_judge 56 = .ok (.isub, 1) := by decide +kernel
theorem dX9_judge_57 : decode cX9_judge 57 = .ok (.i2l, 1) := by decide +kernel
theorem dX9_judge_58 : decode cX9_judge 58 = .ok (.invokestatic 76, 3) := by decide +kernel
theorem dX9_judge_61 : decode cX9_judge 61 = .ok (.ifCond .ne 6, 3) := by decide +kernel
theorem dX9_judge_64 : decode cX9_judge 64 = .ok (.bipush (-2), 2) := by decide +kernel
theorem dX9_judge_66 : decode cX9_judge 66 = .ok (.ireturn, 1) := by decide +kernel
theorem dX9_judge_67 : decode cX9_judge 67 = .ok (.iconst 0, 1) := by decide +kernel
theorem dX9_judge_68 : decode cX9_judge 68 = .ok (.istore 4, 2) := by decide +kernel
theorem dX9_judge_70 : decode cX9_judge 70 = .ok (.iload_n 2, 1) := by decide +kernel
theorem dX9_judge_71 : decode cX9_judge 71 = .ok (.istore 5, 2) := by decide +kernel
theorem dX9_judge_73 : decode cX9_judge 73 = .ok (.iconst 0, 1) := by decide +kernel
theorem dX9_judge_74 : decode cX9_judge 74 = .ok (.istore 6, 2) := by decide +kernel
theorem dX9_judge_76 : decode cX9_judge 76 = .ok (.iload 6, 2) := by decide +kernel
theorem dX9_judge_78 : decode cX9_judge 78 = .ok (.iload_n 1, 1) := by decide +kernel
theorem dX9_judge_79 : decode cX9_judge 79 = .ok (.if_icmp .ge 92, 3) := by decide +kernel
theorem dX9_judge_82 : decode cX9_judge 82 = .ok (.iload_n 3, 1) := by decide +kernel
theorem dX9_judge_83 : decode cX9_judge 83 = .ok (.bipush 100, 2) := by decide +kernel
theorem dX9_judge_85 : decode cX9_judge 85 = .ok (.idiv, 1) := by decide +kernel
theorem dX9_judge_86 : decode cX9_judge 86 = .ok (.istore_n 3, 1) := by decide +kernel
theorem dX9_judge_87 : decode cX9_judge 87 = .ok (.iload 5, 2) := by decide +kernel
theorem dX9_judge_89 : decode cX9_judge 89 = .ok (.iload_n 3, 1) := by decide +kernel
theorem dX9_judge_90 : decode cX9_judge 90 = .ok (.idiv, 1) := by decide +kernel
theorem dX9_judge_91 : decode cX9_judge 91 = .ok (.bipush 10, 2) := by decide +kernel
theorem dX9_judge_93 : decode cX9_judge 93 = .ok (.idiv, 1) := by decide +kernel
theorem dX9_judge_94 : decode cX9_judge 94 = .ok (.istore 7, 2) := by decide +kernel
theorem dX9_judge_96 : decode cX9_judge 96 = .ok (.iload 5, 2) := by decide +kernel
theorem dX9_judge_98 : decode cX9_judge 98 = .ok (.iload_n 3, 1) := by decide +kernel
theorem dX9_judge_99 : decode cX9_judge 99 = .ok (.idiv, 1) := by decide +kernel
theorem dX9_judge_100 : decode cX9_judge 100 = .ok (.bipush 10, 2) := by decide +kernel
theorem dX9_judge_102 : decode cX9_judge 102 = .ok (.irem, 1) := by decide +kernel
theorem dX9_judge_103 : decode cX9_judge 103 = .ok (.istore 8, 2) := by decide +kernel
theorem dX9_judge_105 : decode cX9_judge 105 = .ok (.iload 5, 2) := by decide +kernel
theorem dX9_judge_107 : decode cX9_judge 107 = .ok (.iload_n 3, 1) := by decide +kernel
theorem dX9_judge_108 : decode cX9_judge 108 = .ok (.irem, 1) := by decide +kernel
theorem dX9_judge_109 : decode cX9_judge 109 = .ok (.istore 5, 2) := by decide +kernel
theorem dX9_judge_111 : decode cX9_judge 111 = .ok (.aload_n 0, 1) := by decide +kernel
theorem dX9_judge_112 : decode cX9_judge 112 = .ok (.iload 7, 2) := by decide +kernel
theorem dX9_judge_114 : decode cX9_judge 114 = .ok (.invokevirtual 168, 3) := by decide +kernel
theorem dX9_judge_117 : decode cX9_judge 117 = .ok (.ifCond .ne 36, 3) := by decide +kernel
theorem dX9_judge_120 : decode cX9_judge 120 = .ok (.aload_n 0, 1) := by decide +kernel
theorem dX9_judge_121 : decode cX9_judge 121 = .ok (.iload 8, 2) := by decide +kernel
theorem dX9_judge_123 : decode cX9_judge 123 = .ok (.invokevirtual 162, 3) := by decide +kernel
theorem dX9_judge_126 : decode cX9_judge 126 = .ok (.ifCond .ne 27, 3) := by decide +kernel
theorem dX9_judge_129 : decode cX9_judge 129 = .ok (.iload 4, 2) := by decide +kernel
theorem dX9_judge_131 : decode cX9_judge 131 = .ok (.iload 7, 2) := by decide +kernel
theorem dX9_judge_133 : decode cX9_judge 133 = .ok (.invokestatic 127, 3) := by decide +kernel
theorem dX9_judge_136 : decode cX9_judge 136 = .ok (.ifCond .ne 17, 3) := by decide +kernel
theorem dX9_judge_139 : decode cX9_judge 139 = .ok (.aload_n 0, 1) := by decide +kernel
theorem dX9_judge_140 : decode cX9_judge 140 = .ok (.iload 7, 2) := by decide +kernel
theorem dX9_judge_142 : decode cX9_judge 142 = .ok (.invokevirtual 178, 3) := by decide +kernel
theorem dX9_judge_145 : decode cX9_judge 145 = .ok (.iload 8, 2) := by decide +kernel
theorem dX9_judge_147 : decode cX9_judge 147 = .ok (.invokestatic 127, 3) := by decide +kernel
theorem dX9_judge_150 : decode cX9_judge 150 = .ok (.ifCond .ne 6, 3) := by decide +kernel
theorem dX9_judge_153 : decode cX9_judge 153 = .ok (.iload 6, 2) := by decide +kernel
theorem dX9_judge_155 : decode cX9_judge 155 = .ok (.ireturn, 1) := by decide +kernel
theorem dX9_judge_156 : decode cX9_judge 156 = .ok (.iload 4, 2) := by decide +kernel
theorem dX9_judge_158 : decode cX9_judge 158 = .ok (.iconst 1, 1) := by decide +kernel
theorem dX9_judge_159 : decode cX9_judge 159 = .ok (.iload 7, 2) := by decide +kernel
theorem dX9_judge_161 : decode cX9_judge 161 = .ok (.ishl, 1) := by decide +kernel
theorem dX9_judge_162 : decode cX9_judge 162 = .ok (.ior, 1) := by decide +kernel
theorem dX9_judge_163 : decode cX9_judge 163 = .ok (.istore 4, 2) := by decide +kernel
theorem dX9_judge_165 : decode cX9_judge 165 = .ok (.iinc 6 1, 3) := by decide +kernel
theorem dX9_judge_168 : decode cX9_judge 168 = .ok (.goto (-92), 3) := by decide +kernel
theorem dX9_judge_171 : decode cX9_judge 171 = .ok (.bipush (-9), 2) := by decide +kernel
theorem dX9_judge_173 : decode cX9_judge 173 = .ok (.ireturn, 1) := by decide +kernel
theorem dX9_lineOf_0 : decode cX9_lineOf 0 = .ok (.iconst 0, 1) := by decide +kernel
theorem dX9_lineOf_1 : decode cX9_lineOf 1 = .ok (.istore_n 2, 1) := by decide +kernel
theorem dX9_lineOf_2 : decode cX9_lineOf 2 = .ok (.iload_n 1, 1) := by decide +kernel
theorem dX9_lineOf_3 : decode cX9_lineOf 3 = .ok (.istore_n 3, 1) := by decide +kernel
theorem dX9_lineOf_4 : decode cX9_lineOf 4 = .ok (.aload_n 0, 1) := by decide +kernel
theorem dX9_lineOf_5 : decode cX9_lineOf 5 = .ok (.iload_n 3, 1) := by decide +kernel
theorem dX9_lineOf_6 : decode cX9_lineOf 6 = .ok (.iconst 4, 1) := by decide +kernel
theorem dX9_lineOf_7 : decode cX9_lineOf 7 = .ok (.invokevirtual 83, 3) := by decide +kernel
theorem dX9_lineOf_10 : decode cX9_lineOf 10 = .ok (.bipush (-9), 2) := by decide +kernel
theorem dX9_lineOf_12 : decode cX9_lineOf 12 = .ok (.if_icmp .eq 16, 3) := by decide +kernel
theorem dX9_lineOf_15 : decode cX9_lineOf 15 = .ok (.iinc 2 1, 3) := by decide +kernel
theorem dX9_lineOf_18 : decode cX9_lineOf 18 = .ok (.aload_n 0, 1) := by decide +kernel
theorem dX9_lineOf_19 : decode cX9_lineOf 19 = .ok (.iload_n 3, 1) := by decide +kernel
theorem dX9_lineOf_20 : decode cX9_lineOf 20 = .ok (.iconst 4, 1) := by decide +kernel
theorem dX9_lineOf_21 : decode cX9_lineOf 21 = .ok (.invokevirtual 83, 3) := by decide +kernel
theorem dX9_lineOf_24 : decode cX9_lineOf 24 = .ok (.istore_n 3, 1) := by decide +kernel
theorem dX9_lineOf_25 : decode cX9_lineOf 25 = .ok (.goto (-21), 3) := by decide +kernel
theorem dX9_lineOf_28 : decode cX9_lineOf 28 = .ok (.iload_n 2, 1) := by decide +kernel
theorem dX9_lineOf_29 : decode cX9_lineOf 29 = .ok (.ireturn, 1) := by decide +kernel
theorem dX9_firstOf_0 : decode cX9_firstOf 0 = .ok (.iload_n 1, 1) := by decide +kernel
theorem dX9_firstOf_1 : decode cX9_firstOf 1 = .ok (.istore_n 2, 1) := by decide +kernel
theorem dX9_firstOf_2 : decode cX9_firstOf 2 = .ok (.aload_n 0, 1) := by decide +kernel
theorem dX9_firstOf_3 : decode cX9_firstOf 3 = .ok (.iload_n 2, 1) := by decide +kernel
theorem dX9_firstOf_4 : decode cX9_firstOf 4 = .ok (.iconst 4, 1) := by decide +kernel
theorem dX9_firstOf_5 : decode cX9_firstOf 5 = .ok (.invokevirtual 83, 3) := by decide +kernel
theorem dX9_firstOf_8 : decode cX9_firstOf 8 = .ok (.bipush (-9), 2) := by decide +kernel
theorem dX9_firstOf_10 : decode cX9_firstOf 10 = .ok (.if_icmp .eq 13, 3) := by decide +kernel
theorem dX9_firstOf_13 : decode cX9_firstOf 13 = .ok (.aload_n 0, 1) := by decide +kernel
theorem dX9_firstOf_14 : decode cX9_firstOf 14 = .ok (.iload_n 2, 1) := by decide +kernel
theorem dX9_firstOf_15 : decode cX9_firstOf 15 = .ok (.iconst 4, 1) := by decide +kernel
theorem dX9_firstOf_16 : decode cX9_firstOf 16 = .ok (.invokevirtual 83, 3) := by decide +kernel
theorem dX9_firstOf_19 : decode cX9_firstOf 19 = .ok (.istore_n 2, 1) := by decide +kernel
theorem dX9_firstOf_20 : decode cX9_firstOf 20 = .ok (.goto (-18), 3) := by decide +kernel
theorem dX9_firstOf_23 : decode cX9_firstOf 23 = .ok (.iload_n 2, 1) := by decide +kernel
theorem dX9_firstOf_24 : decode cX9_firstOf 24 = .ok (.ireturn, 1) := by decide +kernel
theorem dX9_first_0 : decode cX9_first 0 = .ok (.aload_n 0, 1) := by decide +kernel
theorem dX9_first_1 : decode cX9_first 1 = .ok (.iconst 0, 1) := by decide +kernel
theorem dX9_first_2 : decode cX9_first 2 = .ok (.putfield 69, 3) := by decide +kernel
theorem dX9_first_5 : decode cX9_first 5 = .ok (.aload_n 0, 1) := by decide +kernel
theorem dX9_first_6 : decode cX9_first 6 = .ok (.iload_n 1, 1) := by decide +kernel
theorem dX9_first_7 : decode cX9_first 7 = .ok (.invokevirtual 168, 3) := by decide +kernel
theorem dX9_first_10 : decode cX9_first 10 = .ok (.ifCond .eq 7, 3) := by decide +kernel
theorem dX9_first_13 : decode cX9_first 13 = .ok (.iconst (-1), 1) := by decide +kernel
theorem dX9_first_14 : decode cX9_first 14 = .ok (.goto 8, 3) := by decide +kernel
theorem dX9_first_17 : decode cX9_first 17 = .ok (.aload_n 0, 1) := by decide +kernel
theorem dX9_first_18 : decode cX9_first 18 = .ok (.iload_n 1, 1) := by decide +kernel
theorem dX9_first_19 : decode cX9_first 19 = .ok (.invokevirtual 197, 3) := by decide +kernel
theorem dX9_first_22 : decode cX9_first 22 = .ok (.ireturn, 1) := by decide +kernel
theorem dX9_line_0 : decode cX9_line 0 = .ok (.aload_n 0, 1) := by decide +kernel
theorem dX9_line_1 : decode cX9_line 1 = .ok (.iconst 0, 1) := by decide +kernel
theorem dX9_line_2 : decode cX9_line 2 = .ok (.putfield 69, 3) := by decide +kernel
theorem dX9_line_5 : decode cX9_line 5 = .ok (.aload_n 0, 1) := by decide +kernel
theorem dX9_line_6 : decode cX9_line 6 = .ok (.iload_n 1, 1) := by decide +kernel
theorem dX9_line_7 : decode cX9_line 7 = .ok (.invokevirtual 168, 3) := by decide +kernel
theorem dX9_line_10 : decode cX9_line 10 = .ok (.ifCond .eq 7, 3) := by decide +kernel
theorem dX9_line_13 : decode cX9_line 13 = .ok (.iconst (-1), 1) := by decide +kernel
theorem dX9_line_14 : decode cX9_line 14 = .ok (.goto 8, 3) := by decide +kernel
theorem dX9_line_17 : decode cX9_line 17 = .ok (.aload_n 0, 1) := by decide +kernel
theorem dX9_line_18 : decode cX9_line 18 = .ok (.iload_n 1, 1) := by decide +kernel
theorem dX9_line_19 : decode cX9_line 19 = .ok (.invokevirtual 200, 3) := by decide +kernel
theorem dX9_line_22 : decode cX9_line 22 = .ok (.ireturn, 1) := by decide +kernel
theorem dX9_brood_0 : decode cX9_brood 0 = .ok (.aload_n 0, 1) := by decide +kernel
theorem dX9_brood_1 : decode cX9_brood 1 = .ok (.iconst 0, 1) := by decide +kernel
theorem dX9_brood_2 : decode cX9_brood 2 = .ok (.putfield 69, 3) := by decide +kernel
theorem dX9_brood_5 : decode cX9_brood 5 = .ok (.aload_n 0, 1) := by decide +kernel
theorem dX9_brood_6 : decode cX9_brood 6 = .ok (.iload_n 1, 1) := by decide +kernel
theorem dX9_brood_7 : decode cX9_brood 7 = .ok (.invokevirtual 168, 3) := by decide +kernel
theorem dX9_brood_10 : decode cX9_brood 10 = .ok (.ifCond .eq 5, 3) := by decide +kernel
theorem dX9_brood_13 : decode cX9_brood 13 = .ok (.iconst (-1), 1) := by decide +kernel
theorem dX9_brood_14 : decode cX9_brood 14 = .ok (.ireturn, 1) := by decide +kernel
theorem dX9_brood_15 : decode cX9_brood 15 = .ok (.iconst 0, 1) := by decide +kernel
theorem dX9_brood_16 : decode cX9_brood 16 = .ok (.istore_n 2, 1) := by decide +kernel
theorem dX9_brood_17 : decode cX9_brood 17 = .ok (.iconst 0, 1) := by decide +kernel
theorem dX9_brood_18 : decode cX9_brood 18 = .ok (.istore_n 3, 1) := by decide +kernel
theorem dX9_brood_19 : decode cX9_brood 19 = .ok (.iload_n 3, 1) := by decide +kernel
theorem dX9_brood_20 : decode cX9_brood 20 = .ok (.aload_n 0, 1) := by decide +kernel
theorem dX9_brood_21 : decode cX9_brood 21 = .ok (.getfield 80, 3) := by decide +kernel
theorem dX9_brood_24 : decode cX9_brood 24 = .ok (.if_icmp .ge 28, 3) := by decide +kernel
theorem dX9_brood_27 : decode cX9_brood 27 = .ok (.iload_n 2, 1) := by decide +kernel
theorem dX9_brood_28 : decode cX9_brood 28 = .ok (.aload_n 0, 1) := by decide +kernel
theorem dX9_brood_29 : decode cX9_brood 29 = .ok (.iload_n 3, 1) := by decide +kernel
theorem dX9_brood_30 : decode cX9_brood 30 = .ok (.invokevirtual 197, 3) := by decide +kernel
theorem dX9_brood_33 : decode cX9_brood 33 = .ok (.iload_n 1, 1) := by decide +kernel
theorem dX9_brood_34 : decode cX9_brood 34 = .ok (.if_icmp .ne 9, 3) := by decide +kernel
theorem dX9_brood_37 : decode cX9_brood 37 = .ok (.iconst 1, 1) := by decide +kernel
theorem dX9_brood_38 : decode cX9_brood 38 = .ok (.iload_n 3, 1) := by decide +kernel
theorem dX9_brood_39 : decode cX9_brood 39 = .ok (.ishl, 1) := by decide +kernel
theorem dX9_brood_40 : decode cX9_brood 40 = .ok (.goto 4, 3) := by decide +kernel
theorem dX9_brood_43 : decode cX9_brood 43 = .ok (.iconst 0, 1) := by decide +kernel
theorem dX9_brood_44 : decode cX9_brood 44 = .ok (.ior, 1) := by decide +kernel
theorem dX9_brood_45 : decode cX9_brood 45 = .ok (.istore_n 2, 1) := by decide +kernel
theorem dX9_brood_46 : decode cX9_brood 46 = .ok (.iinc 3 1, 3) := by decide +kernel
theorem dX9_brood_49 : decode cX9_brood 49 = .ok (.goto (-30), 3) := by decide +kernel
theorem dX9_brood_52 : decode cX9_brood 52 = .ok (.iload_n 2, 1) := by decide +kernel
theorem dX9_brood_53 : decode cX9_brood 53 = .ok (.ireturn, 1) := by decide +kernel
theorem dX9_sees_0 : decode cX9_sees 0 = .ok (.aload_n 0, 1) := by decide +kernel
theorem dX9_sees_1 : decode cX9_sees 1 = .ok (.getfield 203, 3) := by decide +kernel
theorem dX9_sees_4 : decode cX9_sees 4 = .ok (.bipush 6, 2) := by decide +kernel
theorem dX9_sees_6 : decode cX9_sees 6 = .ok (.if_icmp .ne 6, 3) := by decide +kernel
theorem dX9_sees_9 : decode cX9_sees 9 = .ok (.bipush (-4), 2) := by decide +kernel
theorem dX9_sees_11 : decode cX9_sees 11 = .ok (.ireturn, 1) := by decide +kernel
theorem dX9_sees_12 : decode cX9_sees 12 = .ok (.aload_n 0, 1) := by decide +kernel
theorem dX9_sees_13 : decode cX9_sees 13 = .ok (.getfield 47, 3) := by decide +kernel
theorem dX9_sees_16 : decode cX9_sees 16 = .ok (.iconst 4, 1) := by decide +kernel
theorem dX9_sees_17 : decode cX9_sees 17 = .ok (.aload_n 0, 1) := by decide +kernel
theorem dX9_sees_18 : decode cX9_sees 18 = .ok (.getfield 203, 3) := by decide +kernel
theorem dX9_sees_21 : decode cX9_sees 21 = .ok (.imul, 1) := by decide +kernel
theorem dX9_sees_22 : decode cX9_sees 22 = .ok (.iload_n 1, 1) := by decide +kernel
theorem dX9_sees_23 : decode cX9_sees 23 = .ok (.iastore, 1) := by decide +kernel
theorem dX9_sees_24 : decode cX9_sees 24 = .ok (.aload_n 0, 1) := by decide +kernel
theorem dX9_sees_25 : decode cX9_sees 25 = .ok (.getfield 47, 3) := by decide +kernel
theorem dX9_sees_28 : decode cX9_sees 28 = .ok (.iconst 4, 1) := by decide +kernel
theorem dX9_sees_29 : decode cX9_sees 29 = .ok (.aload_n 0, 1) := by decide +kernel
theorem dX9_sees_30 : decode cX9_sees 30 = .ok (.getfield 203, 3) := by decide +kernel
theorem dX9_sees_33 : decode cX9_sees 33 = .ok (.imul, 1) := by decide +kernel
theorem dX9_sees_34 : decode cX9_sees 34 = .ok (.iconst 1, 1) := by decide +kernel
theorem dX9_sees_35 : decode cX9_sees 35 = .ok (.iadd, 1) := by decide +kernel
theorem dX9_sees_36 : decode cX9_sees 36 = .ok (.iload_n 2, 1) := by decide +kernel
theorem dX9_sees_37 : decode cX9_sees 37 = .ok (.iastore, 1) := by decide +kernel
theorem dX9_sees_38 : decode cX9_sees 38 = .ok (.aload_n 0, 1) := by decide +kernel
theorem dX9_sees_39 : decode cX9_sees 39 = .ok (.getfield 47, 3) := by decide +kernel
theorem dX9_sees_42 : decode cX9_sees 42 = .ok (.iconst 4, 1) := by decide +kernel
theorem dX9_sees_43 : decode cX9_sees 43 = .ok (.aload_n 0, 1) := by decide +kernel
theorem dX9_sees_44 : decode cX9_sees 44 = .ok (.getfield 203, 3) := by decide +kernel
theorem dX9_sees_47 : decode cX9_sees 47 = .ok (.imul, 1) := by decide +kernel
theorem dX9_sees_48 : decode cX9_sees 48 = .ok (.iconst 2, 1) := by decide +kernel
theorem dX9_sees_49 : decode cX9_sees 49 = .ok (.iadd, 1) := by decide +kernel
theorem dX9_sees_50 : decode cX9_sees 50 = .ok (.iload_n 3, 1) := by decide +kernel
theorem dX9_sees_51 : decode cX9_sees 51 = .ok (.iastore, 1) := by decide +kernel
theorem dX9_sees_52 : decode cX9_sees 52 = .ok (.aload_n 0, 1) := by decide +kernel
theorem dX9_sees_53 : decode cX9_sees 53 = .ok (.getfield 47, 3) := by decide +kernel
theorem dX9_sees_56 : decode cX9_sees 56 = .ok (.iconst 4, 1) := by decide +kernel
theorem dX9_sees_57 : decode cX9_sees 57 = .ok (.aload_n 0, 1) := by decide +kernel
theorem dX9_sees_58 : decode cX9_sees 58 = .ok (.getfield 203, 3) := by decide +kernel
theorem dX9_sees_61 : decode cX9_sees 61 = .ok (.imul, 1) := by decide +kernel
theorem dX9_sees_62 : decode cX9_sees 62 = .ok (.iconst 3, 1) := by decide +kernel
theorem dX9_sees_63 : decode cX9_sees 63 = .ok (.iadd, 1) := by decide +kernel
theorem dX9_sees_64 : decode cX9_sees 64 = .ok (.iload 4, 2) := by decide +kernel
theorem dX9_sees_66 : decode cX9_sees 66 = .ok (.iastore, 1) := by decide +kernel
theorem dX9_sees_67 : decode cX9_sees 67 = .ok (.aload_n 0, 1) := by decide +kernel
theorem dX9_sees_68 : decode cX9_sees 68 = .ok (.dup, 1) := by decide +kernel
theorem dX9_sees_69 : decode cX9_sees 69 = .ok (.getfield 203, 3) := by decide +kernel
theorem dX9_sees_72 : decode cX9_sees 72 = .ok (.iconst 1, 1) := by decide +kernel
theorem dX9_sees_73 : decode cX9_sees 73 = .ok (.iadd, 1) := by decide +kernel
theorem dX9_sees_74 : decode cX9_sees 74 = .ok (.putfield 203, 3) := by decide +kernel
theorem dX9_sees_77 : decode cX9_sees 77 = .ok (.aload_n 0, 1) := by decide +kernel
theorem dX9_sees_78 : decode cX9_sees 78 = .ok (.getfield 203, 3) := by decide +kernel
theorem dX9_sees_81 : decode cX9_sees 81 = .ok (.ireturn, 1) := by decide +kernel
theorem dX9_track_0 : decode cX9_track 0 = .ok (.aload_n 0, 1) := by decide +kernel
theorem dX9_track_1 : decode cX9_track 1 = .ok (.iconst 0, 1) := by decide +kernel
theorem dX9_track_2 : decode cX9_track 2 = .ok (.putfield 69, 3) := by decide +kernel
theorem dX9_track_5 : decode cX9_track 5 = .ok (.aload_n 0, 1) := by decide +kernel
theorem dX9_track_6 : decode cX9_track 6 = .ok (.iload_n 2, 1) := by decide +kernel
theorem dX9_track_7 : decode cX9_track 7 = .ok (.invokevirtual 162, 3) := by decide +kernel
theorem dX9_track_10 : decode cX9_track 10 = .ok (.ifCond .eq 5, 3) := by decide +kernel
theorem dX9_track_13 : decode cX9_track 13 = .ok (.iconst (-1), 1) := by decide +kernel
theorem dX9_track_14 : decode cX9_track 14 = .ok (.ireturn, 1) := by decide +kernel
theorem dX9_track_15 : decode cX9_track 15 = .ok (.iload_n 1, 1) := by decide +kernel
theorem dX9_track_16 : decode cX9_track 16 = .ok (.i2l, 1) := by decide +kernel
theorem dX9_track_17 : decode cX9_track 17 = .ok (.lconst 0, 1) := by decide +kernel
theorem dX9_track_18 : decode cX9_track 18 = .ok (.ldc2_w 193, 3) := by decide +kernel
theorem dX9_track_21 : decode cX9_track 21 = .ok (.invokestatic 76, 3) := by decide +kernel
theorem dX9_track_24 : decode cX9_track 24 = .ok (.ifCond .eq 26, 3) := by decide +kernel
theorem dX9_track_27 : decode cX9_track 27 = .ok (.iload_n 3, 1) := by decide +kernel
theorem dX9_track_28 : decode cX9_track 28 = .ok (.i2l, 1) := by decide +kernel
theorem dX9_track_29 : decode cX9_track 29 = .ok (.lconst 0, 1) := by decide +kernel
theorem dX9_track_30 : decode cX9_track 30 = .ok (.ldc2_w 206, 3) := by decide +kernel
theorem dX9_track_33 : decode cX9_track 33 = .ok (.invokestatic 76, 3) := by decide +kernel
theorem dX9_track_36 : decode cX9_track 36 = .ok (.ifCond .eq 14, 3) := by decide +kernel
theorem dX9_track_39 : decode cX9_track 39 = .ok (.aload_n 0, 1) := by decide +kernel
theorem dX9_track_40 : decode cX9_track 40 = .ok (.iconst 0, 1) := by decide +kernel
theorem dX9_track_41 : decode cX9_track 41 = .ok (.iload_n 1, 1) := by decide +kernel
theorem dX9_track_42 : decode cX9_track 42 = .ok (.iload_n 2, 1) := by decide +kernel
theorem dX9_track_43 : decode cX9_track 43 = .ok (.iload_n 3, 1) := by decide +kernel
theorem dX9_track_44 : decode cX9_track 44 = .ok (.invokevirtual 208, 3) := by decide +kernel
theorem dX9_track_47 : decode cX9_track 47 = .ok (.goto 5, 3) := by decide +kernel
theorem dX9_track_50 : decode cX9_track 50 = .ok (.bipush (-2), 2) := by decide +kernel
theorem dX9_track_52 : decode cX9_track 52 = .ok (.ireturn, 1) := by decide +kernel
theorem dX9_hungry_0 : decode cX9_hungry 0 = .ok (.aload_n 0, 1) := by decide +kernel
theorem dX9_hungry_1 : decode cX9_hungry 1 = .ok (.iconst 0, 1) := by decide +kernel
theorem dX9_hungry_2 : decode cX9_hungry 2 = .ok (.putfield 69, 3) := by decide +kernel
theorem dX9_hungry_5 : decode cX9_hungry 5 = .ok (.aload_n 0, 1) := by decide +kernel
theorem dX9_hungry_6 : decode cX9_hungry 6 = .ok (.iload_n 2, 1) := by decide +kernel
theorem dX9_hungry_7 : decode cX9_hungry 7 = .ok (.invokevirtual 168, 3) := by decide +kernel
theorem dX9_hungry_10 : decode cX9_hungry 10 = .ok (.ifCond .eq 5, 3) := by decide +kernel
theorem dX9_hungry_13 : decode cX9_hungry 13 = .ok (.iconst (-1), 1) := by decide +kernel
theorem dX9_hungry_14 : decode cX9_hungry 14 = .ok (.ireturn, 1) := by decide +kernel
theorem dX9_hungry_15 : decode cX9_hungry 15 = .ok (.iload_n 1, 1) := by decide +kernel
theorem dX9_hungry_16 : decode cX9_hungry 16 = .ok (.i2l, 1) := by decide +kernel
theorem dX9_hungry_17 : decode cX9_hungry 17 = .ok (.lconst 0, 1) := by decide +kernel
theorem dX9_hungry_18 : decode cX9_hungry 18 = .ok (.ldc2_w 193, 3) := by decide +kernel
theorem dX9_hungry_21 : decode cX9_hungry 21 = .ok (.invokestatic 76, 3) := by decide +kernel
theorem dX9_hungry_24 : decode cX9_hungry 24 = .ok (.ifCond .eq 22, 3) := by decide +kernel
theorem dX9_hungry_27 : decode cX9_hungry 27 = .ok (.aload_n 0, 1) := by decide +kernel
theorem dX9_hungry_28 : decode cX9_hungry 28 = .ok (.iconst 1, 1) := by decide +kernel
theorem dX9_hungry_29 : decode cX9_hungry 29 = .ok (.iload_n 1, 1) := by decide +kernel
theorem dX9_hungry_30 : decode cX9_hungry 30 = .ok (.iload_n 2, 1) := by decide +kernel
theorem dX9_hungry_31 : decode cX9_hungry 31 = .ok (.iload_n 3, 1) := by decide +kernel
theorem dX9_hungry_32 : decode cX9_hungry 32 = .ok (.ifCond .eq 7, 3) := by decide +kernel
theorem dX9_hungry_35 : decode cX9_hungry 35 = .ok (.iconst 1, 1) := by decide +kernel
theorem dX9_hungry_36 : decode cX9_hungry 36 = .ok (.goto 4, 3) := by decide +kernel
theorem dX9_hungry_39 : decode cX9_hungry 39 = .ok (.iconst 0, 1) := by decide +kernel
theorem dX9_hungry_40 : decode cX9_hungry 40 = .ok (.invokevirtual 208, 3) := by decide +kernel
theorem dX9_hungry_43 : decode cX9_hungry 43 = .ok (.goto 5, 3) := by decide +kernel
theorem dX9_hungry_46 : decode cX9_hungry 46 = .ok (.bipush (-2), 2) := by decide +kernel
theorem dX9_hungry_48 : decode cX9_hungry 48 = .ok (.ireturn, 1) := by decide +kernel
theorem dX9_spoon_0 : decode cX9_spoon 0 = .ok (.aload_n 0, 1) := by decide +kernel
theorem dX9_spoon_1 : decode cX9_spoon 1 = .ok (.iconst 0, 1) := by decide +kernel
theorem dX9_spoon_2 : decode cX9_spoon 2 = .ok (.putfield 69, 3) := by decide +kernel
theorem dX9_spoon_5 : decode cX9_spoon 5 = .ok (.aload_n 0, 1) := by decide +kernel
theorem dX9_spoon_6 : decode cX9_spoon 6 = .ok (.iload_n 1, 1) := by decide +kernel
theorem dX9_spoon_7 : decode cX9_spoon 7 = .ok (.invokevirtual 168, 3) := by decide +kernel
theorem dX9_spoon_10 : decode cX9_spoon 10 = .ok (.ifCond .eq 7, 3) := by decide +kernel
theorem dX9_spoon_13 : decode cX9_spoon 13 = .ok (.iconst (-1), 1) := by decide +kernel
theorem dX9_spoon_14 : decode cX9_spoon 14 = .ok (.goto 19, 3) := by decide +kernel
theorem dX9_spoon_17 : decode cX9_spoon 17 = .ok (.aload_n 0, 1) := by decide +kernel
theorem dX9_spoon_18 : decode cX9_spoon 18 = .ok (.iconst 2, 1) := by decide +kernel
theorem dX9_spoon_19 : decode cX9_spoon 19 = .ok (.iconst 0, 1) := by decide +kernel
theorem dX9_spoon_20 : decode cX9_spoon 20 = .ok (.iload_n 1, 1) := by decide +kernel
theorem dX9_spoon_21 : decode cX9_spoon 21 = .ok (.iload_n 2, 1) := by decide +kernel
theorem dX9_spoon_22 : decode cX9_spoon 22 = .ok (.ifCond .eq 7, 3) := by decide +kernel
theorem dX9_spoon_25 : decode cX9_spoon 25 = .ok (.iconst 1, 1) := by decide +kernel
theorem dX9_spoon_26 : decode cX9_spoon 26 = .ok (.goto 4, 3) := by decide +kernel
theorem dX9_spoon_29 : decode cX9_spoon 29 = .ok (.iconst 0, 1) := by decide +kernel
theorem dX9_spoon_30 : decode cX9_spoon 30 = .ok (.invokevirtual 208, 3) := by decide +kernel
theorem dX9_spoon_33 : decode cX9_spoon 33 = .ok (.ireturn, 1) := by decide +kernel
theorem dX9_unsee_0 : decode cX9_unsee 0 = .ok (.aload_n 0, 1) := by decide +kernel
theorem dX9_unsee_1 : decode cX9_unsee 1 = .ok (.iconst 0, 1) := by decide +kernel
theorem dX9_unsee_2 : decode cX9_unsee 2 = .ok (.putfield 69, 3) := by decide +kernel
theorem dX9_unsee_5 : decode cX9_unsee 5 = .ok (.aload_n 0, 1) := by decide +kernel
theorem dX9_unsee_6 : decode cX9_unsee 6 = .ok (.getfield 203, 3) := by decide +kernel
theorem dX9_unsee_9 : decode cX9_unsee 9 = .ok (.istore_n 1, 1) := by decide +kernel
theorem dX9_unsee_10 : decode cX9_unsee 10 = .ok (.aload_n 0, 1) := by decide +kernel
theorem dX9_unsee_11 : decode cX9_unsee 11 = .ok (.iconst 0, 1) := by decide +kernel
theorem dX9_unsee_12 : decode cX9_unsee 12 = .ok (.putfield 203, 3) := by decide +kernel
theorem dX9_unsee_15 : decode cX9_unsee 15 = .ok (.iload_n 1, 1) := by decide +kernel
theorem dX9_unsee_16 : decode cX9_unsee 16 = .ok (.ireturn, 1) := by decide +kernel
theorem dX9_isSeen_0 : decode cX9_isSeen 0 = .ok (.iconst 1, 1) := by decide +kernel
theorem dX9_isSeen_1 : decode cX9_isSeen 1 = .ok (.istore_n 2, 1) := by decide +kernel
theorem dX9_isSeen_2 : decode cX9_isSeen 2 = .ok (.iconst 0, 1) := by decide +kernel
theorem dX9_isSeen_3 : decode cX9_isSeen 3 = .ok (.istore_n 3, 1) := by decide +kernel
theorem dX9_isSeen_4 : decode cX9_isSeen 4 = .ok (.iload_n 3, 1) := by decide +kernel
theorem dX9_isSeen_5 : decode cX9_isSeen 5 = .ok (.aload_n 0, 1) := by decide +kernel
theorem dX9_isSeen_6 : decode cX9_isSeen 6 = .ok (.getfield 203, 3) := by decide +kernel
theorem dX9_isSeen_9 : decode cX9_isSeen 9 = .ok (.if_icmp .ge 236, 3) := by decide +kernel
theorem dX9_isSeen_12 : decode cX9_isSeen 12 = .ok (.aload_n 0, 1) := by decide +kernel
theorem dX9_isSeen_13 : decode cX9_isSeen 13 = .ok (.getfield 47, 3) := by decide +kernel
theorem dX9_isSeen_16 : decode cX9_isSeen 16 = .ok (.iconst 4, 1) := by decide +kernel
theorem dX9_isSeen_17 : decode cX9_isSeen 17 = .ok (.iload_n 3, 1) := by decide +kernel
theorem dX9_isSeen_18 : decode cX9_isSeen 18 = .ok (.imul, 1) := by decide +kernel
theorem dX9_isSeen_19 : decode cX9_isSeen 19 = .ok (.iconst 2, 1) := by decide +kernel
theorem dX9_isSeen_20 : decode cX9_isSeen 20 = .ok (.iadd, 1) := by decide +kernel
theorem dX9_isSeen_21 : decode cX9_isSeen 21 = .ok (.iaload, 1) := by decide +kernel
theorem dX9_isSeen_22 : decode cX9_isSeen 22 = .ok (.istore 4, 2) := by decide +kernel
theorem dX9_isSeen_24 : decode cX9_isSeen 24 = .ok (.aload_n 0, 1) := by decide +kernel
theorem dX9_isSeen_25 : decode cX9_isSeen 25 = .ok (.getfield 47, 3) := by decide +kernel
theorem dX9_isSeen_28 : decode cX9_isSeen 28 = .ok (.iconst 4, 1) := by decide +kernel
theorem dX9_isSeen_29 : decode cX9_isSeen 29 = .ok (.iload_n 3, 1) := by decide +kernel
theorem dX9_isSeen_30 : decode cX9_isSeen 30 = .ok (.imul, 1) := by decide +kernel
theorem dX9_isSeen_31 : decode cX9_isSeen 31 = .ok (.iconst 3, 1) := by decide +kernel
theorem dX9_isSeen_32 : decode cX9_isSeen 32 = .ok (.iadd, 1) := by decide +kernel
theorem dX9_isSeen_33 : decode cX9_isSeen 33 = .ok (.iaload, 1) := by decide +kernel
theorem dX9_isSeen_34 : decode cX9_isSeen 34 = .ok (.istore 5, 2) := by decide +kernel
theorem dX9_isSeen_36 : decode cX9_isSeen 36 = .ok (.aload_n 0, 1) := by decide +kernel
theorem dX9_isSeen_37 : decode cX9_isSeen 37 = .ok (.getfield 47, 3) := by decide +kernel
theorem dX9_isSeen_40 : decode cX9_isSeen 40 = .ok (.iconst 4, 1) := by decide +kernel
theorem dX9_isSeen_41 : decode cX9_isSeen 41 = .ok (.iload_n 3, 1) := by decide +kernel
theorem dX9_isSeen_42 : decode cX9_isSeen 42 = .ok (.imul, 1) := by decide +kernel
theorem dX9_isSeen_43 : decode cX9_isSeen 43 = .ok (.iconst 1, 1) := by decide +kernel
theorem dX9_isSeen_44 : decode cX9_isSeen 44 = .ok (.iadd, 1) := by decide +kernel
theorem dX9_isSeen_45 : decode cX9_isSeen 45 = .ok (.iaload, 1) := by decide +kernel
theorem dX9_isSeen_46 : decode cX9_isSeen 46 = .ok (.iload_n 1, 1) := by decide +kernel
theorem dX9_isSeen_47 : decode cX9_isSeen 47 = .ok (.if_icmp .ne 7, 3) := by decide +kernel
theorem dX9_isSeen_50 : decode cX9_isSeen 50 = .ok (.iconst 1, 1) := by decide +kernel
theorem dX9_isSeen_51 : decode cX9_isSeen 51 = .ok (.goto 4, 3) := by decide +kernel
theorem dX9_isSeen_54 : decode cX9_isSeen 54 = .ok (.iconst 0, 1) := by decide +kernel
theorem dX9_isSeen_55 : decode cX9_isSeen 55 = .ok (.istore 6, 2) := by decide +kernel
theorem dX9_isSeen_57 : decode cX9_isSeen 57 = .ok (.aload_n 0, 1) := by decide +kernel
theorem dX9_isSeen_58 : decode cX9_isSeen 58 = .ok (.getfield 47, 3) := by decide +kernel
theorem dX9_isSeen_61 : decode cX9_isSeen 61 = .ok (.iconst 4, 1) := by decide +kernel
theorem dX9_isSeen_62 : decode cX9_isSeen 62 = .ok (.iload_n 3, 1) := by decide +kernel
theorem dX9_isSeen_63 : decode cX9_isSeen 63 = .ok (.imul, 1) := by decide +kernel
theorem dX9_isSeen_64 : decode cX9_isSeen 64 = .ok (.iaload, 1) := by decide +kernel
theorem dX9_isSeen_65 : decode cX9_isSeen 65 = .ok (.ifCond .ne 100, 3) := by decide +kernel
theorem dX9_isSeen_68 : decode cX9_isSeen 68 = .ok (.iload 6, 2) := by decide +kernel
theorem dX9_isSeen_70 : decode cX9_isSeen 70 = .ok (.ifCond .eq 95, 3) := by decide +kernel
theorem dX9_isSeen_73 : decode cX9_isSeen 73 = .ok (.aload_n 0, 1) := by decide +kernel
theorem dX9_isSeen_74 : decode cX9_isSeen 74 = .ok (.iload 4, 2) := by decide +kernel
theorem dX9_isSeen_76 : decode cX9_isSeen 76 = .ok (.invokevirtual 162, 3) := by decide +kernel
theorem dX9_isSeen_79 : decode cX9_isSeen 79 = .ok (.ifCond .ne 86, 3) := by decide +kernel
theorem dX9_isSeen_82 : decode cX9_isSeen 82 = .ok (.iconst 0, 1) := by decide +kernel
theorem dX9_isSeen_83 : decode cX9_isSeen 83 = .ok (.istore 7, 2) := by decide +kernel
theorem dX9_isSeen_85 : decode cX9_isSeen 85 = .ok (.iconst 0, 1) := by decide +kernel
theorem dX9_isSeen_86 : decode cX9_isSeen 86 = .ok (.istore 8, 2) := by decide +kernel
theorem dX9_isSeen_88 : decode cX9_isSeen 88 = .ok (.iload 8, 2) := by decide +kernel
theorem dX9_isSeen_90 : decode cX9_isSeen 90 = .ok (.aload_n 0, 1) := by decide +kernel
theorem dX9_isSeen_91 : decode cX9_isSeen 91 = .ok (.getfield 80, 3) := by decide +kernel
theorem dX9_isSeen_94 : decode cX9_isSeen 94 = .ok (.if_icmp .ge 54, 3) := by decide +kernel
theorem dX9_isSeen_97 : decode cX9_isSeen 97 = .ok (.iload 7, 2) := by decide +kernel
theorem dX9_isSeen_99 : decode cX9_isSeen 99 = .ok (.aload_n 0, 1) := by decide +kernel
theorem dX9_isSeen_100 : decode cX9_isSeen 100 = .ok (.getfield 50, 3) := by decide +kernel
theorem dX9_isSeen_103 : decode cX9_isSeen 103 = .ok (.iload 8, 2) := by decide +kernel
theorem dX9_isSeen_105 : decode cX9_isSeen 105 = .ok (.iaload, 1) := by decide +kernel
theorem dX9_isSeen_106 : decode cX9_isSeen 106 = .ok (.iconst 1, 1) := by decide +kernel
theorem dX9_isSeen_107 : decode cX9_isSeen 107 = .ok (.iload 4, 2) := by decide +kernel
theorem dX9_isSeen_109 : decode cX9_isSeen 109 = .ok (.iadd, 1) := by decide +kernel
theorem dX9_isSeen_110 : decode cX9_isSeen 110 = .ok (.if_icmp .ne 28, 3) := by decide +kernel
theorem dX9_isSeen_113 : decode cX9_isSeen 113 = .ok (.aload_n 0, 1) := by decide +kernel
theorem dX9_isSeen_114 : decode cX9_isSeen 114 = .ok (.getfield 7, 3) := by decide +kernel
theorem dX9_isSeen_117 : decode cX9_isSeen 117 = .ok (.iconst 4, 1) := by decide +kernel
theorem dX9_isSeen_118 : decode cX9_isSeen 118 = .ok (.aload_n 0, 1) := by decide +kernel
theorem dX9_isSeen_119 : decode cX9_isSeen 119 = .ok (.getfield 13, 3) := by decide +kernel
theorem dX9_isSeen_122 : decode cX9_isSeen 122 = .ok (.iload 8, 2) := by decide +kernel
theorem dX9_isSeen_124 : decode cX9_isSeen 124 = .ok (.iaload, 1) := by decide +kernel
theorem dX9_isSeen_125 : decode cX9_isSeen 125 = .ok (.imul, 1) := by decide +kernel
theorem dX9_isSeen_126 : decode cX9_isSeen 126 = .ok (.iload 4, 2) := by decide +kernel
theorem dX9_isSeen_128 : decode cX9_isSeen 128 = .ok (.iadd, 1) := by decide +kernel
theorem dX9_isSeen_129 : decode cX9_isSeen 129 = .ok (.iaload, 1) := by decide +kernel
theorem dX9_isSeen_130 : decode cX9_isSeen 130 = .ok (.iconst 1, 1) := by decide +kernel
theorem dX9_isSeen_131 : decode cX9_isSeen 131 = .ok (.if_icmp .ne 7, 3) := by decide +kernel
theorem dX9_isSeen_134 : decode cX9_isSeen 134 = .ok (.iconst 1, 1) := by decide +kernel
theorem dX9_isSeen_135 : decode cX9_isSeen 135 = .ok (.goto 4, 3) := by decide +kernel
theorem dX9_isSeen_138 : decode cX9_isSeen 138 = .ok (.iconst 0, 1) := by decide +kernel
theorem dX9_isSeen_139 : decode cX9_isSeen 139 = .ok (.iadd, 1) := by decide +kernel
theorem dX9_isSeen_140 : decode cX9_isSeen 140 = .ok (.istore 7, 2) := by decide +kernel
theorem dX9_isSeen_142 : decode cX9_isSeen 142 = .ok (.iinc 8 1, 3) := by decide +kernel
theorem dX9_isSeen_145 : decode cX9_isSeen 145 = .ok (.goto (-57), 3) := by decide +kernel
theorem dX9_isSeen_148 : decode cX9_isSeen 148 = .ok (.iload_n 2, 1) := by decide +kernel
theorem dX9_isSeen_149 : decode cX9_isSeen 149 = .ok (.ifCond .eq 14, 3) := by decide +kernel
theorem dX9_isSeen_152 : decode cX9_isSeen 152 = .ok (.iload 7, 2) := by decide +kernel
theorem dX9_isSeen_154 : decode cX9_isSeen 154 = .ok (.iload 5, 2) := by decide +kernel
theorem dX9_isSeen_156 : decode cX9_isSeen 156 = .ok (.if_icmp .ne 7, 3) := by decide +kernel
theorem dX9_isSeen_159 : decode cX9_isSeen 159 = .ok (.iconst 1, 1) := by decide +kernel
theorem dX9_isSeen_160 : decode cX9_isSeen 160 = .ok (.goto 4, 3) := by decide +kernel
theorem dX9_isSeen_163 : decode cX9_isSeen 163 = .ok (.iconst 0, 1) := by decide +kernel
theorem dX9_isSeen_164 : decode cX9_isSeen 164 = .ok (.istore_n 2, 1) := by decide +kernel
theorem dX9_isSeen_165 : decode cX9_isSeen 165 = .ok (.aload_n 0, 1) := by decide +kernel
theorem dX9_isSeen_166 : decode cX9_isSeen 166 = .ok (.getfield 47, 3) := by decide +kernel
theorem dX9_isSeen_169 : decode cX9_isSeen 169 = .ok (.iconst 4, 1) := by decide +kernel
theorem dX9_isSeen_170 : decode cX9_isSeen 170 = .ok (.iload_n 3, 1) := by decide +kernel
theorem dX9_isSeen_171 : decode cX9_isSeen 171 = .ok (.imul, 1) := by decide +kernel
theorem dX9_isSeen_172 : decode cX9_isSeen 172 = .ok (.iaload, 1) := by decide +kernel
theorem dX9_isSeen_173 : decode cX9_isSeen 173 = .ok (.iconst 1, 1) := by decide +kernel
theorem dX9_isSeen_174 : decode cX9_isSeen 174 = .ok (.if_icmp .ne 65, 3) := by decide +kernel
theorem dX9_isSeen_177 : decode cX9_isSeen 177 = .ok (.iload 6, 2) := by decide +kernel
theorem dX9_isSeen_179 : decode cX9_isSeen 179 = .ok (.ifCond .eq 60, 3) := by decide +kernel
theorem dX9_isSeen_182 : decode cX9_isSeen 182 = .ok (.aload_n 0, 1) := by decide +kernel
theorem dX9_isSeen_183 : decode cX9_isSeen 183 = .ok (.iload 4, 2) := by decide +kernel
theorem dX9_isSeen_185 : decode cX9_isSeen 185 = .ok (.invokevirtual 168, 3) := by decide +kernel
theorem dX9_isSeen_188 : decode cX9_isSeen 188 = .ok (.ifCond .ne 51, 3) := by decide +kernel
theorem dX9_isSeen_191 : decode cX9_isSeen 191 = .ok (.aload_n 0, 1) := by decide +kernel
theorem dX9_isSeen_192 : decode cX9_isSeen 192 = .ok (.iload 4, 2) := by decide +kernel
theorem dX9_isSeen_194 : decode cX9_isSeen 194 = .ok (.invokevirtual 87, 3) := by decide +kernel
theorem dX9_isSeen_197 : decode cX9_isSeen 197 = .ok (.ifCond .eq 42, 3) := by decide +kernel
theorem dX9_isSeen_200 : decode cX9_isSeen 200 = .ok (.iload_n 2, 1) := by decide +kernel
theorem dX9_isSeen_201 : decode cX9_isSeen 201 = .ok (.ifCond .eq 36, 3) := by decide +kernel
theorem dX9_isSeen_204 : decode cX9_isSeen 204 = .ok (.aload_n 0, 1) := by decide +kernel
theorem dX9_isSeen_205 : decode cX9_isSeen 205 = .ok (.getfield 50, 3) := by decide +kernel
theorem dX9_isSeen_208 : decode cX9_isSeen 208 = .ok (.iload 4, 2) := by decide +kernel
theorem dX9_isSeen_210 : decode cX9_isSeen 210 = .ok (.iaload, 1) := by decide +kernel
theorem dX9_isSeen_211 : decode cX9_isSeen 211 = .ok (.ifCond .ne 7, 3) := by decide +kernel
theorem dX9_isSeen_214 : decode cX9_isSeen 214 = .ok (.iconst 1, 1) := by decide +kernel
theorem dX9_isSeen_215 : decode cX9_isSeen 215 = .ok (.goto 4, 3) := by decide +kernel
theorem dX9_isSeen_218 : decode cX9_isSeen 218 = .ok (.iconst 0, 1) := by decide +kernel
theorem dX9_isSeen_219 : decode cX9_isSeen 219 = .ok (.iload 5, 2) := by decide +kernel
theorem dX9_isSeen_221 : decode cX9_isSeen 221 = .ok (.iconst 1, 1) := by decide +kernel
theorem dX9_isSeen_222 : decode cX9_isSeen 222 = .ok (.if_icmp .ne 7, 3) := by decide +kernel
theorem dX9_isSeen_225 : decode cX9_isSeen 225 = .ok (.iconst 1, 1) := by decide +kernel
theorem dX9_isSeen_226 : decode cX9_isSeen 226 = .ok (.goto 4, 3) := by decide +kernel
theorem dX9_isSeen_229 : decode cX9_isSeen 229 = .ok (.iconst 0, 1) := by decide +kernel
theorem dX9_isSeen_230 : decode cX9_isSeen 230 = .ok (.if_icmp .ne 7, 3) := by decide +kernel
theorem dX9_isSeen_233 : decode cX9_isSeen 233 = .ok (.iconst 1, 1) := by decide +kernel
theorem dX9_isSeen_234 : decode cX9_isSeen 234 = .ok (.goto 4, 3) := by decide +kernel
theorem dX9_isSeen_237 : decode cX9_isSeen 237 = .ok (.iconst 0, 1) := by decide +kernel
theorem dX9_isSeen_238 : decode cX9_isSeen 238 = .ok (.istore_n 2, 1) := by decide +kernel
theorem dX9_isSeen_239 : decode cX9_isSeen 239 = .ok (.iinc 3 1, 3) := by decide +kernel
theorem dX9_isSeen_242 : decode cX9_isSeen 242 = .ok (.goto (-238), 3) := by decide +kernel
theorem dX9_isSeen_245 : decode cX9_isSeen 245 = .ok (.iload_n 2, 1) := by decide +kernel
theorem dX9_isSeen_246 : decode cX9_isSeen 246 = .ok (.ireturn, 1) := by decide +kernel
theorem dX9_isTaken_0 : decode cX9_isTaken 0 = .ok (.iconst 1, 1) := by decide +kernel
theorem dX9_isTaken_1 : decode cX9_isTaken 1 = .ok (.istore_n 2, 1) := by decide +kernel
theorem dX9_isTaken_2 : decode cX9_isTaken 2 = .ok (.iconst 0, 1) := by decide +kernel
theorem dX9_isTaken_3 : decode cX9_isTaken 3 = .ok (.istore_n 3, 1) := by decide +kernel
theorem dX9_isTaken_4 : decode cX9_isTaken 4 = .ok (.iload_n 3, 1) := by decide +kernel
theorem dX9_isTaken_5 : decode cX9_isTaken 5 = .ok (.aload_n 0, 1) := by decide +kernel
theorem dX9_isTaken_6 : decode cX9_isTaken 6 = .ok (.getfield 203, 3) := by decide +kernel
theorem dX9_isTaken_9 : decode cX9_isTaken 9 = .ok (.if_icmp .ge 89, 3) := by decide +kernel
theorem dX9_isTaken_12 : decode cX9_isTaken 12 = .ok (.aload_n 0, 1) := by decide +kernel
theorem dX9_isTaken_13 : decode cX9_isTaken 13 = .ok (.getfield 47, 3) := by decide +kernel
theorem dX9_isTaken_16 : decode cX9_isTaken 16 = .ok (.iconst 4, 1) := by decide +kernel
theorem dX9_isTaken_17 : decode cX9_isTaken 17 = .ok (.iload_n 3, 1) := by decide +kernel
theorem dX9_isTaken_18 : decode cX9_isTaken 18 = .ok (.imul, 1) := by decide +kernel
theorem dX9_isTaken_19 : decode cX9_isTaken 19 = .ok (.iconst 2, 1) := by decide +kernel
theorem dX9_isTaken_20 : decode cX9_isTaken 20 = .ok (.iadd, 1) := by decide +kernel
theorem dX9_isTaken_21 : decode cX9_isTaken 21 = .ok (.iaload, 1) := by decide +kernel
theorem dX9_isTaken_22 : decode cX9_isTaken 22 = .ok (.istore 4, 2) := by decide +kernel
theorem dX9_isTaken_24 : decode cX9_isTaken 24 = .ok (.aload_n 0, 1) := by decide +kernel
theorem dX9_isTaken_25 : decode cX9_isTaken 25 = .ok (.getfield 47, 3) := by decide +kernel
theorem dX9_isTaken_28 : decode cX9_isTaken 28 = .ok (.iconst 4, 1) := by decide +kernel
theorem dX9_isTaken_29 : decode cX9_isTaken 29 = .ok (.iload_n 3, 1) := by decide +kernel
theorem dX9_isTaken_30 : decode cX9_isTaken 30 = .ok (.imul, 1) := by decide +kernel
theorem dX9_isTaken_31 : decode cX9_isTaken 31 = .ok (.iaload, 1) := by decide +kernel
theorem dX9_isTaken_32 : decode cX9_isTaken 32 = .ok (.iconst 2, 1) := by decide +kernel
theorem dX9_isTaken_33 : decode cX9_isTaken 33 = .ok (.if_icmp .ne 59, 3) := by decide +kernel
theorem dX9_isTaken_36 : decode cX9_isTaken 36 = .ok (.aload_n 0, 1) := by decide +kernel
theorem dX9_isTaken_37 : decode cX9_isTaken 37 = .ok (.iload 4, 2) := by decide +kernel
theorem dX9_isTaken_39 : decode cX9_isTaken 39 = .ok (.invokevirtual 168, 3) := by decide +kernel
theorem dX9_isTaken_42 : decode cX9_isTaken 42 = .ok (.ifCond .ne 50, 3) := by decide +kernel
theorem dX9_isTaken_45 : decode cX9_isTaken 45 = .ok (.aload_n 0, 1) := by decide +kernel
theorem dX9_isTaken_46 : decode cX9_isTaken 46 = .ok (.iload 4, 2) := by decide +kernel
theorem dX9_isTaken_48 : decode cX9_isTaken 48 = .ok (.invokevirtual 87, 3) := by decide +kernel
theorem dX9_isTaken_51 : decode cX9_isTaken 51 = .ok (.ifCond .eq 41, 3) := by decide +kernel
theorem dX9_isTaken_54 : decode cX9_isTaken 54 = .ok (.iload_n 2, 1) := by decide +kernel
theorem dX9_isTaken_55 : decode cX9_isTaken 55 = .ok (.ifCond .eq 35, 3) := by decide +kernel
theorem dX9_isTaken_58 : decode cX9_isTaken 58 = .ok (.iload_n 1, 1) := by decide +kernel
theorem dX9_isTaken_59 : decode cX9_isTaken 59 = .ok (.iload 4, 2) := by decide +kernel
theorem dX9_isTaken_61 : decode cX9_isTaken 61 = .ok (.invokestatic 127, 3) := by decide +kernel
theorem dX9_isTaken_64 : decode cX9_isTaken 64 = .ok (.aload_n 0, 1) := by decide +kernel
theorem dX9_isTaken_65 : decode cX9_isTaken 65 = .ok (.getfield 47, 3) := by decide +kernel
theorem dX9_isTaken_68 : decode cX9_isTaken 68 = .ok (.iconst 4, 1) := by decide +kernel
theorem dX9_isTaken_69 : decode cX9_isTaken 69 = .ok (.iload_n 3, 1) := by decide +kernel
theorem dX9_isTaken_70 : decode cX9_isTaken 70 = .ok (.imul, 1) := by decide +kernel
theorem dX9_isTaken_71 : decode cX9_isTaken 71 = .ok (.iconst 3, 1) := by decide +kernel
theorem dX9_isTaken_72 : decode cX9_isTaken 72 = .ok (.iadd, 1) := by decide +kernel
theorem dX9_isTaken_73 : decode cX9_isTaken 73 = .ok (.iaload, 1) := by decide +kernel
theorem dX9_isTaken_74 : decode cX9_isTaken 74 = .ok (.iconst 1, 1) := by decide +kernel
theorem dX9_isTaken_75 : decode cX9_isTaken 75 = .ok (.if_icmp .ne 7, 3) := by decide +kernel
theorem dX9_isTaken_78 : decode cX9_isTaken 78 = .ok (.iconst 1, 1) := by decide +kernel
theorem dX9_isTaken_79 : decode cX9_isTaken 79 = .ok (.goto 4, 3) := by decide +kernel
theorem dX9_isTaken_82 : decode cX9_isTaken 82 = .ok (.iconst 0, 1) := by decide +kernel
theorem dX9_isTaken_83 : decode cX9_isTaken 83 = .ok (.if_icmp .eq 7, 3) := by decide +kernel
theorem dX9_isTaken_86 : decode cX9_isTaken 86 = .ok (.iconst 1, 1) := by decide +kernel
theorem dX9_isTaken_87 : decode cX9_isTaken 87 = .ok (.goto 4, 3) := by decide +kernel
theorem dX9_isTaken_90 : decode cX9_isTaken 90 = .ok (.iconst 0, 1) := by decide +kernel
theorem dX9_isTaken_91 : decode cX9_isTaken 91 = .ok (.istore_n 2, 1) := by decide +kernel
theorem dX9_isTaken_92 : decode cX9_isTaken 92 = .ok (.iinc 3 1, 3) := by decide +kernel
theorem dX9_isTaken_95 : decode cX9_isTaken 95 = .ok (.goto (-91), 3) := by decide +kernel
theorem dX9_isTaken_98 : decode cX9_isTaken 98 = .ok (.iload_n 2, 1) := by decide +kernel
theorem dX9_isTaken_99 : decode cX9_isTaken 99 = .ok (.ireturn, 1) := by decide +kernel
theorem dX9_nextWays_0 : decode cX9_nextWays 0 = .ok (.iconst 0, 1) := by decide +kernel
theorem dX9_nextWays_1 : decode cX9_nextWays 1 = .ok (.istore_n 2, 1) := by decide +kernel
theorem dX9_nextWays_2 : decode cX9_nextWays 2 = .ok (.iload_n 2, 1) := by decide +kernel
theorem dX9_nextWays_3 : decode cX9_nextWays 3 = .ok (.aload_n 0, 1) := by decide +kernel
theorem dX9_nextWays_4 : decode cX9_nextWays 4 = .ok (.getfield 80, 3) := by decide +kernel
theorem dX9_nextWays_7 : decode cX9_nextWays 7 = .ok (.if_icmp .ge 96, 3) := by decide +kernel
theorem dX9_nextWays_10 : decode cX9_nextWays 10 = .ok (.iload_n 1, 1) := by decide +kernel
theorem dX9_nextWays_11 : decode cX9_nextWays 11 = .ok (.iload_n 2, 1) := by decide +kernel
theorem dX9_nextWays_12 : decode cX9_nextWays 12 = .ok (.invokestatic 127, 3) := by decide +kernel
theorem dX9_nextWays_15 : decode cX9_nextWays 15 = .ok (.ifCond .eq 82, 3) := by decide +kernel
theorem dX9_nextWays_18 : decode cX9_nextWays 18 = .ok (.aload_n 0, 1) := by decide +kernel
theorem dX9_nextWays_19 : decode cX9_nextWays 19 = .ok (.iload_n 2, 1) := by decide +kernel
theorem dX9_nextWays_20 : decode cX9_nextWays 20 = .ok (.invokevirtual 174, 3) := by decide +kernel
theorem dX9_nextWays_23 : decode cX9_nextWays 23 = .ok (.istore_n 3, 1) := by decide +kernel
theorem dX9_nextWays_24 : decode cX9_nextWays 24 = .ok (.aload_n 0, 1) := by decide +kernel
theorem dX9_nextWays_25 : decode cX9_nextWays 25 = .ok (.getfield 50, 3) := by decide +kernel
theorem dX9_nextWays_28 : decode cX9_nextWays 28 = .ok (.iload_n 2, 1) := by decide +kernel
theorem dX9_nextWays_29 : decode cX9_nextWays 29 = .ok (.dup2, 1) := by decide +kernel
theorem dX9_nextWays_30 : decode cX9_nextWays 30 = .ok (.iaload, 1) := by decide +kernel
theorem dX9_nextWays_31 : decode cX9_nextWays 31 = .ok (.iconst 1, 1) := by decide +kernel
theorem dX9_nextWays_32 : decode cX9_nextWays 32 = .ok (.iadd, 1) := by decide +kernel
theorem dX9_nextWays_33 : decode cX9_nextWays 33 = .ok (.iastore, 1) := by decide +kernel
theorem dX9_nextWays_34 : decode cX9_nextWays 34 = .ok (.aload_n 0, 1) := by decide +kernel
theorem dX9_nextWays_35 : decode cX9_nextWays 35 = .ok (.getfield 50, 3) := by decide +kernel
theorem dX9_nextWays_38 : decode cX9_nextWays 38 = .ok (.iload_n 2, 1) := by decide +kernel
theorem dX9_nextWays_39 : decode cX9_nextWays 39 = .ok (.iaload, 1) := by decide +kernel
theorem dX9_nextWays_40 : decode cX9_nextWays 40 = .ok (.aload_n 0, 1) := by decide +kernel
theorem dX9_nextWays_41 : decode cX9_nextWays 41 = .ok (.getfield 73, 3) := by decide +kernel
theorem dX9_nextWays_44 : decode cX9_nextWays 44 = .ok (.if_icmp .gt 31, 3) := by decide +kernel
theorem dX9_nextWays_47 : decode cX9_nextWays 47 = .ok (.iload_n 3, 1) := by decide +kernel
theorem dX9_nextWays_48 : decode cX9_nextWays 48 = .ok (.aload_n 0, 1) := by decide +kernel
theorem dX9_nextWays_49 : decode cX9_nextWays 49 = .ok (.getfield 50, 3) := by decide +kernel
theorem dX9_nextWays_52 : decode cX9_nextWays 52 = .ok (.iload_n 2, 1) := by decide +kernel
theorem dX9_nextWays_53 : decode cX9_nextWays 53 = .ok (.iaload, 1) := by decide +kernel
theorem dX9_nextWays_54 : decode cX9_nextWays 54 = .ok (.iconst 1, 1) := by decide +kernel
theorem dX9_nextWays_55 : decode cX9_nextWays 55 = .ok (.isub, 1) := by decide +kernel
theorem dX9_nextWays_56 : decode cX9_nextWays 56 = .ok (.invokestatic 127, 3) := by decide +kernel
theorem dX9_nextWays_59 : decode cX9_nextWays 59 = .ok (.ifCond .ne 16, 3) := by decide +kernel
theorem dX9_nextWays_62 : decode cX9_nextWays 62 = .ok (.aload_n 0, 1) := by decide +kernel
theorem dX9_nextWays_63 : decode cX9_nextWays 63 = .ok (.getfield 50, 3) := by decide +kernel
theorem dX9_nextWays_66 : decode cX9_nextWays 66 = .ok (.iload_n 2, 1) := by decide +kernel
theorem dX9_nextWays_67 : decode cX9_nextWays 67 = .ok (.dup2, 1) := by decide +kernel
theorem dX9_nextWays_68 : decode cX9_nextWays 68 = .ok (.iaload, 1) := by decide +kernel
theorem dX9_nextWays_69 : decode cX9_nextWays 69 = .ok (.iconst 1, 1) := by decide +kernel
theorem dX9_nextWays_70 : decode cX9_nextWays 70 = .ok (.iadd, 1) := by decide +kernel
theorem dX9_nextWays_71 : decode cX9_nextWays 71 = .ok (.iastore, 1) := by decide +kernel
theorem dX9_nextWays_72 : decode cX9_nextWays 72 = .ok (.goto (-38), 3) := by decide +kernel
theorem dX9_nextWays_75 : decode cX9_nextWays 75 = .ok (.aload_n 0, 1) := by decide +kernel
theorem dX9_nextWays_76 : decode cX9_nextWays 76 = .ok (.getfield 50, 3) := by decide +kernel
theorem dX9_nextWays_79 : decode cX9_nextWays 79 = .ok (.iload_n 2, 1) := by decide +kernel
theorem dX9_nextWays_80 : decode cX9_nextWays 80 = .ok (.iaload, 1) := by decide +kernel
theorem dX9_nextWays_81 : decode cX9_nextWays 81 = .ok (.aload_n 0, 1) := by decide +kernel
theorem dX9_nextWays_82 : decode cX9_nextWays 82 = .ok (.getfield 73, 3) := by decide +kernel
theorem dX9_nextWays_85 : decode cX9_nextWays 85 = .ok (.if_icmp .gt 5, 3) := by decide +kernel
theorem dX9_nextWays_88 : decode cX9_nextWays 88 = .ok (.iconst 1, 1) := by decide +kernel
theorem dX9_nextWays_89 : decode cX9_nextWays 89 = .ok (.ireturn, 1) := by decide +kernel
theorem dX9_nextWays_90 : decode cX9_nextWays 90 = .ok (.aload_n 0, 1) := by decide +kernel
theorem dX9_nextWays_91 : decode cX9_nextWays 91 = .ok (.getfield 50, 3) := by decide +kernel
theorem dX9_nextWays_94 : decode cX9_nextWays 94 = .ok (.iload_n 2, 1) := by decide +kernel
theorem dX9_nextWays_95 : decode cX9_nextWays 95 = .ok (.iconst 0, 1) := by decide +kernel
theorem dX9_nextWays_96 : decode cX9_nextWays 96 = .ok (.iastore, 1) := by decide +kernel
theorem dX9_nextWays_97 : decode cX9_nextWays 97 = .ok (.iinc 2 1, 3) := by decide +kernel
theorem dX9_nextWays_100 : decode cX9_nextWays 100 = .ok (.goto (-98), 3) := by decide +kernel
theorem dX9_nextWays_103 : decode cX9_nextWays 103 = .ok (.iconst 0, 1) := by decide +kernel
theorem dX9_nextWays_104 : decode cX9_nextWays 104 = .ok (.ireturn, 1) := by decide +kernel
theorem dX9_waysOf_0 : decode cX9_waysOf 0 = .ok (.iconst 0, 1) := by decide +kernel
theorem dX9_waysOf_1 : decode cX9_waysOf 1 = .ok (.istore_n 3, 1) := by decide +kernel
theorem dX9_waysOf_2 : decode cX9_waysOf 2 = .ok (.iload_n 3, 1) := by decide +kernel
theorem dX9_waysOf_3 : decode cX9_waysOf 3 = .ok (.bipush 6, 2) := by decide +kernel
theorem dX9_waysOf_5 : decode cX9_waysOf 5 = .ok (.if_icmp .ge 16, 3) := by decide +kernel
theorem dX9_waysOf_8 : decode cX9_waysOf 8 = .ok (.aload_n 0, 1) := by decide +kernel
theorem dX9_waysOf_9 : decode cX9_waysOf 9 = .ok (.getfield 50, 3) := by decide +kernel
theorem dX9_waysOf_12 : decode cX9_waysOf 12 = .ok (.iload_n 3, 1) := by decide +kernel
theorem dX9_waysOf_13 : decode cX9_waysOf 13 = .ok (.iconst 0, 1) := by decide +kernel
theorem dX9_waysOf_14 : decode cX9_waysOf 14 = .ok (.iastore, 1) := by decide +kernel
theorem dX9_waysOf_15 : decode cX9_waysOf 15 = .ok (.iinc 3 1, 3) := by decide +kernel
theorem dX9_waysOf_18 : decode cX9_waysOf 18 = .ok (.goto (-16), 3) := by decide +kernel
theorem dX9_waysOf_21 : decode cX9_waysOf 21 = .ok (.lconst 0, 1) := by decide +kernel
theorem dX9_waysOf_22 : decode cX9_waysOf 22 = .ok (.lstore_n 3, 1) := by decide +kernel
theorem dX9_waysOf_23 : decode cX9_waysOf 23 = .ok (.iconst 1, 1) := by decide +kernel
theorem dX9_waysOf_24 : decode cX9_waysOf 24 = .ok (.istore 5, 2) := by decide +kernel
theorem dX9_waysOf_26 : decode cX9_waysOf 26 = .ok (.iload 5, 2) := by decide +kernel
theorem dX9_waysOf_28 : decode cX9_waysOf 28 = .ok (.ifCond .eq 29, 3) := by decide +kernel
theorem dX9_waysOf_31 : decode cX9_waysOf 31 = .ok (.lload_n 3, 1) := by decide +kernel
theorem dX9_waysOf_32 : decode cX9_waysOf 32 = .ok (.aload_n 0, 1) := by decide +kernel
theorem dX9_waysOf_33 : decode cX9_waysOf 33 = .ok (.iload_n 2, 1) := by decide +kernel
theorem dX9_waysOf_34 : decode cX9_waysOf 34 = .ok (.invokevirtual 212, 3) := by decide +kernel
theorem dX9_waysOf_37 : decode cX9_waysOf 37 = .ok (.ifCond .eq 7, 3) := by decide +kernel
theorem dX9_waysOf_40 : decode cX9_waysOf 40 = .ok (.lconst 1, 1) := by decide +kernel
theorem dX9_waysOf_41 : decode cX9_waysOf 41 = .ok (.goto 4, 3) := by decide +kernel
theorem dX9_waysOf_44 : decode cX9_waysOf 44 = .ok (.lconst 0, 1) := by decide +kernel
theorem dX9_waysOf_45 : decode cX9_waysOf 45 = .ok (.ladd, 1) := by decide +kernel
theorem dX9_waysOf_46 : decode cX9_waysOf 46 = .ok (.lstore_n 3, 1) := by decide +kernel
theorem dX9_waysOf_47 : decode cX9_waysOf 47 = .ok (.aload_n 0, 1) := by decide +kernel
theorem dX9_waysOf_48 : decode cX9_waysOf 48 = .ok (.iload_n 1, 1) := by decide +kernel
theorem dX9_waysOf_49 : decode cX9_waysOf 49 = .ok (.invokevirtual 215, 3) := by decide +kernel
theorem dX9_waysOf_52 : decode cX9_waysOf 52 = .ok (.istore 5, 2) := by decide +kernel
theorem dX9_waysOf_54 : decode cX9_waysOf 54 = .ok (.goto (-28), 3) := by decide +kernel
theorem dX9_waysOf_57 : decode cX9_waysOf 57 = .ok (.lload_n 3, 1) := by decide +kernel
theorem dX9_waysOf_58 : decode cX9_waysOf 58 = .ok (.lreturn, 1) := by decide +kernel
theorem dX9_layTales_0 : decode cX9_layTales 0 = .ok (.aload_n 0, 1) := by decide +kernel
theorem dX9_layTales_1 : decode cX9_layTales 1 = .ok (.invokevirtual 218, 3) := by decide +kernel
theorem dX9_layTales_4 : decode cX9_layTales 4 = .ok (.istore_n 1, 1) := by decide +kernel
theorem dX9_layTales_5 : decode cX9_layTales 5 = .ok (.iconst 0, 1) := by decide +kernel
theorem dX9_layTales_6 : decode cX9_layTales 6 = .ok (.istore_n 2, 1) := by decide +kernel
theorem dX9_layTales_7 : decode cX9_layTales 7 = .ok (.iload_n 2, 1) := by decide +kernel
theorem dX9_layTales_8 : decode cX9_layTales 8 = .ok (.bipush 64, 2) := by decide +kernel
theorem dX9_layTales_10 : decode cX9_layTales 10 = .ok (.if_icmp .ge 75, 3) := by decide +kernel
theorem dX9_layTales_13 : decode cX9_layTales 13 = .ok (.aload_n 0, 1) := by decide +kernel
theorem dX9_layTales_14 : decode cX9_layTales 14 = .ok (.getfield 53, 3) := by decide +kernel
theorem dX9_layTales_17 : decode cX9_layTales 17 = .ok (.iload_n 2, 1) := by decide +kernel
theorem dX9_layTales_18 : decode cX9_layTales 18 = .ok (.iload_n 2, 1) := by decide +kernel
theorem dX9_layTales_19 : decode cX9_layTales 19 = .ok (.iload_n 1, 1) := by decide +kernel
theorem dX9_layTales_20 : decode cX9_layTales 20 = .ok (.iconst (-1), 1) := by decide +kernel
theorem dX9_layTales_21 : decode cX9_layTales 21 = .ok (.ixor, 1) := by decide +kernel
theorem dX9_layTales_22 : decode cX9_layTales 22 = .ok (.iand, 1) := by decide +kernel
theorem dX9_layTales_23 : decode cX9_layTales 23 = .ok (.ifCond .ne 15, 3) := by decide +kernel
theorem dX9_layTales_26 : decode cX9_layTales 26 = .ok (.aload_n 0, 1) := by decide +kernel
theorem dX9_layTales_27 : decode cX9_layTales 27 = .ok (.iload_n 2, 1) := by decide +kernel
theorem dX9_layTales_28 : decode cX9_layTales 28 = .ok (.invokevirtual 221, 3) := by decide +kernel
theorem dX9_layTales_31 : decode cX9_layTales 31 = .ok (.ifCond .eq 7, 3) := by decide +kernel
theorem dX9_layTales_34 : decode cX9_layTales 34 = .ok (.lconst 1, 1) := by decide +kernel
theorem dX9_layTales_35 : decode cX9_layTales 35 = .ok (.goto 4, 3) := by decide +kernel
theorem dX9_layTales_38 : decode cX9_layTales 38 = .ok (.lconst 0, 1) := by decide +kernel
theorem dX9_layTales_39 : decode cX9_layTales 39 = .ok (.lastore, 1) := by decide +kernel
theorem dX9_layTales_40 : decode cX9_layTales 40 = .ok (.iconst 0, 1) := by decide +kernel
theorem dX9_layTales_41 : decode cX9_layTales 41 = .ok (.istore_n 3, 1) := by decide +kernel
theorem dX9_layTales_42 : decode cX9_layTales 42 = .ok (.iload_n 3, 1) := by decide +kernel
theorem dX9_layTales_43 : decode cX9_layTales 43 = .ok (.iconst 3, 1) := by decide +kernel
theorem dX9_layTales_44 : decode cX9_layTales 44 = .ok (.if_icmp .ge 35, 3) := by decide +kernel
theorem dX9_layTales_47 : decode cX9_layTales 47 = .ok (.aload_n 0, 1) := by decide +kernel
theorem dX9_layTales_48 : decode cX9_layTales 48 = .ok (.getfield 53, 3) := by decide +kernel
theorem dX9_layTales_51 : decode cX9_layTales 51 = .ok (.iload_n 2, 1) := by decide +kernel
theorem dX9_layTales_52 : decode cX9_layTales 52 = .ok (.laload, 1) := by decide +kernel
theorem dX9_layTales_53 : decode cX9_layTales 53 = .ok (.lconst 0, 1) := by decide +kernel
theorem dX9_layTales_54 : decode cX9_layTales 54 = .ok (.lcmp, 1) := by decide +kernel
theorem dX9_layTales_55 : decode cX9_layTales 55 = .ok (.ifCond .le 24, 3) := by decide +kernel
theorem dX9_layTales_58 : decode cX9_layTales 58 = .ok (.aload_n 0, 1) := by decide +kernel
theorem dX9_layTales_59 : decode cX9_layTales 59 = .ok (.getfield 53, 3) := by decide +kernel
theorem dX9_layTales_62 : decode cX9_layTales 62 = .ok (.iload_n 2, 1) := by decide +kernel
theorem dX9_layTales_63 : decode cX9_layTales 63 = .ok (.dup2, 1) := by decide +kernel
theorem dX9_layTales_64 : decode cX9_layTales 64 = .ok (.laload, 1) := by decide +kernel
theorem dX9_layTales_65 : decode cX9_layTales 65 = .ok (.aload_n 0, 1) := by decide +kernel
theorem dX9_layTales_66 : decode cX9_layTales 66 = .ok (.iload_n 2, 1) := by decide +kernel
theorem dX9_layTales_67 : decode cX9_layTales 67 = .ok (.iload_n 3, 1) := by decide +kernel
theorem dX9_layTales_68 : decode cX9_layTales 68 = .ok (.invokevirtual 224, 3) := by decide +kernel
theorem dX9_layTales_71 : decode cX9_layTales 71 = .ok (.lmul, 1) := by decide +kernel
theorem dX9_layTales_72 : decode cX9_layTales 72 = .ok (.lastore, 1) := by decide +kernel
theorem dX9_layTales_73 : decode cX9_layTales 73 = .ok (.iinc 3 1, 3) := by decide +kernel
theorem dX9_layTales_76 : decode cX9_layTales 76 = .ok (.goto (-34), 3) := by decide +kernel
theorem dX9_layTales_79 : decode cX9_layTales 79 = .ok (.iinc 2 1, 3) := by decide +kernel
theorem dX9_layTales_82 : decode cX9_layTales 82 = .ok (.goto (-75), 3) := by decide +kernel
theorem dX9_layTales_85 : decode cX9_layTales 85 = .ok (.return_, 1) := by decide +kernel
theorem dX9_setsWith_0 : decode cX9_setsWith 0 = .ok (.iconst 0, 1) := by decide +kernel
theorem dX9_setsWith_1 : decode cX9_setsWith 1 = .ok (.istore_n 2, 1) := by decide +kernel
theorem dX9_setsWith_2 : decode cX9_setsWith 2 = .ok (.iconst 0, 1) := by decide +kernel
theorem dX9_setsWith_3 : decode cX9_setsWith 3 = .ok (.istore_n 3, 1) := by decide +kernel
theorem dX9_setsWith_4 : decode cX9_setsWith 4 = .ok (.iload_n 3, 1) := by decide +kernel
theorem dX9_setsWith_5 : decode cX9_setsWith 5 = .ok (.bipush 64, 2) := by decide +kernel
theorem dX9_setsWith_7 : decode cX9_setsWith 7 = .ok (.if_icmp .ge 42, 3) := by decide +kernel
theorem dX9_setsWith_10 : decode cX9_setsWith 10 = .ok (.iload_n 2, 1) := by decide +kernel
theorem dX9_setsWith_11 : decode cX9_setsWith 11 = .ok (.aload_n 0, 1) := by decide +kernel
theorem dX9_setsWith_12 : decode cX9_setsWith 12 = .ok (.getfield 53, 3) := by decide +kernel
theorem dX9_setsWith_15 : decode cX9_setsWith 15 = .ok (.iload_n 3, 1) := by decide +kernel
theorem dX9_setsWith_16 : decode cX9_setsWith 16 = .ok (.laload, 1) := by decide +kernel
theorem dX9_setsWith_17 : decode cX9_setsWith 17 = .ok (.lconst 0, 1) := by decide +kernel
theorem dX9_setsWith_18 : decode cX9_setsWith 18 = .ok (.lcmp, 1) := by decide +kernel
theorem dX9_setsWith_19 : decode cX9_setsWith 19 = .ok (.ifCond .le 21, 3) := by decide +kernel
theorem dX9_setsWith_22 : decode cX9_setsWith 22 = .ok (.iload_n 1, 1) := by decide +kernel
theorem dX9_setsWith_23 : decode cX9_setsWith 23 = .ok (.bipush (-9), 2) := by decide +kernel
theorem dX9_setsWith_25 : decode cX9_setsWith 25 = .ok (.if_icmp .eq 11, 3) := by decide +kernel
theorem dX9_setsWith_28 : decode cX9_setsWith 28 = .ok (.iload_n 3, 1) := by decide +kernel
theorem dX9_setsWith_29 : decode cX9_setsWith 29 = .ok (.iload_n 1, 1) := by decide +kernel
theorem dX9_setsWith_30 : decode cX9_setsWith 30 = .ok (.invokestatic 127, 3) := by decide +kernel
theorem dX9_setsWith_33 : decode cX9_setsWith 33 = .ok (.ifCond .eq 7, 3) := by decide +kernel
theorem dX9_setsWith_36 : decode cX9_setsWith 36 = .ok (.iconst 1, 1) := by decide +kernel
theorem dX9_setsWith_37 : decode cX9_setsWith 37 = .ok (.goto 4, 3) := by decide +kernel
theorem dX9_setsWith_40 : decode cX9_setsWith 40 = .ok (.iconst 0, 1) := by decide +kernel
theorem dX9_setsWith_41 : decode cX9_setsWith 41 = .ok (.iadd, 1) := by decide +kernel
theorem dX9_setsWith_42 : decode cX9_setsWith 42 = .ok (.istore_n 2, 1) := by decide +kernel
theorem dX9_setsWith_43 : decode cX9_setsWith 43 = .ok (.iinc 3 1, 3) := by decide +kernel
theorem dX9_setsWith_46 : decode cX9_setsWith 46 = .ok (.goto (-42), 3) := by decide +kernel
theorem dX9_setsWith_49 : decode cX9_setsWith 49 = .ok (.iload_n 2, 1) := by decide +kernel
theorem dX9_setsWith_50 : decode cX9_setsWith 50 = .ok (.ireturn, 1) := by decide +kernel
theorem dX9_tales_0 : decode cX9_tales 0 = .ok (.aload_n 0, 1) := by decide +kernel
theorem dX9_tales_1 : decode cX9_tales 1 = .ok (.iconst 0, 1) := by decide +kernel
theorem dX9_tales_2 : decode cX9_tales 2 = .ok (.putfield 69, 3) := by decide +kernel
theorem dX9_tales_5 : decode cX9_tales 5 = .ok (.aload_n 0, 1) := by decide +kernel
theorem dX9_tales_6 : decode cX9_tales 6 = .ok (.invokevirtual 228, 3) := by decide +kernel
theorem dX9_tales_9 : decode cX9_tales 9 = .ok (.lconst 0, 1) := by decide +kernel
theorem dX9_tales_10 : decode cX9_tales 10 = .ok (.lstore_n 1, 1) := by decide +kernel
theorem dX9_tales_11 : decode cX9_tales 11 = .ok (.iconst 0, 1) := by decide +kernel
theorem dX9_tales_12 : decode cX9_tales 12 = .ok (.istore_n 3, 1) := by decide +kernel
theorem dX9_tales_13 : decode cX9_tales 13 = .ok (.iload_n 3, 1) := by decide +kernel
theorem dX9_tales_14 : decode cX9_tales 14 = .ok (.bipush 64, 2) := by decide +kernel
theorem dX9_tales_16 : decode cX9_tales 16 = .ok (.if_icmp .ge 18, 3) := by decide +kernel
theorem dX9_tales_19 : decode cX9_tales 19 = .ok (.lload_n 1, 1) := by decide +kernel
theorem dX9_tales_20 : decode cX9_tales 20 = .ok (.aload_n 0, 1) := by decide +kernel
theorem dX9_tales_21 : decode cX9_tales 21 = .ok (.getfield 53, 3) := by decide +kernel
theorem dX9_tales_24 : decode cX9_tales 24 = .ok (.iload_n 3, 1) := by decide +kernel
theorem dX9_tales_25 : decode cX9_tales 25 = .ok (.laload, 1) := by decide +kernel
theorem dX9_tales_26 : decode cX9_tales 26 = .ok (.ladd, 1) := by decide +kernel
theorem dX9_tales_27 : decode cX9_tales 27 = .ok (.lstore_n 1, 1) := by decide +kernel
theorem dX9_tales_28 : decode cX9_tales 28 = .ok (.iinc 3 1, 3) := by decide +kernel
theorem dX9_tales_31 : decode cX9_tales 31 = .ok (.goto (-18), 3) := by decide +kernel
theorem dX9_tales_34 : decode cX9_tales 34 = .ok (.lload_n 1, 1) := by decide +kernel
theorem dX9_tales_35 : decode cX9_tales 35 = .ok (.lreturn, 1) := by decide +kernel
theorem dX9_sets_0 : decode cX9_sets 0 = .ok (.aload_n 0, 1) := by decide +kernel
theorem dX9_sets_1 : decode cX9_sets 1 = .ok (.iconst 0, 1) := by decide +kernel
theorem dX9_sets_2 : decode cX9_sets 2 = .ok (.putfield 69, 3) := by decide +kernel
theorem dX9_sets_5 : decode cX9_sets 5 = .ok (.aload_n 0, 1) := by decide +kernel
theorem dX9_sets_6 : decode cX9_sets 6 = .ok (.invokevirtual 228, 3) := by decide +kernel
theorem dX9_sets_9 : decode cX9_sets 9 = .ok (.aload_n 0, 1) := by decide +kernel
theorem dX9_sets_10 : decode cX9_sets 10 = .ok (.bipush (-9), 2) := by decide +kernel
theorem dX9_sets_12 : decode cX9_sets 12 = .ok (.invokevirtual 231, 3) := by decide +kernel
theorem dX9_sets_15 : decode cX9_sets 15 = .ok (.ireturn, 1) := by decide +kernel
theorem dX9_setAt_0 : decode cX9_setAt 0 = .ok (.aload_n 0, 1) := by decide +kernel
theorem dX9_setAt_1 : decode cX9_setAt 1 = .ok (.iconst 0, 1) := by decide +kernel
theorem dX9_setAt_2 : decode cX9_setAt 2 = .ok (.putfield 69, 3) := by decide +kernel
theorem dX9_setAt_5 : decode cX9_setAt 5 = .ok (.aload_n 0, 1) := by decide +kernel
theorem dX9_setAt_6 : decode cX9_setAt 6 = .ok (.invokevirtual 228, 3) := by decide +kernel
theorem dX9_setAt_9 : decode cX9_setAt 9 = .ok (.iconst 0, 1) := by decide +kernel
theorem dX9_setAt_10 : decode cX9_setAt 10 = .ok (.istore_n 2, 1) := by decide +kernel
theorem dX9_setAt_11 : decode cX9_setAt 11 = .ok (.iconst 0, 1) := by decide +kernel
theorem dX9_setAt_12 : decode cX9_setAt 12 = .ok (.istore_n 3, 1) := by decide +kernel
theorem dX9_setAt_13 : decode cX9_setAt 13 = .ok (.iload_n 3, 1) := by decide +kernel
theorem dX9_setAt_14 : decode cX9_setAt 14 = .ok (.bipush 64, 2) := by decide +kernel
theorem dX9_setAt_16 : decode cX9_setAt 16 = .ok (.if_icmp .ge 30, 3) := by decide +kernel
theorem dX9_setAt_19 : decode cX9_setAt 19 = .ok (.aload_n 0, 1) := by decide +kernel
theorem dX9_setAt_20 : decode cX9_setAt 20 = .ok (.getfield 53, 3) := by decide +kernel
theorem dX9_setAt_23 : decode cX9_setAt 23 = .ok (.iload_n 3, 1) := by decide +kernel
theorem dX9_setAt_24 : decode cX9_setAt 24 = .ok (.laload, 1) := by decide +kernel
theorem dX9_setAt_25 : decode cX9_setAt 25 = .ok (.lconst 0, 1) := by decide +kernel
theorem dX9_setAt_26 : decode cX9_setAt 26 = .ok (.lcmp, 1) := by decide +kernel
theorem dX9_setAt_27 : decode cX9_setAt 27 = .ok (.ifCond .le 13, 3) := by decide +kernel
theorem dX9_setAt_30 : decode cX9_setAt 30 = .ok (.iload_n 2, 1) := by decide +kernel
theorem dX9_setAt_31 : decode cX9_setAt 31 = .ok (.iload_n 1, 1) := by decide +kernel
theorem dX9_setAt_32 : decode cX9_setAt 32 = .ok (.if_icmp .ne 5, 3) := by decide +kernel
theorem dX9_setAt_35 : decode cX9_setAt 35 = .ok (.iload_n 3, 1) := by decide +kernel
theorem dX9_setAt_36 : decode cX9_setAt 36 = .ok (.ireturn, 1) := by decide +kernel
theorem dX9_setAt_37 : decode cX9_setAt 37 = .ok (.iinc 2 1, 3) := by decide +kernel
theorem dX9_setAt_40 : decode cX9_setAt 40 = .ok (.iinc 3 1, 3) := by decide +kernel
theorem dX9_setAt_43 : decode cX9_setAt 43 = .ok (.goto (-30), 3) := by decide +kernel
theorem dX9_setAt_46 : decode cX9_setAt 46 = .ok (.bipush (-9), 2) := by decide +kernel
theorem dX9_setAt_48 : decode cX9_setAt 48 = .ok (.ireturn, 1) := by decide +kernel
theorem dX9_suspects_0 : decode cX9_suspects 0 = .ok (.iconst 0, 1) := by decide +kernel
theorem dX9_suspects_1 : decode cX9_suspects 1 = .ok (.istore_n 1, 1) := by decide +kernel
theorem dX9_suspects_2 : decode cX9_suspects 2 = .ok (.iconst 0, 1) := by decide +kernel
theorem dX9_suspects_3 : decode cX9_suspects 3 = .ok (.istore_n 2, 1) := by decide +kernel
theorem dX9_suspects_4 : decode cX9_suspects 4 = .ok (.iload_n 2, 1) := by decide +kernel
theorem dX9_suspects_5 : decode cX9_suspects 5 = .ok (.aload_n 0, 1) := by decide +kernel
theorem dX9_suspects_6 : decode cX9_suspects 6 = .ok (.getfield 80, 3) := by decide +kernel
theorem dX9_suspects_9 : decode cX9_suspects 9 = .ok (.if_icmp .ge 27, 3) := by decide +kernel
theorem dX9_suspects_12 : decode cX9_suspects 12 = .ok (.iload_n 1, 1) := by decide +kernel
theorem dX9_suspects_13 : decode cX9_suspects 13 = .ok (.aload_n 0, 1) := by decide +kernel
theorem dX9_suspects_14 : decode cX9_suspects 14 = .ok (.iload_n 2, 1) := by decide +kernel
theorem dX9_suspects_15 : decode cX9_suspects 15 = .ok (.invokevirtual 231, 3) := by decide +kernel
theorem dX9_suspects_18 : decode cX9_suspects 18 = .ok (.ifCond .le 9, 3) := by decide +kernel
theorem dX9_suspects_21 : decode cX9_suspects 21 = .ok (.iconst 1, 1) := by decide +kernel
theorem dX9_suspects_22 : decode cX9_suspects 22 = .ok (.iload_n 2, 1) := by decide +kernel
theorem dX9_suspects_23 : decode cX9_suspects 23 = .ok (.ishl, 1) := by decide +kernel
theorem dX9_suspects_24 : decode cX9_suspects 24 = .ok (.goto 4, 3) := by decide +kernel
theorem dX9_suspects_27 : decode cX9_suspects 27 = .ok (.iconst 0, 1) := by decide +kernel
theorem dX9_suspects_28 : decode cX9_suspects 28 = .ok (.ior, 1) := by decide +kernel
theorem dX9_suspects_29 : decode cX9_suspects 29 = .ok (.istore_n 1, 1) := by decide +kernel
theorem dX9_suspects_30 : decode cX9_suspects 30 = .ok (.iinc 2 1, 3) := by decide +kernel
theorem dX9_suspects_33 : decode cX9_suspects 33 = .ok (.goto (-29), 3) := by decide +kernel
theorem dX9_suspects_36 : decode cX9_suspects 36 = .ok (.iload_n 1, 1) := by decide +kernel
theorem dX9_suspects_37 : decode cX9_suspects 37 = .ok (.ireturn, 1) := by decide +kernel
theorem dX9_sure_0 : decode cX9_sure 0 = .ok (.aload_n 0, 1) := by decide +kernel
theorem dX9_sure_1 : decode cX9_sure 1 = .ok (.iconst 0, 1) := by decide +kernel
theorem dX9_sure_2 : decode cX9_sure 2 = .ok (.putfield 69, 3) := by decide +kernel
theorem dX9_sure_5 : decode cX9_sure 5 = .ok (.iload_n 1, 1) := by decide +kernel
theorem dX9_sure_6 : decode cX9_sure 6 = .ok (.i2l, 1) := by decide +kernel
theorem dX9_sure_7 : decode cX9_sure 7 = .ok (.lconst 0, 1) := by decide +kernel
theorem dX9_sure_8 : decode cX9_sure 8 = .ok (.ldc2_w 193, 3) := by decide +kernel
theorem dX9_sure_11 : decode cX9_sure 11 = .ok (.invokestatic 76, 3) := by decide +kernel
theorem dX9_sure_14 : decode cX9_sure 14 = .ok (.ifCond .ne 6, 3) := by decide +kernel
theorem dX9_sure_17 : decode cX9_sure 17 = .ok (.bipush (-2), 2) := by decide +kernel
theorem dX9_sure_19 : decode cX9_sure 19 = .ok (.ireturn, 1) := by decide +kernel
theorem dX9_sure_20 : decode cX9_sure 20 = .ok (.aload_n 0, 1) := by decide +kernel
theorem dX9_sure_21 : decode cX9_sure 21 = .ok (.invokevirtual 228, 3) := by decide +kernel
theorem dX9_sure_24 : decode cX9_sure 24 = .ok (.aload_n 0, 1) := by decide +kernel
theorem dX9_sure_25 : decode cX9_sure 25 = .ok (.bipush (-9), 2) := by decide +kernel
theorem dX9_sure_27 : decode cX9_sure 27 = .ok (.invokevirtual 231, 3) := by decide +kernel
theorem dX9_sure_30 : decode cX9_sure 30 = .ok (.istore_n 2, 1) := by decide +kernel
theorem dX9_sure_31 : decode cX9_sure 31 = .ok (.iload_n 2, 1) := by decide +kernel
theorem dX9_sure_32 : decode cX9_sure 32 = .ok (.ifCond .ne 6, 3) := by decide +kernel
theorem dX9_sure_35 : decode cX9_sure 35 = .ok (.bipush (-9), 2) := by decide +kernel
theorem dX9_sure_37 : decode cX9_sure 37 = .ok (.ireturn, 1) := by decide +kernel
theorem dX9_sure_38 : decode cX9_sure 38 = .ok (.iconst 0, 1) := by decide +kernel
theorem dX9_sure_39 : decode cX9_sure 39 = .ok (.istore_n 3, 1) := by decide +kernel
theorem dX9_sure_40 : decode cX9_sure 40 = .ok (.iconst 0, 1) := by decide +kernel
theorem dX9_sure_41 : decode cX9_sure 41 = .ok (.istore 4, 2) := by decide +kernel
theorem dX9_sure_43 : decode cX9_sure 43 = .ok (.iload 4, 2) := by decide +kernel
theorem dX9_sure_45 : decode cX9_sure 45 = .ok (.aload_n 0, 1) := by decide +kernel
theorem dX9_sure_46 : decode cX9_sure 46 = .ok (.getfield 80, 3) := by decide +kernel
theorem dX9_sure_49 : decode cX9_sure 49 = .ok (.if_icmp .ge 30, 3) := by decide +kernel
theorem dX9_sure_52 : decode cX9_sure 52 = .ok (.iload_n 3, 1) := by decide +kernel
theorem dX9_sure_53 : decode cX9_sure 53 = .ok (.aload_n 0, 1) := by decide +kernel
theorem dX9_sure_54 : decode cX9_sure 54 = .ok (.iload 4, 2) := by decide +kernel
theorem dX9_sure_56 : decode cX9_sure 56 = .ok (.invokevirtual 231, 3) := by decide +kernel
theorem dX9_sure_59 : decode cX9_sure 59 = .ok (.iload_n 2, 1) := by decide +kernel
theorem dX9_sure_60 : decode cX9_sure 60 = .ok (.if_icmp .ne 10, 3) := by decide +kernel
theorem dX9_sure_63 : decode cX9_sure 63 = .ok (.iconst 1, 1) := by decide +kernel
theorem dX9_sure_64 : decode cX9_sure 64 = .ok (.iload 4, 2) := by decide +kernel
theorem dX9_sure_66 : decode cX9_sure 66 = .ok (.ishl, 1) := by decide +kernel
theorem dX9_sure_67 : decode cX9_sure 67 = .ok (.goto 4, 3) := by decide +kernel
theorem dX9_sure_70 : decode cX9_sure 70 = .ok (.iconst 0, 1) := by decide +kernel
theorem dX9_sure_71 : decode cX9_sure 71 = .ok (.ior, 1) := by decide +kernel
theorem dX9_sure_72 : decode cX9_sure 72 = .ok (.istore_n 3, 1) := by decide +kernel
theorem dX9_sure_73 : decode cX9_sure 73 = .ok (.iinc 4 1, 3) := by decide +kernel
theorem dX9_sure_76 : decode cX9_sure 76 = .ok (.goto (-33), 3) := by decide +kernel
theorem dX9_sure_79 : decode cX9_sure 79 = .ok (.iload_n 1, 1) := by decide +kernel
theorem dX9_sure_80 : decode cX9_sure 80 = .ok (.ifCond .ne 7, 3) := by decide +kernel
theorem dX9_sure_83 : decode cX9_sure 83 = .ok (.iload_n 3, 1) := by decide +kernel
theorem dX9_sure_84 : decode cX9_sure 84 = .ok (.goto 26, 3) := by decide +kernel
theorem dX9_sure_87 : decode cX9_sure 87 = .ok (.iload_n 1, 1) := by decide +kernel
theorem dX9_sure_88 : decode cX9_sure 88 = .ok (.iconst 1, 1) := by decide +kernel
theorem dX9_sure_89 : decode cX9_sure 89 = .ok (.if_icmp .ne 17, 3) := by decide +kernel
theorem dX9_sure_92 : decode cX9_sure 92 = .ok (.aload_n 0, 1) := by decide +kernel
theorem dX9_sure_93 : decode cX9_sure 93 = .ok (.invokevirtual 218, 3) := by decide +kernel
theorem dX9_sure_96 : decode cX9_sure 96 = .ok (.aload_n 0, 1) := by decide +kernel
theorem dX9_sure_97 : decode cX9_sure 97 = .ok (.invokevirtual 234, 3) := by decide +kernel
theorem dX9_sure_100 : decode cX9_sure 100 = .ok (.iconst (-1), 1) := by decide +kernel
theorem dX9_sure_101 : decode cX9_sure 101 = .ok (.ixor, 1) := by decide +kernel
theorem dX9_sure_102 : decode cX9_sure 102 = .ok (.iand, 1) := by decide +kernel
theorem dX9_sure_103 : decode cX9_sure 103 = .ok (.goto 7, 3) := by decide +kernel
theorem dX9_sure_106 : decode cX9_sure 106 = .ok (.aload_n 0, 1) := by decide +kernel
theorem dX9_sure_107 : decode cX9_sure 107 = .ok (.invokevirtual 234, 3) := by decide +kernel
theorem dX9_sure_110 : decode cX9_sure 110 = .ok (.ireturn, 1) := by decide +kernel
theorem dX9_part_0 : decode cX9_part 0 = .ok (.lload_n 0, 1) := by decide +kernel
theorem dX9_part_1 : decode cX9_part 1 = .ok (.lstore 5, 2) := by decide +kernel
theorem dX9_part_3 : decode cX9_part 3 = .ok (.lload_n 2, 1) := by decide +kernel
theorem dX9_part_4 : decode cX9_part 4 = .ok (.lstore 7, 2) := by decide +kernel
theorem dX9_part_6 : decode cX9_part 6 = .ok (.lload 7, 2) := by decide +kernel
theorem dX9_part_8 : decode cX9_part 8 = .ok (.lconst 0, 1) := by decide +kernel
theorem dX9_part_9 : decode cX9_part 9 = .ok (.lcmp, 1) := by decide +kernel
theorem dX9_part_10 : decode cX9_part 10 = .ok (.ifCond .eq 21, 3) := by decide +kernel
theorem dX9_part_13 : decode cX9_part 13 = .ok (.lload 5, 2) := by decide +kernel
theorem dX9_part_15 : decode cX9_part 15 = .ok (.lload 7, 2) := by decide +kernel
theorem dX9_part_17 : decode cX9_part 17 = .ok (.lrem, 1) := by decide +kernel
theorem dX9_part_18 : decode cX9_part 18 = .ok (.lstore 9, 2) := by decide +kernel
theorem dX9_part_20 : decode cX9_part 20 = .ok (.lload 7, 2) := by decide +kernel
theorem dX9_part_22 : decode cX9_part 22 = .ok (.lstore 5, 2) := by decide +kernel
theorem dX9_part_24 : decode cX9_part 24 = .ok (.lload 9, 2) := by decide +kernel
theorem dX9_part_26 : decode cX9_part 26 = .ok (.lstore 7, 2) := by decide +kernel
theorem dX9_part_28 : decode cX9_part 28 = .ok (.goto (-22), 3) := by decide +kernel
theorem dX9_part_31 : decode cX9_part 31 = .ok (.iload 4, 2) := by decide +kernel
theorem dX9_part_33 : decode cX9_part 33 = .ok (.ifCond .eq 10, 3) := by decide +kernel
theorem dX9_part_36 : decode cX9_part 36 = .ok (.lload_n 0, 1) := by decide +kernel
theorem dX9_part_37 : decode cX9_part 37 = .ok (.lload 5, 2) := by decide +kernel
theorem dX9_part_39 : decode cX9_part 39 = .ok (.ldiv, 1) := by decide +kernel
theorem dX9_part_40 : decode cX9_part 40 = .ok (.goto 7, 3) := by decide +kernel
theorem dX9_part_43 : decode cX9_part 43 = .ok (.lload_n 2, 1) := by decide +kernel
theorem dX9_part_44 : decode cX9_part 44 = .ok (.lload 5, 2) := by decide +kernel
theorem dX9_part_46 : decode cX9_part 46 = .ok (.ldiv, 1) := by decide +kernel
theorem dX9_part_47 : decode cX9_part 47 = .ok (.lreturn, 1) := by decide +kernel
theorem dX9_likely_0 : decode cX9_likely 0 = .ok (.aload_n 0, 1) := by decide +kernel
theorem dX9_likely_1 : decode cX9_likely 1 = .ok (.iconst 0, 1) := by decide +kernel
theorem dX9_likely_2 : decode cX9_likely 2 = .ok (.putfield 69, 3) := by decide +kernel
theorem dX9_likely_5 : decode cX9_likely 5 = .ok (.aload_n 0, 1) := by decide +kernel
theorem dX9_likely_6 : decode cX9_likely 6 = .ok (.iload_n 1, 1) := by decide +kernel
theorem dX9_likely_7 : decode cX9_likely 7 = .ok (.invokevirtual 168, 3) := by decide +kernel
theorem dX9_likely_10 : decode cX9_likely 10 = .ok (.ifCond .eq 7, 3) := by decide +kernel
theorem dX9_likely_13 : decode cX9_likely 13 = .ok (.ldc2_w 237, 3) := by decide +kernel
theorem dX9_likely_16 : decode cX9_likely 16 = .ok (.lreturn, 1) := by decide +kernel
theorem dX9_likely_17 : decode cX9_likely 17 = .ok (.aload_n 0, 1) := by decide +kernel
theorem dX9_likely_18 : decode cX9_likely 18 = .ok (.invokevirtual 228, 3) := by decide +kernel
theorem dX9_likely_21 : decode cX9_likely 21 = .ok (.lconst 0, 1) := by decide +kernel
theorem dX9_likely_22 : decode cX9_likely 22 = .ok (.lstore_n 3, 1) := by decide +kernel
theorem dX9_likely_23 : decode cX9_likely 23 = .ok (.lconst 0, 1) := by decide +kernel
theorem dX9_likely_24 : decode cX9_likely 24 = .ok (.lstore 5, 2) := by decide +kernel
theorem dX9_likely_26 : decode cX9_likely 26 = .ok (.iconst 0, 1) := by decide +kernel
theorem dX9_likely_27 : decode cX9_likely 27 = .ok (.istore 7, 2) := by decide +kernel
theorem dX9_likely_29 : decode cX9_likely 29 = .ok (.iload 7, 2) := by decide +kernel
theorem dX9_likely_31 : decode cX9_likely 31 = .ok (.bipush 64, 2) := by decide +kernel
theorem dX9_likely_33 : decode cX9_likely 33 = .ok (.if_icmp .ge 44, 3) := by decide +kernel
theorem dX9_likely_36 : decode cX9_likely 36 = .ok (.lload_n 3, 1) := by decide +kernel
theorem dX9_likely_37 : decode cX9_likely 37 = .ok (.aload_n 0, 1) := by decide +kernel
theorem dX9_likely_38 : decode cX9_likely 38 = .ok (.getfield 53, 3) := by decide +kernel
theorem dX9_likely_41 : decode cX9_likely 41 = .ok (.iload 7, 2) := by decide +kernel
theorem dX9_likely_43 : decode cX9_likely 43 = .ok (.laload, 1) := by decide +kernel
theorem dX9_likely_44 : decode cX9_likely 44 = .ok (.ladd, 1) := by decide +kernel
theorem dX9_likely_45 : decode cX9_likely 45 = .ok (.lstore_n 3, 1) := by decide +kernel
theorem dX9_likely_46 : decode cX9_likely 46 = .ok (.lload 5, 2) := by decide +kernel
theorem dX9_likely_48 : decode cX9_likely 48 = .ok (.iload 7, 2) := by decide +kernel
theorem dX9_likely_50 : decode cX9_likely 50 = .ok (.iload_n 1, 1) := by decide +kernel
theorem dX9_likely_51 : decode cX9_likely 51 = .ok (.invokestatic 127, 3) := by decide +kernel
theorem dX9_likely_54 : decode cX9_likely 54 = .ok (.ifCond .eq 13, 3) := by decide +kernel
theorem dX9_likely_57 : decode cX9_likely 57 = .ok (.aload_n 0, 1) := by decide +kernel
theorem dX9_likely_58 : decode cX9_likely 58 = .ok (.getfield 53, 3) := by decide +kernel
theorem dX9_likely_61 : decode cX9_likely 61 = .ok (.iload 7, 2) := by decide +kernel
theorem dX9_likely_63 : decode cX9_likely 63 = .ok (.laload, 1) := by decide +kernel
theorem dX9_likely_64 : decode cX9_likely 64 = .ok (.goto 4, 3) := by decide +kernel
theorem dX9_likely_67 : decode cX9_likely 67 = .ok (.lconst 0, 1) := by decide +kernel
theorem dX9_likely_68 : decode cX9_likely 68 = .ok (.ladd, 1) := by decide +kernel
theorem dX9_likely_69 : decode cX9_likely 69 = .ok (.lstore 5, 2) := by decide +kernel
theorem dX9_likely_71 : decode cX9_likely 71 = .ok (.iinc 7 1, 3) := by decide +kernel
theorem dX9_likely_74 : decode cX9_likely 74 = .ok (.goto (-45), 3) := by decide +kernel
theorem dX9_likely_77 : decode cX9_likely 77 = .ok (.lload_n 3, 1) := by decide +kernel
theorem dX9_likely_78 : decode cX9_likely 78 = .ok (.lconst 0, 1) := by decide +kernel
theorem dX9_likely_79 : decode cX9_likely 79 = .ok (.lcmp, 1) := by decide +kernel
theorem dX9_likely_80 : decode cX9_likely 80 = .ok (.ifCond .ne 9, 3) := by decide +kernel
theorem dX9_likely_83 : decode cX9_likely 83 = .ok (.ldc2_w 239, 3) := by decide +kernel
theorem dX9_likely_86 : decode cX9_likely 86 = .ok (.goto 10, 3) := by decide +kernel
theorem dX9_likely_89 : decode cX9_likely 89 = .ok (.lload 5, 2) := by decide +kernel
theorem dX9_likely_91 : decode cX9_likely 91 = .ok (.lload_n 3, 1) := by decide +kernel
theorem dX9_likely_92 : decode cX9_likely 92 = .ok (.iload_n 2, 1) := by decide +kernel
theorem dX9_likely_93 : decode cX9_likely 93 = .ok (.invokestatic 241, 3) := by decide +kernel
theorem dX9_likely_96 : decode cX9_likely 96 = .ok (.lreturn, 1) := by decide +kernel
theorem dX9_toTest_0 : decode cX9_toTest 0 = .ok (.aload_n 0, 1) := by decide +kernel
theorem dX9_toTest_1 : decode cX9_toTest 1 = .ok (.iconst 0, 1) := by decide +kernel
theorem dX9_toTest_2 : decode cX9_toTest 2 = .ok (.putfield 69, 3) := by decide +kernel
theorem dX9_toTest_5 : decode cX9_toTest 5 = .ok (.aload_n 0, 1) := by decide +kernel
theorem dX9_toTest_6 : decode cX9_toTest 6 = .ok (.invokevirtual 228, 3) := by decide +kernel
theorem dX9_toTest_9 : decode cX9_toTest 9 = .ok (.aload_n 0, 1) := by decide +kernel
theorem dX9_toTest_10 : decode cX9_toTest 10 = .ok (.bipush (-9), 2) := by decide +kernel
theorem dX9_toTest_12 : decode cX9_toTest 12 = .ok (.invokevirtual 231, 3) := by decide +kernel
theorem dX9_toTest_15 : decode cX9_toTest 15 = .ok (.istore_n 1, 1) := by decide +kernel
theorem dX9_toTest_16 : decode cX9_toTest 16 = .ok (.bipush (-9), 2) := by decide +kernel
theorem dX9_toTest_18 : decode cX9_toTest 18 = .ok (.istore_n 2, 1) := by decide +kernel
theorem dX9_toTest_19 : decode cX9_toTest 19 = .ok (.iconst 0, 1) := by decide +kernel
theorem dX9_toTest_20 : decode cX9_toTest 20 = .ok (.istore_n 3, 1) := by decide +kernel
theorem dX9_toTest_21 : decode cX9_toTest 21 = .ok (.iconst 0, 1) := by decide +kernel
theorem dX9_toTest_22 : decode cX9_toTest 22 = .ok (.istore 4, 2) := by decide +kernel
theorem dX9_toTest_24 : decode cX9_toTest 24 = .ok (.iload 4, 2) := by decide +kernel
theorem dX9_toTest_26 : decode cX9_toTest 26 = .ok (.aload_n 0, 1) := by decide +kernel
theorem dX9_toTest_27 : decode cX9_toTest 27 = .ok (.getfield 80, 3) := by decide +kernel
theorem dX9_toTest_30 : decode cX9_toTest 30 = .ok (.if_icmp .ge 68, 3) := by decide +kernel
theorem dX9_toTest_33 : decode cX9_toTest 33 = .ok (.iload_n 1, 1) := by decide +kernel
theorem dX9_toTest_34 : decode cX9_toTest 34 = .ok (.ifCond .le 64, 3) := by decide +kernel
theorem dX9_toTest_37 : decode cX9_toTest 37 = .ok (.aload_n 0, 1) := by decide +kernel
theorem dX9_toTest_38 : decode cX9_toTest 38 = .ok (.iload 4, 2) := by decide +kernel
theorem dX9_toTest_40 : decode cX9_toTest 40 = .ok (.invokevirtual 231, 3) := by decide +kernel
theorem dX9_toTest_43 : decode cX9_toTest 43 = .ok (.istore 5, 2) := by decide +kernel
theorem dX9_toTest_45 : decode cX9_toTest 45 = .ok (.iload 5, 2) := by decide +kernel
theorem dX9_toTest_47 : decode cX9_toTest 47 = .ok (.iload_n 1, 1) := by decide +kernel
theorem dX9_toTest_48 : decode cX9_toTest 48 = .ok (.iload 5, 2) := by decide +kernel
theorem dX9_toTest_50 : decode cX9_toTest 50 = .ok (.isub, 1) := by decide +kernel
theorem dX9_toTest_51 : decode cX9_toTest 51 = .ok (.if_icmp .le 8, 3) := by decide +kernel
theorem dX9_toTest_54 : decode cX9_toTest 54 = .ok (.iload 5, 2) := by decide +kernel
theorem dX9_toTest_56 : decode cX9_toTest 56 = .ok (.goto 7, 3) := by decide +kernel
theorem dX9_toTest_59 : decode cX9_toTest 59 = .ok (.iload_n 1, 1) := by decide +kernel
theorem dX9_toTest_60 : decode cX9_toTest 60 = .ok (.iload 5, 2) := by decide +kernel
theorem dX9_toTest_62 : decode cX9_toTest 62 = .ok (.isub, 1) := by decide +kernel
theorem dX9_toTest_63 : decode cX9_toTest 63 = .ok (.istore 6, 2) := by decide +kernel
theorem dX9_toTest_65 : decode cX9_toTest 65 = .ok (.aload_n 0, 1) := by decide +kernel
theorem dX9_toTest_66 : decode cX9_toTest 66 = .ok (.iload 4, 2) := by decide +kernel
theorem dX9_toTest_68 : decode cX9_toTest 68 = .ok (.invokevirtual 87, 3) := by decide +kernel
theorem dX9_toTest_71 : decode cX9_toTest 71 = .ok (.ifCond .eq 21, 3) := by decide +kernel
theorem dX9_toTest_74 : decode cX9_toTest 74 = .ok (.iload_n 2, 1) := by decide +kernel
theorem dX9_toTest_75 : decode cX9_toTest 75 = .ok (.bipush (-9), 2) := by decide +kernel
theorem dX9_toTest_77 : decode cX9_toTest 77 = .ok (.if_icmp .eq 9, 3) := by decide +kernel
theorem dX9_toTest_80 : decode cX9_toTest 80 = .ok (.iload 6, 2) := by decide +kernel
theorem dX9_toTest_82 : decode cX9_toTest 82 = .ok (.iload_n 3, 1) := by decide +kernel
theorem dX9_toTest_83 : decode cX9_toTest 83 = .ok (.if_icmp .ge 9, 3) := by decide +kernel
theorem dX9_toTest_86 : decode cX9_toTest 86 = .ok (.iload 4, 2) := by decide +kernel
theorem dX9_toTest_88 : decode cX9_toTest 88 = .ok (.istore_n 2, 1) := by decide +kernel
theorem dX9_toTest_89 : decode cX9_toTest 89 = .ok (.iload 6, 2) := by decide +kernel
theorem dX9_toTest_91 : decode cX9_toTest 91 = .ok (.istore_n 3, 1) := by decide +kernel
theorem dX9_toTest_92 : decode cX9_toTest 92 = .ok (.iinc 4 1, 3) := by decide +kernel
theorem dX9_toTest_95 : decode cX9_toTest 95 = .ok (.goto (-71), 3) := by decide +kernel
theorem dX9_toTest_98 : decode cX9_toTest 98 = .ok (.iload_n 2, 1) := by decide +kernel
theorem dX9_toTest_99 : decode cX9_toTest 99 = .ok (.ireturn, 1) := by decide +kernel
theorem dX9_areTwo_0 : decode cX9_areTwo 0 = .ok (.iconst 0, 1) := by decide +kernel
theorem dX9_areTwo_1 : decode cX9_areTwo 1 = .ok (.istore_n 2, 1) := by decide +kernel
theorem dX9_areTwo_2 : decode cX9_areTwo 2 = .ok (.iconst 0, 1) := by decide +kernel
theorem dX9_areTwo_3 : decode cX9_areTwo 3 = .ok (.istore_n 3, 1) := by decide +kernel
theorem dX9_areTwo_4 : decode cX9_areTwo 4 = .ok (.iload_n 3, 1) := by decide +kernel
theorem dX9_areTwo_5 : decode cX9_areTwo 5 = .ok (.bipush 64, 2) := by decide +kernel
theorem dX9_areTwo_7 : decode cX9_areTwo 7 = .ok (.if_icmp .ge 106, 3) := by decide +kernel
theorem dX9_areTwo_10 : decode cX9_areTwo 10 = .ok (.aload_n 0, 1) := by decide +kernel
theorem dX9_areTwo_11 : decode cX9_areTwo 11 = .ok (.getfield 53, 3) := by decide +kernel
theorem dX9_areTwo_14 : decode cX9_areTwo 14 = .ok (.iload_n 3, 1) := by decide +kernel
theorem dX9_areTwo_15 : decode cX9_areTwo 15 = .ok (.laload, 1) := by decide +kernel
theorem dX9_areTwo_16 : decode cX9_areTwo 16 = .ok (.lconst 0, 1) := by decide +kernel
theorem dX9_areTwo_17 : decode cX9_areTwo 17 = .ok (.lcmp, 1) := by decide +kernel
theorem dX9_areTwo_18 : decode cX9_areTwo 18 = .ok (.ifCond .le 7, 3) := by decide +kernel
theorem dX9_areTwo_21 : decode cX9_areTwo 21 = .ok (.iconst 1, 1) := by decide +kernel
theorem dX9_areTwo_22 : decode cX9_areTwo 22 = .ok (.goto 4, 3) := by decide +kernel
theorem dX9_areTwo_25 : decode cX9_areTwo 25 = .ok (.iconst 0, 1) := by decide +kernel
theorem dX9_areTwo_26 : decode cX9_areTwo 26 = .ok (.istore 4, 2) := by decide +kernel
theorem dX9_areTwo_28 : decode cX9_areTwo 28 = .ok (.iload_n 1, 1) := by decide +kernel
theorem dX9_areTwo_29 : decode cX9_areTwo 29 = .ok (.istore 5, 2) := by decide +kernel
theorem dX9_areTwo_31 : decode cX9_areTwo 31 = .ok (.iconst 0, 1) := by decide +kernel
theorem dX9_areTwo_32 : decode cX9_areTwo 32 = .ok (.istore 6, 2) := by decide +kernel
theorem dX9_areTwo_34 : decode cX9_areTwo 34 = .ok (.iload 6, 2) := by decide +kernel
theorem dX9_areTwo_36 : decode cX9_areTwo 36 = .ok (.bipush 6, 2) := by decide +kernel
theorem dX9_areTwo_38 : decode cX9_areTwo 38 = .ok (.if_icmp .ge 56, 3) := by decide +kernel
theorem dX9_areTwo_41 : decode cX9_areTwo 41 = .ok (.iload 4, 2) := by decide +kernel
theorem dX9_areTwo_43 : decode cX9_areTwo 43 = .ok (.ifCond .eq 36, 3) := by decide +kernel
theorem dX9_areTwo_46 : decode cX9_areTwo 46 = .ok (.iload 5, 2) := by decide +kernel
theorem dX9_areTwo_48 : decode cX9_areTwo 48 = .ok (.iconst 3, 1) := by decide +kernel
theorem dX9_areTwo_49 : decode cX9_areTwo 49 = .ok (.irem, 1) := by decide +kernel
theorem dX9_areTwo_50 : decode cX9_areTwo 50 = .ok (.ifCond .eq 25, 3) := by decide +kernel
theorem dX9_areTwo_53 : decode cX9_areTwo 53 = .ok (.iload 5, 2) := by decide +kernel
theorem dX9_areTwo_55 : decode cX9_areTwo 55 = .ok (.iconst 3, 1) := by decide +kernel
theorem dX9_areTwo_56 : decode cX9_areTwo 56 = .ok (.irem, 1) := by decide +kernel
theorem dX9_areTwo_57 : decode cX9_areTwo 57 = .ok (.iconst 1, 1) := by decide +kernel
theorem dX9_areTwo_58 : decode cX9_areTwo 58 = .ok (.if_icmp .ne 7, 3) := by decide +kernel
theorem dX9_areTwo_61 : decode cX9_areTwo 61 = .ok (.iconst 1, 1) := by decide +kernel
theorem dX9_areTwo_62 : decode cX9_areTwo 62 = .ok (.goto 4, 3) := by decide +kernel
theorem dX9_areTwo_65 : decode cX9_areTwo 65 = .ok (.iconst 0, 1) := by decide +kernel
theorem dX9_areTwo_66 : decode cX9_areTwo 66 = .ok (.iload_n 3, 1) := by decide +kernel
theorem dX9_areTwo_67 : decode cX9_areTwo 67 = .ok (.iload 6, 2) := by decide +kernel
theorem dX9_areTwo_69 : decode cX9_areTwo 69 = .ok (.invokestatic 127, 3) := by decide +kernel
theorem dX9_areTwo_72 : decode cX9_areTwo 72 = .ok (.if_icmp .ne 7, 3) := by decide +kernel
theorem dX9_areTwo_75 : decode cX9_areTwo 75 = .ok (.iconst 1, 1) := by decide +kernel
theorem dX9_areTwo_76 : decode cX9_areTwo 76 = .ok (.goto 4, 3) := by decide +kernel
theorem dX9_areTwo_79 : decode cX9_areTwo 79 = .ok (.iconst 0, 1) := by decide +kernel
theorem dX9_areTwo_80 : decode cX9_areTwo 80 = .ok (.istore 4, 2) := by decide +kernel
theorem dX9_areTwo_82 : decode cX9_areTwo 82 = .ok (.iload 5, 2) := by decide +kernel
theorem dX9_areTwo_84 : decode cX9_areTwo 84 = .ok (.iconst 3, 1) := by decide +kernel
theorem dX9_areTwo_85 : decode cX9_areTwo 85 = .ok (.idiv, 1) := by decide +kernel
theorem dX9_areTwo_86 : decode cX9_areTwo 86 = .ok (.istore 5, 2) := by decide +kernel
theorem dX9_areTwo_88 : decode cX9_areTwo 88 = .ok (.iinc 6 1, 3) := by decide +kernel
theorem dX9_areTwo_91 : decode cX9_areTwo 91 = .ok (.goto (-57), 3) := by decide +kernel
theorem dX9_areTwo_94 : decode cX9_areTwo 94 = .ok (.iload_n 2, 1) := by decide +kernel
theorem dX9_areTwo_95 : decode cX9_areTwo 95 = .ok (.iload 4, 2) := by decide +kernel
theorem dX9_areTwo_97 : decode cX9_areTwo 97 = .ok (.ifCond .eq 7, 3) := by decide +kernel
theorem dX9_areTwo_100 : decode cX9_areTwo 100 = .ok (.iconst 1, 1) := by decide +kernel
theorem dX9_areTwo_101 : decode cX9_areTwo 101 = .ok (.goto 4, 3) := by decide +kernel
theorem dX9_areTwo_104 : decode cX9_areTwo 104 = .ok (.iconst 0, 1) := by decide +kernel
theorem dX9_areTwo_105 : decode cX9_areTwo 105 = .ok (.iadd, 1) := by decide +kernel
theorem dX9_areTwo_106 : decode cX9_areTwo 106 = .ok (.istore_n 2, 1) := by decide +kernel
theorem dX9_areTwo_107 : decode cX9_areTwo 107 = .ok (.iinc 3 1, 3) := by decide +kernel
theorem dX9_areTwo_110 : decode cX9_areTwo 110 = .ok (.goto (-106), 3) := by decide +kernel
theorem dX9_areTwo_113 : decode cX9_areTwo 113 = .ok (.iload_n 2, 1) := by decide +kernel
theorem dX9_areTwo_114 : decode cX9_areTwo 114 = .ok (.iconst 1, 1) := by decide +kernel
theorem dX9_areTwo_115 : decode cX9_areTwo 115 = .ok (.if_icmp .le 7, 3) := by decide +kernel
theorem dX9_areTwo_118 : decode cX9_areTwo 118 = .ok (.iconst 1, 1) := by decide +kernel
theorem dX9_areTwo_119 : decode cX9_areTwo 119 = .ok (.goto 4, 3) := by decide +kernel
theorem dX9_areTwo_122 : decode cX9_areTwo 122 = .ok (.iconst 0, 1) := by decide +kernel
theorem dX9_areTwo_123 : decode cX9_areTwo 123 = .ok (.ireturn, 1) := by decide +kernel
theorem dX9_tests_0 : decode cX9_tests 0 = .ok (.aload_n 0, 1) := by decide +kernel
theorem dX9_tests_1 : decode cX9_tests 1 = .ok (.iconst 0, 1) := by decide +kernel
theorem dX9_tests_2 : decode cX9_tests 2 = .ok (.putfield 69, 3) := by decide +kernel
theorem dX9_tests_5 : decode cX9_tests 5 = .ok (.aload_n 0, 1) := by decide +kernel
theorem dX9_tests_6 : decode cX9_tests 6 = .ok (.invokevirtual 228, 3) := by decide +kernel
theorem dX9_tests_9 : decode cX9_tests 9 = .ok (.aload_n 0, 1) := by decide +kernel
theorem dX9_tests_10 : decode cX9_tests 10 = .ok (.bipush (-9), 2) := by decide +kernel
theorem dX9_tests_12 : decode cX9_tests 12 = .ok (.invokevirtual 231, 3) := by decide +kernel
theorem dX9_tests_15 : decode cX9_tests 15 = .ok (.ifCond .ne 6, 3) := by decide +kernel
theorem dX9_tests_18 : decode cX9_tests 18 = .ok (.bipush (-9), 2) := by decide +kernel
theorem dX9_tests_20 : decode cX9_tests 20 = .ok (.ireturn, 1) := by decide +kernel
theorem dX9_tests_21 : decode cX9_tests 21 = .ok (.sipush 728, 3) := by decide +kernel
theorem dX9_tests_24 : decode cX9_tests 24 = .ok (.istore_n 1, 1) := by decide +kernel
theorem dX9_tests_25 : decode cX9_tests 25 = .ok (.iload_n 1, 1) := by decide +kernel
theorem dX9_tests_26 : decode cX9_tests 26 = .ok (.ifCond .lt 143, 3) := by decide +kernel
theorem dX9_tests_29 : decode cX9_tests 29 = .ok (.aload_n 0, 1) := by decide +kernel
theorem dX9_tests_30 : decode cX9_tests 30 = .ok (.getfield 57, 3) := by decide +kernel
theorem dX9_tests_33 : decode cX9_tests 33 = .ok (.iload_n 1, 1) := by decide +kernel
theorem dX9_tests_34 : decode cX9_tests 34 = .ok (.iconst 0, 1) := by decide +kernel
theorem dX9_tests_35 : decode cX9_tests 35 = .ok (.iastore, 1) := by decide +kernel
theorem dX9_tests_36 : decode cX9_tests 36 = .ok (.aload_n 0, 1) := by decide +kernel
theorem dX9_tests_37 : decode cX9_tests 37 = .ok (.iload_n 1, 1) := by decide +kernel
theorem dX9_tests_38 : decode cX9_tests 38 = .ok (.invokevirtual 245, 3) := by decide +kernel
theorem dX9_tests_41 : decode cX9_tests 41 = .ok (.ifCond .eq 122, 3) := by decide +kernel
theorem dX9_tests_44 : decode cX9_tests 44 = .ok (.bipush 99, 2) := by decide +kernel
theorem dX9_tests_46 : decode cX9_tests 46 = .ok (.istore_n 2, 1) := by decide +kernel
theorem dX9_tests_47 : decode cX9_tests 47 = .ok (.iconst 1, 1) := by decide +kernel
theorem dX9_tests_48 : decode cX9_tests 48 = .ok (.istore_n 3, 1) := by decide +kernel
theorem dX9_tests_49 : decode cX9_tests 49 = .ok (.iconst 0, 1) := by decide +kernel
theorem dX9_tests_50 : decode cX9_tests 50 = .ok (.istore 4, 2) := by decide +kernel
theorem dX9_tests_52 : decode cX9_tests 52 = .ok (.iload 4, 2) := by decide +kernel
theorem dX9_tests_54 : decode cX9_tests 54 = .ok (.bipush 6, 2) := by decide +kernel
theorem dX9_tests_56 : decode cX9_tests 56 = .ok (.if_icmp .ge 100, 3) := by decide +kernel
theorem dX9_tests_59 : decode cX9_tests 59 = .ok (.iload_n 1, 1) := by decide +kernel
theorem dX9_tests_60 : decode cX9_tests 60 = .ok (.iload_n 3, 1) := by decide +kernel
theorem dX9_tests_61 : decode cX9_tests 61 = .ok (.idiv, 1) := by decide +kernel
theorem dX9_tests_62 : decode cX9_tests 62 = .ok (.iconst 3, 1) := by decide +kernel
theorem dX9_tests_63 : decode cX9_tests 63 = .ok (.irem, 1) := by decide +kernel
theorem dX9_tests_64 : decode cX9_tests 64 = .ok (.ifCond .ne 82, 3) := by decide +kernel
theorem dX9_tests_67 : decode cX9_tests 67 = .ok (.iload 4, 2) := by decide +kernel
theorem dX9_tests_69 : decode cX9_tests 69 = .ok (.aload_n 0, 1) := by decide +kernel
theorem dX9_tests_70 : decode cX9_tests 70 = .ok (.getfield 80, 3) := by decide +kernel
theorem dX9_tests_73 : decode cX9_tests 73 = .ok (.if_icmp .ge 73, 3) := by decide +kernel
theorem dX9_tests_76 : decode cX9_tests 76 = .ok (.aload_n 0, 1) := by decide +kernel
theorem dX9_tests_77 : decode cX9_tests 77 = .ok (.iload 4, 2) := by decide +kernel
theorem dX9_tests_79 : decode cX9_tests 79 = .ok (.invokevirtual 87, 3) := by decide +kernel
theorem dX9_tests_82 : decode cX9_tests 82 = .ok (.ifCond .eq 64, 3) := by decide +kernel
theorem dX9_tests_85 : decode cX9_tests 85 = .ok (.aload_n 0, 1) := by decide +kernel
theorem dX9_tests_86 : decode cX9_tests 86 = .ok (.getfield 57, 3) := by decide +kernel
theorem dX9_tests_89 : decode cX9_tests 89 = .ok (.iload_n 1, 1) := by decide +kernel
theorem dX9_tests_90 : decode cX9_tests 90 = .ok (.iload_n 3, 1) := by decide +kernel
theorem dX9_tests_91 : decode cX9_tests 91 = .ok (.iadd, 1) := by decide +kernel
theorem dX9_tests_92 : decode cX9_tests 92 = .ok (.iaload, 1) := by decide +kernel
theorem dX9_tests_93 : decode cX9_tests 93 = .ok (.aload_n 0, 1) := by decide +kernel
theorem dX9_tests_94 : decode cX9_tests 94 = .ok (.getfield 57, 3) := by decide +kernel
theorem dX9_tests_97 : decode cX9_tests 97 = .ok (.iload_n 1, 1) := by decide +kernel
theorem dX9_tests_98 : decode cX9_tests 98 = .ok (.iconst 2, 1) := by decide +kernel
theorem dX9_tests_99 : decode cX9_tests 99 = .ok (.iload_n 3, 1) := by decide +kernel
theorem dX9_tests_100 : decode cX9_tests 100 = .ok (.imul, 1) := by decide +kernel
theorem dX9_tests_101 : decode cX9_tests 101 = .ok (.iadd, 1) := by decide +kernel
theorem dX9_tests_102 : decode cX9_tests 102 = .ok (.iaload, 1) := by decide +kernel
theorem dX9_tests_103 : decode cX9_tests 103 = .ok (.if_icmp .le 14, 3) := by decide +kernel
theorem dX9_tests_106 : decode cX9_tests 106 = .ok (.aload_n 0, 1) := by decide +kernel
theorem dX9_tests_107 : decode cX9_tests 107 = .ok (.getfield 57, 3) := by decide +kernel
theorem dX9_tests_110 : decode cX9_tests 110 = .ok (.iload_n 1, 1) := by decide +kernel
theorem dX9_tests_111 : decode cX9_tests 111 = .ok (.iload_n 3, 1) := by decide +kernel
theorem dX9_tests_112 : decode cX9_tests 112 = .ok (.iadd, 1) := by decide +kernel
theorem dX9_tests_113 : decode cX9_tests 113 = .ok (.iaload, 1) := by decide +kernel
theorem dX9_tests_114 : decode cX9_tests 114 = .ok (.goto 13, 3) := by decide +kernel
theorem dX9_tests_117 : decode cX9_tests 117 = .ok (.aload_n 0, 1) := by decide +kernel
theorem dX9_tests_118 : decode cX9_tests 118 = .ok (.getfield 57, 3) := by decide +kernel
theorem dX9_tests_121 : decode cX9_tests 121 = .ok (.iload_n 1, 1) := by decide +kernel
theorem dX9_tests_122 : decode cX9_tests 122 = .ok (.iconst 2, 1) := by decide +kernel
theorem dX9_tests_123 : decode cX9_tests 123 = .ok (.iload_n 3, 1) := by decide +kernel
theorem dX9_tests_124 : decode cX9_tests 124 = .ok (.imul, 1) := by decide +kernel
theorem dX9_tests_125 : decode cX9_tests 125 = .ok (.iadd, 1) := by decide +kernel
theorem dX9_tests_126 : decode cX9_tests 126 = .ok (.iaload, 1) := by decide +kernel
theorem dX9_tests_127 : decode cX9_tests 127 = .ok (.istore 5, 2) := by decide +kernel
theorem dX9_tests_129 : decode cX9_tests 129 = .ok (.iconst 1, 1) := by decide +kernel
theorem dX9_tests_130 : decode cX9_tests 130 = .ok (.iload 5, 2) := by decide +kernel
theorem dX9_tests_132 : decode cX9_tests 132 = .ok (.iadd, 1) := by decide +kernel
theorem dX9_tests_133 : decode cX9_tests 133 = .ok (.iload_n 2, 1) := by decide +kernel
theorem dX9_tests_134 : decode cX9_tests 134 = .ok (.if_icmp .ge 10, 3) := by decide +kernel
theorem dX9_tests_137 : decode cX9_tests 137 = .ok (.iconst 1, 1) := by decide +kernel
theorem dX9_tests_138 : decode cX9_tests 138 = .ok (.iload 5, 2) := by decide +kernel
theorem dX9_tests_140 : decode cX9_tests 140 = .ok (.iadd, 1) := by decide +kernel
theorem dX9_tests_141 : decode cX9_tests 141 = .ok (.goto 4, 3) := by decide +kernel
theorem dX9_tests_144 : decode cX9_tests 144 = .ok (.iload_n 2, 1) := by decide +kernel
theorem dX9_tests_145 : decode cX9_tests 145 = .ok (.istore_n 2, 1) := by decide +kernel
theorem dX9_tests_146 : decode cX9_tests 146 = .ok (.iload_n 3, 1) := by decide +kernel
theorem dX9_tests_147 : decode cX9_tests 147 = .ok (.iconst 3, 1) := by decide +kernel
theorem dX9_tests_148 : decode cX9_tests 148 = .ok (.imul, 1) := by decide +kernel
theorem dX9_tests_149 : decode cX9_tests 149 = .ok (.istore_n 3, 1) := by decide +kernel
theorem dX9_tests_150 : decode cX9_tests 150 = .ok (.iinc 4 1, 3) := by decide +kernel
theorem dX9_tests_153 : decode cX9_tests 153 = .ok (.goto (-101), 3) := by decide +kernel
theorem dX9_tests_156 : decode cX9_tests 156 = .ok (.aload_n 0, 1) := by decide +kernel
theorem dX9_tests_157 : decode cX9_tests 157 = .ok (.getfield 57, 3) := by decide +kernel
theorem dX9_tests_160 : decode cX9_tests 160 = .ok (.iload_n 1, 1) := by decide +kernel
theorem dX9_tests_161 : decode cX9_tests 161 = .ok (.iload_n 2, 1) := by decide +kernel
theorem dX9_tests_162 : decode cX9_tests 162 = .ok (.iastore, 1) := by decide +kernel
theorem dX9_tests_163 : decode cX9_tests 163 = .ok (.iinc 1 (-1), 3) := by decide +kernel
theorem dX9_tests_166 : decode cX9_tests 166 = .ok (.goto (-141), 3) := by decide +kernel
