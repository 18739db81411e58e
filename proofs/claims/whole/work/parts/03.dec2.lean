theorem dX8_count_93 : decode cX8_count 93 = .ok (.getfield 26, 3) := by decide +kernel
theorem dX8_count_96 : decode cX8_count 96 = .ok (.getfield 140, 3) := by decide +kernel
theorem dX8_count_99 : decode cX8_count 99 = .ok (.aload_n 0, 1) := by decide +kernel
theorem dX8_count_100 : decode cX8_count 100 = .ok (.getfield 26, 3) := by decide +kernel
theorem dX8_count_103 : decode cX8_count 103 = .ok (.aload_n 0, 1) := by decide +kernel
theorem dX8_count_104 : decode cX8_count 104 = .ok (.getfield 19, 3) := by decide +kernel
theorem dX8_count_107 : decode cX8_count 107 = .ok (.invokevirtual 236, 3) := by decide +kernel
theorem dX8_count_110 : decode cX8_count 110 = .ok (.iand, 1) := by decide +kernel
theorem dX8_count_111 : decode cX8_count 111 = .ok (.ireturn, 1) := by decide +kernel
theorem dX8_count_112 : decode cX8_count 112 = .ok (.aload_n 0, 1) := by decide +kernel
theorem dX8_count_113 : decode cX8_count 113 = .ok (.getfield 26, 3) := by decide +kernel
theorem dX8_count_116 : decode cX8_count 116 = .ok (.aload_n 0, 1) := by decide +kernel
theorem dX8_count_117 : decode cX8_count 117 = .ok (.getfield 19, 3) := by decide +kernel
theorem dX8_count_120 : decode cX8_count 120 = .ok (.invokevirtual 236, 3) := by decide +kernel
theorem dX8_count_123 : decode cX8_count 123 = .ok (.ireturn, 1) := by decide +kernel
theorem dX8_count_124 : decode cX8_count 124 = .ok (.aload_n 0, 1) := by decide +kernel
theorem dX8_count_125 : decode cX8_count 125 = .ok (.getfield 26, 3) := by decide +kernel
theorem dX8_count_128 : decode cX8_count 128 = .ok (.invokevirtual 300, 3) := by decide +kernel
theorem dX8_count_131 : decode cX8_count 131 = .ok (.ireturn, 1) := by decide +kernel
theorem dX8_count_132 : decode cX8_count 132 = .ok (.aload_n 0, 1) := by decide +kernel
theorem dX8_count_133 : decode cX8_count 133 = .ok (.getfield 36, 3) := by decide +kernel
theorem dX8_count_136 : decode cX8_count 136 = .ok (.getfield 195, 3) := by decide +kernel
theorem dX8_count_139 : decode cX8_count 139 = .ok (.ireturn, 1) := by decide +kernel
theorem dX8_count_140 : decode cX8_count 140 = .ok (.aload_n 0, 1) := by decide +kernel
theorem dX8_count_141 : decode cX8_count 141 = .ok (.getfield 51, 3) := by decide +kernel
theorem dX8_count_144 : decode cX8_count 144 = .ok (.getfield 219, 3) := by decide +kernel
theorem dX8_count_147 : decode cX8_count 147 = .ok (.ireturn, 1) := by decide +kernel
theorem dX8_count_148 : decode cX8_count 148 = .ok (.aload_n 0, 1) := by decide +kernel
theorem dX8_count_149 : decode cX8_count 149 = .ok (.getfield 19, 3) := by decide +kernel
theorem dX8_count_152 : decode cX8_count 152 = .ok (.getfield 303, 3) := by decide +kernel
theorem dX8_count_155 : decode cX8_count 155 = .ok (.ireturn, 1) := by decide +kernel
theorem dX8_count_156 : decode cX8_count 156 = .ok (.aload_n 0, 1) := by decide +kernel
theorem dX8_count_157 : decode cX8_count 157 = .ok (.getfield 26, 3) := by decide +kernel
theorem dX8_count_160 : decode cX8_count 160 = .ok (.aload_n 0, 1) := by decide +kernel
theorem dX8_count_161 : decode cX8_count 161 = .ok (.getfield 19, 3) := by decide +kernel
theorem dX8_count_164 : decode cX8_count 164 = .ok (.invokevirtual 306, 3) := by decide +kernel
theorem dX8_count_167 : decode cX8_count 167 = .ok (.ireturn, 1) := by decide +kernel
theorem dX8_count_168 : decode cX8_count 168 = .ok (.bipush (-2), 2) := by decide +kernel
theorem dX8_count_170 : decode cX8_count 170 = .ok (.ireturn, 1) := by decide +kernel
theorem dX8_noHouse_0 : decode cX8_noHouse 0 = .ok (.iload_n 1, 1) := by decide +kernel
theorem dX8_noHouse_1 : decode cX8_noHouse 1 = .ok (.ifCond .lt 14, 3) := by decide +kernel
theorem dX8_noHouse_4 : decode cX8_noHouse 4 = .ok (.iload_n 1, 1) := by decide +kernel
theorem dX8_noHouse_5 : decode cX8_noHouse 5 = .ok (.aload_n 0, 1) := by decide +kernel
theorem dX8_noHouse_6 : decode cX8_noHouse 6 = .ok (.getfield 19, 3) := by decide +kernel
theorem dX8_noHouse_9 : decode cX8_noHouse 9 = .ok (.getfield 101, 3) := by decide +kernel
theorem dX8_noHouse_12 : decode cX8_noHouse 12 = .ok (.if_icmp .lt 7, 3) := by decide +kernel
theorem dX8_noHouse_15 : decode cX8_noHouse 15 = .ok (.iconst 1, 1) := by decide +kernel
theorem dX8_noHouse_16 : decode cX8_noHouse 16 = .ok (.goto 4, 3) := by decide +kernel
theorem dX8_noHouse_19 : decode cX8_noHouse 19 = .ok (.iconst 0, 1) := by decide +kernel
theorem dX8_noHouse_20 : decode cX8_noHouse 20 = .ok (.ireturn, 1) := by decide +kernel
theorem dX8_noPerson_0 : decode cX8_noPerson 0 = .ok (.iload_n 1, 1) := by decide +kernel
theorem dX8_noPerson_1 : decode cX8_noPerson 1 = .ok (.ifCond .lt 14, 3) := by decide +kernel
theorem dX8_noPerson_4 : decode cX8_noPerson 4 = .ok (.iload_n 1, 1) := by decide +kernel
theorem dX8_noPerson_5 : decode cX8_noPerson 5 = .ok (.aload_n 0, 1) := by decide +kernel
theorem dX8_noPerson_6 : decode cX8_noPerson 6 = .ok (.getfield 19, 3) := by decide +kernel
theorem dX8_noPerson_9 : decode cX8_noPerson 9 = .ok (.getfield 104, 3) := by decide +kernel
theorem dX8_noPerson_12 : decode cX8_noPerson 12 = .ok (.if_icmp .lt 7, 3) := by decide +kernel
theorem dX8_noPerson_15 : decode cX8_noPerson 15 = .ok (.iconst 1, 1) := by decide +kernel
theorem dX8_noPerson_16 : decode cX8_noPerson 16 = .ok (.goto 4, 3) := by decide +kernel
theorem dX8_noPerson_19 : decode cX8_noPerson 19 = .ok (.iconst 0, 1) := by decide +kernel
theorem dX8_noPerson_20 : decode cX8_noPerson 20 = .ok (.ireturn, 1) := by decide +kernel
theorem dX8_noMoon_0 : decode cX8_noMoon 0 = .ok (.iload_n 0, 1) := by decide +kernel
theorem dX8_noMoon_1 : decode cX8_noMoon 1 = .ok (.ifCond .lt 8, 3) := by decide +kernel
theorem dX8_noMoon_4 : decode cX8_noMoon 4 = .ok (.iload_n 0, 1) := by decide +kernel
theorem dX8_noMoon_5 : decode cX8_noMoon 5 = .ok (.iconst 3, 1) := by decide +kernel
theorem dX8_noMoon_6 : decode cX8_noMoon 6 = .ok (.if_icmp .lt 7, 3) := by decide +kernel
theorem dX8_noMoon_9 : decode cX8_noMoon 9 = .ok (.iconst 1, 1) := by decide +kernel
theorem dX8_noMoon_10 : decode cX8_noMoon 10 = .ok (.goto 4, 3) := by decide +kernel
theorem dX8_noMoon_13 : decode cX8_noMoon 13 = .ok (.iconst 0, 1) := by decide +kernel
theorem dX8_noMoon_14 : decode cX8_noMoon 14 = .ok (.ireturn, 1) := by decide +kernel
theorem dX8_tellTales_0 : decode cX8_tellTales 0 = .ok (.aload_n 0, 1) := by decide +kernel
theorem dX8_tellTales_1 : decode cX8_tellTales 1 = .ok (.getfield 58, 3) := by decide +kernel
theorem dX8_tellTales_4 : decode cX8_tellTales 4 = .ok (.aload_n 0, 1) := by decide +kernel
theorem dX8_tellTales_5 : decode cX8_tellTales 5 = .ok (.getfield 19, 3) := by decide +kernel
theorem dX8_tellTales_8 : decode cX8_tellTales 8 = .ok (.aload_n 0, 1) := by decide +kernel
theorem dX8_tellTales_9 : decode cX8_tellTales 9 = .ok (.getfield 26, 3) := by decide +kernel
theorem dX8_tellTales_12 : decode cX8_tellTales 12 = .ok (.aload_n 0, 1) := by decide +kernel
theorem dX8_tellTales_13 : decode cX8_tellTales 13 = .ok (.getfield 51, 3) := by decide +kernel
theorem dX8_tellTales_16 : decode cX8_tellTales 16 = .ok (.invokevirtual 309, 3) := by decide +kernel
theorem dX8_tellTales_19 : decode cX8_tellTales 19 = .ok (.return_, 1) := by decide +kernel
theorem dX8_choiceOf_0 : decode cX8_choiceOf 0 = .ok (.aload_n 0, 1) := by decide +kernel
theorem dX8_choiceOf_1 : decode cX8_choiceOf 1 = .ok (.getfield 26, 3) := by decide +kernel
theorem dX8_choiceOf_4 : decode cX8_choiceOf 4 = .ok (.aload_n 0, 1) := by decide +kernel
theorem dX8_choiceOf_5 : decode cX8_choiceOf 5 = .ok (.getfield 19, 3) := by decide +kernel
theorem dX8_choiceOf_8 : decode cX8_choiceOf 8 = .ok (.invokevirtual 236, 3) := by decide +kernel
theorem dX8_choiceOf_11 : decode cX8_choiceOf 11 = .ok (.iload_n 1, 1) := by decide +kernel
theorem dX8_choiceOf_12 : decode cX8_choiceOf 12 = .ok (.invokestatic 184, 3) := by decide +kernel
theorem dX8_choiceOf_15 : decode cX8_choiceOf 15 = .ok (.iconst (-1), 1) := by decide +kernel
theorem dX8_choiceOf_16 : decode cX8_choiceOf 16 = .ok (.ixor, 1) := by decide +kernel
theorem dX8_choiceOf_17 : decode cX8_choiceOf 17 = .ok (.iand, 1) := by decide +kernel
theorem dX8_choiceOf_18 : decode cX8_choiceOf 18 = .ok (.istore_n 2, 1) := by decide +kernel
theorem dX8_choiceOf_19 : decode cX8_choiceOf 19 = .ok (.aload_n 0, 1) := by decide +kernel
theorem dX8_choiceOf_20 : decode cX8_choiceOf 20 = .ok (.getfield 26, 3) := by decide +kernel
theorem dX8_choiceOf_23 : decode cX8_choiceOf 23 = .ok (.getfield 140, 3) := by decide +kernel
theorem dX8_choiceOf_26 : decode cX8_choiceOf 26 = .ok (.iload_n 1, 1) := by decide +kernel
theorem dX8_choiceOf_27 : decode cX8_choiceOf 27 = .ok (.invokestatic 166, 3) := by decide +kernel
theorem dX8_choiceOf_30 : decode cX8_choiceOf 30 = .ok (.ifCond .eq 15, 3) := by decide +kernel
theorem dX8_choiceOf_33 : decode cX8_choiceOf 33 = .ok (.iload_n 2, 1) := by decide +kernel
theorem dX8_choiceOf_34 : decode cX8_choiceOf 34 = .ok (.aload_n 0, 1) := by decide +kernel
theorem dX8_choiceOf_35 : decode cX8_choiceOf 35 = .ok (.getfield 26, 3) := by decide +kernel
theorem dX8_choiceOf_38 : decode cX8_choiceOf 38 = .ok (.getfield 140, 3) := by decide +kernel
theorem dX8_choiceOf_41 : decode cX8_choiceOf 41 = .ok (.iconst (-1), 1) := by decide +kernel
theorem dX8_choiceOf_42 : decode cX8_choiceOf 42 = .ok (.ixor, 1) := by decide +kernel
theorem dX8_choiceOf_43 : decode cX8_choiceOf 43 = .ok (.iand, 1) := by decide +kernel
theorem dX8_choiceOf_44 : decode cX8_choiceOf 44 = .ok (.istore_n 2, 1) := by decide +kernel
theorem dX8_choiceOf_45 : decode cX8_choiceOf 45 = .ok (.bipush (-9), 2) := by decide +kernel
theorem dX8_choiceOf_47 : decode cX8_choiceOf 47 = .ok (.istore_n 3, 1) := by decide +kernel
theorem dX8_choiceOf_48 : decode cX8_choiceOf 48 = .ok (.iconst (-1), 1) := by decide +kernel
theorem dX8_choiceOf_49 : decode cX8_choiceOf 49 = .ok (.istore 4, 2) := by decide +kernel
theorem dX8_choiceOf_51 : decode cX8_choiceOf 51 = .ok (.iconst 0, 1) := by decide +kernel
theorem dX8_choiceOf_52 : decode cX8_choiceOf 52 = .ok (.istore 5, 2) := by decide +kernel
theorem dX8_choiceOf_54 : decode cX8_choiceOf 54 = .ok (.iload 5, 2) := by decide +kernel
theorem dX8_choiceOf_56 : decode cX8_choiceOf 56 = .ok (.aload_n 0, 1) := by decide +kernel
theorem dX8_choiceOf_57 : decode cX8_choiceOf 57 = .ok (.getfield 19, 3) := by decide +kernel
theorem dX8_choiceOf_60 : decode cX8_choiceOf 60 = .ok (.getfield 104, 3) := by decide +kernel
theorem dX8_choiceOf_63 : decode cX8_choiceOf 63 = .ok (.if_icmp .ge 43, 3) := by decide +kernel
theorem dX8_choiceOf_66 : decode cX8_choiceOf 66 = .ok (.aload_n 0, 1) := by decide +kernel
theorem dX8_choiceOf_67 : decode cX8_choiceOf 67 = .ok (.getfield 58, 3) := by decide +kernel
theorem dX8_choiceOf_70 : decode cX8_choiceOf 70 = .ok (.iload 5, 2) := by decide +kernel
theorem dX8_choiceOf_72 : decode cX8_choiceOf 72 = .ok (.invokevirtual 313, 3) := by decide +kernel
theorem dX8_choiceOf_75 : decode cX8_choiceOf 75 = .ok (.istore 6, 2) := by decide +kernel
theorem dX8_choiceOf_77 : decode cX8_choiceOf 77 = .ok (.iload_n 2, 1) := by decide +kernel
theorem dX8_choiceOf_78 : decode cX8_choiceOf 78 = .ok (.iload 5, 2) := by decide +kernel
theorem dX8_choiceOf_80 : decode cX8_choiceOf 80 = .ok (.invokestatic 166, 3) := by decide +kernel
theorem dX8_choiceOf_83 : decode cX8_choiceOf 83 = .ok (.ifCond .eq 17, 3) := by decide +kernel
theorem dX8_choiceOf_86 : decode cX8_choiceOf 86 = .ok (.iload 6, 2) := by decide +kernel
theorem dX8_choiceOf_88 : decode cX8_choiceOf 88 = .ok (.iload 4, 2) := by decide +kernel
theorem dX8_choiceOf_90 : decode cX8_choiceOf 90 = .ok (.if_icmp .le 10, 3) := by decide +kernel
theorem dX8_choiceOf_93 : decode cX8_choiceOf 93 = .ok (.iload 5, 2) := by decide +kernel
theorem dX8_choiceOf_95 : decode cX8_choiceOf 95 = .ok (.istore_n 3, 1) := by decide +kernel
theorem dX8_choiceOf_96 : decode cX8_choiceOf 96 = .ok (.iload 6, 2) := by decide +kernel
theorem dX8_choiceOf_98 : decode cX8_choiceOf 98 = .ok (.istore 4, 2) := by decide +kernel
theorem dX8_choiceOf_100 : decode cX8_choiceOf 100 = .ok (.iinc 5 1, 3) := by decide +kernel
theorem dX8_choiceOf_103 : decode cX8_choiceOf 103 = .ok (.goto (-49), 3) := by decide +kernel
theorem dX8_choiceOf_106 : decode cX8_choiceOf 106 = .ok (.iload_n 3, 1) := by decide +kernel
theorem dX8_choiceOf_107 : decode cX8_choiceOf 107 = .ok (.ireturn, 1) := by decide +kernel
theorem dX8_lockedIn_0 : decode cX8_lockedIn 0 = .ok (.aload_n 0, 1) := by decide +kernel
theorem dX8_lockedIn_1 : decode cX8_lockedIn 1 = .ok (.getfield 26, 3) := by decide +kernel
theorem dX8_lockedIn_4 : decode cX8_lockedIn 4 = .ok (.getfield 316, 3) := by decide +kernel
theorem dX8_lockedIn_7 : decode cX8_lockedIn 7 = .ok (.iload_n 2, 1) := by decide +kernel
theorem dX8_lockedIn_8 : decode cX8_lockedIn 8 = .ok (.ior, 1) := by decide +kernel
theorem dX8_lockedIn_9 : decode cX8_lockedIn 9 = .ok (.istore_n 3, 1) := by decide +kernel
theorem dX8_lockedIn_10 : decode cX8_lockedIn 10 = .ok (.aload_n 0, 1) := by decide +kernel
theorem dX8_lockedIn_11 : decode cX8_lockedIn 11 = .ok (.getfield 26, 3) := by decide +kernel
theorem dX8_lockedIn_14 : decode cX8_lockedIn 14 = .ok (.aload_n 0, 1) := by decide +kernel
theorem dX8_lockedIn_15 : decode cX8_lockedIn 15 = .ok (.getfield 19, 3) := by decide +kernel
theorem dX8_lockedIn_18 : decode cX8_lockedIn 18 = .ok (.invokevirtual 306, 3) := by decide +kernel
theorem dX8_lockedIn_21 : decode cX8_lockedIn 21 = .ok (.iload_n 2, 1) := by decide +kernel
theorem dX8_lockedIn_22 : decode cX8_lockedIn 22 = .ok (.iconst (-1), 1) := by decide +kernel
theorem dX8_lockedIn_23 : decode cX8_lockedIn 23 = .ok (.ixor, 1) := by decide +kernel
theorem dX8_lockedIn_24 : decode cX8_lockedIn 24 = .ok (.iand, 1) := by decide +kernel
theorem dX8_lockedIn_25 : decode cX8_lockedIn 25 = .ok (.istore 4, 2) := by decide +kernel
theorem dX8_lockedIn_27 : decode cX8_lockedIn 27 = .ok (.iconst 0, 1) := by decide +kernel
theorem dX8_lockedIn_28 : decode cX8_lockedIn 28 = .ok (.istore 5, 2) := by decide +kernel
theorem dX8_lockedIn_30 : decode cX8_lockedIn 30 = .ok (.iload 5, 2) := by decide +kernel
theorem dX8_lockedIn_32 : decode cX8_lockedIn 32 = .ok (.aload_n 0, 1) := by decide +kernel
theorem dX8_lockedIn_33 : decode cX8_lockedIn 33 = .ok (.getfield 19, 3) := by decide +kernel
theorem dX8_lockedIn_36 : decode cX8_lockedIn 36 = .ok (.getfield 104, 3) := by decide +kernel
theorem dX8_lockedIn_39 : decode cX8_lockedIn 39 = .ok (.if_icmp .ge 61, 3) := by decide +kernel
theorem dX8_lockedIn_42 : decode cX8_lockedIn 42 = .ok (.aload_n 0, 1) := by decide +kernel
theorem dX8_lockedIn_43 : decode cX8_lockedIn 43 = .ok (.getfield 19, 3) := by decide +kernel
theorem dX8_lockedIn_46 : decode cX8_lockedIn 46 = .ok (.getfield 137, 3) := by decide +kernel
theorem dX8_lockedIn_49 : decode cX8_lockedIn 49 = .ok (.iload 5, 2) := by decide +kernel
theorem dX8_lockedIn_51 : decode cX8_lockedIn 51 = .ok (.invokestatic 114, 3) := by decide +kernel
theorem dX8_lockedIn_54 : decode cX8_lockedIn 54 = .ok (.istore 6, 2) := by decide +kernel
theorem dX8_lockedIn_56 : decode cX8_lockedIn 56 = .ok (.iload_n 1, 1) := by decide +kernel
theorem dX8_lockedIn_57 : decode cX8_lockedIn 57 = .ok (.iload 5, 2) := by decide +kernel
theorem dX8_lockedIn_59 : decode cX8_lockedIn 59 = .ok (.invokestatic 166, 3) := by decide +kernel
theorem dX8_lockedIn_62 : decode cX8_lockedIn 62 = .ok (.ifCond .eq 32, 3) := by decide +kernel
theorem dX8_lockedIn_65 : decode cX8_lockedIn 65 = .ok (.iload_n 3, 1) := by decide +kernel
theorem dX8_lockedIn_66 : decode cX8_lockedIn 66 = .ok (.iload 6, 2) := by decide +kernel
theorem dX8_lockedIn_68 : decode cX8_lockedIn 68 = .ok (.invokestatic 166, 3) := by decide +kernel
theorem dX8_lockedIn_71 : decode cX8_lockedIn 71 = .ok (.ifCond .ne 23, 3) := by decide +kernel
theorem dX8_lockedIn_74 : decode cX8_lockedIn 74 = .ok (.aload_n 0, 1) := by decide +kernel
theorem dX8_lockedIn_75 : decode cX8_lockedIn 75 = .ok (.getfield 19, 3) := by decide +kernel
theorem dX8_lockedIn_78 : decode cX8_lockedIn 78 = .ok (.getfield 128, 3) := by decide +kernel
theorem dX8_lockedIn_81 : decode cX8_lockedIn 81 = .ok (.iload 6, 2) := by decide +kernel
theorem dX8_lockedIn_83 : decode cX8_lockedIn 83 = .ok (.invokestatic 114, 3) := by decide +kernel
theorem dX8_lockedIn_86 : decode cX8_lockedIn 86 = .ok (.iload 4, 2) := by decide +kernel
theorem dX8_lockedIn_88 : decode cX8_lockedIn 88 = .ok (.iand, 1) := by decide +kernel
theorem dX8_lockedIn_89 : decode cX8_lockedIn 89 = .ok (.ifCond .eq 5, 3) := by decide +kernel
theorem dX8_lockedIn_92 : decode cX8_lockedIn 92 = .ok (.iconst 0, 1) := by decide +kernel
theorem dX8_lockedIn_93 : decode cX8_lockedIn 93 = .ok (.ireturn, 1) := by decide +kernel
theorem dX8_lockedIn_94 : decode cX8_lockedIn 94 = .ok (.iinc 5 1, 3) := by decide +kernel
theorem dX8_lockedIn_97 : decode cX8_lockedIn 97 = .ok (.goto (-67), 3) := by decide +kernel
theorem dX8_lockedIn_100 : decode cX8_lockedIn 100 = .ok (.iconst 1, 1) := by decide +kernel
theorem dX8_lockedIn_101 : decode cX8_lockedIn 101 = .ok (.ireturn, 1) := by decide +kernel
theorem dX8_walkBySeed_0 : decode cX8_walkBySeed 0 = .ok (.aload_n 0, 1) := by decide +kernel
theorem dX8_walkBySeed_1 : decode cX8_walkBySeed 1 = .ok (.getfield 30, 3) := by decide +kernel
theorem dX8_walkBySeed_4 : decode cX8_walkBySeed 4 = .ok (.aload_n 0, 1) := by decide +kernel
theorem dX8_walkBySeed_5 : decode cX8_walkBySeed 5 = .ok (.getfield 19, 3) := by decide +kernel
theorem dX8_walkBySeed_8 : decode cX8_walkBySeed 8 = .ok (.iload_n 1, 1) := by decide +kernel
theorem dX8_walkBySeed_9 : decode cX8_walkBySeed 9 = .ok (.invokevirtual 162, 3) := by decide +kernel
theorem dX8_walkBySeed_12 : decode cX8_walkBySeed 12 = .ok (.istore_n 2, 1) := by decide +kernel
theorem dX8_walkBySeed_13 : decode cX8_walkBySeed 13 = .ok (.iload_n 2, 1) := by decide +kernel
theorem dX8_walkBySeed_14 : decode cX8_walkBySeed 14 = .ok (.invokestatic 274, 3) := by decide +kernel
theorem dX8_walkBySeed_17 : decode cX8_walkBySeed 17 = .ok (.istore_n 3, 1) := by decide +kernel
theorem dX8_walkBySeed_18 : decode cX8_walkBySeed 18 = .ok (.iload_n 3, 1) := by decide +kernel
theorem dX8_walkBySeed_19 : decode cX8_walkBySeed 19 = .ok (.ifCond .ne 4, 3) := by decide +kernel
theorem dX8_walkBySeed_22 : decode cX8_walkBySeed 22 = .ok (.return_, 1) := by decide +kernel
theorem dX8_walkBySeed_23 : decode cX8_walkBySeed 23 = .ok (.aload_n 0, 1) := by decide +kernel
theorem dX8_walkBySeed_24 : decode cX8_walkBySeed 24 = .ok (.aload_n 0, 1) := by decide +kernel
theorem dX8_walkBySeed_25 : decode cX8_walkBySeed 25 = .ok (.getfield 69, 3) := by decide +kernel
theorem dX8_walkBySeed_28 : decode cX8_walkBySeed 28 = .ok (.ldc2_w 319, 3) := by decide +kernel
theorem dX8_walkBySeed_31 : decode cX8_walkBySeed 31 = .ok (.lmul, 1) := by decide +kernel
theorem dX8_walkBySeed_32 : decode cX8_walkBySeed 32 = .ok (.ldc2_w 321, 3) := by decide +kernel
theorem dX8_walkBySeed_35 : decode cX8_walkBySeed 35 = .ok (.ladd, 1) := by decide +kernel
theorem dX8_walkBySeed_36 : decode cX8_walkBySeed 36 = .ok (.putfield 69, 3) := by decide +kernel
theorem dX8_walkBySeed_39 : decode cX8_walkBySeed 39 = .ok (.aload_n 0, 1) := by decide +kernel
theorem dX8_walkBySeed_40 : decode cX8_walkBySeed 40 = .ok (.getfield 30, 3) := by decide +kernel
theorem dX8_walkBySeed_43 : decode cX8_walkBySeed 43 = .ok (.aload_n 0, 1) := by decide +kernel
theorem dX8_walkBySeed_44 : decode cX8_walkBySeed 44 = .ok (.getfield 19, 3) := by decide +kernel
theorem dX8_walkBySeed_47 : decode cX8_walkBySeed 47 = .ok (.iload_n 1, 1) := by decide +kernel
theorem dX8_walkBySeed_48 : decode cX8_walkBySeed 48 = .ok (.iload_n 2, 1) := by decide +kernel
theorem dX8_walkBySeed_49 : decode cX8_walkBySeed 49 = .ok (.aload_n 0, 1) := by decide +kernel
theorem dX8_walkBySeed_50 : decode cX8_walkBySeed 50 = .ok (.getfield 69, 3) := by decide +kernel
theorem dX8_walkBySeed_53 : decode cX8_walkBySeed 53 = .ok (.bipush 33, 2) := by decide +kernel
theorem dX8_walkBySeed_55 : decode cX8_walkBySeed 55 = .ok (.lushr, 1) := by decide +kernel
theorem dX8_walkBySeed_56 : decode cX8_walkBySeed 56 = .ok (.iload_n 3, 1) := by decide +kernel
theorem dX8_walkBySeed_57 : decode cX8_walkBySeed 57 = .ok (.i2l, 1) := by decide +kernel
theorem dX8_walkBySeed_58 : decode cX8_walkBySeed 58 = .ok (.lrem, 1) := by decide +kernel
theorem dX8_walkBySeed_59 : decode cX8_walkBySeed 59 = .ok (.l2i, 1) := by decide +kernel
theorem dX8_walkBySeed_60 : decode cX8_walkBySeed 60 = .ok (.invokestatic 323, 3) := by decide +kernel
theorem dX8_walkBySeed_63 : decode cX8_walkBySeed 63 = .ok (.invokevirtual 178, 3) := by decide +kernel
theorem dX8_walkBySeed_66 : decode cX8_walkBySeed 66 = .ok (.pop, 1) := by decide +kernel
theorem dX8_walkBySeed_67 : decode cX8_walkBySeed 67 = .ok (.return_, 1) := by decide +kernel
theorem dX8_bit_0 : decode cX8_bit 0 = .ok (.iconst 1, 1) := by decide +kernel
theorem dX8_bit_1 : decode cX8_bit 1 = .ok (.iload_n 0, 1) := by decide +kernel
theorem dX8_bit_2 : decode cX8_bit 2 = .ok (.ishl, 1) := by decide +kernel
theorem dX8_bit_3 : decode cX8_bit 3 = .ok (.ireturn, 1) := by decide +kernel
theorem dX8_has_0 : decode cX8_has 0 = .ok (.iload_n 0, 1) := by decide +kernel
theorem dX8_has_1 : decode cX8_has 1 = .ok (.iload_n 1, 1) := by decide +kernel
theorem dX8_has_2 : decode cX8_has 2 = .ok (.ishr, 1) := by decide +kernel
theorem dX8_has_3 : decode cX8_has 3 = .ok (.iconst 1, 1) := by decide +kernel
theorem dX8_has_4 : decode cX8_has 4 = .ok (.iand, 1) := by decide +kernel
theorem dX8_has_5 : decode cX8_has 5 = .ok (.iconst 1, 1) := by decide +kernel
theorem dX8_has_6 : decode cX8_has 6 = .ok (.if_icmp .ne 7, 3) := by decide +kernel
theorem dX8_has_9 : decode cX8_has 9 = .ok (.iconst 1, 1) := by decide +kernel
theorem dX8_has_10 : decode cX8_has 10 = .ok (.goto 4, 3) := by decide +kernel
theorem dX8_has_13 : decode cX8_has 13 = .ok (.iconst 0, 1) := by decide +kernel
theorem dX8_has_14 : decode cX8_has 14 = .ok (.ireturn, 1) := by decide +kernel
theorem dX8_bitOf_0 : decode cX8_bitOf 0 = .ok (.iload_n 0, 1) := by decide +kernel
theorem dX8_bitOf_1 : decode cX8_bitOf 1 = .ok (.iload_n 1, 1) := by decide +kernel
theorem dX8_bitOf_2 : decode cX8_bitOf 2 = .ok (.ishr, 1) := by decide +kernel
theorem dX8_bitOf_3 : decode cX8_bitOf 3 = .ok (.iconst 1, 1) := by decide +kernel
theorem dX8_bitOf_4 : decode cX8_bitOf 4 = .ok (.iand, 1) := by decide +kernel
theorem dX8_bitOf_5 : decode cX8_bitOf 5 = .ok (.ireturn, 1) := by decide +kernel
theorem dX8_below_0 : decode cX8_below 0 = .ok (.iconst 1, 1) := by decide +kernel
theorem dX8_below_1 : decode cX8_below 1 = .ok (.iload_n 0, 1) := by decide +kernel
theorem dX8_below_2 : decode cX8_below 2 = .ok (.ishl, 1) := by decide +kernel
theorem dX8_below_3 : decode cX8_below 3 = .ok (.iconst 1, 1) := by decide +kernel
theorem dX8_below_4 : decode cX8_below 4 = .ok (.isub, 1) := by decide +kernel
theorem dX8_below_5 : decode cX8_below 5 = .ok (.ireturn, 1) := by decide +kernel
theorem dX8_bitNumbered_0 : decode cX8_bitNumbered 0 = .ok (.iconst 0, 1) := by decide +kernel
theorem dX8_bitNumbered_1 : decode cX8_bitNumbered 1 = .ok (.istore_n 2, 1) := by decide +kernel
theorem dX8_bitNumbered_2 : decode cX8_bitNumbered 2 = .ok (.iconst 0, 1) := by decide +kernel
theorem dX8_bitNumbered_3 : decode cX8_bitNumbered 3 = .ok (.istore_n 3, 1) := by decide +kernel
theorem dX8_bitNumbered_4 : decode cX8_bitNumbered 4 = .ok (.iload_n 3, 1) := by decide +kernel
theorem dX8_bitNumbered_5 : decode cX8_bitNumbered 5 = .ok (.bipush 8, 2) := by decide +kernel
theorem dX8_bitNumbered_7 : decode cX8_bitNumbered 7 = .ok (.if_icmp .ge 27, 3) := by decide +kernel
theorem dX8_bitNumbered_10 : decode cX8_bitNumbered 10 = .ok (.iload_n 0, 1) := by decide +kernel
theorem dX8_bitNumbered_11 : decode cX8_bitNumbered 11 = .ok (.iload_n 3, 1) := by decide +kernel
theorem dX8_bitNumbered_12 : decode cX8_bitNumbered 12 = .ok (.invokestatic 166, 3) := by decide +kernel
theorem dX8_bitNumbered_15 : decode cX8_bitNumbered 15 = .ok (.ifCond .eq 13, 3) := by decide +kernel
theorem dX8_bitNumbered_18 : decode cX8_bitNumbered 18 = .ok (.iload_n 2, 1) := by decide +kernel
theorem dX8_bitNumbered_19 : decode cX8_bitNumbered 19 = .ok (.iinc 2 1, 3) := by decide +kernel
theorem dX8_bitNumbered_22 : decode cX8_bitNumbered 22 = .ok (.iload_n 1, 1) := by decide +kernel
theorem dX8_bitNumbered_23 : decode cX8_bitNumbered 23 = .ok (.if_icmp .ne 5, 3) := by decide +kernel
theorem dX8_bitNumbered_26 : decode cX8_bitNumbered 26 = .ok (.iload_n 3, 1) := by decide +kernel
theorem dX8_bitNumbered_27 : decode cX8_bitNumbered 27 = .ok (.ireturn, 1) := by decide +kernel
theorem dX8_bitNumbered_28 : decode cX8_bitNumbered 28 = .ok (.iinc 3 1, 3) := by decide +kernel
theorem dX8_bitNumbered_31 : decode cX8_bitNumbered 31 = .ok (.goto (-27), 3) := by decide +kernel
theorem dX8_bitNumbered_34 : decode cX8_bitNumbered 34 = .ok (.bipush (-9), 2) := by decide +kernel
theorem dX8_bitNumbered_36 : decode cX8_bitNumbered 36 = .ok (.ireturn, 1) := by decide +kernel
theorem dX8_cell_0 : decode cX8_cell 0 = .ok (.lload_n 0, 1) := by decide +kernel
theorem dX8_cell_1 : decode cX8_cell 1 = .ok (.bipush 8, 2) := by decide +kernel
theorem dX8_cell_3 : decode cX8_cell 3 = .ok (.iload_n 2, 1) := by decide +kernel
theorem dX8_cell_4 : decode cX8_cell 4 = .ok (.imul, 1) := by decide +kernel
theorem dX8_cell_5 : decode cX8_cell 5 = .ok (.lushr, 1) := by decide +kernel
theorem dX8_cell_6 : decode cX8_cell 6 = .ok (.l2i, 1) := by decide +kernel
theorem dX8_cell_7 : decode cX8_cell 7 = .ok (.sipush 255, 3) := by decide +kernel
theorem dX8_cell_10 : decode cX8_cell 10 = .ok (.iand, 1) := by decide +kernel
theorem dX8_cell_11 : decode cX8_cell 11 = .ok (.ireturn, 1) := by decide +kernel
theorem dX8_withCell_0 : decode cX8_withCell 0 = .ok (.lload_n 0, 1) := by decide +kernel
theorem dX8_withCell_1 : decode cX8_withCell 1 = .ok (.ldc2_w 326, 3) := by decide +kernel
theorem dX8_withCell_4 : decode cX8_withCell 4 = .ok (.bipush 8, 2) := by decide +kernel
theorem dX8_withCell_6 : decode cX8_withCell 6 = .ok (.iload_n 2, 1) := by decide +kernel
theorem dX8_withCell_7 : decode cX8_withCell 7 = .ok (.imul, 1) := by decide +kernel
theorem dX8_withCell_8 : decode cX8_withCell 8 = .ok (.lshl, 1) := by decide +kernel
theorem dX8_withCell_9 : decode cX8_withCell 9 = .ok (.ldc2_w 243, 3) := by decide +kernel
theorem dX8_withCell_12 : decode cX8_withCell 12 = .ok (.lxor, 1) := by decide +kernel
theorem dX8_withCell_13 : decode cX8_withCell 13 = .ok (.land, 1) := by decide +kernel
theorem dX8_withCell_14 : decode cX8_withCell 14 = .ok (.iload_n 3, 1) := by decide +kernel
theorem dX8_withCell_15 : decode cX8_withCell 15 = .ok (.sipush 255, 3) := by decide +kernel
theorem dX8_withCell_18 : decode cX8_withCell 18 = .ok (.iand, 1) := by decide +kernel
theorem dX8_withCell_19 : decode cX8_withCell 19 = .ok (.i2l, 1) := by decide +kernel
theorem dX8_withCell_20 : decode cX8_withCell 20 = .ok (.bipush 8, 2) := by decide +kernel
theorem dX8_withCell_22 : decode cX8_withCell 22 = .ok (.iload_n 2, 1) := by decide +kernel
theorem dX8_withCell_23 : decode cX8_withCell 23 = .ok (.imul, 1) := by decide +kernel
theorem dX8_withCell_24 : decode cX8_withCell 24 = .ok (.lshl, 1) := by decide +kernel
theorem dX8_withCell_25 : decode cX8_withCell 25 = .ok (.lor, 1) := by decide +kernel
theorem dX8_withCell_26 : decode cX8_withCell 26 = .ok (.lreturn, 1) := by decide +kernel
theorem dX8_at_0 : decode cX8_at 0 = .ok (.iload_n 1, 1) := by decide +kernel
theorem dX8_at_1 : decode cX8_at 1 = .ok (.ifCond .lt 15, 3) := by decide +kernel
theorem dX8_at_4 : decode cX8_at 4 = .ok (.iload_n 1, 1) := by decide +kernel
theorem dX8_at_5 : decode cX8_at 5 = .ok (.aload_n 0, 1) := by decide +kernel
theorem dX8_at_6 : decode cX8_at 6 = .ok (.arraylength, 1) := by decide +kernel
theorem dX8_at_7 : decode cX8_at 7 = .ok (.if_icmp .ge 9, 3) := by decide +kernel
theorem dX8_at_10 : decode cX8_at 10 = .ok (.aload_n 0, 1) := by decide +kernel
theorem dX8_at_11 : decode cX8_at 11 = .ok (.iload_n 1, 1) := by decide +kernel
theorem dX8_at_12 : decode cX8_at 12 = .ok (.iaload, 1) := by decide +kernel
theorem dX8_at_13 : decode cX8_at 13 = .ok (.goto 4, 3) := by decide +kernel
theorem dX8_at_16 : decode cX8_at 16 = .ok (.iconst 0, 1) := by decide +kernel
theorem dX8_at_17 : decode cX8_at 17 = .ok (.ireturn, 1) := by decide +kernel
theorem dX8_put_0 : decode cX8_put 0 = .ok (.iload_n 1, 1) := by decide +kernel
theorem dX8_put_1 : decode cX8_put 1 = .ok (.ifCond .lt 13, 3) := by decide +kernel
theorem dX8_put_4 : decode cX8_put 4 = .ok (.iload_n 1, 1) := by decide +kernel
theorem dX8_put_5 : decode cX8_put 5 = .ok (.aload_n 0, 1) := by decide +kernel
theorem dX8_put_6 : decode cX8_put 6 = .ok (.arraylength, 1) := by decide +kernel
theorem dX8_put_7 : decode cX8_put 7 = .ok (.if_icmp .ge 7, 3) := by decide +kernel
theorem dX8_put_10 : decode cX8_put 10 = .ok (.aload_n 0, 1) := by decide +kernel
theorem dX8_put_11 : decode cX8_put 11 = .ok (.iload_n 1, 1) := by decide +kernel
theorem dX8_put_12 : decode cX8_put 12 = .ok (.iload_n 2, 1) := by decide +kernel
theorem dX8_put_13 : decode cX8_put 13 = .ok (.iastore, 1) := by decide +kernel
theorem dX8_put_14 : decode cX8_put 14 = .ok (.return_, 1) := by decide +kernel
theorem dX8_powerOf_0 : decode cX8_powerOf 0 = .ok (.lconst 1, 1) := by decide +kernel
theorem dX8_powerOf_1 : decode cX8_powerOf 1 = .ok (.lstore_n 3, 1) := by decide +kernel
theorem dX8_powerOf_2 : decode cX8_powerOf 2 = .ok (.iconst 0, 1) := by decide +kernel
theorem dX8_powerOf_3 : decode cX8_powerOf 3 = .ok (.istore 5, 2) := by decide +kernel
theorem dX8_powerOf_5 : decode cX8_powerOf 5 = .ok (.iload 5, 2) := by decide +kernel
theorem dX8_powerOf_7 : decode cX8_powerOf 7 = .ok (.iload_n 2, 1) := by decide +kernel
theorem dX8_powerOf_8 : decode cX8_powerOf 8 = .ok (.if_icmp .ge 13, 3) := by decide +kernel
theorem dX8_powerOf_11 : decode cX8_powerOf 11 = .ok (.lload_n 3, 1) := by decide +kernel
theorem dX8_powerOf_12 : decode cX8_powerOf 12 = .ok (.lload_n 0, 1) := by decide +kernel
theorem dX8_powerOf_13 : decode cX8_powerOf 13 = .ok (.lmul, 1) := by decide +kernel
theorem dX8_powerOf_14 : decode cX8_powerOf 14 = .ok (.lstore_n 3, 1) := by decide +kernel
theorem dX8_powerOf_15 : decode cX8_powerOf 15 = .ok (.iinc 5 1, 3) := by decide +kernel
theorem dX8_powerOf_18 : decode cX8_powerOf 18 = .ok (.goto (-13), 3) := by decide +kernel
theorem dX8_powerOf_21 : decode cX8_powerOf 21 = .ok (.lload_n 3, 1) := by decide +kernel
theorem dX8_powerOf_22 : decode cX8_powerOf 22 = .ok (.lreturn, 1) := by decide +kernel
theorem dX8_partOf_0 : decode cX8_partOf 0 = .ok (.lload_n 2, 1) := by decide +kernel
theorem dX8_partOf_1 : decode cX8_partOf 1 = .ok (.lstore 5, 2) := by decide +kernel
theorem dX8_partOf_3 : decode cX8_partOf 3 = .ok (.lload_n 0, 1) := by decide +kernel
theorem dX8_partOf_4 : decode cX8_partOf 4 = .ok (.lstore 7, 2) := by decide +kernel
theorem dX8_partOf_6 : decode cX8_partOf 6 = .ok (.iconst 0, 1) := by decide +kernel
theorem dX8_partOf_7 : decode cX8_partOf 7 = .ok (.istore 9, 2) := by decide +kernel
theorem dX8_partOf_9 : decode cX8_partOf 9 = .ok (.iload 9, 2) := by decide +kernel
theorem dX8_partOf_11 : decode cX8_partOf 11 = .ok (.bipush 100, 2) := by decide +kernel
theorem dX8_partOf_13 : decode cX8_partOf 13 = .ok (.if_icmp .ge 31, 3) := by decide +kernel
theorem dX8_partOf_16 : decode cX8_partOf 16 = .ok (.lload 7, 2) := by decide +kernel
theorem dX8_partOf_18 : decode cX8_partOf 18 = .ok (.lconst 0, 1) := by decide +kernel
theorem dX8_partOf_19 : decode cX8_partOf 19 = .ok (.lcmp, 1) := by decide +kernel
theorem dX8_partOf_20 : decode cX8_partOf 20 = .ok (.ifCond .eq 24, 3) := by decide +kernel
theorem dX8_partOf_23 : decode cX8_partOf 23 = .ok (.lload 5, 2) := by decide +kernel
theorem dX8_partOf_25 : decode cX8_partOf 25 = .ok (.lload 7, 2) := by decide +kernel
theorem dX8_partOf_27 : decode cX8_partOf 27 = .ok (.lrem, 1) := by decide +kernel
theorem dX8_partOf_28 : decode cX8_partOf 28 = .ok (.lstore 10, 2) := by decide +kernel
theorem dX8_partOf_30 : decode cX8_partOf 30 = .ok (.lload 7, 2) := by decide +kernel
theorem dX8_partOf_32 : decode cX8_partOf 32 = .ok (.lstore 5, 2) := by decide +kernel
theorem dX8_partOf_34 : decode cX8_partOf 34 = .ok (.lload 10, 2) := by decide +kernel
theorem dX8_partOf_36 : decode cX8_partOf 36 = .ok (.lstore 7, 2) := by decide +kernel
theorem dX8_partOf_38 : decode cX8_partOf 38 = .ok (.iinc 9 1, 3) := by decide +kernel
theorem dX8_partOf_41 : decode cX8_partOf 41 = .ok (.goto (-32), 3) := by decide +kernel
theorem dX8_partOf_44 : decode cX8_partOf 44 = .ok (.lload 5, 2) := by decide +kernel
theorem dX8_partOf_46 : decode cX8_partOf 46 = .ok (.lconst 0, 1) := by decide +kernel
theorem dX8_partOf_47 : decode cX8_partOf 47 = .ok (.lcmp, 1) := by decide +kernel
theorem dX8_partOf_48 : decode cX8_partOf 48 = .ok (.ifCond .ne 5, 3) := by decide +kernel
theorem dX8_partOf_51 : decode cX8_partOf 51 = .ok (.lconst 0, 1) := by decide +kernel
theorem dX8_partOf_52 : decode cX8_partOf 52 = .ok (.lreturn, 1) := by decide +kernel
theorem dX8_partOf_53 : decode cX8_partOf 53 = .ok (.iload 4, 2) := by decide +kernel
theorem dX8_partOf_55 : decode cX8_partOf 55 = .ok (.ifCond .eq 10, 3) := by decide +kernel
theorem dX8_partOf_58 : decode cX8_partOf 58 = .ok (.lload_n 0, 1) := by decide +kernel
theorem dX8_partOf_59 : decode cX8_partOf 59 = .ok (.lload 5, 2) := by decide +kernel
theorem dX8_partOf_61 : decode cX8_partOf 61 = .ok (.ldiv, 1) := by decide +kernel
theorem dX8_partOf_62 : decode cX8_partOf 62 = .ok (.goto 7, 3) := by decide +kernel
theorem dX8_partOf_65 : decode cX8_partOf 65 = .ok (.lload_n 2, 1) := by decide +kernel
theorem dX8_partOf_66 : decode cX8_partOf 66 = .ok (.lload 5, 2) := by decide +kernel
theorem dX8_partOf_68 : decode cX8_partOf 68 = .ok (.ldiv, 1) := by decide +kernel
theorem dX8_partOf_69 : decode cX8_partOf 69 = .ok (.lreturn, 1) := by decide +kernel
theorem dX8_fillNights_0 : decode cX8_fillNights 0 = .ok (.iconst 0, 1) := by decide +kernel
theorem dX8_fillNights_1 : decode cX8_fillNights 1 = .ok (.istore_n 1, 1) := by decide +kernel
theorem dX8_fillNights_2 : decode cX8_fillNights 2 = .ok (.iload_n 1, 1) := by decide +kernel
theorem dX8_fillNights_3 : decode cX8_fillNights 3 = .ok (.aload_n 0, 1) := by decide +kernel
theorem dX8_fillNights_4 : decode cX8_fillNights 4 = .ok (.arraylength, 1) := by decide +kernel
theorem dX8_fillNights_5 : decode cX8_fillNights 5 = .ok (.if_icmp .ge 19, 3) := by decide +kernel
theorem dX8_fillNights_8 : decode cX8_fillNights 8 = .ok (.aload_n 0, 1) := by decide +kernel
theorem dX8_fillNights_9 : decode cX8_fillNights 9 = .ok (.iload_n 1, 1) := by decide +kernel
theorem dX8_fillNights_10 : decode cX8_fillNights 10 = .ok (.new 23, 3) := by decide +kernel
theorem dX8_fillNights_13 : decode cX8_fillNights 13 = .ok (.dup, 1) := by decide +kernel
theorem dX8_fillNights_14 : decode cX8_fillNights 14 = .ok (.invokespecial 25, 3) := by decide +kernel
theorem dX8_fillNights_17 : decode cX8_fillNights 17 = .ok (.aastore, 1) := by decide +kernel
theorem dX8_fillNights_18 : decode cX8_fillNights 18 = .ok (.iinc 1 1, 3) := by decide +kernel
theorem dX8_fillNights_21 : decode cX8_fillNights 21 = .ok (.goto (-19), 3) := by decide +kernel
theorem dX8_fillNights_24 : decode cX8_fillNights 24 = .ok (.return_, 1) := by decide +kernel
theorem dX8_nightAt_0 : decode cX8_nightAt 0 = .ok (.iload_n 1, 1) := by decide +kernel
theorem dX8_nightAt_1 : decode cX8_nightAt 1 = .ok (.ifCond .lt 15, 3) := by decide +kernel
theorem dX8_nightAt_4 : decode cX8_nightAt 4 = .ok (.iload_n 1, 1) := by decide +kernel
theorem dX8_nightAt_5 : decode cX8_nightAt 5 = .ok (.aload_n 0, 1) := by decide +kernel
theorem dX8_nightAt_6 : decode cX8_nightAt 6 = .ok (.arraylength, 1) := by decide +kernel
theorem dX8_nightAt_7 : decode cX8_nightAt 7 = .ok (.if_icmp .ge 9, 3) := by decide +kernel
theorem dX8_nightAt_10 : decode cX8_nightAt 10 = .ok (.aload_n 0, 1) := by decide +kernel
theorem dX8_nightAt_11 : decode cX8_nightAt 11 = .ok (.iload_n 1, 1) := by decide +kernel
theorem dX8_nightAt_12 : decode cX8_nightAt 12 = .ok (.aaload, 1) := by decide +kernel
theorem dX8_nightAt_13 : decode cX8_nightAt 13 = .ok (.goto 4, 3) := by decide +kernel
theorem dX8_nightAt_16 : decode cX8_nightAt 16 = .ok (.aconst_null, 1) := by decide +kernel
theorem dX8_nightAt_17 : decode cX8_nightAt 17 = .ok (.areturn, 1) := by decide +kernel
theorem dX9_init_0 : decode cX9_init 0 = .ok (.aload_n 0, 1) := by decide +kernel
theorem dX9_init_1 : decode cX9_init 1 = .ok (.invokespecial 1, 3) := by decide +kernel
theorem dX9_init_4 : decode cX9_init 4 = .ok (.aload_n 0, 1) := by decide +kernel
theorem dX9_init_5 : decode cX9_init 5 = .ok (.bipush 16, 2) := by decide +kernel
theorem dX9_init_7 : decode cX9_init 7 = .ok (.newarray .int, 2) := by decide +kernel
theorem dX9_init_9 : decode cX9_init 9 = .ok (.putfield 7, 3) := by decide +kernel
theorem dX9_init_12 : decode cX9_init 12 = .ok (.aload_n 0, 1) := by decide +kernel
theorem dX9_init_13 : decode cX9_init 13 = .ok (.bipush 6, 2) := by decide +kernel
theorem dX9_init_15 : decode cX9_init 15 = .ok (.newarray .int, 2) := by decide +kernel
theorem dX9_init_17 : decode cX9_init 17 = .ok (.putfield 13, 3) := by decide +kernel
theorem dX9_init_20 : decode cX9_init 20 = .ok (.aload_n 0, 1) := by decide +kernel
theorem dX9_init_21 : decode cX9_init 21 = .ok (.bipush 6, 2) := by decide +kernel
theorem dX9_init_23 : decode cX9_init 23 = .ok (.newarray .int, 2) := by decide +kernel
theorem dX9_init_25 : decode cX9_init 25 = .ok (.putfield 16, 3) := by decide +kernel
theorem dX9_init_28 : decode cX9_init 28 = .ok (.aload_n 0, 1) := by decide +kernel
theorem dX9_init_29 : decode cX9_init 29 = .ok (.bipush 43, 2) := by decide +kernel
theorem dX9_init_31 : decode cX9_init 31 = .ok (.newarray .int, 2) := by decide +kernel
theorem dX9_init_33 : decode cX9_init 33 = .ok (.putfield 19, 3) := by decide +kernel
theorem dX9_init_36 : decode cX9_init 36 = .ok (.aload_n 0, 1) := by decide +kernel
theorem dX9_init_37 : decode cX9_init 37 = .ok (.sipush 688, 3) := by decide +kernel
theorem dX9_init_40 : decode cX9_init 40 = .ok (.newarray .int, 2) := by decide +kernel
theorem dX9_init_42 : decode cX9_init 42 = .ok (.putfield 22, 3) := by decide +kernel
theorem dX9_init_45 : decode cX9_init 45 = .ok (.aload_n 0, 1) := by decide +kernel
theorem dX9_init_46 : decode cX9_init 46 = .ok (.bipush 86, 2) := by decide +kernel
theorem dX9_init_48 : decode cX9_init 48 = .ok (.newarray .int, 2) := by decide +kernel
theorem dX9_init_50 : decode cX9_init 50 = .ok (.putfield 25, 3) := by decide +kernel
theorem dX9_init_53 : decode cX9_init 53 = .ok (.aload_n 0, 1) := by decide +kernel
theorem dX9_init_54 : decode cX9_init 54 = .ok (.iconst 2, 1) := by decide +kernel
theorem dX9_init_55 : decode cX9_init 55 = .ok (.newarray .boolean, 2) := by decide +kernel
theorem dX9_init_57 : decode cX9_init 57 = .ok (.putfield 28, 3) := by decide +kernel
theorem dX9_init_60 : decode cX9_init 60 = .ok (.aload_n 0, 1) := by decide +kernel
theorem dX9_init_61 : decode cX9_init 61 = .ok (.bipush 96, 2) := by decide +kernel
theorem dX9_init_63 : decode cX9_init 63 = .ok (.newarray .int, 2) := by decide +kernel
theorem dX9_init_65 : decode cX9_init 65 = .ok (.putfield 32, 3) := by decide +kernel
theorem dX9_init_68 : decode cX9_init 68 = .ok (.aload_n 0, 1) := by decide +kernel
theorem dX9_init_69 : decode cX9_init 69 = .ok (.bipush 16, 2) := by decide +kernel
theorem dX9_init_71 : decode cX9_init 71 = .ok (.newarray .int, 2) := by decide +kernel
theorem dX9_init_73 : decode cX9_init 73 = .ok (.putfield 35, 3) := by decide +kernel
theorem dX9_init_76 : decode cX9_init 76 = .ok (.aload_n 0, 1) := by decide +kernel
theorem dX9_init_77 : decode cX9_init 77 = .ok (.bipush 6, 2) := by decide +kernel
theorem dX9_init_79 : decode cX9_init 79 = .ok (.newarray .int, 2) := by decide +kernel
theorem dX9_init_81 : decode cX9_init 81 = .ok (.putfield 38, 3) := by decide +kernel
theorem dX9_init_84 : decode cX9_init 84 = .ok (.aload_n 0, 1) := by decide +kernel
theorem dX9_init_85 : decode cX9_init 85 = .ok (.bipush 6, 2) := by decide +kernel
theorem dX9_init_87 : decode cX9_init 87 = .ok (.newarray .int, 2) := by decide +kernel
theorem dX9_init_89 : decode cX9_init 89 = .ok (.putfield 41, 3) := by decide +kernel
theorem dX9_init_92 : decode cX9_init 92 = .ok (.aload_n 0, 1) := by decide +kernel
theorem dX9_init_93 : decode cX9_init 93 = .ok (.bipush 43, 2) := by decide +kernel
theorem dX9_init_95 : decode cX9_init 95 = .ok (.newarray .int, 2) := by decide +kernel
theorem dX9_init_97 : decode cX9_init 97 = .ok (.putfield 44, 3) := by decide +kernel
theorem dX9_init_100 : decode cX9_init 100 = .ok (.aload_n 0, 1) := by decide +kernel
theorem dX9_init_101 : decode cX9_init 101 = .ok (.bipush 24, 2) := by decide +kernel
theorem dX9_init_103 : decode cX9_init 103 = .ok (.newarray .int, 2) := by decide +kernel
theorem dX9_init_105 : decode cX9_init 105 = .ok (.putfield 47, 3) := by decide +kernel
theorem dX9_init_108 : decode cX9_init 108 = .ok (.aload_n 0, 1) := by decide +kernel
theorem dX9_init_109 : decode cX9_init 109 = .ok (.bipush 6, 2) := by decide +kernel
theorem dX9_init_111 : decode cX9_init 111 = .ok (.newarray .int, 2) := by decide +kernel
theorem dX9_init_113 : decode cX9_init 113 = .ok (.putfield 50, 3) := by decide +kernel
theorem dX9_init_116 : decode cX9_init 116 = .ok (.aload_n 0, 1) := by decide +kernel
theorem dX9_init_117 : decode cX9_init 117 = .ok (.bipush 64, 2) := by decide +kernel
theorem dX9_init_119 : decode cX9_init 119 = .ok (.newarray .long, 2) := by decide +kernel
theorem dX9_init_121 : decode cX9_init 121 = .ok (.putfield 53, 3) := by decide +kernel
theorem dX9_init_124 : decode cX9_init 124 = .ok (.aload_n 0, 1) := by decide +kernel
theorem dX9_init_125 : decode cX9_init 125 = .ok (.sipush 729, 3) := by decide +kernel
theorem dX9_init_128 : decode cX9_init 128 = .ok (.newarray .int, 2) := by decide +kernel
theorem dX9_init_130 : decode cX9_init 130 = .ok (.putfield 57, 3) := by decide +kernel
theorem dX9_init_133 : decode cX9_init 133 = .ok (.aload_n 0, 1) := by decide +kernel
theorem dX9_init_134 : decode cX9_init 134 = .ok (.bipush 6, 2) := by decide +kernel
theorem dX9_init_136 : decode cX9_init 136 = .ok (.newarray .int, 2) := by decide +kernel
theorem dX9_init_138 : decode cX9_init 138 = .ok (.putfield 60, 3) := by decide +kernel
theorem dX9_init_141 : decode cX9_init 141 = .ok (.aload_n 0, 1) := by decide +kernel
theorem dX9_init_142 : decode cX9_init 142 = .ok (.bipush 43, 2) := by decide +kernel
theorem dX9_init_144 : decode cX9_init 144 = .ok (.newarray .int, 2) := by decide +kernel
theorem dX9_init_146 : decode cX9_init 146 = .ok (.putfield 63, 3) := by decide +kernel
theorem dX9_init_149 : decode cX9_init 149 = .ok (.aload_n 0, 1) := by decide +kernel
theorem dX9_init_150 : decode cX9_init 150 = .ok (.bipush 43, 2) := by decide +kernel
theorem dX9_init_152 : decode cX9_init 152 = .ok (.newarray .int, 2) := by decide +kernel
theorem dX9_init_154 : decode cX9_init 154 = .ok (.putfield 66, 3) := by decide +kernel
theorem dX9_init_157 : decode cX9_init 157 = .ok (.return_, 1) := by decide +kernel
theorem dX9_in_0 : decode cX9_in 0 = .ok (.lload_n 0, 1) := by decide +kernel
theorem dX9_in_1 : decode cX9_in 1 = .ok (.lload_n 2, 1) := by decide +kernel
theorem dX9_in_2 : decode cX9_in 2 = .ok (.lcmp, 1) := by decide +kernel
theorem dX9_in_3 : decode cX9_in 3 = .ok (.ifCond .lt 14, 3) := by decide +kernel
theorem dX9_in_6 : decode cX9_in 6 = .ok (.lload_n 0, 1) := by decide +kernel
theorem dX9_in_7 : decode cX9_in 7 = .ok (.lload 4, 2) := by decide +kernel
theorem dX9_in_9 : decode cX9_in 9 = .ok (.lcmp, 1) := by decide +kernel
theorem dX9_in_10 : decode cX9_in 10 = .ok (.ifCond .gt 7, 3) := by decide +kernel
theorem dX9_in_13 : decode cX9_in 13 = .ok (.iconst 1, 1) := by decide +kernel
theorem dX9_in_14 : decode cX9_in 14 = .ok (.goto 4, 3) := by decide +kernel
theorem dX9_in_17 : decode cX9_in 17 = .ok (.iconst 0, 1) := by decide +kernel
theorem dX9_in_18 : decode cX9_in 18 = .ok (.ireturn, 1) := by decide +kernel
theorem dX9_has_0 : decode cX9_has 0 = .ok (.iload_n 0, 1) := by decide +kernel
theorem dX9_has_1 : decode cX9_has 1 = .ok (.iload_n 1, 1) := by decide +kernel
theorem dX9_has_2 : decode cX9_has 2 = .ok (.ishr, 1) := by decide +kernel
theorem dX9_has_3 : decode cX9_has 3 = .ok (.iconst 1, 1) := by decide +kernel
theorem dX9_has_4 : decode cX9_has 4 = .ok (.iand, 1) := by decide +kernel
theorem dX9_has_5 : decode cX9_has 5 = .ok (.iconst 1, 1) := by decide +kernel
theorem dX9_has_6 : decode cX9_has 6 = .ok (.if_icmp .ne 7, 3) := by decide +kernel
theorem dX9_has_9 : decode cX9_has 9 = .ok (.iconst 1, 1) := by decide +kernel
theorem dX9_has_10 : decode cX9_has 10 = .ok (.goto 4, 3) := by decide +kernel
theorem dX9_has_13 : decode cX9_has 13 = .ok (.iconst 0, 1) := by decide +kernel
theorem dX9_has_14 : decode cX9_has 14 = .ok (.ireturn, 1) := by decide +kernel
theorem dX9_bits_0 : decode cX9_bits 0 = .ok (.iconst 0, 1) := by decide +kernel
theorem dX9_bits_1 : decode cX9_bits 1 = .ok (.istore_n 1, 1) := by decide +kernel
theorem dX9_bits_2 : decode cX9_bits 2 = .ok (.iconst 0, 1) := by decide +kernel
theorem dX9_bits_3 : decode cX9_bits 3 = .ok (.istore_n 2, 1) := by decide +kernel
theorem dX9_bits_4 : decode cX9_bits 4 = .ok (.iload_n 2, 1) := by decide +kernel
theorem dX9_bits_5 : decode cX9_bits 5 = .ok (.bipush 6, 2) := by decide +kernel
theorem dX9_bits_7 : decode cX9_bits 7 = .ok (.if_icmp .ge 17, 3) := by decide +kernel
theorem dX9_bits_10 : decode cX9_bits 10 = .ok (.iload_n 1, 1) := by decide +kernel
theorem dX9_bits_11 : decode cX9_bits 11 = .ok (.iload_n 0, 1) := by decide +kernel
theorem dX9_bits_12 : decode cX9_bits 12 = .ok (.iload_n 2, 1) := by decide +kernel
theorem dX9_bits_13 : decode cX9_bits 13 = .ok (.ishr, 1) := by decide +kernel
theorem dX9_bits_14 : decode cX9_bits 14 = .ok (.iconst 1, 1) := by decide +kernel
theorem dX9_bits_15 : decode cX9_bits 15 = .ok (.iand, 1) := by decide +kernel
theorem dX9_bits_16 : decode cX9_bits 16 = .ok (.iadd, 1) := by decide +kernel
theorem dX9_bits_17 : decode cX9_bits 17 = .ok (.istore_n 1, 1) := by decide +kernel
theorem dX9_bits_18 : decode cX9_bits 18 = .ok (.iinc 2 1, 3) := by decide +kernel
theorem dX9_bits_21 : decode cX9_bits 21 = .ok (.goto (-17), 3) := by decide +kernel
theorem dX9_bits_24 : decode cX9_bits 24 = .ok (.iload_n 1, 1) := by decide +kernel
theorem dX9_bits_25 : decode cX9_bits 25 = .ok (.ireturn, 1) := by decide +kernel
theorem dX9_noHouse_0 : decode cX9_noHouse 0 = .ok (.iload_n 1, 1) := by decide +kernel
theorem dX9_noHouse_1 : decode cX9_noHouse 1 = .ok (.i2l, 1) := by decide +kernel
theorem dX9_noHouse_2 : decode cX9_noHouse 2 = .ok (.lconst 0, 1) := by decide +kernel
theorem dX9_noHouse_3 : decode cX9_noHouse 3 = .ok (.aload_n 0, 1) := by decide +kernel
theorem dX9_noHouse_4 : decode cX9_noHouse 4 = .ok (.getfield 73, 3) := by decide +kernel
theorem dX9_noHouse_7 : decode cX9_noHouse 7 = .ok (.iconst 1, 1) := by decide +kernel
theorem dX9_noHouse_8 : decode cX9_noHouse 8 = .ok (.isub, 1) := by decide +kernel
theorem dX9_noHouse_9 : decode cX9_noHouse 9 = .ok (.i2l, 1) := by decide +kernel
theorem dX9_noHouse_10 : decode cX9_noHouse 10 = .ok (.invokestatic 76, 3) := by decide +kernel
theorem dX9_noHouse_13 : decode cX9_noHouse 13 = .ok (.ifCond .ne 7, 3) := by decide +kernel
theorem dX9_noHouse_16 : decode cX9_noHouse 16 = .ok (.iconst 1, 1) := by decide +kernel
theorem dX9_noHouse_17 : decode cX9_noHouse 17 = .ok (.goto 4, 3) := by decide +kernel
theorem dX9_noHouse_20 : decode cX9_noHouse 20 = .ok (.iconst 0, 1) := by decide +kernel
theorem dX9_noHouse_21 : decode cX9_noHouse 21 = .ok (.ireturn, 1) := by decide +kernel
theorem dX9_noOne_0 : decode cX9_noOne 0 = .ok (.iload_n 1, 1) := by decide +kernel
theorem dX9_noOne_1 : decode cX9_noOne 1 = .ok (.i2l, 1) := by decide +kernel
theorem dX9_noOne_2 : decode cX9_noOne 2 = .ok (.lconst 0, 1) := by decide +kernel
theorem dX9_noOne_3 : decode cX9_noOne 3 = .ok (.aload_n 0, 1) := by decide +kernel
theorem dX9_noOne_4 : decode cX9_noOne 4 = .ok (.getfield 80, 3) := by decide +kernel
theorem dX9_noOne_7 : decode cX9_noOne 7 = .ok (.iconst 1, 1) := by decide +kernel
theorem dX9_noOne_8 : decode cX9_noOne 8 = .ok (.isub, 1) := by decide +kernel
theorem dX9_noOne_9 : decode cX9_noOne 9 = .ok (.i2l, 1) := by decide +kernel
theorem dX9_noOne_10 : decode cX9_noOne 10 = .ok (.invokestatic 76, 3) := by decide +kernel
theorem dX9_noOne_13 : decode cX9_noOne 13 = .ok (.ifCond .ne 7, 3) := by decide +kernel
theorem dX9_noOne_16 : decode cX9_noOne 16 = .ok (.iconst 1, 1) := by decide +kernel
theorem dX9_noOne_17 : decode cX9_noOne 17 = .ok (.goto 4, 3) := by decide +kernel
theorem dX9_noOne_20 : decode cX9_noOne 20 = .ok (.iconst 0, 1) := by decide +kernel
theorem dX9_noOne_21 : decode cX9_noOne 21 = .ok (.ireturn, 1) := by decide +kernel
theorem dX9_of_0 : decode cX9_of 0 = .ok (.aload_n 0, 1) := by decide +kernel
theorem dX9_of_1 : decode cX9_of 1 = .ok (.getfield 19, 3) := by decide +kernel
theorem dX9_of_4 : decode cX9_of 4 = .ok (.bipush 13, 2) := by decide +kernel
theorem dX9_of_6 : decode cX9_of 6 = .ok (.iconst 5, 1) := by decide +kernel
theorem dX9_of_7 : decode cX9_of 7 = .ok (.iload_n 1, 1) := by decide +kernel
theorem dX9_of_8 : decode cX9_of 8 = .ok (.imul, 1) := by decide +kernel
theorem dX9_of_9 : decode cX9_of 9 = .ok (.iadd, 1) := by decide +kernel
theorem dX9_of_10 : decode cX9_of 10 = .ok (.iload_n 2, 1) := by decide +kernel
theorem dX9_of_11 : decode cX9_of 11 = .ok (.iadd, 1) := by decide +kernel
theorem dX9_of_12 : decode cX9_of 12 = .ok (.iaload, 1) := by decide +kernel
theorem dX9_of_13 : decode cX9_of 13 = .ok (.ireturn, 1) := by decide +kernel
theorem dX9_isThere_0 : decode cX9_isThere 0 = .ok (.aload_n 0, 1) := by decide +kernel
theorem dX9_isThere_1 : decode cX9_isThere 1 = .ok (.iload_n 1, 1) := by decide +kernel
theorem dX9_isThere_2 : decode cX9_isThere 2 = .ok (.iconst 2, 1) := by decide +kernel
theorem dX9_isThere_3 : decode cX9_isThere 3 = .ok (.invokevirtual 83, 3) := by decide +kernel
theorem dX9_isThere_6 : decode cX9_isThere 6 = .ok (.ifCond .ne 7, 3) := by decide +kernel
theorem dX9_isThere_9 : decode cX9_isThere 9 = .ok (.iconst 1, 1) := by decide +kernel
theorem dX9_isThere_10 : decode cX9_isThere 10 = .ok (.goto 4, 3) := by decide +kernel
theorem dX9_isThere_13 : decode cX9_isThere 13 = .ok (.iconst 0, 1) := by decide +kernel
theorem dX9_isThere_14 : decode cX9_isThere 14 = .ok (.ireturn, 1) := by decide +kernel
theorem dX9_there_0 : decode cX9_there 0 = .ok (.iconst 0, 1) := by decide +kernel
theorem dX9_there_1 : decode cX9_there 1 = .ok (.istore_n 1, 1) := by decide +kernel
theorem dX9_there_2 : decode cX9_there 2 = .ok (.iconst 0, 1) := by decide +kernel
theorem dX9_there_3 : decode cX9_there 3 = .ok (.istore_n 2, 1) := by decide +kernel
theorem dX9_there_4 : decode cX9_there 4 = .ok (.iload_n 2, 1) := by decide +kernel
theorem dX9_there_5 : decode cX9_there 5 = .ok (.aload_n 0, 1) := by decide +kernel
theorem dX9_there_6 : decode cX9_there 6 = .ok (.getfield 80, 3) := by decide +kernel
theorem dX9_there_9 : decode cX9_there 9 = .ok (.if_icmp .ge 27, 3) := by decide +kernel
theorem dX9_there_12 : decode cX9_there 12 = .ok (.iload_n 1, 1) := by decide +kernel
theorem dX9_there_13 : decode cX9_there 13 = .ok (.aload_n 0, 1) := by decide +kernel
theorem dX9_there_14 : decode cX9_there 14 = .ok (.iload_n 2, 1) := by decide +kernel
theorem dX9_there_15 : decode cX9_there 15 = .ok (.invokevirtual 87, 3) := by decide +kernel
theorem dX9_there_18 : decode cX9_there 18 = .ok (.ifCond .eq 9, 3) := by decide +kernel
theorem dX9_there_21 : decode cX9_there 21 = .ok (.iconst 1, 1) := by decide +kernel
theorem dX9_there_22 : decode cX9_there 22 = .ok (.iload_n 2, 1) := by decide +kernel
theorem dX9_there_23 : decode cX9_there 23 = .ok (.ishl, 1) := by decide +kernel
theorem dX9_there_24 : decode cX9_there 24 = .ok (.goto 4, 3) := by decide +kernel
theorem dX9_there_27 : decode cX9_there 27 = .ok (.iconst 0, 1) := by decide +kernel
theorem dX9_there_28 : decode cX9_there 28 = .ok (.ior, 1) := by decide +kernel
theorem dX9_there_29 : decode cX9_there 29 = .ok (.istore_n 1, 1) := by decide +kernel
theorem dX9_there_30 : decode cX9_there 30 = .ok (.iinc 2 1, 3) := by decide +kernel
theorem dX9_there_33 : decode cX9_there 33 = .ok (.goto (-29), 3) := by decide +kernel
theorem dX9_there_36 : decode cX9_there 36 = .ok (.iload_n 1, 1) := by decide +kernel
theorem dX9_there_37 : decode cX9_there 37 = .ok (.ireturn, 1) := by decide +kernel
theorem dX9_wolves_0 : decode cX9_wolves 0 = .ok (.iconst 0, 1) := by decide +kernel
theorem dX9_wolves_1 : decode cX9_wolves 1 = .ok (.istore_n 1, 1) := by decide +kernel
theorem dX9_wolves_2 : decode cX9_wolves 2 = .ok (.iconst 0, 1) := by decide +kernel
theorem dX9_wolves_3 : decode cX9_wolves 3 = .ok (.istore_n 2, 1) := by decide +kernel
theorem dX9_wolves_4 : decode cX9_wolves 4 = .ok (.iload_n 2, 1) := by decide +kernel
theorem dX9_wolves_5 : decode cX9_wolves 5 = .ok (.aload_n 0, 1) := by decide +kernel
theorem dX9_wolves_6 : decode cX9_wolves 6 = .ok (.getfield 80, 3) := by decide +kernel
theorem dX9_wolves_9 : decode cX9_wolves 9 = .ok (.if_icmp .ge 37, 3) := by decide +kernel
theorem dX9_wolves_12 : decode cX9_wolves 12 = .ok (.iload_n 1, 1) := by decide +kernel
theorem dX9_wolves_13 : decode cX9_wolves 13 = .ok (.aload_n 0, 1) := by decide +kernel
theorem dX9_wolves_14 : decode cX9_wolves 14 = .ok (.iload_n 2, 1) := by decide +kernel
theorem dX9_wolves_15 : decode cX9_wolves 15 = .ok (.iconst 0, 1) := by decide +kernel
theorem dX9_wolves_16 : decode cX9_wolves 16 = .ok (.invokevirtual 83, 3) := by decide +kernel
theorem dX9_wolves_19 : decode cX9_wolves 19 = .ok (.iconst 1, 1) := by decide +kernel
theorem dX9_wolves_20 : decode cX9_wolves 20 = .ok (.if_icmp .ne 17, 3) := by decide +kernel
theorem dX9_wolves_23 : decode cX9_wolves 23 = .ok (.aload_n 0, 1) := by decide +kernel
theorem dX9_wolves_24 : decode cX9_wolves 24 = .ok (.iload_n 2, 1) := by decide +kernel
theorem dX9_wolves_25 : decode cX9_wolves 25 = .ok (.invokevirtual 87, 3) := by decide +kernel
theorem dX9_wolves_28 : decode cX9_wolves 28 = .ok (.ifCond .eq 9, 3) := by decide +kernel
theorem dX9_wolves_31 : decode cX9_wolves 31 = .ok (.iconst 1, 1) := by decide +kernel
theorem dX9_wolves_32 : decode cX9_wolves 32 = .ok (.iload_n 2, 1) := by decide +kernel
theorem dX9_wolves_33 : decode cX9_wolves 33 = .ok (.ishl, 1) := by decide +kernel
theorem dX9_wolves_34 : decode cX9_wolves 34 = .ok (.goto 4, 3) := by decide +kernel
theorem dX9_wolves_37 : decode cX9_wolves 37 = .ok (.iconst 0, 1) := by decide +kernel
theorem dX9_wolves_38 : decode cX9_wolves 38 = .ok (.ior, 1) := by decide +kernel
theorem dX9_wolves_39 : decode cX9_wolves 39 = .ok (.istore_n 1, 1) := by decide +kernel
theorem dX9_wolves_40 : decode cX9_wolves 40 = .ok (.iinc 2 1, 3) := by decide +kernel
theorem dX9_wolves_43 : decode cX9_wolves 43 = .ok (.goto (-39), 3) := by decide +kernel
theorem dX9_wolves_46 : decode cX9_wolves 46 = .ok (.iload_n 1, 1) := by decide +kernel
theorem dX9_wolves_47 : decode cX9_wolves 47 = .ok (.ireturn, 1) := by decide +kernel
theorem dX9_write_0 : decode cX9_write 0 = .ok (.aload_n 0, 1) := by decide +kernel
theorem dX9_write_1 : decode cX9_write 1 = .ok (.iconst 0, 1) := by decide +kernel
theorem dX9_write_2 : decode cX9_write 2 = .ok (.putfield 69, 3) := by decide +kernel
theorem dX9_write_5 : decode cX9_write 5 = .ok (.iload_n 1, 1) := by decide +kernel
theorem dX9_write_6 : decode cX9_write 6 = .ok (.i2l, 1) := by decide +kernel
theorem dX9_write_7 : decode cX9_write 7 = .ok (.lconst 1, 1) := by decide +kernel
theorem dX9_write_8 : decode cX9_write 8 = .ok (.ldc2_w 91, 3) := by decide +kernel
theorem dX9_write_11 : decode cX9_write 11 = .ok (.invokestatic 76, 3) := by decide +kernel
theorem dX9_write_14 : decode cX9_write 14 = .ok (.ifCond .ne 6, 3) := by decide +kernel
theorem dX9_write_17 : decode cX9_write 17 = .ok (.bipush (-2), 2) := by decide +kernel
theorem dX9_write_19 : decode cX9_write 19 = .ok (.ireturn, 1) := by decide +kernel
theorem dX9_write_20 : decode cX9_write 20 = .ok (.aload_n 0, 1) := by decide +kernel
theorem dX9_write_21 : decode cX9_write 21 = .ok (.getfield 93, 3) := by decide +kernel
theorem dX9_write_24 : decode cX9_write 24 = .ok (.iload_n 1, 1) := by decide +kernel
theorem dX9_write_25 : decode cX9_write 25 = .ok (.iadd, 1) := by decide +kernel
theorem dX9_write_26 : decode cX9_write 26 = .ok (.bipush 96, 2) := by decide +kernel
theorem dX9_write_28 : decode cX9_write 28 = .ok (.if_icmp .le 6, 3) := by decide +kernel
theorem dX9_write_31 : decode cX9_write 31 = .ok (.bipush (-4), 2) := by decide +kernel
theorem dX9_write_33 : decode cX9_write 33 = .ok (.ireturn, 1) := by decide +kernel
theorem dX9_write_34 : decode cX9_write 34 = .ok (.iload_n 1, 1) := by decide +kernel
theorem dX9_write_35 : decode cX9_write 35 = .ok (.iconst 1, 1) := by decide +kernel
theorem dX9_write_36 : decode cX9_write 36 = .ok (.isub, 1) := by decide +kernel
theorem dX9_write_37 : decode cX9_write 37 = .ok (.istore 4, 2) := by decide +kernel
theorem dX9_write_39 : decode cX9_write 39 = .ok (.iload 4, 2) := by decide +kernel
theorem dX9_write_41 : decode cX9_write 41 = .ok (.ifCond .lt 40, 3) := by decide +kernel
theorem dX9_write_44 : decode cX9_write 44 = .ok (.aload_n 0, 1) := by decide +kernel
theorem dX9_write_45 : decode cX9_write 45 = .ok (.getfield 32, 3) := by decide +kernel
theorem dX9_write_48 : decode cX9_write 48 = .ok (.aload_n 0, 1) := by decide +kernel
theorem dX9_write_49 : decode cX9_write 49 = .ok (.getfield 93, 3) := by decide +kernel
theorem dX9_write_52 : decode cX9_write 52 = .ok (.lload_n 2, 1) := by decide +kernel
theorem dX9_write_53 : decode cX9_write 53 = .ok (.bipush 8, 2) := by decide +kernel
theorem dX9_write_55 : decode cX9_write 55 = .ok (.iload 4, 2) := by decide +kernel
theorem dX9_write_57 : decode cX9_write 57 = .ok (.imul, 1) := by decide +kernel
theorem dX9_write_58 : decode cX9_write 58 = .ok (.lshr, 1) := by decide +kernel
theorem dX9_write_59 : decode cX9_write 59 = .ok (.ldc2_w 96, 3) := by decide +kernel
theorem dX9_write_62 : decode cX9_write 62 = .ok (.land, 1) := by decide +kernel
theorem dX9_write_63 : decode cX9_write 63 = .ok (.l2i, 1) := by decide +kernel
theorem dX9_write_64 : decode cX9_write 64 = .ok (.iastore, 1) := by decide +kernel
theorem dX9_write_65 : decode cX9_write 65 = .ok (.aload_n 0, 1) := by decide +kernel
theorem dX9_write_66 : decode cX9_write 66 = .ok (.dup, 1) := by decide +kernel
theorem dX9_write_67 : decode cX9_write 67 = .ok (.getfield 93, 3) := by decide +kernel
theorem dX9_write_70 : decode cX9_write 70 = .ok (.iconst 1, 1) := by decide +kernel
theorem dX9_write_71 : decode cX9_write 71 = .ok (.iadd, 1) := by decide +kernel
theorem dX9_write_72 : decode cX9_write 72 = .ok (.putfield 93, 3) := by decide +kernel
theorem dX9_write_75 : decode cX9_write 75 = .ok (.iinc 4 (-1), 3) := by decide +kernel
theorem dX9_write_78 : decode cX9_write 78 = .ok (.goto (-39), 3) := by decide +kernel
theorem dX9_write_81 : decode cX9_write 81 = .ok (.aload_n 0, 1) := by decide +kernel
theorem dX9_write_82 : decode cX9_write 82 = .ok (.getfield 93, 3) := by decide +kernel
theorem dX9_write_85 : decode cX9_write 85 = .ok (.ireturn, 1) := by decide +kernel
theorem dX9_wipe_0 : decode cX9_wipe 0 = .ok (.aload_n 0, 1) := by decide +kernel
theorem dX9_wipe_1 : decode cX9_wipe 1 = .ok (.iconst 0, 1) := by decide +kernel
theorem dX9_wipe_2 : decode cX9_wipe 2 = .ok (.putfield 69, 3) := by decide +kernel
theorem dX9_wipe_5 : decode cX9_wipe 5 = .ok (.aload_n 0, 1) := by decide +kernel
theorem dX9_wipe_6 : decode cX9_wipe 6 = .ok (.getfield 93, 3) := by decide +kernel
theorem dX9_wipe_9 : decode cX9_wipe 9 = .ok (.istore_n 1, 1) := by decide +kernel
theorem dX9_wipe_10 : decode cX9_wipe 10 = .ok (.aload_n 0, 1) := by decide +kernel
theorem dX9_wipe_11 : decode cX9_wipe 11 = .ok (.iconst 0, 1) := by decide +kernel
theorem dX9_wipe_12 : decode cX9_wipe 12 = .ok (.putfield 93, 3) := by decide +kernel
theorem dX9_wipe_15 : decode cX9_wipe 15 = .ok (.iload_n 1, 1) := by decide +kernel
theorem dX9_wipe_16 : decode cX9_wipe 16 = .ok (.ireturn, 1) := by decide +kernel
theorem dX9_peek_0 : decode cX9_peek 0 = .ok (.aload_n 0, 1) := by decide +kernel
theorem dX9_peek_1 : decode cX9_peek 1 = .ok (.getfield 98, 3) := by decide +kernel
theorem dX9_peek_4 : decode cX9_peek 4 = .ok (.aload_n 0, 1) := by decide +kernel
theorem dX9_peek_5 : decode cX9_peek 5 = .ok (.getfield 93, 3) := by decide +kernel
theorem dX9_peek_8 : decode cX9_peek 8 = .ok (.if_icmp .ge 40, 3) := by decide +kernel
theorem dX9_peek_11 : decode cX9_peek 11 = .ok (.aload_n 0, 1) := by decide +kernel
theorem dX9_peek_12 : decode cX9_peek 12 = .ok (.getfield 32, 3) := by decide +kernel
theorem dX9_peek_15 : decode cX9_peek 15 = .ok (.aload_n 0, 1) := by decide +kernel
theorem dX9_peek_16 : decode cX9_peek 16 = .ok (.getfield 98, 3) := by decide +kernel
theorem dX9_peek_19 : decode cX9_peek 19 = .ok (.iaload, 1) := by decide +kernel
theorem dX9_peek_20 : decode cX9_peek 20 = .ok (.i2l, 1) := by decide +kernel
theorem dX9_peek_21 : decode cX9_peek 21 = .ok (.ldc2_w 101, 3) := by decide +kernel
theorem dX9_peek_24 : decode cX9_peek 24 = .ok (.ldc2_w 103, 3) := by decide +kernel
theorem dX9_peek_27 : decode cX9_peek 27 = .ok (.invokestatic 76, 3) := by decide +kernel
theorem dX9_peek_30 : decode cX9_peek 30 = .ok (.ifCond .eq 18, 3) := by decide +kernel
theorem dX9_peek_33 : decode cX9_peek 33 = .ok (.aload_n 0, 1) := by decide +kernel
theorem dX9_peek_34 : decode cX9_peek 34 = .ok (.getfield 32, 3) := by decide +kernel
theorem dX9_peek_37 : decode cX9_peek 37 = .ok (.aload_n 0, 1) := by decide +kernel
theorem dX9_peek_38 : decode cX9_peek 38 = .ok (.getfield 98, 3) := by decide +kernel
theorem dX9_peek_41 : decode cX9_peek 41 = .ok (.iaload, 1) := by decide +kernel
theorem dX9_peek_42 : decode cX9_peek 42 = .ok (.bipush 48, 2) := by decide +kernel
theorem dX9_peek_44 : decode cX9_peek 44 = .ok (.isub, 1) := by decide +kernel
theorem dX9_peek_45 : decode cX9_peek 45 = .ok (.goto 5, 3) := by decide +kernel
theorem dX9_peek_48 : decode cX9_peek 48 = .ok (.bipush (-9), 2) := by decide +kernel
theorem dX9_peek_50 : decode cX9_peek 50 = .ok (.ireturn, 1) := by decide +kernel
theorem dX9_takes_0 : decode cX9_takes 0 = .ok (.aload_n 0, 1) := by decide +kernel
theorem dX9_takes_1 : decode cX9_takes 1 = .ok (.invokevirtual 105, 3) := by decide +kernel
theorem dX9_takes_4 : decode cX9_takes 4 = .ok (.i2l, 1) := by decide +kernel
theorem dX9_takes_5 : decode cX9_takes 5 = .ok (.lconst 0, 1) := by decide +kernel
theorem dX9_takes_6 : decode cX9_takes 6 = .ok (.iload_n 1, 1) := by decide +kernel
theorem dX9_takes_7 : decode cX9_takes 7 = .ok (.i2l, 1) := by decide +kernel
theorem dX9_takes_8 : decode cX9_takes 8 = .ok (.invokestatic 76, 3) := by decide +kernel
theorem dX9_takes_11 : decode cX9_takes 11 = .ok (.istore_n 2, 1) := by decide +kernel
theorem dX9_takes_12 : decode cX9_takes 12 = .ok (.aload_n 0, 1) := by decide +kernel
theorem dX9_takes_13 : decode cX9_takes 13 = .ok (.dup, 1) := by decide +kernel
theorem dX9_takes_14 : decode cX9_takes 14 = .ok (.getfield 98, 3) := by decide +kernel
theorem dX9_takes_17 : decode cX9_takes 17 = .ok (.iload_n 2, 1) := by decide +kernel
theorem dX9_takes_18 : decode cX9_takes 18 = .ok (.ifCond .eq 7, 3) := by decide +kernel
theorem dX9_takes_21 : decode cX9_takes 21 = .ok (.iconst 1, 1) := by decide +kernel
theorem dX9_takes_22 : decode cX9_takes 22 = .ok (.goto 4, 3) := by decide +kernel
theorem dX9_takes_25 : decode cX9_takes 25 = .ok (.iconst 0, 1) := by decide +kernel
theorem dX9_takes_26 : decode cX9_takes 26 = .ok (.iadd, 1) := by decide +kernel
theorem dX9_takes_27 : decode cX9_takes 27 = .ok (.putfield 98, 3) := by decide +kernel
theorem dX9_takes_30 : decode cX9_takes 30 = .ok (.iload_n 2, 1) := by decide +kernel
theorem dX9_takes_31 : decode cX9_takes 31 = .ok (.ireturn, 1) := by decide +kernel
theorem dX9_hasWay_0 : decode cX9_hasWay 0 = .ok (.iconst 0, 1) := by decide +kernel
theorem dX9_hasWay_1 : decode cX9_hasWay 1 = .ok (.istore_n 2, 1) := by decide +kernel
theorem dX9_hasWay_2 : decode cX9_hasWay 2 = .ok (.iconst 0, 1) := by decide +kernel
theorem dX9_hasWay_3 : decode cX9_hasWay 3 = .ok (.istore_n 3, 1) := by decide +kernel
theorem dX9_hasWay_4 : decode cX9_hasWay 4 = .ok (.iload_n 3, 1) := by decide +kernel
theorem dX9_hasWay_5 : decode cX9_hasWay 5 = .ok (.aload_n 0, 1) := by decide +kernel
theorem dX9_hasWay_6 : decode cX9_hasWay 6 = .ok (.getfield 109, 3) := by decide +kernel
theorem dX9_hasWay_9 : decode cX9_hasWay 9 = .ok (.if_icmp .ge 37, 3) := by decide +kernel
theorem dX9_hasWay_12 : decode cX9_hasWay 12 = .ok (.iload_n 2, 1) := by decide +kernel
theorem dX9_hasWay_13 : decode cX9_hasWay 13 = .ok (.ifCond .ne 21, 3) := by decide +kernel
theorem dX9_hasWay_16 : decode cX9_hasWay 16 = .ok (.iload_n 3, 1) := by decide +kernel
theorem dX9_hasWay_17 : decode cX9_hasWay 17 = .ok (.iload_n 1, 1) := by decide +kernel
theorem dX9_hasWay_18 : decode cX9_hasWay 18 = .ok (.if_icmp .eq 20, 3) := by decide +kernel
theorem dX9_hasWay_21 : decode cX9_hasWay 21 = .ok (.aload_n 0, 1) := by decide +kernel
theorem dX9_hasWay_22 : decode cX9_hasWay 22 = .ok (.getfield 35, 3) := by decide +kernel
theorem dX9_hasWay_25 : decode cX9_hasWay 25 = .ok (.iconst 4, 1) := by decide +kernel
theorem dX9_hasWay_26 : decode cX9_hasWay 26 = .ok (.iload_n 1, 1) := by decide +kernel
theorem dX9_hasWay_27 : decode cX9_hasWay 27 = .ok (.imul, 1) := by decide +kernel
theorem dX9_hasWay_28 : decode cX9_hasWay 28 = .ok (.iload_n 3, 1) := by decide +kernel
theorem dX9_hasWay_29 : decode cX9_hasWay 29 = .ok (.iadd, 1) := by decide +kernel
theorem dX9_hasWay_30 : decode cX9_hasWay 30 = .ok (.iaload, 1) := by decide +kernel
theorem dX9_hasWay_31 : decode cX9_hasWay 31 = .ok (.ifCond .ne 7, 3) := by decide +kernel
theorem dX9_hasWay_34 : decode cX9_hasWay 34 = .ok (.iconst 1, 1) := by decide +kernel
theorem dX9_hasWay_35 : decode cX9_hasWay 35 = .ok (.goto 4, 3) := by decide +kernel
theorem dX9_hasWay_38 : decode cX9_hasWay 38 = .ok (.iconst 0, 1) := by decide +kernel
theorem dX9_hasWay_39 : decode cX9_hasWay 39 = .ok (.istore_n 2, 1) := by decide +kernel
theorem dX9_hasWay_40 : decode cX9_hasWay 40 = .ok (.iinc 3 1, 3) := by decide +kernel
theorem dX9_hasWay_43 : decode cX9_hasWay 43 = .ok (.goto (-39), 3) := by decide +kernel
theorem dX9_hasWay_46 : decode cX9_hasWay 46 = .ok (.iload_n 2, 1) := by decide +kernel
theorem dX9_hasWay_47 : decode cX9_hasWay 47 = .ok (.ireturn, 1) := by decide +kernel
theorem dX9_hasAnyWay_0 : decode cX9_hasAnyWay 0 = .ok (.iconst 0, 1) := by decide +kernel
theorem dX9_hasAnyWay_1 : decode cX9_hasAnyWay 1 = .ok (.istore_n 1, 1) := by decide +kernel
theorem dX9_hasAnyWay_2 : decode cX9_hasAnyWay 2 = .ok (.iconst 0, 1) := by decide +kernel
theorem dX9_hasAnyWay_3 : decode cX9_hasAnyWay 3 = .ok (.istore_n 2, 1) := by decide +kernel
theorem dX9_hasAnyWay_4 : decode cX9_hasAnyWay 4 = .ok (.iload_n 2, 1) := by decide +kernel
theorem dX9_hasAnyWay_5 : decode cX9_hasAnyWay 5 = .ok (.aload_n 0, 1) := by decide +kernel
theorem dX9_hasAnyWay_6 : decode cX9_hasAnyWay 6 = .ok (.getfield 109, 3) := by decide +kernel
theorem dX9_hasAnyWay_9 : decode cX9_hasAnyWay 9 = .ok (.if_icmp .ge 27, 3) := by decide +kernel
theorem dX9_hasAnyWay_12 : decode cX9_hasAnyWay 12 = .ok (.iload_n 1, 1) := by decide +kernel
theorem dX9_hasAnyWay_13 : decode cX9_hasAnyWay 13 = .ok (.ifCond .ne 11, 3) := by decide +kernel
theorem dX9_hasAnyWay_16 : decode cX9_hasAnyWay 16 = .ok (.aload_n 0, 1) := by decide +kernel
theorem dX9_hasAnyWay_17 : decode cX9_hasAnyWay 17 = .ok (.iload_n 2, 1) := by decide +kernel
theorem dX9_hasAnyWay_18 : decode cX9_hasAnyWay 18 = .ok (.invokevirtual 112, 3) := by decide +kernel
theorem dX9_hasAnyWay_21 : decode cX9_hasAnyWay 21 = .ok (.ifCond .eq 7, 3) := by decide +kernel
theorem dX9_hasAnyWay_24 : decode cX9_hasAnyWay 24 = .ok (.iconst 1, 1) := by decide +kernel
theorem dX9_hasAnyWay_25 : decode cX9_hasAnyWay 25 = .ok (.goto 4, 3) := by decide +kernel
theorem dX9_hasAnyWay_28 : decode cX9_hasAnyWay 28 = .ok (.iconst 0, 1) := by decide +kernel
theorem dX9_hasAnyWay_29 : decode cX9_hasAnyWay 29 = .ok (.istore_n 1, 1) := by decide +kernel
theorem dX9_hasAnyWay_30 : decode cX9_hasAnyWay 30 = .ok (.iinc 2 1, 3) := by decide +kernel
theorem dX9_hasAnyWay_33 : decode cX9_hasAnyWay 33 = .ok (.goto (-29), 3) := by decide +kernel
theorem dX9_hasAnyWay_36 : decode cX9_hasAnyWay 36 = .ok (.iload_n 1, 1) := by decide +kernel
theorem dX9_hasAnyWay_37 : decode cX9_hasAnyWay 37 = .ok (.ireturn, 1) := by decide +kernel
theorem dX9_hasOther_0 : decode cX9_hasOther 0 = .ok (.aload_n 0, 1) := by decide +kernel
theorem dX9_hasOther_1 : decode cX9_hasOther 1 = .ok (.getfield 41, 3) := by decide +kernel
theorem dX9_hasOther_4 : decode cX9_hasOther 4 = .ok (.iload_n 1, 1) := by decide +kernel
theorem dX9_hasOther_5 : decode cX9_hasOther 5 = .ok (.iaload, 1) := by decide +kernel
theorem dX9_hasOther_6 : decode cX9_hasOther 6 = .ok (.iconst 1, 1) := by decide +kernel
theorem dX9_hasOther_7 : decode cX9_hasOther 7 = .ok (.iload_n 1, 1) := by decide +kernel
theorem dX9_hasOther_8 : decode cX9_hasOther 8 = .ok (.ishl, 1) := by decide +kernel
theorem dX9_hasOther_9 : decode cX9_hasOther 9 = .ok (.ior, 1) := by decide +kernel
theorem dX9_hasOther_10 : decode cX9_hasOther 10 = .ok (.iconst 1, 1) := by decide +kernel
theorem dX9_hasOther_11 : decode cX9_hasOther 11 = .ok (.aload_n 0, 1) := by decide +kernel
theorem dX9_hasOther_12 : decode cX9_hasOther 12 = .ok (.getfield 115, 3) := by decide +kernel
theorem dX9_hasOther_15 : decode cX9_hasOther 15 = .ok (.ishl, 1) := by decide +kernel
theorem dX9_hasOther_16 : decode cX9_hasOther 16 = .ok (.iconst 1, 1) := by decide +kernel
theorem dX9_hasOther_17 : decode cX9_hasOther 17 = .ok (.isub, 1) := by decide +kernel
theorem dX9_hasOther_18 : decode cX9_hasOther 18 = .ok (.if_icmp .eq 7, 3) := by decide +kernel
theorem dX9_hasOther_21 : decode cX9_hasOther 21 = .ok (.iconst 1, 1) := by decide +kernel
theorem dX9_hasOther_22 : decode cX9_hasOther 22 = .ok (.goto 4, 3) := by decide +kernel
theorem dX9_hasOther_25 : decode cX9_hasOther 25 = .ok (.iconst 0, 1) := by decide +kernel
theorem dX9_hasOther_26 : decode cX9_hasOther 26 = .ok (.ireturn, 1) := by decide +kernel
theorem dX9_hasAnyOther_0 : decode cX9_hasAnyOther 0 = .ok (.iconst 0, 1) := by decide +kernel
theorem dX9_hasAnyOther_1 : decode cX9_hasAnyOther 1 = .ok (.istore_n 1, 1) := by decide +kernel
theorem dX9_hasAnyOther_2 : decode cX9_hasAnyOther 2 = .ok (.iconst 0, 1) := by decide +kernel
theorem dX9_hasAnyOther_3 : decode cX9_hasAnyOther 3 = .ok (.istore_n 2, 1) := by decide +kernel
theorem dX9_hasAnyOther_4 : decode cX9_hasAnyOther 4 = .ok (.iload_n 2, 1) := by decide +kernel
theorem dX9_hasAnyOther_5 : decode cX9_hasAnyOther 5 = .ok (.aload_n 0, 1) := by decide +kernel
theorem dX9_hasAnyOther_6 : decode cX9_hasAnyOther 6 = .ok (.getfield 115, 3) := by decide +kernel
theorem dX9_hasAnyOther_9 : decode cX9_hasAnyOther 9 = .ok (.if_icmp .ge 27, 3) := by decide +kernel
theorem dX9_hasAnyOther_12 : decode cX9_hasAnyOther 12 = .ok (.iload_n 1, 1) := by decide +kernel
theorem dX9_hasAnyOther_13 : decode cX9_hasAnyOther 13 = .ok (.ifCond .ne 11, 3) := by decide +kernel
theorem dX9_hasAnyOther_16 : decode cX9_hasAnyOther 16 = .ok (.aload_n 0, 1) := by decide +kernel
theorem dX9_hasAnyOther_17 : decode cX9_hasAnyOther 17 = .ok (.iload_n 2, 1) := by decide +kernel
theorem dX9_hasAnyOther_18 : decode cX9_hasAnyOther 18 = .ok (.invokevirtual 118, 3) := by decide +kernel
theorem dX9_hasAnyOther_21 : decode cX9_hasAnyOther 21 = .ok (.ifCond .eq 7, 3) := by decide +kernel
theorem dX9_hasAnyOther_24 : decode cX9_hasAnyOther 24 = .ok (.iconst 1, 1) := by decide +kernel
theorem dX9_hasAnyOther_25 : decode cX9_hasAnyOther 25 = .ok (.goto 4, 3) := by decide +kernel
theorem dX9_hasAnyOther_28 : decode cX9_hasAnyOther 28 = .ok (.iconst 0, 1) := by decide +kernel
theorem dX9_hasAnyOther_29 : decode cX9_hasAnyOther 29 = .ok (.istore_n 1, 1) := by decide +kernel
theorem dX9_hasAnyOther_30 : decode cX9_hasAnyOther 30 = .ok (.iinc 2 1, 3) := by decide +kernel
theorem dX9_hasAnyOther_33 : decode cX9_hasAnyOther 33 = .ok (.goto (-29), 3) := by decide +kernel
theorem dX9_hasAnyOther_36 : decode cX9_hasAnyOther 36 = .ok (.iload_n 1, 1) := by decide +kernel
theorem dX9_hasAnyOther_37 : decode cX9_hasAnyOther 37 = .ok (.ireturn, 1) := by decide +kernel
theorem dX9_readHouse_0 : decode cX9_readHouse 0 = .ok (.aload_n 0, 1) := by decide +kernel
theorem dX9_readHouse_1 : decode cX9_readHouse 1 = .ok (.bipush 9, 2) := by decide +kernel
theorem dX9_readHouse_3 : decode cX9_readHouse 3 = .ok (.invokevirtual 121, 3) := by decide +kernel
theorem dX9_readHouse_6 : decode cX9_readHouse 6 = .ok (.ifCond .ne 5, 3) := by decide +kernel
theorem dX9_readHouse_9 : decode cX9_readHouse 9 = .ok (.iconst 0, 1) := by decide +kernel
theorem dX9_readHouse_10 : decode cX9_readHouse 10 = .ok (.ireturn, 1) := by decide +kernel
theorem dX9_readHouse_11 : decode cX9_readHouse 11 = .ok (.aload_n 0, 1) := by decide +kernel
theorem dX9_readHouse_12 : decode cX9_readHouse 12 = .ok (.getfield 32, 3) := by decide +kernel
theorem dX9_readHouse_15 : decode cX9_readHouse 15 = .ok (.aload_n 0, 1) := by decide +kernel
theorem dX9_readHouse_16 : decode cX9_readHouse 16 = .ok (.getfield 98, 3) := by decide +kernel
theorem dX9_readHouse_19 : decode cX9_readHouse 19 = .ok (.iconst 1, 1) := by decide +kernel
theorem dX9_readHouse_20 : decode cX9_readHouse 20 = .ok (.isub, 1) := by decide +kernel
theorem dX9_readHouse_21 : decode cX9_readHouse 21 = .ok (.iaload, 1) := by decide +kernel
theorem dX9_readHouse_22 : decode cX9_readHouse 22 = .ok (.bipush 48, 2) := by decide +kernel
theorem dX9_readHouse_24 : decode cX9_readHouse 24 = .ok (.isub, 1) := by decide +kernel
theorem dX9_readHouse_25 : decode cX9_readHouse 25 = .ok (.istore_n 1, 1) := by decide +kernel
theorem dX9_readHouse_26 : decode cX9_readHouse 26 = .ok (.aload_n 0, 1) := by decide +kernel
theorem dX9_readHouse_27 : decode cX9_readHouse 27 = .ok (.iconst 2, 1) := by decide +kernel
theorem dX9_readHouse_28 : decode cX9_readHouse 28 = .ok (.invokevirtual 121, 3) := by decide +kernel
theorem dX9_readHouse_31 : decode cX9_readHouse 31 = .ok (.ifCond .ne 5, 3) := by decide +kernel
theorem dX9_readHouse_34 : decode cX9_readHouse 34 = .ok (.iconst 0, 1) := by decide +kernel
theorem dX9_readHouse_35 : decode cX9_readHouse 35 = .ok (.ireturn, 1) := by decide +kernel
theorem dX9_readHouse_36 : decode cX9_readHouse 36 = .ok (.aload_n 0, 1) := by decide +kernel
theorem dX9_readHouse_37 : decode cX9_readHouse 37 = .ok (.getfield 44, 3) := by decide +kernel
theorem dX9_readHouse_40 : decode cX9_readHouse 40 = .ok (.iconst 1, 1) := by decide +kernel
theorem dX9_readHouse_41 : decode cX9_readHouse 41 = .ok (.aload_n 0, 1) := by decide +kernel
theorem dX9_readHouse_42 : decode cX9_readHouse 42 = .ok (.getfield 109, 3) := by decide +kernel
theorem dX9_readHouse_45 : decode cX9_readHouse 45 = .ok (.iadd, 1) := by decide +kernel
theorem dX9_readHouse_46 : decode cX9_readHouse 46 = .ok (.iload_n 1, 1) := by decide +kernel
theorem dX9_readHouse_47 : decode cX9_readHouse 47 = .ok (.iastore, 1) := by decide +kernel
theorem dX9_readHouse_48 : decode cX9_readHouse 48 = .ok (.aload_n 0, 1) := by decide +kernel
theorem dX9_readHouse_49 : decode cX9_readHouse 49 = .ok (.getfield 44, 3) := by decide +kernel
theorem dX9_readHouse_52 : decode cX9_readHouse 52 = .ok (.iconst 5, 1) := by decide +kernel
theorem dX9_readHouse_53 : decode cX9_readHouse 53 = .ok (.aload_n 0, 1) := by decide +kernel
theorem dX9_readHouse_54 : decode cX9_readHouse 54 = .ok (.getfield 109, 3) := by decide +kernel
theorem dX9_readHouse_57 : decode cX9_readHouse 57 = .ok (.iadd, 1) := by decide +kernel
theorem dX9_readHouse_58 : decode cX9_readHouse 58 = .ok (.aload_n 0, 1) := by decide +kernel
theorem dX9_readHouse_59 : decode cX9_readHouse 59 = .ok (.getfield 32, 3) := by decide +kernel
theorem dX9_readHouse_62 : decode cX9_readHouse 62 = .ok (.aload_n 0, 1) := by decide +kernel
theorem dX9_readHouse_63 : decode cX9_readHouse 63 = .ok (.getfield 98, 3) := by decide +kernel
theorem dX9_readHouse_66 : decode cX9_readHouse 66 = .ok (.iconst 1, 1) := by decide +kernel
theorem dX9_readHouse_67 : decode cX9_readHouse 67 = .ok (.isub, 1) := by decide +kernel
theorem dX9_readHouse_68 : decode cX9_readHouse 68 = .ok (.iaload, 1) := by decide +kernel
theorem dX9_readHouse_69 : decode cX9_readHouse 69 = .ok (.bipush 48, 2) := by decide +kernel
theorem dX9_readHouse_71 : decode cX9_readHouse 71 = .ok (.isub, 1) := by decide +kernel
theorem dX9_readHouse_72 : decode cX9_readHouse 72 = .ok (.iastore, 1) := by decide +kernel
theorem dX9_readHouse_73 : decode cX9_readHouse 73 = .ok (.aload_n 0, 1) := by decide +kernel
theorem dX9_readHouse_74 : decode cX9_readHouse 74 = .ok (.dup, 1) := by decide +kernel
theorem dX9_readHouse_75 : decode cX9_readHouse 75 = .ok (.getfield 109, 3) := by decide +kernel
theorem dX9_readHouse_78 : decode cX9_readHouse 78 = .ok (.iconst 1, 1) := by decide +kernel
theorem dX9_readHouse_79 : decode cX9_readHouse 79 = .ok (.iadd, 1) := by decide +kernel
theorem dX9_readHouse_80 : decode cX9_readHouse 80 = .ok (.putfield 109, 3) := by decide +kernel
theorem dX9_readHouse_83 : decode cX9_readHouse 83 = .ok (.iconst 1, 1) := by decide +kernel
theorem dX9_readHouse_84 : decode cX9_readHouse 84 = .ok (.ireturn, 1) := by decide +kernel
theorem dX9_readWay_0 : decode cX9_readWay 0 = .ok (.aload_n 0, 1) := by decide +kernel
theorem dX9_readWay_1 : decode cX9_readWay 1 = .ok (.invokevirtual 105, 3) := by decide +kernel
theorem dX9_readWay_4 : decode cX9_readWay 4 = .ok (.istore_n 1, 1) := by decide +kernel
theorem dX9_readWay_5 : decode cX9_readWay 5 = .ok (.iload_n 1, 1) := by decide +kernel
theorem dX9_readWay_6 : decode cX9_readWay 6 = .ok (.i2l, 1) := by decide +kernel
theorem dX9_readWay_7 : decode cX9_readWay 7 = .ok (.lconst 0, 1) := by decide +kernel
theorem dX9_readWay_8 : decode cX9_readWay 8 = .ok (.aload_n 0, 1) := by decide +kernel
theorem dX9_readWay_9 : decode cX9_readWay 9 = .ok (.getfield 109, 3) := by decide +kernel
theorem dX9_readWay_12 : decode cX9_readWay 12 = .ok (.iconst 1, 1) := by decide +kernel
theorem dX9_readWay_13 : decode cX9_readWay 13 = .ok (.isub, 1) := by decide +kernel
theorem dX9_readWay_14 : decode cX9_readWay 14 = .ok (.i2l, 1) := by decide +kernel
theorem dX9_readWay_15 : decode cX9_readWay 15 = .ok (.invokestatic 76, 3) := by decide +kernel
theorem dX9_readWay_18 : decode cX9_readWay 18 = .ok (.ifCond .eq 11, 3) := by decide +kernel
theorem dX9_readWay_21 : decode cX9_readWay 21 = .ok (.aload_n 0, 1) := by decide +kernel
theorem dX9_readWay_22 : decode cX9_readWay 22 = .ok (.iload_n 1, 1) := by decide +kernel
theorem dX9_readWay_23 : decode cX9_readWay 23 = .ok (.invokevirtual 112, 3) := by decide +kernel
theorem dX9_readWay_26 : decode cX9_readWay 26 = .ok (.ifCond .ne 5, 3) := by decide +kernel
theorem dX9_readWay_29 : decode cX9_readWay 29 = .ok (.iconst 0, 1) := by decide +kernel
theorem dX9_readWay_30 : decode cX9_readWay 30 = .ok (.ireturn, 1) := by decide +kernel
theorem dX9_readWay_31 : decode cX9_readWay 31 = .ok (.aload_n 0, 1) := by decide +kernel
theorem dX9_readWay_32 : decode cX9_readWay 32 = .ok (.dup, 1) := by decide +kernel
theorem dX9_readWay_33 : decode cX9_readWay 33 = .ok (.getfield 98, 3) := by decide +kernel
theorem dX9_readWay_36 : decode cX9_readWay 36 = .ok (.iconst 1, 1) := by decide +kernel
theorem dX9_readWay_37 : decode cX9_readWay 37 = .ok (.iadd, 1) := by decide +kernel
theorem dX9_readWay_38 : decode cX9_readWay 38 = .ok (.putfield 98, 3) := by decide +kernel
theorem dX9_readWay_41 : decode cX9_readWay 41 = .ok (.aload_n 0, 1) := by decide +kernel
theorem dX9_readWay_42 : decode cX9_readWay 42 = .ok (.invokevirtual 105, 3) := by decide +kernel
theorem dX9_readWay_45 : decode cX9_readWay 45 = .ok (.istore_n 2, 1) := by decide +kernel
theorem dX9_readWay_46 : decode cX9_readWay 46 = .ok (.iload_n 2, 1) := by decide +kernel
theorem dX9_readWay_47 : decode cX9_readWay 47 = .ok (.i2l, 1) := by decide +kernel
theorem dX9_readWay_48 : decode cX9_readWay 48 = .ok (.lconst 0, 1) := by decide +kernel
theorem dX9_readWay_49 : decode cX9_readWay 49 = .ok (.aload_n 0, 1) := by decide +kernel
theorem dX9_readWay_50 : decode cX9_readWay 50 = .ok (.getfield 109, 3) := by decide +kernel
theorem dX9_readWay_53 : decode cX9_readWay 53 = .ok (.iconst 1, 1) := by decide +kernel
theorem dX9_readWay_54 : decode cX9_readWay 54 = .ok (.isub, 1) := by decide +kernel
theorem dX9_readWay_55 : decode cX9_readWay 55 = .ok (.i2l, 1) := by decide +kernel
theorem dX9_readWay_56 : decode cX9_readWay 56 = .ok (.invokestatic 76, 3) := by decide +kernel
theorem dX9_readWay_59 : decode cX9_readWay 59 = .ok (.ifCond .eq 21, 3) := by decide +kernel
theorem dX9_readWay_62 : decode cX9_readWay 62 = .ok (.iload_n 1, 1) := by decide +kernel
theorem dX9_readWay_63 : decode cX9_readWay 63 = .ok (.iload_n 2, 1) := by decide +kernel
theorem dX9_readWay_64 : decode cX9_readWay 64 = .ok (.if_icmp .eq 16, 3) := by decide +kernel
theorem dX9_readWay_67 : decode cX9_readWay 67 = .ok (.aload_n 0, 1) := by decide +kernel
theorem dX9_readWay_68 : decode cX9_readWay 68 = .ok (.getfield 35, 3) := by decide +kernel
theorem dX9_readWay_71 : decode cX9_readWay 71 = .ok (.iconst 4, 1) := by decide +kernel
theorem dX9_readWay_72 : decode cX9_readWay 72 = .ok (.iload_n 1, 1) := by decide +kernel
theorem dX9_readWay_73 : decode cX9_readWay 73 = .ok (.imul, 1) := by decide +kernel
theorem dX9_readWay_74 : decode cX9_readWay 74 = .ok (.iload_n 2, 1) := by decide +kernel
theorem dX9_readWay_75 : decode cX9_readWay 75 = .ok (.iadd, 1) := by decide +kernel
theorem dX9_readWay_76 : decode cX9_readWay 76 = .ok (.iaload, 1) := by decide +kernel
theorem dX9_readWay_77 : decode cX9_readWay 77 = .ok (.ifCond .le 5, 3) := by decide +kernel
theorem dX9_readWay_80 : decode cX9_readWay 80 = .ok (.iconst 0, 1) := by decide +kernel
theorem dX9_readWay_81 : decode cX9_readWay 81 = .ok (.ireturn, 1) := by decide +kernel
theorem dX9_readWay_82 : decode cX9_readWay 82 = .ok (.aload_n 0, 1) := by decide +kernel
theorem dX9_readWay_83 : decode cX9_readWay 83 = .ok (.dup, 1) := by decide +kernel
theorem dX9_readWay_84 : decode cX9_readWay 84 = .ok (.getfield 98, 3) := by decide +kernel
theorem dX9_readWay_87 : decode cX9_readWay 87 = .ok (.iconst 1, 1) := by decide +kernel
theorem dX9_readWay_88 : decode cX9_readWay 88 = .ok (.iadd, 1) := by decide +kernel
theorem dX9_readWay_89 : decode cX9_readWay 89 = .ok (.putfield 98, 3) := by decide +kernel
theorem dX9_readWay_92 : decode cX9_readWay 92 = .ok (.aload_n 0, 1) := by decide +kernel
theorem dX9_readWay_93 : decode cX9_readWay 93 = .ok (.iconst 1, 1) := by decide +kernel
theorem dX9_readWay_94 : decode cX9_readWay 94 = .ok (.invokevirtual 121, 3) := by decide +kernel
theorem dX9_readWay_97 : decode cX9_readWay 97 = .ok (.ifCond .ne 5, 3) := by decide +kernel
theorem dX9_readWay_100 : decode cX9_readWay 100 = .ok (.iconst 0, 1) := by decide +kernel
theorem dX9_readWay_101 : decode cX9_readWay 101 = .ok (.ireturn, 1) := by decide +kernel
theorem dX9_readWay_102 : decode cX9_readWay 102 = .ok (.aload_n 0, 1) := by decide +kernel
theorem dX9_readWay_103 : decode cX9_readWay 103 = .ok (.getfield 35, 3) := by decide +kernel
theorem dX9_readWay_106 : decode cX9_readWay 106 = .ok (.iconst 4, 1) := by decide +kernel
theorem dX9_readWay_107 : decode cX9_readWay 107 = .ok (.iload_n 1, 1) := by decide +kernel
theorem dX9_readWay_108 : decode cX9_readWay 108 = .ok (.imul, 1) := by decide +kernel
theorem dX9_readWay_109 : decode cX9_readWay 109 = .ok (.iload_n 2, 1) := by decide +kernel
theorem dX9_readWay_110 : decode cX9_readWay 110 = .ok (.iadd, 1) := by decide +kernel
theorem dX9_readWay_111 : decode cX9_readWay 111 = .ok (.iconst 1, 1) := by decide +kernel
theorem dX9_readWay_112 : decode cX9_readWay 112 = .ok (.aload_n 0, 1) := by decide +kernel
theorem dX9_readWay_113 : decode cX9_readWay 113 = .ok (.getfield 32, 3) := by decide +kernel
theorem dX9_readWay_116 : decode cX9_readWay 116 = .ok (.aload_n 0, 1) := by decide +kernel
theorem dX9_readWay_117 : decode cX9_readWay 117 = .ok (.getfield 98, 3) := by decide +kernel
theorem dX9_readWay_120 : decode cX9_readWay 120 = .ok (.iconst 1, 1) := by decide +kernel
theorem dX9_readWay_121 : decode cX9_readWay 121 = .ok (.isub, 1) := by decide +kernel
theorem dX9_readWay_122 : decode cX9_readWay 122 = .ok (.iaload, 1) := by decide +kernel
theorem dX9_readWay_123 : decode cX9_readWay 123 = .ok (.iadd, 1) := by decide +kernel
theorem dX9_readWay_124 : decode cX9_readWay 124 = .ok (.bipush 48, 2) := by decide +kernel
theorem dX9_readWay_126 : decode cX9_readWay 126 = .ok (.isub, 1) := by decide +kernel
theorem dX9_readWay_127 : decode cX9_readWay 127 = .ok (.iastore, 1) := by decide +kernel
theorem dX9_readWay_128 : decode cX9_readWay 128 = .ok (.aload_n 0, 1) := by decide +kernel
theorem dX9_readWay_129 : decode cX9_readWay 129 = .ok (.getfield 35, 3) := by decide +kernel
theorem dX9_readWay_132 : decode cX9_readWay 132 = .ok (.iconst 4, 1) := by decide +kernel
theorem dX9_readWay_133 : decode cX9_readWay 133 = .ok (.iload_n 2, 1) := by decide +kernel
theorem dX9_readWay_134 : decode cX9_readWay 134 = .ok (.imul, 1) := by decide +kernel
theorem dX9_readWay_135 : decode cX9_readWay 135 = .ok (.iload_n 1, 1) := by decide +kernel
theorem dX9_readWay_136 : decode cX9_readWay 136 = .ok (.iadd, 1) := by decide +kernel
theorem dX9_readWay_137 : decode cX9_readWay 137 = .ok (.aload_n 0, 1) := by decide +kernel
theorem dX9_readWay_138 : decode cX9_readWay 138 = .ok (.getfield 35, 3) := by decide +kernel
theorem dX9_readWay_141 : decode cX9_readWay 141 = .ok (.iconst 4, 1) := by decide +kernel
theorem dX9_readWay_142 : decode cX9_readWay 142 = .ok (.iload_n 1, 1) := by decide +kernel
theorem dX9_readWay_143 : decode cX9_readWay 143 = .ok (.imul, 1) := by decide +kernel
theorem dX9_readWay_144 : decode cX9_readWay 144 = .ok (.iload_n 2, 1) := by decide +kernel
theorem dX9_readWay_145 : decode cX9_readWay 145 = .ok (.iadd, 1) := by decide +kernel
theorem dX9_readWay_146 : decode cX9_readWay 146 = .ok (.iaload, 1) := by decide +kernel
theorem dX9_readWay_147 : decode cX9_readWay 147 = .ok (.iastore, 1) := by decide +kernel
theorem dX9_readWay_148 : decode cX9_readWay 148 = .ok (.aload_n 0, 1) := by decide +kernel
theorem dX9_readWay_149 : decode cX9_readWay 149 = .ok (.dup, 1) := by decide +kernel
theorem dX9_readWay_150 : decode cX9_readWay 150 = .ok (.getfield 124, 3) := by decide +kernel
theorem dX9_readWay_153 : decode cX9_readWay 153 = .ok (.iconst 1, 1) := by decide +kernel
theorem dX9_readWay_154 : decode cX9_readWay 154 = .ok (.iadd, 1) := by decide +kernel
theorem dX9_readWay_155 : decode cX9_readWay 155 = .ok (.putfield 124, 3) := by decide +kernel
theorem dX9_readWay_158 : decode cX9_readWay 158 = .ok (.iconst 1, 1) := by decide +kernel
theorem dX9_readWay_159 : decode cX9_readWay 159 = .ok (.ireturn, 1) := by decide +kernel
theorem dX9_readPerson_0 : decode cX9_readPerson 0 = .ok (.aload_n 0, 1) := by decide +kernel
theorem dX9_readPerson_1 : decode cX9_readPerson 1 = .ok (.aload_n 0, 1) := by decide +kernel
theorem dX9_readPerson_2 : decode cX9_readPerson 2 = .ok (.getfield 109, 3) := by decide +kernel
theorem dX9_readPerson_5 : decode cX9_readPerson 5 = .ok (.iconst 1, 1) := by decide +kernel
theorem dX9_readPerson_6 : decode cX9_readPerson 6 = .ok (.isub, 1) := by decide +kernel
theorem dX9_readPerson_7 : decode cX9_readPerson 7 = .ok (.invokevirtual 121, 3) := by decide +kernel
theorem dX9_readPerson_10 : decode cX9_readPerson 10 = .ok (.ifCond .ne 5, 3) := by decide +kernel
theorem dX9_readPerson_13 : decode cX9_readPerson 13 = .ok (.iconst 0, 1) := by decide +kernel
theorem dX9_readPerson_14 : decode cX9_readPerson 14 = .ok (.ireturn, 1) := by decide +kernel
theorem dX9_readPerson_15 : decode cX9_readPerson 15 = .ok (.aload_n 0, 1) := by decide +kernel
theorem dX9_readPerson_16 : decode cX9_readPerson 16 = .ok (.getfield 32, 3) := by decide +kernel
theorem dX9_readPerson_19 : decode cX9_readPerson 19 = .ok (.aload_n 0, 1) := by decide +kernel
theorem dX9_readPerson_20 : decode cX9_readPerson 20 = .ok (.getfield 98, 3) := by decide +kernel
theorem dX9_readPerson_23 : decode cX9_readPerson 23 = .ok (.iconst 1, 1) := by decide +kernel
theorem dX9_readPerson_24 : decode cX9_readPerson 24 = .ok (.isub, 1) := by decide +kernel
theorem dX9_readPerson_25 : decode cX9_readPerson 25 = .ok (.iaload, 1) := by decide +kernel
theorem dX9_readPerson_26 : decode cX9_readPerson 26 = .ok (.bipush 48, 2) := by decide +kernel
theorem dX9_readPerson_28 : decode cX9_readPerson 28 = .ok (.isub, 1) := by decide +kernel
theorem dX9_readPerson_29 : decode cX9_readPerson 29 = .ok (.istore_n 1, 1) := by decide +kernel
theorem dX9_readPerson_30 : decode cX9_readPerson 30 = .ok (.aload_n 0, 1) := by decide +kernel
theorem dX9_readPerson_31 : decode cX9_readPerson 31 = .ok (.iconst 1, 1) := by decide +kernel
theorem dX9_readPerson_32 : decode cX9_readPerson 32 = .ok (.invokevirtual 121, 3) := by decide +kernel
theorem dX9_readPerson_35 : decode cX9_readPerson 35 = .ok (.ifCond .ne 5, 3) := by decide +kernel
theorem dX9_readPerson_38 : decode cX9_readPerson 38 = .ok (.iconst 0, 1) := by decide +kernel
theorem dX9_readPerson_39 : decode cX9_readPerson 39 = .ok (.ireturn, 1) := by decide +kernel
theorem dX9_readPerson_40 : decode cX9_readPerson 40 = .ok (.aload_n 0, 1) := by decide +kernel
theorem dX9_readPerson_41 : decode cX9_readPerson 41 = .ok (.getfield 38, 3) := by decide +kernel
theorem dX9_readPerson_44 : decode cX9_readPerson 44 = .ok (.aload_n 0, 1) := by decide +kernel
theorem dX9_readPerson_45 : decode cX9_readPerson 45 = .ok (.getfield 115, 3) := by decide +kernel
theorem dX9_readPerson_48 : decode cX9_readPerson 48 = .ok (.iload_n 1, 1) := by decide +kernel
theorem dX9_readPerson_49 : decode cX9_readPerson 49 = .ok (.iastore, 1) := by decide +kernel
theorem dX9_readPerson_50 : decode cX9_readPerson 50 = .ok (.aload_n 0, 1) := by decide +kernel
theorem dX9_readPerson_51 : decode cX9_readPerson 51 = .ok (.getfield 44, 3) := by decide +kernel
theorem dX9_readPerson_54 : decode cX9_readPerson 54 = .ok (.bipush 13, 2) := by decide +kernel
theorem dX9_readPerson_56 : decode cX9_readPerson 56 = .ok (.iconst 5, 1) := by decide +kernel
theorem dX9_readPerson_57 : decode cX9_readPerson 57 = .ok (.aload_n 0, 1) := by decide +kernel
theorem dX9_readPerson_58 : decode cX9_readPerson 58 = .ok (.getfield 115, 3) := by decide +kernel
theorem dX9_readPerson_61 : decode cX9_readPerson 61 = .ok (.imul, 1) := by decide +kernel
theorem dX9_readPerson_62 : decode cX9_readPerson 62 = .ok (.iadd, 1) := by decide +kernel
theorem dX9_readPerson_63 : decode cX9_readPerson 63 = .ok (.iconst 0, 1) := by decide +kernel
theorem dX9_readPerson_64 : decode cX9_readPerson 64 = .ok (.iadd, 1) := by decide +kernel
theorem dX9_readPerson_65 : decode cX9_readPerson 65 = .ok (.aload_n 0, 1) := by decide +kernel
theorem dX9_readPerson_66 : decode cX9_readPerson 66 = .ok (.getfield 32, 3) := by decide +kernel
theorem dX9_readPerson_69 : decode cX9_readPerson 69 = .ok (.aload_n 0, 1) := by decide +kernel
theorem dX9_readPerson_70 : decode cX9_readPerson 70 = .ok (.getfield 98, 3) := by decide +kernel
theorem dX9_readPerson_73 : decode cX9_readPerson 73 = .ok (.iconst 1, 1) := by decide +kernel
theorem dX9_readPerson_74 : decode cX9_readPerson 74 = .ok (.isub, 1) := by decide +kernel
theorem dX9_readPerson_75 : decode cX9_readPerson 75 = .ok (.iaload, 1) := by decide +kernel
theorem dX9_readPerson_76 : decode cX9_readPerson 76 = .ok (.bipush 48, 2) := by decide +kernel
theorem dX9_readPerson_78 : decode cX9_readPerson 78 = .ok (.isub, 1) := by decide +kernel
theorem dX9_readPerson_79 : decode cX9_readPerson 79 = .ok (.iastore, 1) := by decide +kernel
theorem dX9_readPerson_80 : decode cX9_readPerson 80 = .ok (.aload_n 0, 1) := by decide +kernel
theorem dX9_readPerson_81 : decode cX9_readPerson 81 = .ok (.getfield 44, 3) := by decide +kernel
theorem dX9_readPerson_84 : decode cX9_readPerson 84 = .ok (.bipush 13, 2) := by decide +kernel
theorem dX9_readPerson_86 : decode cX9_readPerson 86 = .ok (.iconst 5, 1) := by decide +kernel
theorem dX9_readPerson_87 : decode cX9_readPerson 87 = .ok (.aload_n 0, 1) := by decide +kernel
theorem dX9_readPerson_88 : decode cX9_readPerson 88 = .ok (.getfield 115, 3) := by decide +kernel
theorem dX9_readPerson_91 : decode cX9_readPerson 91 = .ok (.imul, 1) := by decide +kernel
theorem dX9_readPerson_92 : decode cX9_readPerson 92 = .ok (.iadd, 1) := by decide +kernel
theorem dX9_readPerson_93 : decode cX9_readPerson 93 = .ok (.iconst 4, 1) := by decide +kernel
theorem dX9_readPerson_94 : decode cX9_readPerson 94 = .ok (.iadd, 1) := by decide +kernel
theorem dX9_readPerson_95 : decode cX9_readPerson 95 = .ok (.bipush (-9), 2) := by decide +kernel
theorem dX9_readPerson_97 : decode cX9_readPerson 97 = .ok (.iastore, 1) := by decide +kernel
theorem dX9_readPerson_98 : decode cX9_readPerson 98 = .ok (.aload_n 0, 1) := by decide +kernel
theorem dX9_readPerson_99 : decode cX9_readPerson 99 = .ok (.dup, 1) := by decide +kernel
theorem dX9_readPerson_100 : decode cX9_readPerson 100 = .ok (.getfield 115, 3) := by decide +kernel
theorem dX9_readPerson_103 : decode cX9_readPerson 103 = .ok (.iconst 1, 1) := by decide +kernel
theorem dX9_readPerson_104 : decode cX9_readPerson 104 = .ok (.iadd, 1) := by decide +kernel
theorem dX9_readPerson_105 : decode cX9_readPerson 105 = .ok (.putfield 115, 3) := by decide +kernel
theorem dX9_readPerson_108 : decode cX9_readPerson 108 = .ok (.iconst 1, 1) := by decide +kernel
theorem dX9_readPerson_109 : decode cX9_readPerson 109 = .ok (.ireturn, 1) := by decide +kernel
theorem dX9_readTwo_0 : decode cX9_readTwo 0 = .ok (.aload_n 0, 1) := by decide +kernel
theorem dX9_readTwo_1 : decode cX9_readTwo 1 = .ok (.invokevirtual 105, 3) := by decide +kernel
theorem dX9_readTwo_4 : decode cX9_readTwo 4 = .ok (.istore_n 1, 1) := by decide +kernel
theorem dX9_readTwo_5 : decode cX9_readTwo 5 = .ok (.iload_n 1, 1) := by decide +kernel
theorem dX9_readTwo_6 : decode cX9_readTwo 6 = .ok (.i2l, 1) := by decide +kernel
theorem dX9_readTwo_7 : decode cX9_readTwo 7 = .ok (.lconst 0, 1) := by decide +kernel
theorem dX9_readTwo_8 : decode cX9_readTwo 8 = .ok (.aload_n 0, 1) := by decide +kernel
theorem dX9_readTwo_9 : decode cX9_readTwo 9 = .ok (.getfield 115, 3) := by decide +kernel
theorem dX9_readTwo_12 : decode cX9_readTwo 12 = .ok (.iconst 1, 1) := by decide +kernel
theorem dX9_readTwo_13 : decode cX9_readTwo 13 = .ok (.isub, 1) := by decide +kernel
theorem dX9_readTwo_14 : decode cX9_readTwo 14 = .ok (.i2l, 1) := by decide +kernel
theorem dX9_readTwo_15 : decode cX9_readTwo 15 = .ok (.invokestatic 76, 3) := by decide +kernel
theorem dX9_readTwo_18 : decode cX9_readTwo 18 = .ok (.ifCond .eq 11, 3) := by decide +kernel
theorem dX9_readTwo_21 : decode cX9_readTwo 21 = .ok (.aload_n 0, 1) := by decide +kernel
theorem dX9_readTwo_22 : decode cX9_readTwo 22 = .ok (.iload_n 1, 1) := by decide +kernel
theorem dX9_readTwo_23 : decode cX9_readTwo 23 = .ok (.invokevirtual 118, 3) := by decide +kernel
theorem dX9_readTwo_26 : decode cX9_readTwo 26 = .ok (.ifCond .ne 5, 3) := by decide +kernel
theorem dX9_readTwo_29 : decode cX9_readTwo 29 = .ok (.iconst 0, 1) := by decide +kernel
theorem dX9_readTwo_30 : decode cX9_readTwo 30 = .ok (.ireturn, 1) := by decide +kernel
theorem dX9_readTwo_31 : decode cX9_readTwo 31 = .ok (.aload_n 0, 1) := by decide +kernel
theorem dX9_readTwo_32 : decode cX9_readTwo 32 = .ok (.dup, 1) := by decide +kernel
theorem dX9_readTwo_33 : decode cX9_readTwo 33 = .ok (.getfield 98, 3) := by decide +kernel
theorem dX9_readTwo_36 : decode cX9_readTwo 36 = .ok (.iconst 1, 1) := by decide +kernel
theorem dX9_readTwo_37 : decode cX9_readTwo 37 = .ok (.iadd, 1) := by decide +kernel
theorem dX9_readTwo_38 : decode cX9_readTwo 38 = .ok (.putfield 98, 3) := by decide +kernel
theorem dX9_readTwo_41 : decode cX9_readTwo 41 = .ok (.aload_n 0, 1) := by decide +kernel
theorem dX9_readTwo_42 : decode cX9_readTwo 42 = .ok (.invokevirtual 105, 3) := by decide +kernel
theorem dX9_readTwo_45 : decode cX9_readTwo 45 = .ok (.istore_n 2, 1) := by decide +kernel
theorem dX9_readTwo_46 : decode cX9_readTwo 46 = .ok (.iload_n 2, 1) := by decide +kernel
theorem dX9_readTwo_47 : decode cX9_readTwo 47 = .ok (.i2l, 1) := by decide +kernel
theorem dX9_readTwo_48 : decode cX9_readTwo 48 = .ok (.lconst 0, 1) := by decide +kernel
theorem dX9_readTwo_49 : decode cX9_readTwo 49 = .ok (.aload_n 0, 1) := by decide +kernel
theorem dX9_readTwo_50 : decode cX9_readTwo 50 = .ok (.getfield 115, 3) := by decide +kernel
theorem dX9_readTwo_53 : decode cX9_readTwo 53 = .ok (.iconst 1, 1) := by decide +kernel
theorem dX9_readTwo_54 : decode cX9_readTwo 54 = .ok (.isub, 1) := by decide +kernel
theorem dX9_readTwo_55 : decode cX9_readTwo 55 = .ok (.i2l, 1) := by decide +kernel
theorem dX9_readTwo_56 : decode cX9_readTwo 56 = .ok (.invokestatic 76, 3) := by decide +kernel
theorem dX9_readTwo_59 : decode cX9_readTwo 59 = .ok (.ifCond .eq 21, 3) := by decide +kernel
theorem dX9_readTwo_62 : decode cX9_readTwo 62 = .ok (.iload_n 1, 1) := by decide +kernel
theorem dX9_readTwo_63 : decode cX9_readTwo 63 = .ok (.iload_n 2, 1) := by decide +kernel
theorem dX9_readTwo_64 : decode cX9_readTwo 64 = .ok (.if_icmp .eq 16, 3) := by decide +kernel
theorem dX9_readTwo_67 : decode cX9_readTwo 67 = .ok (.aload_n 0, 1) := by decide +kernel
theorem dX9_readTwo_68 : decode cX9_readTwo 68 = .ok (.getfield 41, 3) := by decide +kernel
theorem dX9_readTwo_71 : decode cX9_readTwo 71 = .ok (.iload_n 1, 1) := by decide +kernel
theorem dX9_readTwo_72 : decode cX9_readTwo 72 = .ok (.iaload, 1) := by decide +kernel
theorem dX9_readTwo_73 : decode cX9_readTwo 73 = .ok (.iload_n 2, 1) := by decide +kernel
theorem dX9_readTwo_74 : decode cX9_readTwo 74 = .ok (.invokestatic 127, 3) := by decide +kernel
theorem dX9_readTwo_77 : decode cX9_readTwo 77 = .ok (.ifCond .eq 5, 3) := by decide +kernel
theorem dX9_readTwo_80 : decode cX9_readTwo 80 = .ok (.iconst 0, 1) := by decide +kernel
theorem dX9_readTwo_81 : decode cX9_readTwo 81 = .ok (.ireturn, 1) := by decide +kernel
theorem dX9_readTwo_82 : decode cX9_readTwo 82 = .ok (.aload_n 0, 1) := by decide +kernel
theorem dX9_readTwo_83 : decode cX9_readTwo 83 = .ok (.dup, 1) := by decide +kernel
theorem dX9_readTwo_84 : decode cX9_readTwo 84 = .ok (.getfield 98, 3) := by decide +kernel
theorem dX9_readTwo_87 : decode cX9_readTwo 87 = .ok (.iconst 1, 1) := by decide +kernel
theorem dX9_readTwo_88 : decode cX9_readTwo 88 = .ok (.iadd, 1) := by decide +kernel
theorem dX9_readTwo_89 : decode cX9_readTwo 89 = .ok (.putfield 98, 3) := by decide +kernel
theorem dX9_readTwo_92 : decode cX9_readTwo 92 = .ok (.aload_n 0, 1) := by decide +kernel
theorem dX9_readTwo_93 : decode cX9_readTwo 93 = .ok (.getfield 41, 3) := by decide +kernel
theorem dX9_readTwo_96 : decode cX9_readTwo 96 = .ok (.iload_n 1, 1) := by decide +kernel
theorem dX9_readTwo_97 : decode cX9_readTwo 97 = .ok (.dup2, 1) := by decide +kernel
theorem dX9_readTwo_98 : decode cX9_readTwo 98 = .ok (.iaload, 1) := by decide +kernel
theorem dX9_readTwo_99 : decode cX9_readTwo 99 = .ok (.iconst 1, 1) := by decide +kernel
theorem dX9_readTwo_100 : decode cX9_readTwo 100 = .ok (.iload_n 2, 1) := by decide +kernel
theorem dX9_readTwo_101 : decode cX9_readTwo 101 = .ok (.ishl, 1) := by decide +kernel
theorem dX9_readTwo_102 : decode cX9_readTwo 102 = .ok (.ior, 1) := by decide +kernel
theorem dX9_readTwo_103 : decode cX9_readTwo 103 = .ok (.iastore, 1) := by decide +kernel
theorem dX9_readTwo_104 : decode cX9_readTwo 104 = .ok (.aload_n 0, 1) := by decide +kernel
theorem dX9_readTwo_105 : decode cX9_readTwo 105 = .ok (.getfield 41, 3) := by decide +kernel
theorem dX9_readTwo_108 : decode cX9_readTwo 108 = .ok (.iload_n 2, 1) := by decide +kernel
theorem dX9_readTwo_109 : decode cX9_readTwo 109 = .ok (.dup2, 1) := by decide +kernel
theorem dX9_readTwo_110 : decode cX9_readTwo 110 = .ok (.iaload, 1) := by decide +kernel
theorem dX9_readTwo_111 : decode cX9_readTwo 111 = .ok (.iconst 1, 1) := by decide +kernel
theorem dX9_readTwo_112 : decode cX9_readTwo 112 = .ok (.iload_n 1, 1) := by decide +kernel
theorem dX9_readTwo_113 : decode cX9_readTwo 113 = .ok (.ishl, 1) := by decide +kernel
theorem dX9_readTwo_114 : decode cX9_readTwo 114 = .ok (.ior, 1) := by decide +kernel
theorem dX9_readTwo_115 : decode cX9_readTwo 115 = .ok (.iastore, 1) := by decide +kernel
theorem dX9_readTwo_116 : decode cX9_readTwo 116 = .ok (.iconst 1, 1) := by decide +kernel
theorem dX9_readTwo_117 : decode cX9_readTwo 117 = .ok (.ireturn, 1) := by decide +kernel
theorem dX9_readPart_0 : decode cX9_readPart 0 = .ok (.aload_n 0, 1) := by decide +kernel
theorem dX9_readPart_1 : decode cX9_readPart 1 = .ok (.getfield 32, 3) := by decide +kernel
theorem dX9_readPart_4 : decode cX9_readPart 4 = .ok (.aload_n 0, 1) := by decide +kernel
theorem dX9_readPart_5 : decode cX9_readPart 5 = .ok (.getfield 98, 3) := by decide +kernel
theorem dX9_readPart_8 : decode cX9_readPart 8 = .ok (.iaload, 1) := by decide +kernel
theorem dX9_readPart_9 : decode cX9_readPart 9 = .ok (.istore_n 1, 1) := by decide +kernel
theorem dX9_readPart_10 : decode cX9_readPart 10 = .ok (.iload_n 1, 1) := by decide +kernel
theorem dX9_readPart_11 : decode cX9_readPart 11 = .ok (.bipush 72, 2) := by decide +kernel
theorem dX9_readPart_13 : decode cX9_readPart 13 = .ok (.if_icmp .ne 11, 3) := by decide +kernel
theorem dX9_readPart_16 : decode cX9_readPart 16 = .ok (.aload_n 0, 1) := by decide +kernel
theorem dX9_readPart_17 : decode cX9_readPart 17 = .ok (.getfield 109, 3) := by decide +kernel
theorem dX9_readPart_20 : decode cX9_readPart 20 = .ok (.iconst 4, 1) := by decide +kernel
theorem dX9_readPart_21 : decode cX9_readPart 21 = .ok (.if_icmp .lt 51, 3) := by decide +kernel
theorem dX9_readPart_24 : decode cX9_readPart 24 = .ok (.iload_n 1, 1) := by decide +kernel
theorem dX9_readPart_25 : decode cX9_readPart 25 = .ok (.bipush 82, 2) := by decide +kernel
theorem dX9_readPart_27 : decode cX9_readPart 27 = .ok (.if_icmp .ne 10, 3) := by decide +kernel
theorem dX9_readPart_30 : decode cX9_readPart 30 = .ok (.aload_n 0, 1) := by decide +kernel
theorem dX9_readPart_31 : decode cX9_readPart 31 = .ok (.invokevirtual 131, 3) := by decide +kernel
theorem dX9_readPart_34 : decode cX9_readPart 34 = .ok (.ifCond .ne 38, 3) := by decide +kernel
theorem dX9_readPart_37 : decode cX9_readPart 37 = .ok (.iload_n 1, 1) := by decide +kernel
theorem dX9_readPart_38 : decode cX9_readPart 38 = .ok (.bipush 80, 2) := by decide +kernel
theorem dX9_readPart_40 : decode cX9_readPart 40 = .ok (.if_icmp .ne 19, 3) := by decide +kernel
theorem dX9_readPart_43 : decode cX9_readPart 43 = .ok (.aload_n 0, 1) := by decide +kernel
theorem dX9_readPart_44 : decode cX9_readPart 44 = .ok (.getfield 109, 3) := by decide +kernel
theorem dX9_readPart_47 : decode cX9_readPart 47 = .ok (.ifCond .le 12, 3) := by decide +kernel
theorem dX9_readPart_50 : decode cX9_readPart 50 = .ok (.aload_n 0, 1) := by decide +kernel
theorem dX9_readPart_51 : decode cX9_readPart 51 = .ok (.getfield 115, 3) := by decide +kernel
theorem dX9_readPart_54 : decode cX9_readPart 54 = .ok (.bipush 6, 2) := by decide +kernel
theorem dX9_readPart_56 : decode cX9_readPart 56 = .ok (.if_icmp .lt 16, 3) := by decide +kernel
theorem dX9_readPart_59 : decode cX9_readPart 59 = .ok (.iload_n 1, 1) := by decide +kernel
theorem dX9_readPart_60 : decode cX9_readPart 60 = .ok (.bipush 75, 2) := by decide +kernel
theorem dX9_readPart_62 : decode cX9_readPart 62 = .ok (.if_icmp .ne 14, 3) := by decide +kernel
theorem dX9_readPart_65 : decode cX9_readPart 65 = .ok (.aload_n 0, 1) := by decide +kernel
theorem dX9_readPart_66 : decode cX9_readPart 66 = .ok (.invokevirtual 135, 3) := by decide +kernel
theorem dX9_readPart_69 : decode cX9_readPart 69 = .ok (.ifCond .eq 7, 3) := by decide +kernel
theorem dX9_readPart_72 : decode cX9_readPart 72 = .ok (.iconst 1, 1) := by decide +kernel
theorem dX9_readPart_73 : decode cX9_readPart 73 = .ok (.goto 4, 3) := by decide +kernel
theorem dX9_readPart_76 : decode cX9_readPart 76 = .ok (.iconst 0, 1) := by decide +kernel
theorem dX9_readPart_77 : decode cX9_readPart 77 = .ok (.istore_n 2, 1) := by decide +kernel
theorem dX9_readPart_78 : decode cX9_readPart 78 = .ok (.iload_n 2, 1) := by decide +kernel
theorem dX9_readPart_79 : decode cX9_readPart 79 = .ok (.ifCond .ne 5, 3) := by decide +kernel
theorem dX9_readPart_82 : decode cX9_readPart 82 = .ok (.iconst 0, 1) := by decide +kernel
theorem dX9_readPart_83 : decode cX9_readPart 83 = .ok (.ireturn, 1) := by decide +kernel
theorem dX9_readPart_84 : decode cX9_readPart 84 = .ok (.aload_n 0, 1) := by decide +kernel
theorem dX9_readPart_85 : decode cX9_readPart 85 = .ok (.dup, 1) := by decide +kernel
theorem dX9_readPart_86 : decode cX9_readPart 86 = .ok (.getfield 98, 3) := by decide +kernel
theorem dX9_readPart_89 : decode cX9_readPart 89 = .ok (.iconst 1, 1) := by decide +kernel
theorem dX9_readPart_90 : decode cX9_readPart 90 = .ok (.iadd, 1) := by decide +kernel
theorem dX9_readPart_91 : decode cX9_readPart 91 = .ok (.putfield 98, 3) := by decide +kernel
theorem dX9_readPart_94 : decode cX9_readPart 94 = .ok (.iload_n 1, 1) := by decide +kernel
theorem dX9_readPart_95 : decode cX9_readPart 95 = .ok (.lookupswitch 48 #[(72, 33), (80, 43), (82, 38)], 33) := by decide +kernel
theorem dX9_readPart_128 : decode cX9_readPart 128 = .ok (.aload_n 0, 1) := by decide +kernel
theorem dX9_readPart_129 : decode cX9_readPart 129 = .ok (.invokevirtual 138, 3) := by decide +kernel
theorem dX9_readPart_132 : decode cX9_readPart 132 = .ok (.ireturn, 1) := by decide +kernel
theorem dX9_readPart_133 : decode cX9_readPart 133 = .ok (.aload_n 0, 1) := by decide +kernel
theorem dX9_readPart_134 : decode cX9_readPart 134 = .ok (.invokevirtual 141, 3) := by decide +kernel
theorem dX9_readPart_137 : decode cX9_readPart 137 = .ok (.ireturn, 1) := by decide +kernel
theorem dX9_readPart_138 : decode cX9_readPart 138 = .ok (.aload_n 0, 1) := by decide +kernel
theorem dX9_readPart_139 : decode cX9_readPart 139 = .ok (.invokevirtual 144, 3) := by decide +kernel
theorem dX9_readPart_142 : decode cX9_readPart 142 = .ok (.ireturn, 1) := by decide +kernel
theorem dX9_readPart_143 : decode cX9_readPart 143 = .ok (.aload_n 0, 1) := by decide +kernel
theorem dX9_readPart_144 : decode cX9_readPart 144 = .ok (.invokevirtual 147, 3) := by decide +kernel
theorem dX9_readPart_147 : decode cX9_readPart 147 = .ok (.ireturn, 1) := by decide +kernel
theorem dX9_readAll_0 : decode cX9_readAll 0 = .ok (.aload_n 0, 1) := by decide +kernel
theorem dX9_readAll_1 : decode cX9_readAll 1 = .ok (.iconst 0, 1) := by decide +kernel
theorem dX9_readAll_2 : decode cX9_readAll 2 = .ok (.putfield 109, 3) := by decide +kernel
theorem dX9_readAll_5 : decode cX9_readAll 5 = .ok (.aload_n 0, 1) := by decide +kernel
theorem dX9_readAll_6 : decode cX9_readAll 6 = .ok (.iconst 0, 1) := by decide +kernel
theorem dX9_readAll_7 : decode cX9_readAll 7 = .ok (.putfield 115, 3) := by decide +kernel
theorem dX9_readAll_10 : decode cX9_readAll 10 = .ok (.aload_n 0, 1) := by decide +kernel
theorem dX9_readAll_11 : decode cX9_readAll 11 = .ok (.iconst 0, 1) := by decide +kernel
theorem dX9_readAll_12 : decode cX9_readAll 12 = .ok (.putfield 124, 3) := by decide +kernel
theorem dX9_readAll_15 : decode cX9_readAll 15 = .ok (.iconst 0, 1) := by decide +kernel
theorem dX9_readAll_16 : decode cX9_readAll 16 = .ok (.istore_n 1, 1) := by decide +kernel
theorem dX9_readAll_17 : decode cX9_readAll 17 = .ok (.iload_n 1, 1) := by decide +kernel
theorem dX9_readAll_18 : decode cX9_readAll 18 = .ok (.bipush 43, 2) := by decide +kernel
theorem dX9_readAll_20 : decode cX9_readAll 20 = .ok (.if_icmp .ge 46, 3) := by decide +kernel
theorem dX9_readAll_23 : decode cX9_readAll 23 = .ok (.aload_n 0, 1) := by decide +kernel
theorem dX9_readAll_24 : decode cX9_readAll 24 = .ok (.getfield 44, 3) := by decide +kernel
theorem dX9_readAll_27 : decode cX9_readAll 27 = .ok (.iload_n 1, 1) := by decide +kernel
theorem dX9_readAll_28 : decode cX9_readAll 28 = .ok (.iconst 0, 1) := by decide +kernel
theorem dX9_readAll_29 : decode cX9_readAll 29 = .ok (.iastore, 1) := by decide +kernel
theorem dX9_readAll_30 : decode cX9_readAll 30 = .ok (.aload_n 0, 1) := by decide +kernel
theorem dX9_readAll_31 : decode cX9_readAll 31 = .ok (.getfield 35, 3) := by decide +kernel
theorem dX9_readAll_34 : decode cX9_readAll 34 = .ok (.iload_n 1, 1) := by decide +kernel
theorem dX9_readAll_35 : decode cX9_readAll 35 = .ok (.bipush 16, 2) := by decide +kernel
theorem dX9_readAll_37 : decode cX9_readAll 37 = .ok (.irem, 1) := by decide +kernel
theorem dX9_readAll_38 : decode cX9_readAll 38 = .ok (.iconst 0, 1) := by decide +kernel
theorem dX9_readAll_39 : decode cX9_readAll 39 = .ok (.iastore, 1) := by decide +kernel
theorem dX9_readAll_40 : decode cX9_readAll 40 = .ok (.aload_n 0, 1) := by decide +kernel
theorem dX9_readAll_41 : decode cX9_readAll 41 = .ok (.getfield 38, 3) := by decide +kernel
theorem dX9_readAll_44 : decode cX9_readAll 44 = .ok (.iload_n 1, 1) := by decide +kernel
theorem dX9_readAll_45 : decode cX9_readAll 45 = .ok (.bipush 6, 2) := by decide +kernel
theorem dX9_readAll_47 : decode cX9_readAll 47 = .ok (.irem, 1) := by decide +kernel
theorem dX9_readAll_48 : decode cX9_readAll 48 = .ok (.iconst 0, 1) := by decide +kernel
theorem dX9_readAll_49 : decode cX9_readAll 49 = .ok (.iastore, 1) := by decide +kernel
theorem dX9_readAll_50 : decode cX9_readAll 50 = .ok (.aload_n 0, 1) := by decide +kernel
theorem dX9_readAll_51 : decode cX9_readAll 51 = .ok (.getfield 41, 3) := by decide +kernel
theorem dX9_readAll_54 : decode cX9_readAll 54 = .ok (.iload_n 1, 1) := by decide +kernel
theorem dX9_readAll_55 : decode cX9_readAll 55 = .ok (.bipush 6, 2) := by decide +kernel
theorem dX9_readAll_57 : decode cX9_readAll 57 = .ok (.irem, 1) := by decide +kernel
theorem dX9_readAll_58 : decode cX9_readAll 58 = .ok (.iconst 0, 1) := by decide +kernel
theorem dX9_readAll_59 : decode cX9_readAll 59 = .ok (.iastore, 1) := by decide +kernel
theorem dX9_readAll_60 : decode cX9_readAll 60 = .ok (.iinc 1 1, 3) := by decide +kernel
theorem dX9_readAll_63 : decode cX9_readAll 63 = .ok (.goto (-46), 3) := by decide +kernel
theorem dX9_readAll_66 : decode cX9_readAll 66 = .ok (.aload_n 0, 1) := by decide +kernel
theorem dX9_readAll_67 : decode cX9_readAll 67 = .ok (.iconst 0, 1) := by decide +kernel
theorem dX9_readAll_68 : decode cX9_readAll 68 = .ok (.putfield 98, 3) := by decide +kernel
theorem dX9_readAll_71 : decode cX9_readAll 71 = .ok (.aload_n 0, 1) := by decide +kernel
theorem dX9_readAll_72 : decode cX9_readAll 72 = .ok (.getfield 93, 3) := by decide +kernel
theorem dX9_readAll_75 : decode cX9_readAll 75 = .ok (.ifCond .eq 14, 3) := by decide +kernel
theorem dX9_readAll_78 : decode cX9_readAll 78 = .ok (.aload_n 0, 1) := by decide +kernel
theorem dX9_readAll_79 : decode cX9_readAll 79 = .ok (.getfield 32, 3) := by decide +kernel
theorem dX9_readAll_82 : decode cX9_readAll 82 = .ok (.iconst 0, 1) := by decide +kernel
theorem dX9_readAll_83 : decode cX9_readAll 83 = .ok (.iaload, 1) := by decide +kernel
theorem dX9_readAll_84 : decode cX9_readAll 84 = .ok (.bipush 86, 2) := by decide +kernel
theorem dX9_readAll_86 : decode cX9_readAll 86 = .ok (.if_icmp .eq 5, 3) := by decide +kernel
theorem dX9_readAll_89 : decode cX9_readAll 89 = .ok (.iconst 0, 1) := by decide +kernel
theorem dX9_readAll_90 : decode cX9_readAll 90 = .ok (.ireturn, 1) := by decide +kernel
theorem dX9_readAll_91 : decode cX9_readAll 91 = .ok (.aload_n 0, 1) := by decide +kernel
theorem dX9_readAll_92 : decode cX9_readAll 92 = .ok (.iconst 1, 1) := by decide +kernel
theorem dX9_readAll_93 : decode cX9_readAll 93 = .ok (.putfield 98, 3) := by decide +kernel
theorem dX9_readAll_96 : decode cX9_readAll 96 = .ok (.aload_n 0, 1) := by decide +kernel
theorem dX9_readAll_97 : decode cX9_readAll 97 = .ok (.getfield 98, 3) := by decide +kernel
theorem dX9_readAll_100 : decode cX9_readAll 100 = .ok (.aload_n 0, 1) := by decide +kernel
theorem dX9_readAll_101 : decode cX9_readAll 101 = .ok (.getfield 93, 3) := by decide +kernel
theorem dX9_readAll_104 : decode cX9_readAll 104 = .ok (.if_icmp .ge 15, 3) := by decide +kernel
theorem dX9_readAll_107 : decode cX9_readAll 107 = .ok (.aload_n 0, 1) := by decide +kernel
theorem dX9_readAll_108 : decode cX9_readAll 108 = .ok (.invokevirtual 150, 3) := by decide +kernel
theorem dX9_readAll_111 : decode cX9_readAll 111 = .ok (.ifCond .ne (-15), 3) := by decide +kernel
theorem dX9_readAll_114 : decode cX9_readAll 114 = .ok (.aload_n 0, 1) := by decide +kernel
theorem dX9_readAll_115 : decode cX9_readAll 115 = .ok (.getfield 98, 3) := by decide +kernel
theorem dX9_readAll_118 : decode cX9_readAll 118 = .ok (.ireturn, 1) := by decide +kernel
theorem dX9_readAll_119 : decode cX9_readAll 119 = .ok (.bipush (-9), 2) := by decide +kernel
theorem dX9_readAll_121 : decode cX9_readAll 121 = .ok (.ireturn, 1) := by decide +kernel
theorem dX9_fault_0 : decode cX9_fault 0 = .ok (.aload_n 0, 1) := by decide +kernel
theorem dX9_fault_1 : decode cX9_fault 1 = .ok (.iconst 0, 1) := by decide +kernel
theorem dX9_fault_2 : decode cX9_fault 2 = .ok (.putfield 69, 3) := by decide +kernel
theorem dX9_fault_5 : decode cX9_fault 5 = .ok (.aload_n 0, 1) := by decide +kernel
theorem dX9_fault_6 : decode cX9_fault 6 = .ok (.invokevirtual 153, 3) := by decide +kernel
theorem dX9_fault_9 : decode cX9_fault 9 = .ok (.ireturn, 1) := by decide +kernel
theorem dX9_village_0 : decode cX9_village 0 = .ok (.aload_n 0, 1) := by decide +kernel
theorem dX9_village_1 : decode cX9_village 1 = .ok (.iconst 0, 1) := by decide +kernel
theorem dX9_village_2 : decode cX9_village 2 = .ok (.putfield 69, 3) := by decide +kernel
theorem dX9_village_5 : decode cX9_village 5 = .ok (.aload_n 0, 1) := by decide +kernel
theorem dX9_village_6 : decode cX9_village 6 = .ok (.invokevirtual 153, 3) := by decide +kernel
theorem dX9_village_9 : decode cX9_village 9 = .ok (.bipush (-9), 2) := by decide +kernel
theorem dX9_village_11 : decode cX9_village 11 = .ok (.if_icmp .eq 6, 3) := by decide +kernel
theorem dX9_village_14 : decode cX9_village 14 = .ok (.bipush (-3), 2) := by decide +kernel
theorem dX9_village_16 : decode cX9_village 16 = .ok (.ireturn, 1) := by decide +kernel
theorem dX9_village_17 : decode cX9_village 17 = .ok (.aload_n 0, 1) := by decide +kernel
theorem dX9_village_18 : decode cX9_village 18 = .ok (.aload_n 0, 1) := by decide +kernel
theorem dX9_village_19 : decode cX9_village 19 = .ok (.getfield 109, 3) := by decide +kernel
theorem dX9_village_22 : decode cX9_village 22 = .ok (.putfield 73, 3) := by decide +kernel
theorem dX9_village_25 : decode cX9_village 25 = .ok (.aload_n 0, 1) := by decide +kernel
theorem dX9_village_26 : decode cX9_village 26 = .ok (.aload_n 0, 1) := by decide +kernel
theorem dX9_village_27 : decode cX9_village 27 = .ok (.getfield 115, 3) := by decide +kernel
theorem dX9_village_30 : decode cX9_village 30 = .ok (.putfield 80, 3) := by decide +kernel
theorem dX9_village_33 : decode cX9_village 33 = .ok (.aload_n 0, 1) := by decide +kernel
theorem dX9_village_34 : decode cX9_village 34 = .ok (.aload_n 0, 1) := by decide +kernel
theorem dX9_village_35 : decode cX9_village 35 = .ok (.getfield 124, 3) := by decide +kernel
theorem dX9_village_38 : decode cX9_village 38 = .ok (.putfield 156, 3) := by decide +kernel
theorem dX9_village_41 : decode cX9_village 41 = .ok (.iconst 0, 1) := by decide +kernel
theorem dX9_village_42 : decode cX9_village 42 = .ok (.istore_n 1, 1) := by decide +kernel
theorem dX9_village_43 : decode cX9_village 43 = .ok (.iload_n 1, 1) := by decide +kernel
theorem dX9_village_44 : decode cX9_village 44 = .ok (.bipush 43, 2) := by decide +kernel
theorem dX9_village_46 : decode cX9_village 46 = .ok (.if_icmp .ge 75, 3) := by decide +kernel
theorem dX9_village_49 : decode cX9_village 49 = .ok (.aload_n 0, 1) := by decide +kernel
theorem dX9_village_50 : decode cX9_village 50 = .ok (.getfield 19, 3) := by decide +kernel
theorem dX9_village_53 : decode cX9_village 53 = .ok (.iload_n 1, 1) := by decide +kernel
theorem dX9_village_54 : decode cX9_village 54 = .ok (.aload_n 0, 1) := by decide +kernel
theorem dX9_village_55 : decode cX9_village 55 = .ok (.getfield 44, 3) := by decide +kernel
theorem dX9_village_58 : decode cX9_village 58 = .ok (.iload_n 1, 1) := by decide +kernel
theorem dX9_village_59 : decode cX9_village 59 = .ok (.iaload, 1) := by decide +kernel
theorem dX9_village_60 : decode cX9_village 60 = .ok (.iastore, 1) := by decide +kernel
theorem dX9_village_61 : decode cX9_village 61 = .ok (.aload_n 0, 1) := by decide +kernel
theorem dX9_village_62 : decode cX9_village 62 = .ok (.getfield 7, 3) := by decide +kernel
theorem dX9_village_65 : decode cX9_village 65 = .ok (.iload_n 1, 1) := by decide +kernel
theorem dX9_village_66 : decode cX9_village 66 = .ok (.bipush 16, 2) := by decide +kernel
theorem dX9_village_68 : decode cX9_village 68 = .ok (.irem, 1) := by decide +kernel
theorem dX9_village_69 : decode cX9_village 69 = .ok (.aload_n 0, 1) := by decide +kernel
theorem dX9_village_70 : decode cX9_village 70 = .ok (.getfield 35, 3) := by decide +kernel
theorem dX9_village_73 : decode cX9_village 73 = .ok (.iload_n 1, 1) := by decide +kernel
theorem dX9_village_74 : decode cX9_village 74 = .ok (.bipush 16, 2) := by decide +kernel
theorem dX9_village_76 : decode cX9_village 76 = .ok (.irem, 1) := by decide +kernel
theorem dX9_village_77 : decode cX9_village 77 = .ok (.iaload, 1) := by decide +kernel
theorem dX9_village_78 : decode cX9_village 78 = .ok (.iastore, 1) := by decide +kernel
theorem dX9_village_79 : decode cX9_village 79 = .ok (.aload_n 0, 1) := by decide +kernel
theorem dX9_village_80 : decode cX9_village 80 = .ok (.getfield 13, 3) := by decide +kernel
theorem dX9_village_83 : decode cX9_village 83 = .ok (.iload_n 1, 1) := by decide +kernel
theorem dX9_village_84 : decode cX9_village 84 = .ok (.bipush 6, 2) := by decide +kernel
theorem dX9_village_86 : decode cX9_village 86 = .ok (.irem, 1) := by decide +kernel
theorem dX9_village_87 : decode cX9_village 87 = .ok (.aload_n 0, 1) := by decide +kernel
theorem dX9_village_88 : decode cX9_village 88 = .ok (.getfield 38, 3) := by decide +kernel
theorem dX9_village_91 : decode cX9_village 91 = .ok (.iload_n 1, 1) := by decide +kernel
theorem dX9_village_92 : decode cX9_village 92 = .ok (.bipush 6, 2) := by decide +kernel
theorem dX9_village_94 : decode cX9_village 94 = .ok (.irem, 1) := by decide +kernel
theorem dX9_village_95 : decode cX9_village 95 = .ok (.iaload, 1) := by decide +kernel
theorem dX9_village_96 : decode cX9_village 96 = .ok (.iastore, 1) := by decide +kernel
theorem dX9_village_97 : decode cX9_village 97 = .ok (.aload_n 0, 1) := by decide +kernel
theorem dX9_village_98 : decode cX9_village 98 = .ok (.getfield 16, 3) := by decide +kernel
theorem dX9_village_101 : decode cX9_village 101 = .ok (.iload_n 1, 1) := by decide +kernel
theorem dX9_village_102 : decode cX9_village 102 = .ok (.bipush 6, 2) := by decide +kernel
theorem dX9_village_104 : decode cX9_village 104 = .ok (.irem, 1) := by decide +kernel
theorem dX9_village_105 : decode cX9_village 105 = .ok (.aload_n 0, 1) := by decide +kernel
theorem dX9_village_106 : decode cX9_village 106 = .ok (.getfield 41, 3) := by decide +kernel
theorem dX9_village_109 : decode cX9_village 109 = .ok (.iload_n 1, 1) := by decide +kernel
theorem dX9_village_110 : decode cX9_village 110 = .ok (.bipush 6, 2) := by decide +kernel
theorem dX9_village_112 : decode cX9_village 112 = .ok (.irem, 1) := by decide +kernel
theorem dX9_village_113 : decode cX9_village 113 = .ok (.iaload, 1) := by decide +kernel
theorem dX9_village_114 : decode cX9_village 114 = .ok (.iastore, 1) := by decide +kernel
theorem dX9_village_115 : decode cX9_village 115 = .ok (.iinc 1 1, 3) := by decide +kernel
theorem dX9_village_118 : decode cX9_village 118 = .ok (.goto (-75), 3) := by decide +kernel
theorem dX9_village_121 : decode cX9_village 121 = .ok (.aload_n 0, 1) := by decide +kernel
theorem dX9_village_122 : decode cX9_village 122 = .ok (.iconst 0, 1) := by decide +kernel
theorem dX9_village_123 : decode cX9_village 123 = .ok (.putfield 159, 3) := by decide +kernel
theorem dX9_village_126 : decode cX9_village 126 = .ok (.aload_n 0, 1) := by decide +kernel
theorem dX9_village_127 : decode cX9_village 127 = .ok (.getfield 28, 3) := by decide +kernel
theorem dX9_village_130 : decode cX9_village 130 = .ok (.iconst 0, 1) := by decide +kernel
theorem dX9_village_131 : decode cX9_village 131 = .ok (.iconst 0, 1) := by decide +kernel
theorem dX9_village_132 : decode cX9_village 132 = .ok (.bastore, 1) := by decide +kernel
theorem dX9_village_133 : decode cX9_village 133 = .ok (.aload_n 0, 1) := by decide +kernel
theorem dX9_village_134 : decode cX9_village 134 = .ok (.getfield 28, 3) := by decide +kernel
theorem dX9_village_137 : decode cX9_village 137 = .ok (.iconst 1, 1) := by decide +kernel
theorem dX9_village_138 : decode cX9_village 138 = .ok (.iconst 0, 1) := by decide +kernel
theorem dX9_village_139 : decode cX9_village 139 = .ok (.bastore, 1) := by decide +kernel
theorem dX9_village_140 : decode cX9_village 140 = .ok (.bipush 10, 2) := by decide +kernel
theorem dX9_village_142 : decode cX9_village 142 = .ok (.aload_n 0, 1) := by decide +kernel
theorem dX9_village_143 : decode cX9_village 143 = .ok (.getfield 73, 3) := by decide +kernel
theorem dX9_village_146 : decode cX9_village 146 = .ok (.imul, 1) := by decide +kernel
theorem dX9_village_147 : decode cX9_village 147 = .ok (.aload_n 0, 1) := by decide +kernel
theorem dX9_village_148 : decode cX9_village 148 = .ok (.getfield 80, 3) := by decide +kernel
theorem dX9_village_151 : decode cX9_village 151 = .ok (.iadd, 1) := by decide +kernel
theorem dX9_village_152 : decode cX9_village 152 = .ok (.ireturn, 1) := by decide +kernel
theorem dX9_nextTo_0 : decode cX9_nextTo 0 = .ok (.iconst 0, 1) := by decide +kernel
theorem dX9_nextTo_1 : decode cX9_nextTo 1 = .ok (.istore_n 3, 1) := by decide +kernel
theorem dX9_nextTo_2 : decode cX9_nextTo 2 = .ok (.iconst 0, 1) := by decide +kernel
theorem dX9_nextTo_3 : decode cX9_nextTo 3 = .ok (.istore 4, 2) := by decide +kernel
theorem dX9_nextTo_5 : decode cX9_nextTo 5 = .ok (.iload 4, 2) := by decide +kernel
theorem dX9_nextTo_7 : decode cX9_nextTo 7 = .ok (.aload_n 0, 1) := by decide +kernel
theorem dX9_nextTo_8 : decode cX9_nextTo 8 = .ok (.getfield 73, 3) := by decide +kernel
theorem dX9_nextTo_11 : decode cX9_nextTo 11 = .ok (.if_icmp .ge 35, 3) := by decide +kernel
theorem dX9_nextTo_14 : decode cX9_nextTo 14 = .ok (.iload_n 3, 1) := by decide +kernel
theorem dX9_nextTo_15 : decode cX9_nextTo 15 = .ok (.aload_n 0, 1) := by decide +kernel
theorem dX9_nextTo_16 : decode cX9_nextTo 16 = .ok (.getfield 7, 3) := by decide +kernel
theorem dX9_nextTo_19 : decode cX9_nextTo 19 = .ok (.iconst 4, 1) := by decide +kernel
theorem dX9_nextTo_20 : decode cX9_nextTo 20 = .ok (.iload_n 1, 1) := by decide +kernel
theorem dX9_nextTo_21 : decode cX9_nextTo 21 = .ok (.imul, 1) := by decide +kernel
theorem dX9_nextTo_22 : decode cX9_nextTo 22 = .ok (.iload 4, 2) := by decide +kernel
theorem dX9_nextTo_24 : decode cX9_nextTo 24 = .ok (.iadd, 1) := by decide +kernel
theorem dX9_nextTo_25 : decode cX9_nextTo 25 = .ok (.iaload, 1) := by decide +kernel
theorem dX9_nextTo_26 : decode cX9_nextTo 26 = .ok (.iload_n 2, 1) := by decide +kernel
theorem dX9_nextTo_27 : decode cX9_nextTo 27 = .ok (.if_icmp .lt 10, 3) := by decide +kernel
theorem dX9_nextTo_30 : decode cX9_nextTo 30 = .ok (.iconst 1, 1) := by decide +kernel
theorem dX9_nextTo_31 : decode cX9_nextTo 31 = .ok (.iload 4, 2) := by decide +kernel
theorem dX9_nextTo_33 : decode cX9_nextTo 33 = .ok (.ishl, 1) := by decide +kernel
theorem dX9_nextTo_34 : decode cX9_nextTo 34 = .ok (.goto 4, 3) := by decide +kernel
theorem dX9_nextTo_37 : decode cX9_nextTo 37 = .ok (.iconst 0, 1) := by decide +kernel
theorem dX9_nextTo_38 : decode cX9_nextTo 38 = .ok (.ior, 1) := by decide +kernel
theorem dX9_nextTo_39 : decode cX9_nextTo 39 = .ok (.istore_n 3, 1) := by decide +kernel
theorem dX9_nextTo_40 : decode cX9_nextTo 40 = .ok (.iinc 4 1, 3) := by decide +kernel
theorem dX9_nextTo_43 : decode cX9_nextTo 43 = .ok (.goto (-38), 3) := by decide +kernel
theorem dX9_nextTo_46 : decode cX9_nextTo 46 = .ok (.iload_n 3, 1) := by decide +kernel
theorem dX9_nextTo_47 : decode cX9_nextTo 47 = .ok (.ireturn, 1) := by decide +kernel
theorem dX9_open_0 : decode cX9_open 0 = .ok (.iconst 0, 1) := by decide +kernel
theorem dX9_open_1 : decode cX9_open 1 = .ok (.istore_n 1, 1) := by decide +kernel
theorem dX9_open_2 : decode cX9_open 2 = .ok (.iconst 0, 1) := by decide +kernel
theorem dX9_open_3 : decode cX9_open 3 = .ok (.istore_n 2, 1) := by decide +kernel
theorem dX9_open_4 : decode cX9_open 4 = .ok (.iload_n 2, 1) := by decide +kernel
theorem dX9_open_5 : decode cX9_open 5 = .ok (.aload_n 0, 1) := by decide +kernel
theorem dX9_open_6 : decode cX9_open 6 = .ok (.getfield 73, 3) := by decide +kernel
theorem dX9_open_9 : decode cX9_open 9 = .ok (.if_icmp .ge 30, 3) := by decide +kernel
theorem dX9_open_12 : decode cX9_open 12 = .ok (.iload_n 1, 1) := by decide +kernel
theorem dX9_open_13 : decode cX9_open 13 = .ok (.aload_n 0, 1) := by decide +kernel
theorem dX9_open_14 : decode cX9_open 14 = .ok (.getfield 19, 3) := by decide +kernel
theorem dX9_open_17 : decode cX9_open 17 = .ok (.iconst 5, 1) := by decide +kernel
theorem dX9_open_18 : decode cX9_open 18 = .ok (.iload_n 2, 1) := by decide +kernel
theorem dX9_open_19 : decode cX9_open 19 = .ok (.iadd, 1) := by decide +kernel
theorem dX9_open_20 : decode cX9_open 20 = .ok (.iaload, 1) := by decide +kernel
theorem dX9_open_21 : decode cX9_open 21 = .ok (.ifCond .ne 9, 3) := by decide +kernel
theorem dX9_open_24 : decode cX9_open 24 = .ok (.iconst 1, 1) := by decide +kernel
theorem dX9_open_25 : decode cX9_open 25 = .ok (.iload_n 2, 1) := by decide +kernel
theorem dX9_open_26 : decode cX9_open 26 = .ok (.ishl, 1) := by decide +kernel
theorem dX9_open_27 : decode cX9_open 27 = .ok (.goto 4, 3) := by decide +kernel
theorem dX9_open_30 : decode cX9_open 30 = .ok (.iconst 0, 1) := by decide +kernel
theorem dX9_open_31 : decode cX9_open 31 = .ok (.ior, 1) := by decide +kernel
theorem dX9_open_32 : decode cX9_open 32 = .ok (.istore_n 1, 1) := by decide +kernel
theorem dX9_open_33 : decode cX9_open 33 = .ok (.iinc 2 1, 3) := by decide +kernel
theorem dX9_open_36 : decode cX9_open 36 = .ok (.goto (-32), 3) := by decide +kernel
theorem dX9_open_39 : decode cX9_open 39 = .ok (.iload_n 1, 1) := by decide +kernel
theorem dX9_open_40 : decode cX9_open 40 = .ok (.ireturn, 1) := by decide +kernel
theorem dX9_house_0 : decode cX9_house 0 = .ok (.aload_n 0, 1) := by decide +kernel
theorem dX9_house_1 : decode cX9_house 1 = .ok (.iconst 0, 1) := by decide +kernel
theorem dX9_house_2 : decode cX9_house 2 = .ok (.putfield 69, 3) := by decide +kernel
theorem dX9_house_5 : decode cX9_house 5 = .ok (.aload_n 0, 1) := by decide +kernel
theorem dX9_house_6 : decode cX9_house 6 = .ok (.iload_n 1, 1) := by decide +kernel
theorem dX9_house_7 : decode cX9_house 7 = .ok (.invokevirtual 162, 3) := by decide +kernel
theorem dX9_house_10 : decode cX9_house 10 = .ok (.ifCond .eq 5, 3) := by decide +kernel
theorem dX9_house_13 : decode cX9_house 13 = .ok (.iconst (-1), 1) := by decide +kernel
theorem dX9_house_14 : decode cX9_house 14 = .ok (.ireturn, 1) := by decide +kernel
theorem dX9_house_15 : decode cX9_house 15 = .ok (.iconst 0, 1) := by decide +kernel
theorem dX9_house_16 : decode cX9_house 16 = .ok (.istore_n 3, 1) := by decide +kernel
theorem dX9_house_17 : decode cX9_house 17 = .ok (.iconst 0, 1) := by decide +kernel
theorem dX9_house_18 : decode cX9_house 18 = .ok (.istore 4, 2) := by decide +kernel
theorem dX9_house_20 : decode cX9_house 20 = .ok (.iload 4, 2) := by decide +kernel
theorem dX9_house_22 : decode cX9_house 22 = .ok (.aload_n 0, 1) := by decide +kernel
theorem dX9_house_23 : decode cX9_house 23 = .ok (.getfield 80, 3) := by decide +kernel
theorem dX9_house_26 : decode cX9_house 26 = .ok (.if_icmp .ge 31, 3) := by decide +kernel
theorem dX9_house_29 : decode cX9_house 29 = .ok (.iload_n 3, 1) := by decide +kernel
theorem dX9_house_30 : decode cX9_house 30 = .ok (.aload_n 0, 1) := by decide +kernel
theorem dX9_house_31 : decode cX9_house 31 = .ok (.getfield 13, 3) := by decide +kernel
theorem dX9_house_34 : decode cX9_house 34 = .ok (.iload 4, 2) := by decide +kernel
theorem dX9_house_36 : decode cX9_house 36 = .ok (.iaload, 1) := by decide +kernel
theorem dX9_house_37 : decode cX9_house 37 = .ok (.iload_n 1, 1) := by decide +kernel
theorem dX9_house_38 : decode cX9_house 38 = .ok (.if_icmp .ne 10, 3) := by decide +kernel
theorem dX9_house_41 : decode cX9_house 41 = .ok (.iconst 1, 1) := by decide +kernel
theorem dX9_house_42 : decode cX9_house 42 = .ok (.iload 4, 2) := by decide +kernel
theorem dX9_house_44 : decode cX9_house 44 = .ok (.ishl, 1) := by decide +kernel
theorem dX9_house_45 : decode cX9_house 45 = .ok (.goto 4, 3) := by decide +kernel
theorem dX9_house_48 : decode cX9_house 48 = .ok (.iconst 0, 1) := by decide +kernel
theorem dX9_house_49 : decode cX9_house 49 = .ok (.ior, 1) := by decide +kernel
theorem dX9_house_50 : decode cX9_house 50 = .ok (.istore_n 3, 1) := by decide +kernel
theorem dX9_house_51 : decode cX9_house 51 = .ok (.iinc 4 1, 3) := by decide +kernel
theorem dX9_house_54 : decode cX9_house 54 = .ok (.goto (-34), 3) := by decide +kernel
theorem dX9_house_57 : decode cX9_house 57 = .ok (.iload_n 2, 1) := by decide +kernel
theorem dX9_house_58 : decode cX9_house 58 = .ok (.tableswitch 82 0 5 #[38, 47, 56, 66, 68, 75], 38) := by decide +kernel
theorem dX9_house_96 : decode cX9_house 96 = .ok (.aload_n 0, 1) := by decide +kernel
theorem dX9_house_97 : decode cX9_house 97 = .ok (.getfield 19, 3) := by decide +kernel
theorem dX9_house_100 : decode cX9_house 100 = .ok (.iconst 1, 1) := by decide +kernel
theorem dX9_house_101 : decode cX9_house 101 = .ok (.iload_n 1, 1) := by decide +kernel
theorem dX9_house_102 : decode cX9_house 102 = .ok (.iadd, 1) := by decide +kernel
theorem dX9_house_103 : decode cX9_house 103 = .ok (.iaload, 1) := by decide +kernel
theorem dX9_house_104 : decode cX9_house 104 = .ok (.ireturn, 1) := by decide +kernel
theorem dX9_house_105 : decode cX9_house 105 = .ok (.aload_n 0, 1) := by decide +kernel
theorem dX9_house_106 : decode cX9_house 106 = .ok (.getfield 19, 3) := by decide +kernel
theorem dX9_house_109 : decode cX9_house 109 = .ok (.iconst 5, 1) := by decide +kernel
theorem dX9_house_110 : decode cX9_house 110 = .ok (.iload_n 1, 1) := by decide +kernel
theorem dX9_house_111 : decode cX9_house 111 = .ok (.iadd, 1) := by decide +kernel
theorem dX9_house_112 : decode cX9_house 112 = .ok (.iaload, 1) := by decide +kernel
theorem dX9_house_113 : decode cX9_house 113 = .ok (.ireturn, 1) := by decide +kernel
theorem dX9_house_114 : decode cX9_house 114 = .ok (.aload_n 0, 1) := by decide +kernel
theorem dX9_house_115 : decode cX9_house 115 = .ok (.getfield 19, 3) := by decide +kernel
theorem dX9_house_118 : decode cX9_house 118 = .ok (.bipush 9, 2) := by decide +kernel
theorem dX9_house_120 : decode cX9_house 120 = .ok (.iload_n 1, 1) := by decide +kernel
theorem dX9_house_121 : decode cX9_house 121 = .ok (.iadd, 1) := by decide +kernel
theorem dX9_house_122 : decode cX9_house 122 = .ok (.iaload, 1) := by decide +kernel
theorem dX9_house_123 : decode cX9_house 123 = .ok (.ireturn, 1) := by decide +kernel
theorem dX9_house_124 : decode cX9_house 124 = .ok (.iload_n 3, 1) := by decide +kernel
theorem dX9_house_125 : decode cX9_house 125 = .ok (.ireturn, 1) := by decide +kernel
theorem dX9_house_126 : decode cX9_house 126 = .ok (.aload_n 0, 1) := by decide +kernel
theorem dX9_house_127 : decode cX9_house 127 = .ok (.iload_n 1, 1) := by decide +kernel
theorem dX9_house_128 : decode cX9_house 128 = .ok (.iconst 1, 1) := by decide +kernel
theorem dX9_house_129 : decode cX9_house 129 = .ok (.invokevirtual 165, 3) := by decide +kernel
theorem dX9_house_132 : decode cX9_house 132 = .ok (.ireturn, 1) := by decide +kernel
theorem dX9_house_133 : decode cX9_house 133 = .ok (.aload_n 0, 1) := by decide +kernel
theorem dX9_house_134 : decode cX9_house 134 = .ok (.iload_n 1, 1) := by decide +kernel
theorem dX9_house_135 : decode cX9_house 135 = .ok (.iconst 2, 1) := by decide +kernel
theorem dX9_house_136 : decode cX9_house 136 = .ok (.invokevirtual 165, 3) := by decide +kernel
theorem dX9_house_139 : decode cX9_house 139 = .ok (.ireturn, 1) := by decide +kernel
theorem dX9_house_140 : decode cX9_house 140 = .ok (.bipush (-2), 2) := by decide +kernel
theorem dX9_house_142 : decode cX9_house 142 = .ok (.ireturn, 1) := by decide +kernel
theorem dX9_person_0 : decode cX9_person 0 = .ok (.aload_n 0, 1) := by decide +kernel
theorem dX9_person_1 : decode cX9_person 1 = .ok (.iconst 0, 1) := by decide +kernel
theorem dX9_person_2 : decode cX9_person 2 = .ok (.putfield 69, 3) := by decide +kernel
theorem dX9_person_5 : decode cX9_person 5 = .ok (.aload_n 0, 1) := by decide +kernel
theorem dX9_person_6 : decode cX9_person 6 = .ok (.iload_n 1, 1) := by decide +kernel
theorem dX9_person_7 : decode cX9_person 7 = .ok (.invokevirtual 168, 3) := by decide +kernel
theorem dX9_person_10 : decode cX9_person 10 = .ok (.ifCond .eq 5, 3) := by decide +kernel
theorem dX9_person_13 : decode cX9_person 13 = .ok (.iconst (-1), 1) := by decide +kernel
theorem dX9_person_14 : decode cX9_person 14 = .ok (.ireturn, 1) := by decide +kernel
theorem dX9_person_15 : decode cX9_person 15 = .ok (.iload_n 2, 1) := by decide +kernel
theorem dX9_person_16 : decode cX9_person 16 = .ok (.tableswitch 67 0 6 #[44, 51, 51, 51, 51, 51, 60], 44) := by decide +kernel
theorem dX9_person_60 : decode cX9_person 60 = .ok (.aload_n 0, 1) := by decide +kernel
theorem dX9_person_61 : decode cX9_person 61 = .ok (.getfield 13, 3) := by decide +kernel
theorem dX9_person_64 : decode cX9_person 64 = .ok (.iload_n 1, 1) := by decide +kernel
theorem dX9_person_65 : decode cX9_person 65 = .ok (.iaload, 1) := by decide +kernel
theorem dX9_person_66 : decode cX9_person 66 = .ok (.ireturn, 1) := by decide +kernel
theorem dX9_person_67 : decode cX9_person 67 = .ok (.aload_n 0, 1) := by decide +kernel
theorem dX9_person_68 : decode cX9_person 68 = .ok (.iload_n 1, 1) := by decide +kernel
theorem dX9_person_69 : decode cX9_person 69 = .ok (.iload_n 2, 1) := by decide +kernel
theorem dX9_person_70 : decode cX9_person 70 = .ok (.iconst 1, 1) := by decide +kernel
theorem dX9_person_71 : decode cX9_person 71 = .ok (.isub, 1) := by decide +kernel
theorem dX9_person_72 : decode cX9_person 72 = .ok (.invokevirtual 83, 3) := by decide +kernel
theorem dX9_person_75 : decode cX9_person 75 = .ok (.ireturn, 1) := by decide +kernel
theorem dX9_person_76 : decode cX9_person 76 = .ok (.aload_n 0, 1) := by decide +kernel
theorem dX9_person_77 : decode cX9_person 77 = .ok (.getfield 16, 3) := by decide +kernel
theorem dX9_person_80 : decode cX9_person 80 = .ok (.iload_n 1, 1) := by decide +kernel
theorem dX9_person_81 : decode cX9_person 81 = .ok (.iaload, 1) := by decide +kernel
theorem dX9_person_82 : decode cX9_person 82 = .ok (.ireturn, 1) := by decide +kernel
theorem dX9_person_83 : decode cX9_person 83 = .ok (.bipush (-2), 2) := by decide +kernel
theorem dX9_person_85 : decode cX9_person 85 = .ok (.ireturn, 1) := by decide +kernel
theorem dX9_goesTo_0 : decode cX9_goesTo 0 = .ok (.aload_n 0, 1) := by decide +kernel
theorem dX9_goesTo_1 : decode cX9_goesTo 1 = .ok (.getfield 19, 3) := by decide +kernel
theorem dX9_goesTo_4 : decode cX9_goesTo 4 = .ok (.iconst 5, 1) := by decide +kernel
theorem dX9_goesTo_5 : decode cX9_goesTo 5 = .ok (.aload_n 0, 1) := by decide +kernel
theorem dX9_goesTo_6 : decode cX9_goesTo 6 = .ok (.getfield 13, 3) := by decide +kernel
theorem dX9_goesTo_9 : decode cX9_goesTo 9 = .ok (.iload_n 1, 1) := by decide +kernel
theorem dX9_goesTo_10 : decode cX9_goesTo 10 = .ok (.iaload, 1) := by decide +kernel
theorem dX9_goesTo_11 : decode cX9_goesTo 11 = .ok (.iadd, 1) := by decide +kernel
theorem dX9_goesTo_12 : decode cX9_goesTo 12 = .ok (.iaload, 1) := by decide +kernel
theorem dX9_goesTo_13 : decode cX9_goesTo 13 = .ok (.iconst 2, 1) := by decide +kernel
theorem dX9_goesTo_14 : decode cX9_goesTo 14 = .ok (.if_icmp .ne 7, 3) := by decide +kernel
theorem dX9_goesTo_17 : decode cX9_goesTo 17 = .ok (.iconst 0, 1) := by decide +kernel
theorem dX9_goesTo_18 : decode cX9_goesTo 18 = .ok (.goto 19, 3) := by decide +kernel
theorem dX9_goesTo_21 : decode cX9_goesTo 21 = .ok (.aload_n 0, 1) := by decide +kernel
theorem dX9_goesTo_22 : decode cX9_goesTo 22 = .ok (.aload_n 0, 1) := by decide +kernel
theorem dX9_goesTo_23 : decode cX9_goesTo 23 = .ok (.getfield 13, 3) := by decide +kernel
theorem dX9_goesTo_26 : decode cX9_goesTo 26 = .ok (.iload_n 1, 1) := by decide +kernel
theorem dX9_goesTo_27 : decode cX9_goesTo 27 = .ok (.iaload, 1) := by decide +kernel
theorem dX9_goesTo_28 : decode cX9_goesTo 28 = .ok (.iconst 1, 1) := by decide +kernel
theorem dX9_goesTo_29 : decode cX9_goesTo 29 = .ok (.invokevirtual 165, 3) := by decide +kernel
theorem dX9_goesTo_32 : decode cX9_goesTo 32 = .ok (.aload_n 0, 1) := by decide +kernel
theorem dX9_goesTo_33 : decode cX9_goesTo 33 = .ok (.invokevirtual 171, 3) := by decide +kernel
theorem dX9_goesTo_36 : decode cX9_goesTo 36 = .ok (.iand, 1) := by decide +kernel
theorem dX9_goesTo_37 : decode cX9_goesTo 37 = .ok (.ireturn, 1) := by decide +kernel
theorem dX9_mayOf_0 : decode cX9_mayOf 0 = .ok (.aload_n 0, 1) := by decide +kernel
theorem dX9_mayOf_1 : decode cX9_mayOf 1 = .ok (.iload_n 1, 1) := by decide +kernel
theorem dX9_mayOf_2 : decode cX9_mayOf 2 = .ok (.iconst 0, 1) := by decide +kernel
theorem dX9_mayOf_3 : decode cX9_mayOf 3 = .ok (.invokevirtual 83, 3) := by decide +kernel
theorem dX9_mayOf_6 : decode cX9_mayOf 6 = .ok (.iconst 1, 1) := by decide +kernel
theorem dX9_mayOf_7 : decode cX9_mayOf 7 = .ok (.if_icmp .ne 28, 3) := by decide +kernel
theorem dX9_mayOf_10 : decode cX9_mayOf 10 = .ok (.aload_n 0, 1) := by decide +kernel
theorem dX9_mayOf_11 : decode cX9_mayOf 11 = .ok (.iload_n 1, 1) := by decide +kernel
theorem dX9_mayOf_12 : decode cX9_mayOf 12 = .ok (.invokevirtual 87, 3) := by decide +kernel
theorem dX9_mayOf_15 : decode cX9_mayOf 15 = .ok (.ifCond .eq 20, 3) := by decide +kernel
theorem dX9_mayOf_18 : decode cX9_mayOf 18 = .ok (.aload_n 0, 1) := by decide +kernel
theorem dX9_mayOf_19 : decode cX9_mayOf 19 = .ok (.iload_n 1, 1) := by decide +kernel
theorem dX9_mayOf_20 : decode cX9_mayOf 20 = .ok (.iconst 3, 1) := by decide +kernel
theorem dX9_mayOf_21 : decode cX9_mayOf 21 = .ok (.invokevirtual 83, 3) := by decide +kernel
theorem dX9_mayOf_24 : decode cX9_mayOf 24 = .ok (.ifCond .ne 11, 3) := by decide +kernel
theorem dX9_mayOf_27 : decode cX9_mayOf 27 = .ok (.aload_n 0, 1) := by decide +kernel
theorem dX9_mayOf_28 : decode cX9_mayOf 28 = .ok (.iload_n 1, 1) := by decide +kernel
theorem dX9_mayOf_29 : decode cX9_mayOf 29 = .ok (.invokevirtual 174, 3) := by decide +kernel
theorem dX9_mayOf_32 : decode cX9_mayOf 32 = .ok (.goto 4, 3) := by decide +kernel
theorem dX9_mayOf_35 : decode cX9_mayOf 35 = .ok (.iconst 0, 1) := by decide +kernel
theorem dX9_mayOf_36 : decode cX9_mayOf 36 = .ok (.ireturn, 1) := by decide +kernel
theorem dX9_may_0 : decode cX9_may 0 = .ok (.aload_n 0, 1) := by decide +kernel
theorem dX9_may_1 : decode cX9_may 1 = .ok (.iconst 0, 1) := by decide +kernel
theorem dX9_may_2 : decode cX9_may 2 = .ok (.putfield 69, 3) := by decide +kernel
theorem dX9_may_5 : decode cX9_may 5 = .ok (.aload_n 0, 1) := by decide +kernel
theorem dX9_may_6 : decode cX9_may 6 = .ok (.iload_n 1, 1) := by decide +kernel
theorem dX9_may_7 : decode cX9_may 7 = .ok (.invokevirtual 168, 3) := by decide +kernel
theorem dX9_may_10 : decode cX9_may 10 = .ok (.ifCond .eq 7, 3) := by decide +kernel
theorem dX9_may_13 : decode cX9_may 13 = .ok (.iconst (-1), 1) := by decide +kernel
theorem dX9_may_14 : decode cX9_may 14 = .ok (.goto 8, 3) := by decide +kernel
theorem dX9_may_17 : decode cX9_may 17 = .ok (.aload_n 0, 1) := by decide +kernel
theorem dX9_may_18 : decode cX9_may 18 = .ok (.iload_n 1, 1) := by decide +kernel
theorem dX9_may_19 : decode cX9_may 19 = .ok (.invokevirtual 178, 3) := by decide +kernel
theorem dX9_may_22 : decode cX9_may 22 = .ok (.ireturn, 1) := by decide +kernel
theorem dX9_preyOf_0 : decode cX9_preyOf 0 = .ok (.iconst 0, 1) := by decide +kernel
theorem dX9_preyOf_1 : decode cX9_preyOf 1 = .ok (.istore_n 3, 1) := by decide +kernel
theorem dX9_preyOf_2 : decode cX9_preyOf 2 = .ok (.iload_n 3, 1) := by decide +kernel
theorem dX9_preyOf_3 : decode cX9_preyOf 3 = .ok (.aload_n 0, 1) := by decide +kernel
theorem dX9_preyOf_4 : decode cX9_preyOf 4 = .ok (.getfield 80, 3) := by decide +kernel
theorem dX9_preyOf_7 : decode cX9_preyOf 7 = .ok (.if_icmp .ge 71, 3) := by decide +kernel
theorem dX9_preyOf_10 : decode cX9_preyOf 10 = .ok (.aload_n 0, 1) := by decide +kernel
theorem dX9_preyOf_11 : decode cX9_preyOf 11 = .ok (.getfield 19, 3) := by decide +kernel
theorem dX9_preyOf_14 : decode cX9_preyOf 14 = .ok (.iconst 1, 1) := by decide +kernel
theorem dX9_preyOf_15 : decode cX9_preyOf 15 = .ok (.iload_n 2, 1) := by decide +kernel
theorem dX9_preyOf_16 : decode cX9_preyOf 16 = .ok (.iadd, 1) := by decide +kernel
theorem dX9_preyOf_17 : decode cX9_preyOf 17 = .ok (.iaload, 1) := by decide +kernel
theorem dX9_preyOf_18 : decode cX9_preyOf 18 = .ok (.ifCond .ne 60, 3) := by decide +kernel
theorem dX9_preyOf_21 : decode cX9_preyOf 21 = .ok (.aload_n 0, 1) := by decide +kernel
theorem dX9_preyOf_22 : decode cX9_preyOf 22 = .ok (.getfield 13, 3) := by decide +kernel
