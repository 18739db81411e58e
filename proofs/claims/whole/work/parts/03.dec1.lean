theorem dX5_allWith_22 : decode cX5_allWith 22 = .ok (.ifCond .eq 13, 3) := by decide +kernel
theorem dX5_allWith_25 : decode cX5_allWith 25 = .ok (.aload_n 0, 1) := by decide +kernel
theorem dX5_allWith_26 : decode cX5_allWith 26 = .ok (.getfield 9, 3) := by decide +kernel
theorem dX5_allWith_29 : decode cX5_allWith 29 = .ok (.iload 4, 2) := by decide +kernel
theorem dX5_allWith_31 : decode cX5_allWith 31 = .ok (.laload, 1) := by decide +kernel
theorem dX5_allWith_32 : decode cX5_allWith 32 = .ok (.goto 4, 3) := by decide +kernel
theorem dX5_allWith_35 : decode cX5_allWith 35 = .ok (.lconst 0, 1) := by decide +kernel
theorem dX5_allWith_36 : decode cX5_allWith 36 = .ok (.ladd, 1) := by decide +kernel
theorem dX5_allWith_37 : decode cX5_allWith 37 = .ok (.lstore_n 2, 1) := by decide +kernel
theorem dX5_allWith_38 : decode cX5_allWith 38 = .ok (.iinc 4 1, 3) := by decide +kernel
theorem dX5_allWith_41 : decode cX5_allWith 41 = .ok (.goto (-36), 3) := by decide +kernel
theorem dX5_allWith_44 : decode cX5_allWith 44 = .ok (.lload_n 2, 1) := by decide +kernel
theorem dX5_allWith_45 : decode cX5_allWith 45 = .ok (.lreturn, 1) := by decide +kernel
theorem dX5_setCount_0 : decode cX5_setCount 0 = .ok (.iconst 0, 1) := by decide +kernel
theorem dX5_setCount_1 : decode cX5_setCount 1 = .ok (.istore_n 1, 1) := by decide +kernel
theorem dX5_setCount_2 : decode cX5_setCount 2 = .ok (.iconst 0, 1) := by decide +kernel
theorem dX5_setCount_3 : decode cX5_setCount 3 = .ok (.istore_n 2, 1) := by decide +kernel
theorem dX5_setCount_4 : decode cX5_setCount 4 = .ok (.iload_n 2, 1) := by decide +kernel
theorem dX5_setCount_5 : decode cX5_setCount 5 = .ok (.aload_n 0, 1) := by decide +kernel
theorem dX5_setCount_6 : decode cX5_setCount 6 = .ok (.getfield 9, 3) := by decide +kernel
theorem dX5_setCount_9 : decode cX5_setCount 9 = .ok (.arraylength, 1) := by decide +kernel
theorem dX5_setCount_10 : decode cX5_setCount 10 = .ok (.if_icmp .ge 28, 3) := by decide +kernel
theorem dX5_setCount_13 : decode cX5_setCount 13 = .ok (.iload_n 1, 1) := by decide +kernel
theorem dX5_setCount_14 : decode cX5_setCount 14 = .ok (.aload_n 0, 1) := by decide +kernel
theorem dX5_setCount_15 : decode cX5_setCount 15 = .ok (.getfield 9, 3) := by decide +kernel
theorem dX5_setCount_18 : decode cX5_setCount 18 = .ok (.iload_n 2, 1) := by decide +kernel
theorem dX5_setCount_19 : decode cX5_setCount 19 = .ok (.laload, 1) := by decide +kernel
theorem dX5_setCount_20 : decode cX5_setCount 20 = .ok (.lconst 0, 1) := by decide +kernel
theorem dX5_setCount_21 : decode cX5_setCount 21 = .ok (.lcmp, 1) := by decide +kernel
theorem dX5_setCount_22 : decode cX5_setCount 22 = .ok (.ifCond .le 7, 3) := by decide +kernel
theorem dX5_setCount_25 : decode cX5_setCount 25 = .ok (.iconst 1, 1) := by decide +kernel
theorem dX5_setCount_26 : decode cX5_setCount 26 = .ok (.goto 4, 3) := by decide +kernel
theorem dX5_setCount_29 : decode cX5_setCount 29 = .ok (.iconst 0, 1) := by decide +kernel
theorem dX5_setCount_30 : decode cX5_setCount 30 = .ok (.iadd, 1) := by decide +kernel
theorem dX5_setCount_31 : decode cX5_setCount 31 = .ok (.istore_n 1, 1) := by decide +kernel
theorem dX5_setCount_32 : decode cX5_setCount 32 = .ok (.iinc 2 1, 3) := by decide +kernel
theorem dX5_setCount_35 : decode cX5_setCount 35 = .ok (.goto (-31), 3) := by decide +kernel
theorem dX5_setCount_38 : decode cX5_setCount 38 = .ok (.iload_n 1, 1) := by decide +kernel
theorem dX5_setCount_39 : decode cX5_setCount 39 = .ok (.ireturn, 1) := by decide +kernel
theorem dX5_setsWith_0 : decode cX5_setsWith 0 = .ok (.iconst 0, 1) := by decide +kernel
theorem dX5_setsWith_1 : decode cX5_setsWith 1 = .ok (.istore_n 2, 1) := by decide +kernel
theorem dX5_setsWith_2 : decode cX5_setsWith 2 = .ok (.iconst 0, 1) := by decide +kernel
theorem dX5_setsWith_3 : decode cX5_setsWith 3 = .ok (.istore_n 3, 1) := by decide +kernel
theorem dX5_setsWith_4 : decode cX5_setsWith 4 = .ok (.iload_n 3, 1) := by decide +kernel
theorem dX5_setsWith_5 : decode cX5_setsWith 5 = .ok (.aload_n 0, 1) := by decide +kernel
theorem dX5_setsWith_6 : decode cX5_setsWith 6 = .ok (.getfield 9, 3) := by decide +kernel
theorem dX5_setsWith_9 : decode cX5_setsWith 9 = .ok (.arraylength, 1) := by decide +kernel
theorem dX5_setsWith_10 : decode cX5_setsWith 10 = .ok (.if_icmp .ge 36, 3) := by decide +kernel
theorem dX5_setsWith_13 : decode cX5_setsWith 13 = .ok (.iload_n 2, 1) := by decide +kernel
theorem dX5_setsWith_14 : decode cX5_setsWith 14 = .ok (.iload_n 3, 1) := by decide +kernel
theorem dX5_setsWith_15 : decode cX5_setsWith 15 = .ok (.iload_n 1, 1) := by decide +kernel
theorem dX5_setsWith_16 : decode cX5_setsWith 16 = .ok (.invokestatic 70, 3) := by decide +kernel
theorem dX5_setsWith_19 : decode cX5_setsWith 19 = .ok (.ifCond .eq 18, 3) := by decide +kernel
theorem dX5_setsWith_22 : decode cX5_setsWith 22 = .ok (.aload_n 0, 1) := by decide +kernel
theorem dX5_setsWith_23 : decode cX5_setsWith 23 = .ok (.getfield 9, 3) := by decide +kernel
theorem dX5_setsWith_26 : decode cX5_setsWith 26 = .ok (.iload_n 3, 1) := by decide +kernel
theorem dX5_setsWith_27 : decode cX5_setsWith 27 = .ok (.laload, 1) := by decide +kernel
theorem dX5_setsWith_28 : decode cX5_setsWith 28 = .ok (.lconst 0, 1) := by decide +kernel
theorem dX5_setsWith_29 : decode cX5_setsWith 29 = .ok (.lcmp, 1) := by decide +kernel
theorem dX5_setsWith_30 : decode cX5_setsWith 30 = .ok (.ifCond .le 7, 3) := by decide +kernel
theorem dX5_setsWith_33 : decode cX5_setsWith 33 = .ok (.iconst 1, 1) := by decide +kernel
theorem dX5_setsWith_34 : decode cX5_setsWith 34 = .ok (.goto 4, 3) := by decide +kernel
theorem dX5_setsWith_37 : decode cX5_setsWith 37 = .ok (.iconst 0, 1) := by decide +kernel
theorem dX5_setsWith_38 : decode cX5_setsWith 38 = .ok (.iadd, 1) := by decide +kernel
theorem dX5_setsWith_39 : decode cX5_setsWith 39 = .ok (.istore_n 2, 1) := by decide +kernel
theorem dX5_setsWith_40 : decode cX5_setsWith 40 = .ok (.iinc 3 1, 3) := by decide +kernel
theorem dX5_setsWith_43 : decode cX5_setsWith 43 = .ok (.goto (-39), 3) := by decide +kernel
theorem dX5_setsWith_46 : decode cX5_setsWith 46 = .ok (.iload_n 2, 1) := by decide +kernel
theorem dX5_setsWith_47 : decode cX5_setsWith 47 = .ok (.ireturn, 1) := by decide +kernel
theorem dX5_setNumbered_0 : decode cX5_setNumbered 0 = .ok (.iconst 0, 1) := by decide +kernel
theorem dX5_setNumbered_1 : decode cX5_setNumbered 1 = .ok (.istore_n 2, 1) := by decide +kernel
theorem dX5_setNumbered_2 : decode cX5_setNumbered 2 = .ok (.iconst 0, 1) := by decide +kernel
theorem dX5_setNumbered_3 : decode cX5_setNumbered 3 = .ok (.istore_n 3, 1) := by decide +kernel
theorem dX5_setNumbered_4 : decode cX5_setNumbered 4 = .ok (.iload_n 3, 1) := by decide +kernel
theorem dX5_setNumbered_5 : decode cX5_setNumbered 5 = .ok (.aload_n 0, 1) := by decide +kernel
theorem dX5_setNumbered_6 : decode cX5_setNumbered 6 = .ok (.getfield 9, 3) := by decide +kernel
theorem dX5_setNumbered_9 : decode cX5_setNumbered 9 = .ok (.arraylength, 1) := by decide +kernel
theorem dX5_setNumbered_10 : decode cX5_setNumbered 10 = .ok (.if_icmp .ge 30, 3) := by decide +kernel
theorem dX5_setNumbered_13 : decode cX5_setNumbered 13 = .ok (.aload_n 0, 1) := by decide +kernel
theorem dX5_setNumbered_14 : decode cX5_setNumbered 14 = .ok (.getfield 9, 3) := by decide +kernel
theorem dX5_setNumbered_17 : decode cX5_setNumbered 17 = .ok (.iload_n 3, 1) := by decide +kernel
theorem dX5_setNumbered_18 : decode cX5_setNumbered 18 = .ok (.laload, 1) := by decide +kernel
theorem dX5_setNumbered_19 : decode cX5_setNumbered 19 = .ok (.lconst 0, 1) := by decide +kernel
theorem dX5_setNumbered_20 : decode cX5_setNumbered 20 = .ok (.lcmp, 1) := by decide +kernel
theorem dX5_setNumbered_21 : decode cX5_setNumbered 21 = .ok (.ifCond .le 13, 3) := by decide +kernel
theorem dX5_setNumbered_24 : decode cX5_setNumbered 24 = .ok (.iload_n 2, 1) := by decide +kernel
theorem dX5_setNumbered_25 : decode cX5_setNumbered 25 = .ok (.iinc 2 1, 3) := by decide +kernel
theorem dX5_setNumbered_28 : decode cX5_setNumbered 28 = .ok (.iload_n 1, 1) := by decide +kernel
theorem dX5_setNumbered_29 : decode cX5_setNumbered 29 = .ok (.if_icmp .ne 5, 3) := by decide +kernel
theorem dX5_setNumbered_32 : decode cX5_setNumbered 32 = .ok (.iload_n 3, 1) := by decide +kernel
theorem dX5_setNumbered_33 : decode cX5_setNumbered 33 = .ok (.ireturn, 1) := by decide +kernel
theorem dX5_setNumbered_34 : decode cX5_setNumbered 34 = .ok (.iinc 3 1, 3) := by decide +kernel
theorem dX5_setNumbered_37 : decode cX5_setNumbered 37 = .ok (.goto (-33), 3) := by decide +kernel
theorem dX5_setNumbered_40 : decode cX5_setNumbered 40 = .ok (.bipush (-9), 2) := by decide +kernel
theorem dX5_setNumbered_42 : decode cX5_setNumbered 42 = .ok (.ireturn, 1) := by decide +kernel
theorem dX5_inAll_0 : decode cX5_inAll 0 = .ok (.aload_n 0, 1) := by decide +kernel
theorem dX5_inAll_1 : decode cX5_inAll 1 = .ok (.getfield 22, 3) := by decide +kernel
theorem dX5_inAll_4 : decode cX5_inAll 4 = .ok (.invokestatic 108, 3) := by decide +kernel
theorem dX5_inAll_7 : decode cX5_inAll 7 = .ok (.istore_n 1, 1) := by decide +kernel
theorem dX5_inAll_8 : decode cX5_inAll 8 = .ok (.iconst 0, 1) := by decide +kernel
theorem dX5_inAll_9 : decode cX5_inAll 9 = .ok (.istore_n 2, 1) := by decide +kernel
theorem dX5_inAll_10 : decode cX5_inAll 10 = .ok (.iload_n 2, 1) := by decide +kernel
theorem dX5_inAll_11 : decode cX5_inAll 11 = .ok (.aload_n 0, 1) := by decide +kernel
theorem dX5_inAll_12 : decode cX5_inAll 12 = .ok (.getfield 9, 3) := by decide +kernel
theorem dX5_inAll_15 : decode cX5_inAll 15 = .ok (.arraylength, 1) := by decide +kernel
theorem dX5_inAll_16 : decode cX5_inAll 16 = .ok (.if_icmp .ge 28, 3) := by decide +kernel
theorem dX5_inAll_19 : decode cX5_inAll 19 = .ok (.iload_n 1, 1) := by decide +kernel
theorem dX5_inAll_20 : decode cX5_inAll 20 = .ok (.aload_n 0, 1) := by decide +kernel
theorem dX5_inAll_21 : decode cX5_inAll 21 = .ok (.getfield 9, 3) := by decide +kernel
theorem dX5_inAll_24 : decode cX5_inAll 24 = .ok (.iload_n 2, 1) := by decide +kernel
theorem dX5_inAll_25 : decode cX5_inAll 25 = .ok (.laload, 1) := by decide +kernel
theorem dX5_inAll_26 : decode cX5_inAll 26 = .ok (.lconst 0, 1) := by decide +kernel
theorem dX5_inAll_27 : decode cX5_inAll 27 = .ok (.lcmp, 1) := by decide +kernel
theorem dX5_inAll_28 : decode cX5_inAll 28 = .ok (.ifCond .le 7, 3) := by decide +kernel
theorem dX5_inAll_31 : decode cX5_inAll 31 = .ok (.iload_n 2, 1) := by decide +kernel
theorem dX5_inAll_32 : decode cX5_inAll 32 = .ok (.goto 4, 3) := by decide +kernel
theorem dX5_inAll_35 : decode cX5_inAll 35 = .ok (.iconst (-1), 1) := by decide +kernel
theorem dX5_inAll_36 : decode cX5_inAll 36 = .ok (.iand, 1) := by decide +kernel
theorem dX5_inAll_37 : decode cX5_inAll 37 = .ok (.istore_n 1, 1) := by decide +kernel
theorem dX5_inAll_38 : decode cX5_inAll 38 = .ok (.iinc 2 1, 3) := by decide +kernel
theorem dX5_inAll_41 : decode cX5_inAll 41 = .ok (.goto (-31), 3) := by decide +kernel
theorem dX5_inAll_44 : decode cX5_inAll 44 = .ok (.iload_n 1, 1) := by decide +kernel
theorem dX5_inAll_45 : decode cX5_inAll 45 = .ok (.ireturn, 1) := by decide +kernel
theorem dX5_inSome_0 : decode cX5_inSome 0 = .ok (.iconst 0, 1) := by decide +kernel
theorem dX5_inSome_1 : decode cX5_inSome 1 = .ok (.istore_n 1, 1) := by decide +kernel
theorem dX5_inSome_2 : decode cX5_inSome 2 = .ok (.iconst 0, 1) := by decide +kernel
theorem dX5_inSome_3 : decode cX5_inSome 3 = .ok (.istore_n 2, 1) := by decide +kernel
theorem dX5_inSome_4 : decode cX5_inSome 4 = .ok (.iload_n 2, 1) := by decide +kernel
theorem dX5_inSome_5 : decode cX5_inSome 5 = .ok (.aload_n 0, 1) := by decide +kernel
theorem dX5_inSome_6 : decode cX5_inSome 6 = .ok (.getfield 9, 3) := by decide +kernel
theorem dX5_inSome_9 : decode cX5_inSome 9 = .ok (.arraylength, 1) := by decide +kernel
theorem dX5_inSome_10 : decode cX5_inSome 10 = .ok (.if_icmp .ge 28, 3) := by decide +kernel
theorem dX5_inSome_13 : decode cX5_inSome 13 = .ok (.iload_n 1, 1) := by decide +kernel
theorem dX5_inSome_14 : decode cX5_inSome 14 = .ok (.aload_n 0, 1) := by decide +kernel
theorem dX5_inSome_15 : decode cX5_inSome 15 = .ok (.getfield 9, 3) := by decide +kernel
theorem dX5_inSome_18 : decode cX5_inSome 18 = .ok (.iload_n 2, 1) := by decide +kernel
theorem dX5_inSome_19 : decode cX5_inSome 19 = .ok (.laload, 1) := by decide +kernel
theorem dX5_inSome_20 : decode cX5_inSome 20 = .ok (.lconst 0, 1) := by decide +kernel
theorem dX5_inSome_21 : decode cX5_inSome 21 = .ok (.lcmp, 1) := by decide +kernel
theorem dX5_inSome_22 : decode cX5_inSome 22 = .ok (.ifCond .le 7, 3) := by decide +kernel
theorem dX5_inSome_25 : decode cX5_inSome 25 = .ok (.iload_n 2, 1) := by decide +kernel
theorem dX5_inSome_26 : decode cX5_inSome 26 = .ok (.goto 4, 3) := by decide +kernel
theorem dX5_inSome_29 : decode cX5_inSome 29 = .ok (.iconst 0, 1) := by decide +kernel
theorem dX5_inSome_30 : decode cX5_inSome 30 = .ok (.ior, 1) := by decide +kernel
theorem dX5_inSome_31 : decode cX5_inSome 31 = .ok (.istore_n 1, 1) := by decide +kernel
theorem dX5_inSome_32 : decode cX5_inSome 32 = .ok (.iinc 2 1, 3) := by decide +kernel
theorem dX5_inSome_35 : decode cX5_inSome 35 = .ok (.goto (-31), 3) := by decide +kernel
theorem dX5_inSome_38 : decode cX5_inSome 38 = .ok (.iload_n 1, 1) := by decide +kernel
theorem dX5_inSome_39 : decode cX5_inSome 39 = .ok (.ireturn, 1) := by decide +kernel
theorem dX5_bestSpoon_0 : decode cX5_bestSpoon 0 = .ok (.aload_n 0, 1) := by decide +kernel
theorem dX5_bestSpoon_1 : decode cX5_bestSpoon 1 = .ok (.invokevirtual 111, 3) := by decide +kernel
theorem dX5_bestSpoon_4 : decode cX5_bestSpoon 4 = .ok (.istore_n 2, 1) := by decide +kernel
theorem dX5_bestSpoon_5 : decode cX5_bestSpoon 5 = .ok (.bipush (-9), 2) := by decide +kernel
theorem dX5_bestSpoon_7 : decode cX5_bestSpoon 7 = .ok (.istore_n 3, 1) := by decide +kernel
theorem dX5_bestSpoon_8 : decode cX5_bestSpoon 8 = .ok (.bipush 65, 2) := by decide +kernel
theorem dX5_bestSpoon_10 : decode cX5_bestSpoon 10 = .ok (.istore 4, 2) := by decide +kernel
theorem dX5_bestSpoon_12 : decode cX5_bestSpoon 12 = .ok (.iconst 0, 1) := by decide +kernel
theorem dX5_bestSpoon_13 : decode cX5_bestSpoon 13 = .ok (.istore 5, 2) := by decide +kernel
theorem dX5_bestSpoon_15 : decode cX5_bestSpoon 15 = .ok (.iload 5, 2) := by decide +kernel
theorem dX5_bestSpoon_17 : decode cX5_bestSpoon 17 = .ok (.aload_n 0, 1) := by decide +kernel
theorem dX5_bestSpoon_18 : decode cX5_bestSpoon 18 = .ok (.getfield 22, 3) := by decide +kernel
theorem dX5_bestSpoon_21 : decode cX5_bestSpoon 21 = .ok (.if_icmp .ge 51, 3) := by decide +kernel
theorem dX5_bestSpoon_24 : decode cX5_bestSpoon 24 = .ok (.aload_n 0, 1) := by decide +kernel
theorem dX5_bestSpoon_25 : decode cX5_bestSpoon 25 = .ok (.iload 5, 2) := by decide +kernel
theorem dX5_bestSpoon_27 : decode cX5_bestSpoon 27 = .ok (.invokevirtual 115, 3) := by decide +kernel
theorem dX5_bestSpoon_30 : decode cX5_bestSpoon 30 = .ok (.istore 6, 2) := by decide +kernel
theorem dX5_bestSpoon_32 : decode cX5_bestSpoon 32 = .ok (.iload 6, 2) := by decide +kernel
theorem dX5_bestSpoon_34 : decode cX5_bestSpoon 34 = .ok (.iload_n 2, 1) := by decide +kernel
theorem dX5_bestSpoon_35 : decode cX5_bestSpoon 35 = .ok (.iload 6, 2) := by decide +kernel
theorem dX5_bestSpoon_37 : decode cX5_bestSpoon 37 = .ok (.isub, 1) := by decide +kernel
theorem dX5_bestSpoon_38 : decode cX5_bestSpoon 38 = .ok (.invokestatic 118, 3) := by decide +kernel
theorem dX5_bestSpoon_41 : decode cX5_bestSpoon 41 = .ok (.istore 7, 2) := by decide +kernel
theorem dX5_bestSpoon_43 : decode cX5_bestSpoon 43 = .ok (.iload_n 1, 1) := by decide +kernel
theorem dX5_bestSpoon_44 : decode cX5_bestSpoon 44 = .ok (.iload 5, 2) := by decide +kernel
theorem dX5_bestSpoon_46 : decode cX5_bestSpoon 46 = .ok (.invokestatic 70, 3) := by decide +kernel
theorem dX5_bestSpoon_49 : decode cX5_bestSpoon 49 = .ok (.ifCond .eq 17, 3) := by decide +kernel
theorem dX5_bestSpoon_52 : decode cX5_bestSpoon 52 = .ok (.iload 7, 2) := by decide +kernel
theorem dX5_bestSpoon_54 : decode cX5_bestSpoon 54 = .ok (.iload 4, 2) := by decide +kernel
theorem dX5_bestSpoon_56 : decode cX5_bestSpoon 56 = .ok (.if_icmp .ge 10, 3) := by decide +kernel
theorem dX5_bestSpoon_59 : decode cX5_bestSpoon 59 = .ok (.iload 5, 2) := by decide +kernel
theorem dX5_bestSpoon_61 : decode cX5_bestSpoon 61 = .ok (.istore_n 3, 1) := by decide +kernel
theorem dX5_bestSpoon_62 : decode cX5_bestSpoon 62 = .ok (.iload 7, 2) := by decide +kernel
theorem dX5_bestSpoon_64 : decode cX5_bestSpoon 64 = .ok (.istore 4, 2) := by decide +kernel
theorem dX5_bestSpoon_66 : decode cX5_bestSpoon 66 = .ok (.iinc 5 1, 3) := by decide +kernel
theorem dX5_bestSpoon_69 : decode cX5_bestSpoon 69 = .ok (.goto (-54), 3) := by decide +kernel
theorem dX5_bestSpoon_72 : decode cX5_bestSpoon 72 = .ok (.iload_n 3, 1) := by decide +kernel
theorem dX5_bestSpoon_73 : decode cX5_bestSpoon 73 = .ok (.ireturn, 1) := by decide +kernel
theorem dX5_spoonsAtWorst_0 : decode cX5_spoonsAtWorst 0 = .ok (.iconst 0, 1) := by decide +kernel
theorem dX5_spoonsAtWorst_1 : decode cX5_spoonsAtWorst 1 = .ok (.istore_n 1, 1) := by decide +kernel
theorem dX5_spoonsAtWorst_2 : decode cX5_spoonsAtWorst 2 = .ok (.iload_n 1, 1) := by decide +kernel
theorem dX5_spoonsAtWorst_3 : decode cX5_spoonsAtWorst 3 = .ok (.sipush 729, 3) := by decide +kernel
theorem dX5_spoonsAtWorst_6 : decode cX5_spoonsAtWorst 6 = .ok (.if_icmp .ge 14, 3) := by decide +kernel
theorem dX5_spoonsAtWorst_9 : decode cX5_spoonsAtWorst 9 = .ok (.aload_n 0, 1) := by decide +kernel
theorem dX5_spoonsAtWorst_10 : decode cX5_spoonsAtWorst 10 = .ok (.iload_n 1, 1) := by decide +kernel
theorem dX5_spoonsAtWorst_11 : decode cX5_spoonsAtWorst 11 = .ok (.invokevirtual 124, 3) := by decide +kernel
theorem dX5_spoonsAtWorst_14 : decode cX5_spoonsAtWorst 14 = .ok (.iinc 1 1, 3) := by decide +kernel
theorem dX5_spoonsAtWorst_17 : decode cX5_spoonsAtWorst 17 = .ok (.goto (-15), 3) := by decide +kernel
theorem dX5_spoonsAtWorst_20 : decode cX5_spoonsAtWorst 20 = .ok (.aload_n 0, 1) := by decide +kernel
theorem dX5_spoonsAtWorst_21 : decode cX5_spoonsAtWorst 21 = .ok (.getfield 19, 3) := by decide +kernel
theorem dX5_spoonsAtWorst_24 : decode cX5_spoonsAtWorst 24 = .ok (.sipush 728, 3) := by decide +kernel
theorem dX5_spoonsAtWorst_27 : decode cX5_spoonsAtWorst 27 = .ok (.invokestatic 128, 3) := by decide +kernel
theorem dX5_spoonsAtWorst_30 : decode cX5_spoonsAtWorst 30 = .ok (.ireturn, 1) := by decide +kernel
theorem dX5_fillCube_0 : decode cX5_fillCube 0 = .ok (.iconst 0, 1) := by decide +kernel
theorem dX5_fillCube_1 : decode cX5_fillCube 1 = .ok (.istore_n 2, 1) := by decide +kernel
theorem dX5_fillCube_2 : decode cX5_fillCube 2 = .ok (.iconst (-1), 1) := by decide +kernel
theorem dX5_fillCube_3 : decode cX5_fillCube 3 = .ok (.istore_n 3, 1) := by decide +kernel
theorem dX5_fillCube_4 : decode cX5_fillCube 4 = .ok (.bipush 6, 2) := by decide +kernel
theorem dX5_fillCube_6 : decode cX5_fillCube 6 = .ok (.istore 4, 2) := by decide +kernel
theorem dX5_fillCube_8 : decode cX5_fillCube 8 = .ok (.iload_n 1, 1) := by decide +kernel
theorem dX5_fillCube_9 : decode cX5_fillCube 9 = .ok (.istore 5, 2) := by decide +kernel
theorem dX5_fillCube_11 : decode cX5_fillCube 11 = .ok (.iconst 1, 1) := by decide +kernel
theorem dX5_fillCube_12 : decode cX5_fillCube 12 = .ok (.istore 6, 2) := by decide +kernel
theorem dX5_fillCube_14 : decode cX5_fillCube 14 = .ok (.iconst 0, 1) := by decide +kernel
theorem dX5_fillCube_15 : decode cX5_fillCube 15 = .ok (.istore 7, 2) := by decide +kernel
theorem dX5_fillCube_17 : decode cX5_fillCube 17 = .ok (.iload 7, 2) := by decide +kernel
theorem dX5_fillCube_19 : decode cX5_fillCube 19 = .ok (.bipush 6, 2) := by decide +kernel
theorem dX5_fillCube_21 : decode cX5_fillCube 21 = .ok (.if_icmp .ge 111, 3) := by decide +kernel
theorem dX5_fillCube_24 : decode cX5_fillCube 24 = .ok (.iload 5, 2) := by decide +kernel
theorem dX5_fillCube_26 : decode cX5_fillCube 26 = .ok (.iconst 3, 1) := by decide +kernel
theorem dX5_fillCube_27 : decode cX5_fillCube 27 = .ok (.irem, 1) := by decide +kernel
theorem dX5_fillCube_28 : decode cX5_fillCube 28 = .ok (.istore 8, 2) := by decide +kernel
theorem dX5_fillCube_30 : decode cX5_fillCube 30 = .ok (.iload 8, 2) := by decide +kernel
theorem dX5_fillCube_32 : decode cX5_fillCube 32 = .ok (.iconst 1, 1) := by decide +kernel
theorem dX5_fillCube_33 : decode cX5_fillCube 33 = .ok (.if_icmp .ne 11, 3) := by decide +kernel
theorem dX5_fillCube_36 : decode cX5_fillCube 36 = .ok (.iload_n 2, 1) := by decide +kernel
theorem dX5_fillCube_37 : decode cX5_fillCube 37 = .ok (.iload 7, 2) := by decide +kernel
theorem dX5_fillCube_39 : decode cX5_fillCube 39 = .ok (.invokestatic 77, 3) := by decide +kernel
theorem dX5_fillCube_42 : decode cX5_fillCube 42 = .ok (.ior, 1) := by decide +kernel
theorem dX5_fillCube_43 : decode cX5_fillCube 43 = .ok (.istore_n 2, 1) := by decide +kernel
theorem dX5_fillCube_44 : decode cX5_fillCube 44 = .ok (.iload 8, 2) := by decide +kernel
theorem dX5_fillCube_46 : decode cX5_fillCube 46 = .ok (.iconst 2, 1) := by decide +kernel
theorem dX5_fillCube_47 : decode cX5_fillCube 47 = .ok (.if_icmp .ne 67, 3) := by decide +kernel
theorem dX5_fillCube_50 : decode cX5_fillCube 50 = .ok (.iload_n 1, 1) := by decide +kernel
theorem dX5_fillCube_51 : decode cX5_fillCube 51 = .ok (.iconst 2, 1) := by decide +kernel
theorem dX5_fillCube_52 : decode cX5_fillCube 52 = .ok (.iload 6, 2) := by decide +kernel
theorem dX5_fillCube_54 : decode cX5_fillCube 54 = .ok (.imul, 1) := by decide +kernel
theorem dX5_fillCube_55 : decode cX5_fillCube 55 = .ok (.isub, 1) := by decide +kernel
theorem dX5_fillCube_56 : decode cX5_fillCube 56 = .ok (.istore 9, 2) := by decide +kernel
theorem dX5_fillCube_58 : decode cX5_fillCube 58 = .ok (.iload_n 1, 1) := by decide +kernel
theorem dX5_fillCube_59 : decode cX5_fillCube 59 = .ok (.iload 6, 2) := by decide +kernel
theorem dX5_fillCube_61 : decode cX5_fillCube 61 = .ok (.isub, 1) := by decide +kernel
theorem dX5_fillCube_62 : decode cX5_fillCube 62 = .ok (.istore 10, 2) := by decide +kernel
theorem dX5_fillCube_64 : decode cX5_fillCube 64 = .ok (.aload_n 0, 1) := by decide +kernel
theorem dX5_fillCube_65 : decode cX5_fillCube 65 = .ok (.getfield 15, 3) := by decide +kernel
theorem dX5_fillCube_68 : decode cX5_fillCube 68 = .ok (.iload 9, 2) := by decide +kernel
theorem dX5_fillCube_70 : decode cX5_fillCube 70 = .ok (.invokestatic 128, 3) := by decide +kernel
theorem dX5_fillCube_73 : decode cX5_fillCube 73 = .ok (.aload_n 0, 1) := by decide +kernel
theorem dX5_fillCube_74 : decode cX5_fillCube 74 = .ok (.getfield 15, 3) := by decide +kernel
theorem dX5_fillCube_77 : decode cX5_fillCube 77 = .ok (.iload 10, 2) := by decide +kernel
theorem dX5_fillCube_79 : decode cX5_fillCube 79 = .ok (.invokestatic 128, 3) := by decide +kernel
theorem dX5_fillCube_82 : decode cX5_fillCube 82 = .ok (.iadd, 1) := by decide +kernel
theorem dX5_fillCube_83 : decode cX5_fillCube 83 = .ok (.istore_n 3, 1) := by decide +kernel
theorem dX5_fillCube_84 : decode cX5_fillCube 84 = .ok (.iload 4, 2) := by decide +kernel
theorem dX5_fillCube_86 : decode cX5_fillCube 86 = .ok (.iconst 1, 1) := by decide +kernel
theorem dX5_fillCube_87 : decode cX5_fillCube 87 = .ok (.aload_n 0, 1) := by decide +kernel
theorem dX5_fillCube_88 : decode cX5_fillCube 88 = .ok (.getfield 19, 3) := by decide +kernel
theorem dX5_fillCube_91 : decode cX5_fillCube 91 = .ok (.iload 9, 2) := by decide +kernel
theorem dX5_fillCube_93 : decode cX5_fillCube 93 = .ok (.invokestatic 128, 3) := by decide +kernel
theorem dX5_fillCube_96 : decode cX5_fillCube 96 = .ok (.aload_n 0, 1) := by decide +kernel
theorem dX5_fillCube_97 : decode cX5_fillCube 97 = .ok (.getfield 19, 3) := by decide +kernel
theorem dX5_fillCube_100 : decode cX5_fillCube 100 = .ok (.iload 10, 2) := by decide +kernel
theorem dX5_fillCube_102 : decode cX5_fillCube 102 = .ok (.invokestatic 128, 3) := by decide +kernel
theorem dX5_fillCube_105 : decode cX5_fillCube 105 = .ok (.invokestatic 118, 3) := by decide +kernel
theorem dX5_fillCube_108 : decode cX5_fillCube 108 = .ok (.iadd, 1) := by decide +kernel
theorem dX5_fillCube_109 : decode cX5_fillCube 109 = .ok (.invokestatic 132, 3) := by decide +kernel
theorem dX5_fillCube_112 : decode cX5_fillCube 112 = .ok (.istore 4, 2) := by decide +kernel
theorem dX5_fillCube_114 : decode cX5_fillCube 114 = .ok (.iload 5, 2) := by decide +kernel
theorem dX5_fillCube_116 : decode cX5_fillCube 116 = .ok (.iconst 3, 1) := by decide +kernel
theorem dX5_fillCube_117 : decode cX5_fillCube 117 = .ok (.idiv, 1) := by decide +kernel
theorem dX5_fillCube_118 : decode cX5_fillCube 118 = .ok (.istore 5, 2) := by decide +kernel
theorem dX5_fillCube_120 : decode cX5_fillCube 120 = .ok (.iload 6, 2) := by decide +kernel
theorem dX5_fillCube_122 : decode cX5_fillCube 122 = .ok (.iconst 3, 1) := by decide +kernel
theorem dX5_fillCube_123 : decode cX5_fillCube 123 = .ok (.imul, 1) := by decide +kernel
theorem dX5_fillCube_124 : decode cX5_fillCube 124 = .ok (.istore 6, 2) := by decide +kernel
theorem dX5_fillCube_126 : decode cX5_fillCube 126 = .ok (.iinc 7 1, 3) := by decide +kernel
theorem dX5_fillCube_129 : decode cX5_fillCube 129 = .ok (.goto (-112), 3) := by decide +kernel
theorem dX5_fillCube_132 : decode cX5_fillCube 132 = .ok (.iload_n 3, 1) := by decide +kernel
theorem dX5_fillCube_133 : decode cX5_fillCube 133 = .ok (.ifCond .ge 29, 3) := by decide +kernel
theorem dX5_fillCube_136 : decode cX5_fillCube 136 = .ok (.iload_n 2, 1) := by decide +kernel
theorem dX5_fillCube_137 : decode cX5_fillCube 137 = .ok (.aload_n 0, 1) := by decide +kernel
theorem dX5_fillCube_138 : decode cX5_fillCube 138 = .ok (.getfield 9, 3) := by decide +kernel
theorem dX5_fillCube_141 : decode cX5_fillCube 141 = .ok (.arraylength, 1) := by decide +kernel
theorem dX5_fillCube_142 : decode cX5_fillCube 142 = .ok (.if_icmp .ge 18, 3) := by decide +kernel
theorem dX5_fillCube_145 : decode cX5_fillCube 145 = .ok (.aload_n 0, 1) := by decide +kernel
theorem dX5_fillCube_146 : decode cX5_fillCube 146 = .ok (.getfield 9, 3) := by decide +kernel
theorem dX5_fillCube_149 : decode cX5_fillCube 149 = .ok (.iload_n 2, 1) := by decide +kernel
theorem dX5_fillCube_150 : decode cX5_fillCube 150 = .ok (.laload, 1) := by decide +kernel
theorem dX5_fillCube_151 : decode cX5_fillCube 151 = .ok (.lconst 0, 1) := by decide +kernel
theorem dX5_fillCube_152 : decode cX5_fillCube 152 = .ok (.lcmp, 1) := by decide +kernel
theorem dX5_fillCube_153 : decode cX5_fillCube 153 = .ok (.ifCond .le 7, 3) := by decide +kernel
theorem dX5_fillCube_156 : decode cX5_fillCube 156 = .ok (.iconst 1, 1) := by decide +kernel
theorem dX5_fillCube_157 : decode cX5_fillCube 157 = .ok (.goto 4, 3) := by decide +kernel
theorem dX5_fillCube_160 : decode cX5_fillCube 160 = .ok (.iconst 0, 1) := by decide +kernel
theorem dX5_fillCube_161 : decode cX5_fillCube 161 = .ok (.istore_n 3, 1) := by decide +kernel
theorem dX5_fillCube_162 : decode cX5_fillCube 162 = .ok (.aload_n 0, 1) := by decide +kernel
theorem dX5_fillCube_163 : decode cX5_fillCube 163 = .ok (.getfield 15, 3) := by decide +kernel
theorem dX5_fillCube_166 : decode cX5_fillCube 166 = .ok (.iload_n 1, 1) := by decide +kernel
theorem dX5_fillCube_167 : decode cX5_fillCube 167 = .ok (.iload_n 3, 1) := by decide +kernel
theorem dX5_fillCube_168 : decode cX5_fillCube 168 = .ok (.invokestatic 135, 3) := by decide +kernel
theorem dX5_fillCube_171 : decode cX5_fillCube 171 = .ok (.aload_n 0, 1) := by decide +kernel
theorem dX5_fillCube_172 : decode cX5_fillCube 172 = .ok (.getfield 19, 3) := by decide +kernel
theorem dX5_fillCube_175 : decode cX5_fillCube 175 = .ok (.iload_n 1, 1) := by decide +kernel
theorem dX5_fillCube_176 : decode cX5_fillCube 176 = .ok (.iload_n 3, 1) := by decide +kernel
theorem dX5_fillCube_177 : decode cX5_fillCube 177 = .ok (.iconst 1, 1) := by decide +kernel
theorem dX5_fillCube_178 : decode cX5_fillCube 178 = .ok (.if_icmp .gt 7, 3) := by decide +kernel
theorem dX5_fillCube_181 : decode cX5_fillCube 181 = .ok (.iconst 0, 1) := by decide +kernel
theorem dX5_fillCube_182 : decode cX5_fillCube 182 = .ok (.goto 5, 3) := by decide +kernel
theorem dX5_fillCube_185 : decode cX5_fillCube 185 = .ok (.iload 4, 2) := by decide +kernel
theorem dX5_fillCube_187 : decode cX5_fillCube 187 = .ok (.invokestatic 135, 3) := by decide +kernel
theorem dX5_fillCube_190 : decode cX5_fillCube 190 = .ok (.return_, 1) := by decide +kernel
theorem dX6_init_0 : decode cX6_init 0 = .ok (.aload_n 0, 1) := by decide +kernel
theorem dX6_init_1 : decode cX6_init 1 = .ok (.invokespecial 3, 3) := by decide +kernel
theorem dX6_init_4 : decode cX6_init 4 = .ok (.aload_n 0, 1) := by decide +kernel
theorem dX6_init_5 : decode cX6_init 5 = .ok (.bipush 96, 2) := by decide +kernel
theorem dX6_init_7 : decode cX6_init 7 = .ok (.newarray .byte, 2) := by decide +kernel
theorem dX6_init_9 : decode cX6_init 9 = .ok (.putfield 9, 3) := by decide +kernel
theorem dX6_init_12 : decode cX6_init 12 = .ok (.aload_n 0, 1) := by decide +kernel
theorem dX6_init_13 : decode cX6_init 13 = .ok (.iconst 0, 1) := by decide +kernel
theorem dX6_init_14 : decode cX6_init 14 = .ok (.putfield 15, 3) := by decide +kernel
theorem dX6_init_17 : decode cX6_init 17 = .ok (.return_, 1) := by decide +kernel
theorem dX6_append_0 : decode cX6_append 0 = .ok (.aload_n 0, 1) := by decide +kernel
theorem dX6_append_1 : decode cX6_append 1 = .ok (.getfield 15, 3) := by decide +kernel
theorem dX6_append_4 : decode cX6_append 4 = .ok (.ifCond .lt 36, 3) := by decide +kernel
theorem dX6_append_7 : decode cX6_append 7 = .ok (.aload_n 0, 1) := by decide +kernel
theorem dX6_append_8 : decode cX6_append 8 = .ok (.getfield 15, 3) := by decide +kernel
theorem dX6_append_11 : decode cX6_append 11 = .ok (.aload_n 0, 1) := by decide +kernel
theorem dX6_append_12 : decode cX6_append 12 = .ok (.getfield 9, 3) := by decide +kernel
theorem dX6_append_15 : decode cX6_append 15 = .ok (.arraylength, 1) := by decide +kernel
theorem dX6_append_16 : decode cX6_append 16 = .ok (.if_icmp .ge 24, 3) := by decide +kernel
theorem dX6_append_19 : decode cX6_append 19 = .ok (.aload_n 0, 1) := by decide +kernel
theorem dX6_append_20 : decode cX6_append 20 = .ok (.getfield 9, 3) := by decide +kernel
theorem dX6_append_23 : decode cX6_append 23 = .ok (.aload_n 0, 1) := by decide +kernel
theorem dX6_append_24 : decode cX6_append 24 = .ok (.getfield 15, 3) := by decide +kernel
theorem dX6_append_27 : decode cX6_append 27 = .ok (.iload_n 1, 1) := by decide +kernel
theorem dX6_append_28 : decode cX6_append 28 = .ok (.i2b, 1) := by decide +kernel
theorem dX6_append_29 : decode cX6_append 29 = .ok (.bastore, 1) := by decide +kernel
theorem dX6_append_30 : decode cX6_append 30 = .ok (.aload_n 0, 1) := by decide +kernel
theorem dX6_append_31 : decode cX6_append 31 = .ok (.dup, 1) := by decide +kernel
theorem dX6_append_32 : decode cX6_append 32 = .ok (.getfield 15, 3) := by decide +kernel
theorem dX6_append_35 : decode cX6_append 35 = .ok (.iconst 1, 1) := by decide +kernel
theorem dX6_append_36 : decode cX6_append 36 = .ok (.iadd, 1) := by decide +kernel
theorem dX6_append_37 : decode cX6_append 37 = .ok (.putfield 15, 3) := by decide +kernel
theorem dX6_append_40 : decode cX6_append 40 = .ok (.return_, 1) := by decide +kernel
theorem dX6_byteAt_0 : decode cX6_byteAt 0 = .ok (.iload_n 1, 1) := by decide +kernel
theorem dX6_byteAt_1 : decode cX6_byteAt 1 = .ok (.ifCond .lt 33, 3) := by decide +kernel
theorem dX6_byteAt_4 : decode cX6_byteAt 4 = .ok (.iload_n 1, 1) := by decide +kernel
theorem dX6_byteAt_5 : decode cX6_byteAt 5 = .ok (.aload_n 0, 1) := by decide +kernel
theorem dX6_byteAt_6 : decode cX6_byteAt 6 = .ok (.getfield 15, 3) := by decide +kernel
theorem dX6_byteAt_9 : decode cX6_byteAt 9 = .ok (.if_icmp .ge 25, 3) := by decide +kernel
theorem dX6_byteAt_12 : decode cX6_byteAt 12 = .ok (.iload_n 1, 1) := by decide +kernel
theorem dX6_byteAt_13 : decode cX6_byteAt 13 = .ok (.aload_n 0, 1) := by decide +kernel
theorem dX6_byteAt_14 : decode cX6_byteAt 14 = .ok (.getfield 9, 3) := by decide +kernel
theorem dX6_byteAt_17 : decode cX6_byteAt 17 = .ok (.arraylength, 1) := by decide +kernel
theorem dX6_byteAt_18 : decode cX6_byteAt 18 = .ok (.if_icmp .ge 16, 3) := by decide +kernel
theorem dX6_byteAt_21 : decode cX6_byteAt 21 = .ok (.aload_n 0, 1) := by decide +kernel
theorem dX6_byteAt_22 : decode cX6_byteAt 22 = .ok (.getfield 9, 3) := by decide +kernel
theorem dX6_byteAt_25 : decode cX6_byteAt 25 = .ok (.iload_n 1, 1) := by decide +kernel
theorem dX6_byteAt_26 : decode cX6_byteAt 26 = .ok (.baload, 1) := by decide +kernel
theorem dX6_byteAt_27 : decode cX6_byteAt 27 = .ok (.sipush 255, 3) := by decide +kernel
theorem dX6_byteAt_30 : decode cX6_byteAt 30 = .ok (.iand, 1) := by decide +kernel
theorem dX6_byteAt_31 : decode cX6_byteAt 31 = .ok (.goto 5, 3) := by decide +kernel
theorem dX6_byteAt_34 : decode cX6_byteAt 34 = .ok (.bipush (-9), 2) := by decide +kernel
theorem dX6_byteAt_36 : decode cX6_byteAt 36 = .ok (.ireturn, 1) := by decide +kernel
theorem dX7_init_0 : decode cX7_init 0 = .ok (.aload_n 0, 1) := by decide +kernel
theorem dX7_init_1 : decode cX7_init 1 = .ok (.invokespecial 3, 3) := by decide +kernel
theorem dX7_init_4 : decode cX7_init 4 = .ok (.aload_n 0, 1) := by decide +kernel
theorem dX7_init_5 : decode cX7_init 5 = .ok (.iconst 0, 1) := by decide +kernel
theorem dX7_init_6 : decode cX7_init 6 = .ok (.putfield 9, 3) := by decide +kernel
theorem dX7_init_9 : decode cX7_init 9 = .ok (.aload_n 0, 1) := by decide +kernel
theorem dX7_init_10 : decode cX7_init 10 = .ok (.iconst 0, 1) := by decide +kernel
theorem dX7_init_11 : decode cX7_init 11 = .ok (.putfield 15, 3) := by decide +kernel
theorem dX7_init_14 : decode cX7_init 14 = .ok (.aload_n 0, 1) := by decide +kernel
theorem dX7_init_15 : decode cX7_init 15 = .ok (.iconst 0, 1) := by decide +kernel
theorem dX7_init_16 : decode cX7_init 16 = .ok (.putfield 18, 3) := by decide +kernel
theorem dX7_init_19 : decode cX7_init 19 = .ok (.aload_n 0, 1) := by decide +kernel
theorem dX7_init_20 : decode cX7_init 20 = .ok (.lconst 0, 1) := by decide +kernel
theorem dX7_init_21 : decode cX7_init 21 = .ok (.putfield 21, 3) := by decide +kernel
theorem dX7_init_24 : decode cX7_init 24 = .ok (.aload_n 0, 1) := by decide +kernel
theorem dX7_init_25 : decode cX7_init 25 = .ok (.lconst 0, 1) := by decide +kernel
theorem dX7_init_26 : decode cX7_init 26 = .ok (.putfield 25, 3) := by decide +kernel
theorem dX7_init_29 : decode cX7_init 29 = .ok (.aload_n 0, 1) := by decide +kernel
theorem dX7_init_30 : decode cX7_init 30 = .ok (.lconst 0, 1) := by decide +kernel
theorem dX7_init_31 : decode cX7_init 31 = .ok (.putfield 28, 3) := by decide +kernel
theorem dX7_init_34 : decode cX7_init 34 = .ok (.aload_n 0, 1) := by decide +kernel
theorem dX7_init_35 : decode cX7_init 35 = .ok (.lconst 0, 1) := by decide +kernel
theorem dX7_init_36 : decode cX7_init 36 = .ok (.putfield 31, 3) := by decide +kernel
theorem dX7_init_39 : decode cX7_init 39 = .ok (.aload_n 0, 1) := by decide +kernel
theorem dX7_init_40 : decode cX7_init 40 = .ok (.lconst 0, 1) := by decide +kernel
theorem dX7_init_41 : decode cX7_init 41 = .ok (.putfield 34, 3) := by decide +kernel
theorem dX7_init_44 : decode cX7_init 44 = .ok (.aload_n 0, 1) := by decide +kernel
theorem dX7_init_45 : decode cX7_init 45 = .ok (.iconst 0, 1) := by decide +kernel
theorem dX7_init_46 : decode cX7_init 46 = .ok (.putfield 37, 3) := by decide +kernel
theorem dX7_init_49 : decode cX7_init 49 = .ok (.aload_n 0, 1) := by decide +kernel
theorem dX7_init_50 : decode cX7_init 50 = .ok (.iconst 0, 1) := by decide +kernel
theorem dX7_init_51 : decode cX7_init 51 = .ok (.putfield 40, 3) := by decide +kernel
theorem dX7_init_54 : decode cX7_init 54 = .ok (.aload_n 0, 1) := by decide +kernel
theorem dX7_init_55 : decode cX7_init 55 = .ok (.iconst 0, 1) := by decide +kernel
theorem dX7_init_56 : decode cX7_init 56 = .ok (.putfield 43, 3) := by decide +kernel
theorem dX7_init_59 : decode cX7_init 59 = .ok (.return_, 1) := by decide +kernel
theorem dX7_addHouse_0 : decode cX7_addHouse 0 = .ok (.aload_n 0, 1) := by decide +kernel
theorem dX7_addHouse_1 : decode cX7_addHouse 1 = .ok (.aload_n 0, 1) := by decide +kernel
theorem dX7_addHouse_2 : decode cX7_addHouse 2 = .ok (.getfield 34, 3) := by decide +kernel
theorem dX7_addHouse_5 : decode cX7_addHouse 5 = .ok (.aload_n 0, 1) := by decide +kernel
theorem dX7_addHouse_6 : decode cX7_addHouse 6 = .ok (.getfield 9, 3) := by decide +kernel
theorem dX7_addHouse_9 : decode cX7_addHouse 9 = .ok (.iload_n 1, 1) := by decide +kernel
theorem dX7_addHouse_10 : decode cX7_addHouse 10 = .ok (.invokestatic 46, 3) := by decide +kernel
theorem dX7_addHouse_13 : decode cX7_addHouse 13 = .ok (.putfield 34, 3) := by decide +kernel
theorem dX7_addHouse_16 : decode cX7_addHouse 16 = .ok (.iload_n 2, 1) := by decide +kernel
theorem dX7_addHouse_17 : decode cX7_addHouse 17 = .ok (.iconst 1, 1) := by decide +kernel
theorem dX7_addHouse_18 : decode cX7_addHouse 18 = .ok (.if_icmp .ne 19, 3) := by decide +kernel
theorem dX7_addHouse_21 : decode cX7_addHouse 21 = .ok (.aload_n 0, 1) := by decide +kernel
theorem dX7_addHouse_22 : decode cX7_addHouse 22 = .ok (.dup, 1) := by decide +kernel
theorem dX7_addHouse_23 : decode cX7_addHouse 23 = .ok (.getfield 37, 3) := by decide +kernel
theorem dX7_addHouse_26 : decode cX7_addHouse 26 = .ok (.aload_n 0, 1) := by decide +kernel
theorem dX7_addHouse_27 : decode cX7_addHouse 27 = .ok (.getfield 9, 3) := by decide +kernel
theorem dX7_addHouse_30 : decode cX7_addHouse 30 = .ok (.invokestatic 50, 3) := by decide +kernel
theorem dX7_addHouse_33 : decode cX7_addHouse 33 = .ok (.ior, 1) := by decide +kernel
theorem dX7_addHouse_34 : decode cX7_addHouse 34 = .ok (.putfield 37, 3) := by decide +kernel
theorem dX7_addHouse_37 : decode cX7_addHouse 37 = .ok (.iload_n 2, 1) := by decide +kernel
theorem dX7_addHouse_38 : decode cX7_addHouse 38 = .ok (.iconst 2, 1) := by decide +kernel
theorem dX7_addHouse_39 : decode cX7_addHouse 39 = .ok (.if_icmp .ne 19, 3) := by decide +kernel
theorem dX7_addHouse_42 : decode cX7_addHouse 42 = .ok (.aload_n 0, 1) := by decide +kernel
theorem dX7_addHouse_43 : decode cX7_addHouse 43 = .ok (.dup, 1) := by decide +kernel
theorem dX7_addHouse_44 : decode cX7_addHouse 44 = .ok (.getfield 40, 3) := by decide +kernel
theorem dX7_addHouse_47 : decode cX7_addHouse 47 = .ok (.aload_n 0, 1) := by decide +kernel
theorem dX7_addHouse_48 : decode cX7_addHouse 48 = .ok (.getfield 9, 3) := by decide +kernel
theorem dX7_addHouse_51 : decode cX7_addHouse 51 = .ok (.invokestatic 50, 3) := by decide +kernel
theorem dX7_addHouse_54 : decode cX7_addHouse 54 = .ok (.ior, 1) := by decide +kernel
theorem dX7_addHouse_55 : decode cX7_addHouse 55 = .ok (.putfield 40, 3) := by decide +kernel
theorem dX7_addHouse_58 : decode cX7_addHouse 58 = .ok (.aload_n 0, 1) := by decide +kernel
theorem dX7_addHouse_59 : decode cX7_addHouse 59 = .ok (.dup, 1) := by decide +kernel
theorem dX7_addHouse_60 : decode cX7_addHouse 60 = .ok (.getfield 9, 3) := by decide +kernel
theorem dX7_addHouse_63 : decode cX7_addHouse 63 = .ok (.iconst 1, 1) := by decide +kernel
theorem dX7_addHouse_64 : decode cX7_addHouse 64 = .ok (.iadd, 1) := by decide +kernel
theorem dX7_addHouse_65 : decode cX7_addHouse 65 = .ok (.putfield 9, 3) := by decide +kernel
theorem dX7_addHouse_68 : decode cX7_addHouse 68 = .ok (.return_, 1) := by decide +kernel
theorem dX7_addPath_0 : decode cX7_addPath 0 = .ok (.aload_n 0, 1) := by decide +kernel
theorem dX7_addPath_1 : decode cX7_addPath 1 = .ok (.aload_n 0, 1) := by decide +kernel
theorem dX7_addPath_2 : decode cX7_addPath 2 = .ok (.getfield 21, 3) := by decide +kernel
theorem dX7_addPath_5 : decode cX7_addPath 5 = .ok (.iload_n 1, 1) := by decide +kernel
theorem dX7_addPath_6 : decode cX7_addPath 6 = .ok (.iload_n 2, 1) := by decide +kernel
theorem dX7_addPath_7 : decode cX7_addPath 7 = .ok (.invokestatic 54, 3) := by decide +kernel
theorem dX7_addPath_10 : decode cX7_addPath 10 = .ok (.putfield 21, 3) := by decide +kernel
theorem dX7_addPath_13 : decode cX7_addPath 13 = .ok (.iload_n 3, 1) := by decide +kernel
theorem dX7_addPath_14 : decode cX7_addPath 14 = .ok (.ifCond .eq 16, 3) := by decide +kernel
theorem dX7_addPath_17 : decode cX7_addPath 17 = .ok (.aload_n 0, 1) := by decide +kernel
theorem dX7_addPath_18 : decode cX7_addPath 18 = .ok (.aload_n 0, 1) := by decide +kernel
theorem dX7_addPath_19 : decode cX7_addPath 19 = .ok (.getfield 25, 3) := by decide +kernel
theorem dX7_addPath_22 : decode cX7_addPath 22 = .ok (.iload_n 1, 1) := by decide +kernel
theorem dX7_addPath_23 : decode cX7_addPath 23 = .ok (.iload_n 2, 1) := by decide +kernel
theorem dX7_addPath_24 : decode cX7_addPath 24 = .ok (.invokestatic 54, 3) := by decide +kernel
theorem dX7_addPath_27 : decode cX7_addPath 27 = .ok (.putfield 25, 3) := by decide +kernel
theorem dX7_addPath_30 : decode cX7_addPath 30 = .ok (.aload_n 0, 1) := by decide +kernel
theorem dX7_addPath_31 : decode cX7_addPath 31 = .ok (.dup, 1) := by decide +kernel
theorem dX7_addPath_32 : decode cX7_addPath 32 = .ok (.getfield 18, 3) := by decide +kernel
theorem dX7_addPath_35 : decode cX7_addPath 35 = .ok (.iconst 1, 1) := by decide +kernel
theorem dX7_addPath_36 : decode cX7_addPath 36 = .ok (.iadd, 1) := by decide +kernel
theorem dX7_addPath_37 : decode cX7_addPath 37 = .ok (.putfield 18, 3) := by decide +kernel
theorem dX7_addPath_40 : decode cX7_addPath 40 = .ok (.return_, 1) := by decide +kernel
theorem dX7_addPerson_0 : decode cX7_addPerson 0 = .ok (.aload_n 0, 1) := by decide +kernel
theorem dX7_addPerson_1 : decode cX7_addPerson 1 = .ok (.aload_n 0, 1) := by decide +kernel
theorem dX7_addPerson_2 : decode cX7_addPerson 2 = .ok (.getfield 28, 3) := by decide +kernel
theorem dX7_addPerson_5 : decode cX7_addPerson 5 = .ok (.aload_n 0, 1) := by decide +kernel
theorem dX7_addPerson_6 : decode cX7_addPerson 6 = .ok (.getfield 15, 3) := by decide +kernel
theorem dX7_addPerson_9 : decode cX7_addPerson 9 = .ok (.iload_n 1, 1) := by decide +kernel
theorem dX7_addPerson_10 : decode cX7_addPerson 10 = .ok (.invokestatic 46, 3) := by decide +kernel
theorem dX7_addPerson_13 : decode cX7_addPerson 13 = .ok (.putfield 28, 3) := by decide +kernel
theorem dX7_addPerson_16 : decode cX7_addPerson 16 = .ok (.iload_n 2, 1) := by decide +kernel
theorem dX7_addPerson_17 : decode cX7_addPerson 17 = .ok (.ifCond .eq 19, 3) := by decide +kernel
theorem dX7_addPerson_20 : decode cX7_addPerson 20 = .ok (.aload_n 0, 1) := by decide +kernel
theorem dX7_addPerson_21 : decode cX7_addPerson 21 = .ok (.dup, 1) := by decide +kernel
theorem dX7_addPerson_22 : decode cX7_addPerson 22 = .ok (.getfield 43, 3) := by decide +kernel
theorem dX7_addPerson_25 : decode cX7_addPerson 25 = .ok (.aload_n 0, 1) := by decide +kernel
theorem dX7_addPerson_26 : decode cX7_addPerson 26 = .ok (.getfield 15, 3) := by decide +kernel
theorem dX7_addPerson_29 : decode cX7_addPerson 29 = .ok (.invokestatic 50, 3) := by decide +kernel
theorem dX7_addPerson_32 : decode cX7_addPerson 32 = .ok (.ior, 1) := by decide +kernel
theorem dX7_addPerson_33 : decode cX7_addPerson 33 = .ok (.putfield 43, 3) := by decide +kernel
theorem dX7_addPerson_36 : decode cX7_addPerson 36 = .ok (.aload_n 0, 1) := by decide +kernel
theorem dX7_addPerson_37 : decode cX7_addPerson 37 = .ok (.dup, 1) := by decide +kernel
theorem dX7_addPerson_38 : decode cX7_addPerson 38 = .ok (.getfield 15, 3) := by decide +kernel
theorem dX7_addPerson_41 : decode cX7_addPerson 41 = .ok (.iconst 1, 1) := by decide +kernel
theorem dX7_addPerson_42 : decode cX7_addPerson 42 = .ok (.iadd, 1) := by decide +kernel
theorem dX7_addPerson_43 : decode cX7_addPerson 43 = .ok (.putfield 15, 3) := by decide +kernel
theorem dX7_addPerson_46 : decode cX7_addPerson 46 = .ok (.return_, 1) := by decide +kernel
theorem dX7_addKin_0 : decode cX7_addKin 0 = .ok (.aload_n 0, 1) := by decide +kernel
theorem dX7_addKin_1 : decode cX7_addKin 1 = .ok (.aload_n 0, 1) := by decide +kernel
theorem dX7_addKin_2 : decode cX7_addKin 2 = .ok (.getfield 31, 3) := by decide +kernel
theorem dX7_addKin_5 : decode cX7_addKin 5 = .ok (.iload_n 1, 1) := by decide +kernel
theorem dX7_addKin_6 : decode cX7_addKin 6 = .ok (.iload_n 2, 1) := by decide +kernel
theorem dX7_addKin_7 : decode cX7_addKin 7 = .ok (.invokestatic 54, 3) := by decide +kernel
theorem dX7_addKin_10 : decode cX7_addKin 10 = .ok (.putfield 31, 3) := by decide +kernel
theorem dX7_addKin_13 : decode cX7_addKin 13 = .ok (.return_, 1) := by decide +kernel
theorem dX7_dwellers_0 : decode cX7_dwellers 0 = .ok (.iconst 0, 1) := by decide +kernel
theorem dX7_dwellers_1 : decode cX7_dwellers 1 = .ok (.istore_n 2, 1) := by decide +kernel
theorem dX7_dwellers_2 : decode cX7_dwellers 2 = .ok (.iconst 0, 1) := by decide +kernel
theorem dX7_dwellers_3 : decode cX7_dwellers 3 = .ok (.istore_n 3, 1) := by decide +kernel
theorem dX7_dwellers_4 : decode cX7_dwellers 4 = .ok (.iload_n 3, 1) := by decide +kernel
theorem dX7_dwellers_5 : decode cX7_dwellers 5 = .ok (.aload_n 0, 1) := by decide +kernel
theorem dX7_dwellers_6 : decode cX7_dwellers 6 = .ok (.getfield 15, 3) := by decide +kernel
theorem dX7_dwellers_9 : decode cX7_dwellers 9 = .ok (.if_icmp .ge 28, 3) := by decide +kernel
theorem dX7_dwellers_12 : decode cX7_dwellers 12 = .ok (.aload_n 0, 1) := by decide +kernel
theorem dX7_dwellers_13 : decode cX7_dwellers 13 = .ok (.getfield 28, 3) := by decide +kernel
theorem dX7_dwellers_16 : decode cX7_dwellers 16 = .ok (.iload_n 3, 1) := by decide +kernel
theorem dX7_dwellers_17 : decode cX7_dwellers 17 = .ok (.invokestatic 57, 3) := by decide +kernel
theorem dX7_dwellers_20 : decode cX7_dwellers 20 = .ok (.iload_n 1, 1) := by decide +kernel
theorem dX7_dwellers_21 : decode cX7_dwellers 21 = .ok (.if_icmp .ne 10, 3) := by decide +kernel
theorem dX7_dwellers_24 : decode cX7_dwellers 24 = .ok (.iload_n 2, 1) := by decide +kernel
theorem dX7_dwellers_25 : decode cX7_dwellers 25 = .ok (.iload_n 3, 1) := by decide +kernel
theorem dX7_dwellers_26 : decode cX7_dwellers 26 = .ok (.invokestatic 50, 3) := by decide +kernel
theorem dX7_dwellers_29 : decode cX7_dwellers 29 = .ok (.ior, 1) := by decide +kernel
theorem dX7_dwellers_30 : decode cX7_dwellers 30 = .ok (.istore_n 2, 1) := by decide +kernel
theorem dX7_dwellers_31 : decode cX7_dwellers 31 = .ok (.iinc 3 1, 3) := by decide +kernel
theorem dX7_dwellers_34 : decode cX7_dwellers 34 = .ok (.goto (-30), 3) := by decide +kernel
theorem dX7_dwellers_37 : decode cX7_dwellers 37 = .ok (.iload_n 2, 1) := by decide +kernel
theorem dX7_dwellers_38 : decode cX7_dwellers 38 = .ok (.ireturn, 1) := by decide +kernel
theorem dX7_linked_0 : decode cX7_linked 0 = .ok (.lload_n 0, 1) := by decide +kernel
theorem dX7_linked_1 : decode cX7_linked 1 = .ok (.iload_n 2, 1) := by decide +kernel
theorem dX7_linked_2 : decode cX7_linked 2 = .ok (.lload_n 0, 1) := by decide +kernel
theorem dX7_linked_3 : decode cX7_linked 3 = .ok (.iload_n 2, 1) := by decide +kernel
theorem dX7_linked_4 : decode cX7_linked 4 = .ok (.invokestatic 57, 3) := by decide +kernel
theorem dX7_linked_7 : decode cX7_linked 7 = .ok (.iload_n 3, 1) := by decide +kernel
theorem dX7_linked_8 : decode cX7_linked 8 = .ok (.invokestatic 50, 3) := by decide +kernel
theorem dX7_linked_11 : decode cX7_linked 11 = .ok (.ior, 1) := by decide +kernel
theorem dX7_linked_12 : decode cX7_linked 12 = .ok (.invokestatic 46, 3) := by decide +kernel
theorem dX7_linked_15 : decode cX7_linked 15 = .ok (.lstore 4, 2) := by decide +kernel
theorem dX7_linked_17 : decode cX7_linked 17 = .ok (.lload 4, 2) := by decide +kernel
theorem dX7_linked_19 : decode cX7_linked 19 = .ok (.iload_n 3, 1) := by decide +kernel
theorem dX7_linked_20 : decode cX7_linked 20 = .ok (.lload 4, 2) := by decide +kernel
theorem dX7_linked_22 : decode cX7_linked 22 = .ok (.iload_n 3, 1) := by decide +kernel
theorem dX7_linked_23 : decode cX7_linked 23 = .ok (.invokestatic 57, 3) := by decide +kernel
theorem dX7_linked_26 : decode cX7_linked 26 = .ok (.iload_n 2, 1) := by decide +kernel
theorem dX7_linked_27 : decode cX7_linked 27 = .ok (.invokestatic 50, 3) := by decide +kernel
theorem dX7_linked_30 : decode cX7_linked 30 = .ok (.ior, 1) := by decide +kernel
theorem dX7_linked_31 : decode cX7_linked 31 = .ok (.invokestatic 46, 3) := by decide +kernel
theorem dX7_linked_34 : decode cX7_linked 34 = .ok (.lreturn, 1) := by decide +kernel
theorem dX8_init_0 : decode cX8_init 0 = .ok (.aload_n 0, 1) := by decide +kernel
theorem dX8_init_1 : decode cX8_init 1 = .ok (.invokespecial 1, 3) := by decide +kernel
theorem dX8_init_4 : decode cX8_init 4 = .ok (.aload_n 0, 1) := by decide +kernel
theorem dX8_init_5 : decode cX8_init 5 = .ok (.new 7, 3) := by decide +kernel
theorem dX8_init_8 : decode cX8_init 8 = .ok (.dup, 1) := by decide +kernel
theorem dX8_init_9 : decode cX8_init 9 = .ok (.invokespecial 9, 3) := by decide +kernel
theorem dX8_init_12 : decode cX8_init 12 = .ok (.putfield 10, 3) := by decide +kernel
theorem dX8_init_15 : decode cX8_init 15 = .ok (.aload_n 0, 1) := by decide +kernel
theorem dX8_init_16 : decode cX8_init 16 = .ok (.new 16, 3) := by decide +kernel
theorem dX8_init_19 : decode cX8_init 19 = .ok (.dup, 1) := by decide +kernel
theorem dX8_init_20 : decode cX8_init 20 = .ok (.invokespecial 18, 3) := by decide +kernel
theorem dX8_init_23 : decode cX8_init 23 = .ok (.putfield 19, 3) := by decide +kernel
theorem dX8_init_26 : decode cX8_init 26 = .ok (.aload_n 0, 1) := by decide +kernel
theorem dX8_init_27 : decode cX8_init 27 = .ok (.new 23, 3) := by decide +kernel
theorem dX8_init_30 : decode cX8_init 30 = .ok (.dup, 1) := by decide +kernel
theorem dX8_init_31 : decode cX8_init 31 = .ok (.invokespecial 25, 3) := by decide +kernel
theorem dX8_init_34 : decode cX8_init 34 = .ok (.putfield 26, 3) := by decide +kernel
theorem dX8_init_37 : decode cX8_init 37 = .ok (.aload_n 0, 1) := by decide +kernel
theorem dX8_init_38 : decode cX8_init 38 = .ok (.new 23, 3) := by decide +kernel
theorem dX8_init_41 : decode cX8_init 41 = .ok (.dup, 1) := by decide +kernel
theorem dX8_init_42 : decode cX8_init 42 = .ok (.invokespecial 25, 3) := by decide +kernel
theorem dX8_init_45 : decode cX8_init 45 = .ok (.putfield 30, 3) := by decide +kernel
theorem dX8_init_48 : decode cX8_init 48 = .ok (.aload_n 0, 1) := by decide +kernel
theorem dX8_init_49 : decode cX8_init 49 = .ok (.new 33, 3) := by decide +kernel
theorem dX8_init_52 : decode cX8_init 52 = .ok (.dup, 1) := by decide +kernel
theorem dX8_init_53 : decode cX8_init 53 = .ok (.invokespecial 35, 3) := by decide +kernel
theorem dX8_init_56 : decode cX8_init 56 = .ok (.putfield 36, 3) := by decide +kernel
theorem dX8_init_59 : decode cX8_init 59 = .ok (.aload_n 0, 1) := by decide +kernel
theorem dX8_init_60 : decode cX8_init 60 = .ok (.iconst 2, 1) := by decide +kernel
theorem dX8_init_61 : decode cX8_init 61 = .ok (.anewarray 23, 3) := by decide +kernel
theorem dX8_init_64 : decode cX8_init 64 = .ok (.putfield 40, 3) := by decide +kernel
theorem dX8_init_67 : decode cX8_init 67 = .ok (.aload_n 0, 1) := by decide +kernel
theorem dX8_init_68 : decode cX8_init 68 = .ok (.iconst 0, 1) := by decide +kernel
theorem dX8_init_69 : decode cX8_init 69 = .ok (.putfield 44, 3) := by decide +kernel
theorem dX8_init_72 : decode cX8_init 72 = .ok (.aload_n 0, 1) := by decide +kernel
theorem dX8_init_73 : decode cX8_init 73 = .ok (.new 48, 3) := by decide +kernel
theorem dX8_init_76 : decode cX8_init 76 = .ok (.dup, 1) := by decide +kernel
theorem dX8_init_77 : decode cX8_init 77 = .ok (.invokespecial 50, 3) := by decide +kernel
theorem dX8_init_80 : decode cX8_init 80 = .ok (.putfield 51, 3) := by decide +kernel
theorem dX8_init_83 : decode cX8_init 83 = .ok (.aload_n 0, 1) := by decide +kernel
theorem dX8_init_84 : decode cX8_init 84 = .ok (.new 55, 3) := by decide +kernel
theorem dX8_init_87 : decode cX8_init 87 = .ok (.dup, 1) := by decide +kernel
theorem dX8_init_88 : decode cX8_init 88 = .ok (.invokespecial 57, 3) := by decide +kernel
theorem dX8_init_91 : decode cX8_init 91 = .ok (.putfield 58, 3) := by decide +kernel
theorem dX8_init_94 : decode cX8_init 94 = .ok (.aload_n 0, 1) := by decide +kernel
theorem dX8_init_95 : decode cX8_init 95 = .ok (.new 62, 3) := by decide +kernel
theorem dX8_init_98 : decode cX8_init 98 = .ok (.dup, 1) := by decide +kernel
theorem dX8_init_99 : decode cX8_init 99 = .ok (.invokespecial 64, 3) := by decide +kernel
theorem dX8_init_102 : decode cX8_init 102 = .ok (.putfield 65, 3) := by decide +kernel
theorem dX8_init_105 : decode cX8_init 105 = .ok (.aload_n 0, 1) := by decide +kernel
theorem dX8_init_106 : decode cX8_init 106 = .ok (.lconst 0, 1) := by decide +kernel
theorem dX8_init_107 : decode cX8_init 107 = .ok (.putfield 69, 3) := by decide +kernel
theorem dX8_init_110 : decode cX8_init 110 = .ok (.aload_n 0, 1) := by decide +kernel
theorem dX8_init_111 : decode cX8_init 111 = .ok (.getfield 40, 3) := by decide +kernel
theorem dX8_init_114 : decode cX8_init 114 = .ok (.invokestatic 73, 3) := by decide +kernel
theorem dX8_init_117 : decode cX8_init 117 = .ok (.return_, 1) := by decide +kernel
theorem dX8_write_0 : decode cX8_write 0 = .ok (.iload_n 1, 1) := by decide +kernel
theorem dX8_write_1 : decode cX8_write 1 = .ok (.iconst 1, 1) := by decide +kernel
theorem dX8_write_2 : decode cX8_write 2 = .ok (.if_icmp .lt 9, 3) := by decide +kernel
theorem dX8_write_5 : decode cX8_write 5 = .ok (.iload_n 1, 1) := by decide +kernel
theorem dX8_write_6 : decode cX8_write 6 = .ok (.bipush 8, 2) := by decide +kernel
theorem dX8_write_8 : decode cX8_write 8 = .ok (.if_icmp .le 6, 3) := by decide +kernel
theorem dX8_write_11 : decode cX8_write 11 = .ok (.bipush (-2), 2) := by decide +kernel
theorem dX8_write_13 : decode cX8_write 13 = .ok (.ireturn, 1) := by decide +kernel
theorem dX8_write_14 : decode cX8_write 14 = .ok (.aload_n 0, 1) := by decide +kernel
theorem dX8_write_15 : decode cX8_write 15 = .ok (.getfield 10, 3) := by decide +kernel
theorem dX8_write_18 : decode cX8_write 18 = .ok (.getfield 77, 3) := by decide +kernel
theorem dX8_write_21 : decode cX8_write 21 = .ok (.iload_n 1, 1) := by decide +kernel
theorem dX8_write_22 : decode cX8_write 22 = .ok (.iadd, 1) := by decide +kernel
theorem dX8_write_23 : decode cX8_write 23 = .ok (.bipush 96, 2) := by decide +kernel
theorem dX8_write_25 : decode cX8_write 25 = .ok (.if_icmp .le 6, 3) := by decide +kernel
theorem dX8_write_28 : decode cX8_write 28 = .ok (.bipush (-4), 2) := by decide +kernel
theorem dX8_write_30 : decode cX8_write 30 = .ok (.ireturn, 1) := by decide +kernel
theorem dX8_write_31 : decode cX8_write 31 = .ok (.iload_n 1, 1) := by decide +kernel
theorem dX8_write_32 : decode cX8_write 32 = .ok (.iconst 1, 1) := by decide +kernel
theorem dX8_write_33 : decode cX8_write 33 = .ok (.isub, 1) := by decide +kernel
theorem dX8_write_34 : decode cX8_write 34 = .ok (.istore 4, 2) := by decide +kernel
theorem dX8_write_36 : decode cX8_write 36 = .ok (.iload 4, 2) := by decide +kernel
theorem dX8_write_38 : decode cX8_write 38 = .ok (.ifCond .lt 28, 3) := by decide +kernel
theorem dX8_write_41 : decode cX8_write 41 = .ok (.aload_n 0, 1) := by decide +kernel
theorem dX8_write_42 : decode cX8_write 42 = .ok (.getfield 10, 3) := by decide +kernel
theorem dX8_write_45 : decode cX8_write 45 = .ok (.lload_n 2, 1) := by decide +kernel
theorem dX8_write_46 : decode cX8_write 46 = .ok (.bipush 8, 2) := by decide +kernel
theorem dX8_write_48 : decode cX8_write 48 = .ok (.iload 4, 2) := by decide +kernel
theorem dX8_write_50 : decode cX8_write 50 = .ok (.imul, 1) := by decide +kernel
theorem dX8_write_51 : decode cX8_write 51 = .ok (.lushr, 1) := by decide +kernel
theorem dX8_write_52 : decode cX8_write 52 = .ok (.l2i, 1) := by decide +kernel
theorem dX8_write_53 : decode cX8_write 53 = .ok (.sipush 255, 3) := by decide +kernel
theorem dX8_write_56 : decode cX8_write 56 = .ok (.iand, 1) := by decide +kernel
theorem dX8_write_57 : decode cX8_write 57 = .ok (.invokevirtual 80, 3) := by decide +kernel
theorem dX8_write_60 : decode cX8_write 60 = .ok (.iinc 4 (-1), 3) := by decide +kernel
theorem dX8_write_63 : decode cX8_write 63 = .ok (.goto (-27), 3) := by decide +kernel
theorem dX8_write_66 : decode cX8_write 66 = .ok (.aload_n 0, 1) := by decide +kernel
theorem dX8_write_67 : decode cX8_write 67 = .ok (.getfield 10, 3) := by decide +kernel
theorem dX8_write_70 : decode cX8_write 70 = .ok (.getfield 77, 3) := by decide +kernel
theorem dX8_write_73 : decode cX8_write 73 = .ok (.ireturn, 1) := by decide +kernel
theorem dX8_wipe_0 : decode cX8_wipe 0 = .ok (.aload_n 0, 1) := by decide +kernel
theorem dX8_wipe_1 : decode cX8_wipe 1 = .ok (.getfield 10, 3) := by decide +kernel
theorem dX8_wipe_4 : decode cX8_wipe 4 = .ok (.getfield 77, 3) := by decide +kernel
theorem dX8_wipe_7 : decode cX8_wipe 7 = .ok (.istore_n 1, 1) := by decide +kernel
theorem dX8_wipe_8 : decode cX8_wipe 8 = .ok (.aload_n 0, 1) := by decide +kernel
theorem dX8_wipe_9 : decode cX8_wipe 9 = .ok (.getfield 10, 3) := by decide +kernel
theorem dX8_wipe_12 : decode cX8_wipe 12 = .ok (.iconst 0, 1) := by decide +kernel
theorem dX8_wipe_13 : decode cX8_wipe 13 = .ok (.putfield 77, 3) := by decide +kernel
theorem dX8_wipe_16 : decode cX8_wipe 16 = .ok (.iload_n 1, 1) := by decide +kernel
theorem dX8_wipe_17 : decode cX8_wipe 17 = .ok (.ireturn, 1) := by decide +kernel
theorem dX8_fault_0 : decode cX8_fault 0 = .ok (.new 84, 3) := by decide +kernel
theorem dX8_fault_3 : decode cX8_fault 3 = .ok (.dup, 1) := by decide +kernel
theorem dX8_fault_4 : decode cX8_fault 4 = .ok (.aload_n 0, 1) := by decide +kernel
theorem dX8_fault_5 : decode cX8_fault 5 = .ok (.getfield 10, 3) := by decide +kernel
theorem dX8_fault_8 : decode cX8_fault 8 = .ok (.invokespecial 86, 3) := by decide +kernel
theorem dX8_fault_11 : decode cX8_fault 11 = .ok (.invokevirtual 89, 3) := by decide +kernel
theorem dX8_fault_14 : decode cX8_fault 14 = .ok (.ireturn, 1) := by decide +kernel
theorem dX8_village_0 : decode cX8_village 0 = .ok (.new 84, 3) := by decide +kernel
theorem dX8_village_3 : decode cX8_village 3 = .ok (.dup, 1) := by decide +kernel
theorem dX8_village_4 : decode cX8_village 4 = .ok (.aload_n 0, 1) := by decide +kernel
theorem dX8_village_5 : decode cX8_village 5 = .ok (.getfield 10, 3) := by decide +kernel
theorem dX8_village_8 : decode cX8_village 8 = .ok (.invokespecial 86, 3) := by decide +kernel
theorem dX8_village_11 : decode cX8_village 11 = .ok (.astore_n 1, 1) := by decide +kernel
theorem dX8_village_12 : decode cX8_village 12 = .ok (.aload_n 1, 1) := by decide +kernel
theorem dX8_village_13 : decode cX8_village 13 = .ok (.invokevirtual 89, 3) := by decide +kernel
theorem dX8_village_16 : decode cX8_village 16 = .ok (.bipush (-9), 2) := by decide +kernel
theorem dX8_village_18 : decode cX8_village 18 = .ok (.if_icmp .eq 6, 3) := by decide +kernel
theorem dX8_village_21 : decode cX8_village 21 = .ok (.bipush (-3), 2) := by decide +kernel
theorem dX8_village_23 : decode cX8_village 23 = .ok (.ireturn, 1) := by decide +kernel
theorem dX8_village_24 : decode cX8_village 24 = .ok (.aload_n 0, 1) := by decide +kernel
theorem dX8_village_25 : decode cX8_village 25 = .ok (.aload_n 1, 1) := by decide +kernel
theorem dX8_village_26 : decode cX8_village 26 = .ok (.getfield 93, 3) := by decide +kernel
theorem dX8_village_29 : decode cX8_village 29 = .ok (.putfield 19, 3) := by decide +kernel
theorem dX8_village_32 : decode cX8_village 32 = .ok (.aload_n 0, 1) := by decide +kernel
theorem dX8_village_33 : decode cX8_village 33 = .ok (.getfield 26, 3) := by decide +kernel
theorem dX8_village_36 : decode cX8_village 36 = .ok (.aload_n 0, 1) := by decide +kernel
theorem dX8_village_37 : decode cX8_village 37 = .ok (.getfield 19, 3) := by decide +kernel
theorem dX8_village_40 : decode cX8_village 40 = .ok (.invokevirtual 94, 3) := by decide +kernel
theorem dX8_village_43 : decode cX8_village 43 = .ok (.aload_n 0, 1) := by decide +kernel
theorem dX8_village_44 : decode cX8_village 44 = .ok (.getfield 36, 3) := by decide +kernel
theorem dX8_village_47 : decode cX8_village 47 = .ok (.invokevirtual 98, 3) := by decide +kernel
theorem dX8_village_50 : decode cX8_village 50 = .ok (.aload_n 0, 1) := by decide +kernel
theorem dX8_village_51 : decode cX8_village 51 = .ok (.iconst 0, 1) := by decide +kernel
theorem dX8_village_52 : decode cX8_village 52 = .ok (.putfield 44, 3) := by decide +kernel
theorem dX8_village_55 : decode cX8_village 55 = .ok (.bipush 10, 2) := by decide +kernel
theorem dX8_village_57 : decode cX8_village 57 = .ok (.aload_n 0, 1) := by decide +kernel
theorem dX8_village_58 : decode cX8_village 58 = .ok (.getfield 19, 3) := by decide +kernel
theorem dX8_village_61 : decode cX8_village 61 = .ok (.getfield 101, 3) := by decide +kernel
theorem dX8_village_64 : decode cX8_village 64 = .ok (.imul, 1) := by decide +kernel
theorem dX8_village_65 : decode cX8_village 65 = .ok (.aload_n 0, 1) := by decide +kernel
theorem dX8_village_66 : decode cX8_village 66 = .ok (.getfield 19, 3) := by decide +kernel
theorem dX8_village_69 : decode cX8_village 69 = .ok (.getfield 104, 3) := by decide +kernel
theorem dX8_village_72 : decode cX8_village 72 = .ok (.iadd, 1) := by decide +kernel
theorem dX8_village_73 : decode cX8_village 73 = .ok (.ireturn, 1) := by decide +kernel
theorem dX8_house_0 : decode cX8_house 0 = .ok (.aload_n 0, 1) := by decide +kernel
theorem dX8_house_1 : decode cX8_house 1 = .ok (.iload_n 1, 1) := by decide +kernel
theorem dX8_house_2 : decode cX8_house 2 = .ok (.invokevirtual 107, 3) := by decide +kernel
theorem dX8_house_5 : decode cX8_house 5 = .ok (.ifCond .eq 5, 3) := by decide +kernel
theorem dX8_house_8 : decode cX8_house 8 = .ok (.iconst (-1), 1) := by decide +kernel
theorem dX8_house_9 : decode cX8_house 9 = .ok (.ireturn, 1) := by decide +kernel
theorem dX8_house_10 : decode cX8_house 10 = .ok (.iload_n 2, 1) := by decide +kernel
theorem dX8_house_11 : decode cX8_house 11 = .ok (.tableswitch 103 0 5 #[37, 49, 58, 70, 79, 91], 37) := by decide +kernel
theorem dX8_house_48 : decode cX8_house 48 = .ok (.aload_n 0, 1) := by decide +kernel
theorem dX8_house_49 : decode cX8_house 49 = .ok (.getfield 26, 3) := by decide +kernel
theorem dX8_house_52 : decode cX8_house 52 = .ok (.getfield 111, 3) := by decide +kernel
theorem dX8_house_55 : decode cX8_house 55 = .ok (.iload_n 1, 1) := by decide +kernel
theorem dX8_house_56 : decode cX8_house 56 = .ok (.invokestatic 114, 3) := by decide +kernel
theorem dX8_house_59 : decode cX8_house 59 = .ok (.ireturn, 1) := by decide +kernel
theorem dX8_house_60 : decode cX8_house 60 = .ok (.aload_n 0, 1) := by decide +kernel
theorem dX8_house_61 : decode cX8_house 61 = .ok (.getfield 26, 3) := by decide +kernel
theorem dX8_house_64 : decode cX8_house 64 = .ok (.iload_n 1, 1) := by decide +kernel
theorem dX8_house_65 : decode cX8_house 65 = .ok (.invokevirtual 118, 3) := by decide +kernel
theorem dX8_house_68 : decode cX8_house 68 = .ok (.ireturn, 1) := by decide +kernel
theorem dX8_house_69 : decode cX8_house 69 = .ok (.aload_n 0, 1) := by decide +kernel
theorem dX8_house_70 : decode cX8_house 70 = .ok (.getfield 26, 3) := by decide +kernel
theorem dX8_house_73 : decode cX8_house 73 = .ok (.getfield 122, 3) := by decide +kernel
theorem dX8_house_76 : decode cX8_house 76 = .ok (.iload_n 1, 1) := by decide +kernel
theorem dX8_house_77 : decode cX8_house 77 = .ok (.invokestatic 114, 3) := by decide +kernel
theorem dX8_house_80 : decode cX8_house 80 = .ok (.ireturn, 1) := by decide +kernel
theorem dX8_house_81 : decode cX8_house 81 = .ok (.aload_n 0, 1) := by decide +kernel
theorem dX8_house_82 : decode cX8_house 82 = .ok (.getfield 19, 3) := by decide +kernel
theorem dX8_house_85 : decode cX8_house 85 = .ok (.iload_n 1, 1) := by decide +kernel
theorem dX8_house_86 : decode cX8_house 86 = .ok (.invokevirtual 125, 3) := by decide +kernel
theorem dX8_house_89 : decode cX8_house 89 = .ok (.ireturn, 1) := by decide +kernel
theorem dX8_house_90 : decode cX8_house 90 = .ok (.aload_n 0, 1) := by decide +kernel
theorem dX8_house_91 : decode cX8_house 91 = .ok (.getfield 19, 3) := by decide +kernel
theorem dX8_house_94 : decode cX8_house 94 = .ok (.getfield 128, 3) := by decide +kernel
theorem dX8_house_97 : decode cX8_house 97 = .ok (.iload_n 1, 1) := by decide +kernel
theorem dX8_house_98 : decode cX8_house 98 = .ok (.invokestatic 114, 3) := by decide +kernel
theorem dX8_house_101 : decode cX8_house 101 = .ok (.ireturn, 1) := by decide +kernel
theorem dX8_house_102 : decode cX8_house 102 = .ok (.aload_n 0, 1) := by decide +kernel
theorem dX8_house_103 : decode cX8_house 103 = .ok (.getfield 19, 3) := by decide +kernel
theorem dX8_house_106 : decode cX8_house 106 = .ok (.getfield 131, 3) := by decide +kernel
theorem dX8_house_109 : decode cX8_house 109 = .ok (.iload_n 1, 1) := by decide +kernel
theorem dX8_house_110 : decode cX8_house 110 = .ok (.invokestatic 114, 3) := by decide +kernel
theorem dX8_house_113 : decode cX8_house 113 = .ok (.ireturn, 1) := by decide +kernel
theorem dX8_house_114 : decode cX8_house 114 = .ok (.bipush (-2), 2) := by decide +kernel
theorem dX8_house_116 : decode cX8_house 116 = .ok (.ireturn, 1) := by decide +kernel
theorem dX8_person_0 : decode cX8_person 0 = .ok (.aload_n 0, 1) := by decide +kernel
theorem dX8_person_1 : decode cX8_person 1 = .ok (.iload_n 1, 1) := by decide +kernel
theorem dX8_person_2 : decode cX8_person 2 = .ok (.invokevirtual 134, 3) := by decide +kernel
theorem dX8_person_5 : decode cX8_person 5 = .ok (.ifCond .eq 5, 3) := by decide +kernel
theorem dX8_person_8 : decode cX8_person 8 = .ok (.iconst (-1), 1) := by decide +kernel
theorem dX8_person_9 : decode cX8_person 9 = .ok (.ireturn, 1) := by decide +kernel
theorem dX8_person_10 : decode cX8_person 10 = .ok (.iload_n 2, 1) := by decide +kernel
theorem dX8_person_11 : decode cX8_person 11 = .ok (.tableswitch 122 0 6 #[41, 53, 65, 77, 89, 101, 110], 41) := by decide +kernel
theorem dX8_person_52 : decode cX8_person 52 = .ok (.aload_n 0, 1) := by decide +kernel
theorem dX8_person_53 : decode cX8_person 53 = .ok (.getfield 19, 3) := by decide +kernel
theorem dX8_person_56 : decode cX8_person 56 = .ok (.getfield 137, 3) := by decide +kernel
theorem dX8_person_59 : decode cX8_person 59 = .ok (.iload_n 1, 1) := by decide +kernel
theorem dX8_person_60 : decode cX8_person 60 = .ok (.invokestatic 114, 3) := by decide +kernel
theorem dX8_person_63 : decode cX8_person 63 = .ok (.ireturn, 1) := by decide +kernel
theorem dX8_person_64 : decode cX8_person 64 = .ok (.aload_n 0, 1) := by decide +kernel
theorem dX8_person_65 : decode cX8_person 65 = .ok (.getfield 26, 3) := by decide +kernel
theorem dX8_person_68 : decode cX8_person 68 = .ok (.getfield 140, 3) := by decide +kernel
theorem dX8_person_71 : decode cX8_person 71 = .ok (.iload_n 1, 1) := by decide +kernel
theorem dX8_person_72 : decode cX8_person 72 = .ok (.invokestatic 143, 3) := by decide +kernel
theorem dX8_person_75 : decode cX8_person 75 = .ok (.ireturn, 1) := by decide +kernel
theorem dX8_person_76 : decode cX8_person 76 = .ok (.aload_n 0, 1) := by decide +kernel
theorem dX8_person_77 : decode cX8_person 77 = .ok (.getfield 26, 3) := by decide +kernel
theorem dX8_person_80 : decode cX8_person 80 = .ok (.getfield 147, 3) := by decide +kernel
theorem dX8_person_83 : decode cX8_person 83 = .ok (.iload_n 1, 1) := by decide +kernel
theorem dX8_person_84 : decode cX8_person 84 = .ok (.invokestatic 143, 3) := by decide +kernel
theorem dX8_person_87 : decode cX8_person 87 = .ok (.ireturn, 1) := by decide +kernel
theorem dX8_person_88 : decode cX8_person 88 = .ok (.aload_n 0, 1) := by decide +kernel
theorem dX8_person_89 : decode cX8_person 89 = .ok (.getfield 26, 3) := by decide +kernel
theorem dX8_person_92 : decode cX8_person 92 = .ok (.getfield 150, 3) := by decide +kernel
theorem dX8_person_95 : decode cX8_person 95 = .ok (.iload_n 1, 1) := by decide +kernel
theorem dX8_person_96 : decode cX8_person 96 = .ok (.invokestatic 143, 3) := by decide +kernel
theorem dX8_person_99 : decode cX8_person 99 = .ok (.ireturn, 1) := by decide +kernel
theorem dX8_person_100 : decode cX8_person 100 = .ok (.aload_n 0, 1) := by decide +kernel
theorem dX8_person_101 : decode cX8_person 101 = .ok (.getfield 26, 3) := by decide +kernel
theorem dX8_person_104 : decode cX8_person 104 = .ok (.getfield 153, 3) := by decide +kernel
theorem dX8_person_107 : decode cX8_person 107 = .ok (.iload_n 1, 1) := by decide +kernel
theorem dX8_person_108 : decode cX8_person 108 = .ok (.invokestatic 143, 3) := by decide +kernel
theorem dX8_person_111 : decode cX8_person 111 = .ok (.ireturn, 1) := by decide +kernel
theorem dX8_person_112 : decode cX8_person 112 = .ok (.aload_n 0, 1) := by decide +kernel
theorem dX8_person_113 : decode cX8_person 113 = .ok (.getfield 26, 3) := by decide +kernel
theorem dX8_person_116 : decode cX8_person 116 = .ok (.iload_n 1, 1) := by decide +kernel
theorem dX8_person_117 : decode cX8_person 117 = .ok (.invokevirtual 156, 3) := by decide +kernel
theorem dX8_person_120 : decode cX8_person 120 = .ok (.ireturn, 1) := by decide +kernel
theorem dX8_person_121 : decode cX8_person 121 = .ok (.aload_n 0, 1) := by decide +kernel
theorem dX8_person_122 : decode cX8_person 122 = .ok (.getfield 19, 3) := by decide +kernel
theorem dX8_person_125 : decode cX8_person 125 = .ok (.getfield 159, 3) := by decide +kernel
theorem dX8_person_128 : decode cX8_person 128 = .ok (.iload_n 1, 1) := by decide +kernel
theorem dX8_person_129 : decode cX8_person 129 = .ok (.invokestatic 114, 3) := by decide +kernel
theorem dX8_person_132 : decode cX8_person 132 = .ok (.ireturn, 1) := by decide +kernel
theorem dX8_person_133 : decode cX8_person 133 = .ok (.bipush (-2), 2) := by decide +kernel
theorem dX8_person_135 : decode cX8_person 135 = .ok (.ireturn, 1) := by decide +kernel
theorem dX8_may_0 : decode cX8_may 0 = .ok (.aload_n 0, 1) := by decide +kernel
theorem dX8_may_1 : decode cX8_may 1 = .ok (.iload_n 1, 1) := by decide +kernel
theorem dX8_may_2 : decode cX8_may 2 = .ok (.invokevirtual 134, 3) := by decide +kernel
theorem dX8_may_5 : decode cX8_may 5 = .ok (.ifCond .eq 7, 3) := by decide +kernel
theorem dX8_may_8 : decode cX8_may 8 = .ok (.iconst (-1), 1) := by decide +kernel
theorem dX8_may_9 : decode cX8_may 9 = .ok (.goto 15, 3) := by decide +kernel
theorem dX8_may_12 : decode cX8_may 12 = .ok (.aload_n 0, 1) := by decide +kernel
theorem dX8_may_13 : decode cX8_may 13 = .ok (.getfield 26, 3) := by decide +kernel
theorem dX8_may_16 : decode cX8_may 16 = .ok (.aload_n 0, 1) := by decide +kernel
theorem dX8_may_17 : decode cX8_may 17 = .ok (.getfield 19, 3) := by decide +kernel
theorem dX8_may_20 : decode cX8_may 20 = .ok (.iload_n 1, 1) := by decide +kernel
theorem dX8_may_21 : decode cX8_may 21 = .ok (.invokevirtual 162, 3) := by decide +kernel
theorem dX8_may_24 : decode cX8_may 24 = .ok (.ireturn, 1) := by decide +kernel
theorem dX8_prey_0 : decode cX8_prey 0 = .ok (.aload_n 0, 1) := by decide +kernel
theorem dX8_prey_1 : decode cX8_prey 1 = .ok (.iload_n 1, 1) := by decide +kernel
theorem dX8_prey_2 : decode cX8_prey 2 = .ok (.invokevirtual 134, 3) := by decide +kernel
theorem dX8_prey_5 : decode cX8_prey 5 = .ok (.ifCond .ne 11, 3) := by decide +kernel
theorem dX8_prey_8 : decode cX8_prey 8 = .ok (.aload_n 0, 1) := by decide +kernel
theorem dX8_prey_9 : decode cX8_prey 9 = .ok (.iload_n 2, 1) := by decide +kernel
theorem dX8_prey_10 : decode cX8_prey 10 = .ok (.invokevirtual 107, 3) := by decide +kernel
theorem dX8_prey_13 : decode cX8_prey 13 = .ok (.ifCond .eq 5, 3) := by decide +kernel
theorem dX8_prey_16 : decode cX8_prey 16 = .ok (.iconst (-1), 1) := by decide +kernel
theorem dX8_prey_17 : decode cX8_prey 17 = .ok (.ireturn, 1) := by decide +kernel
theorem dX8_prey_18 : decode cX8_prey 18 = .ok (.aload_n 0, 1) := by decide +kernel
theorem dX8_prey_19 : decode cX8_prey 19 = .ok (.getfield 26, 3) := by decide +kernel
theorem dX8_prey_22 : decode cX8_prey 22 = .ok (.aload_n 0, 1) := by decide +kernel
theorem dX8_prey_23 : decode cX8_prey 23 = .ok (.getfield 19, 3) := by decide +kernel
theorem dX8_prey_26 : decode cX8_prey 26 = .ok (.iload_n 1, 1) := by decide +kernel
theorem dX8_prey_27 : decode cX8_prey 27 = .ok (.invokevirtual 162, 3) := by decide +kernel
theorem dX8_prey_30 : decode cX8_prey 30 = .ok (.iload_n 2, 1) := by decide +kernel
theorem dX8_prey_31 : decode cX8_prey 31 = .ok (.invokestatic 166, 3) := by decide +kernel
theorem dX8_prey_34 : decode cX8_prey 34 = .ok (.ifCond .eq 19, 3) := by decide +kernel
theorem dX8_prey_37 : decode cX8_prey 37 = .ok (.aload_n 0, 1) := by decide +kernel
theorem dX8_prey_38 : decode cX8_prey 38 = .ok (.getfield 26, 3) := by decide +kernel
theorem dX8_prey_41 : decode cX8_prey 41 = .ok (.aload_n 0, 1) := by decide +kernel
theorem dX8_prey_42 : decode cX8_prey 42 = .ok (.getfield 19, 3) := by decide +kernel
theorem dX8_prey_45 : decode cX8_prey 45 = .ok (.iload_n 1, 1) := by decide +kernel
theorem dX8_prey_46 : decode cX8_prey 46 = .ok (.iload_n 2, 1) := by decide +kernel
theorem dX8_prey_47 : decode cX8_prey 47 = .ok (.invokevirtual 170, 3) := by decide +kernel
theorem dX8_prey_50 : decode cX8_prey 50 = .ok (.goto 5, 3) := by decide +kernel
theorem dX8_prey_53 : decode cX8_prey 53 = .ok (.bipush (-3), 2) := by decide +kernel
theorem dX8_prey_55 : decode cX8_prey 55 = .ok (.ireturn, 1) := by decide +kernel
theorem dX8_visit_0 : decode cX8_visit 0 = .ok (.aload_n 0, 1) := by decide +kernel
theorem dX8_visit_1 : decode cX8_visit 1 = .ok (.iload_n 1, 1) := by decide +kernel
theorem dX8_visit_2 : decode cX8_visit 2 = .ok (.invokevirtual 134, 3) := by decide +kernel
theorem dX8_visit_5 : decode cX8_visit 5 = .ok (.ifCond .ne 11, 3) := by decide +kernel
theorem dX8_visit_8 : decode cX8_visit 8 = .ok (.aload_n 0, 1) := by decide +kernel
theorem dX8_visit_9 : decode cX8_visit 9 = .ok (.iload_n 2, 1) := by decide +kernel
theorem dX8_visit_10 : decode cX8_visit 10 = .ok (.invokevirtual 107, 3) := by decide +kernel
theorem dX8_visit_13 : decode cX8_visit 13 = .ok (.ifCond .eq 5, 3) := by decide +kernel
theorem dX8_visit_16 : decode cX8_visit 16 = .ok (.iconst (-1), 1) := by decide +kernel
theorem dX8_visit_17 : decode cX8_visit 17 = .ok (.ireturn, 1) := by decide +kernel
theorem dX8_visit_18 : decode cX8_visit 18 = .ok (.aload_n 0, 1) := by decide +kernel
theorem dX8_visit_19 : decode cX8_visit 19 = .ok (.getfield 26, 3) := by decide +kernel
theorem dX8_visit_22 : decode cX8_visit 22 = .ok (.aload_n 0, 1) := by decide +kernel
theorem dX8_visit_23 : decode cX8_visit 23 = .ok (.getfield 19, 3) := by decide +kernel
theorem dX8_visit_26 : decode cX8_visit 26 = .ok (.iload_n 1, 1) := by decide +kernel
theorem dX8_visit_27 : decode cX8_visit 27 = .ok (.invokevirtual 162, 3) := by decide +kernel
theorem dX8_visit_30 : decode cX8_visit 30 = .ok (.iload_n 2, 1) := by decide +kernel
theorem dX8_visit_31 : decode cX8_visit 31 = .ok (.invokestatic 166, 3) := by decide +kernel
theorem dX8_visit_34 : decode cX8_visit 34 = .ok (.ifCond .ne 6, 3) := by decide +kernel
theorem dX8_visit_37 : decode cX8_visit 37 = .ok (.bipush (-3), 2) := by decide +kernel
theorem dX8_visit_39 : decode cX8_visit 39 = .ok (.ireturn, 1) := by decide +kernel
theorem dX8_visit_40 : decode cX8_visit 40 = .ok (.aload_n 0, 1) := by decide +kernel
theorem dX8_visit_41 : decode cX8_visit 41 = .ok (.getfield 36, 3) := by decide +kernel
theorem dX8_visit_44 : decode cX8_visit 44 = .ok (.aload_n 0, 1) := by decide +kernel
theorem dX8_visit_45 : decode cX8_visit 45 = .ok (.getfield 26, 3) := by decide +kernel
theorem dX8_visit_48 : decode cX8_visit 48 = .ok (.invokevirtual 174, 3) := by decide +kernel
theorem dX8_visit_51 : decode cX8_visit 51 = .ok (.aload_n 0, 1) := by decide +kernel
theorem dX8_visit_52 : decode cX8_visit 52 = .ok (.getfield 26, 3) := by decide +kernel
theorem dX8_visit_55 : decode cX8_visit 55 = .ok (.aload_n 0, 1) := by decide +kernel
theorem dX8_visit_56 : decode cX8_visit 56 = .ok (.getfield 19, 3) := by decide +kernel
theorem dX8_visit_59 : decode cX8_visit 59 = .ok (.iload_n 1, 1) := by decide +kernel
theorem dX8_visit_60 : decode cX8_visit 60 = .ok (.iload_n 2, 1) := by decide +kernel
theorem dX8_visit_61 : decode cX8_visit 61 = .ok (.invokevirtual 178, 3) := by decide +kernel
theorem dX8_visit_64 : decode cX8_visit 64 = .ok (.ireturn, 1) := by decide +kernel
theorem dX8_dawn_0 : decode cX8_dawn 0 = .ok (.aload_n 0, 1) := by decide +kernel
theorem dX8_dawn_1 : decode cX8_dawn 1 = .ok (.getfield 36, 3) := by decide +kernel
theorem dX8_dawn_4 : decode cX8_dawn 4 = .ok (.aload_n 0, 1) := by decide +kernel
theorem dX8_dawn_5 : decode cX8_dawn 5 = .ok (.getfield 26, 3) := by decide +kernel
theorem dX8_dawn_8 : decode cX8_dawn 8 = .ok (.invokevirtual 174, 3) := by decide +kernel
theorem dX8_dawn_11 : decode cX8_dawn 11 = .ok (.aload_n 0, 1) := by decide +kernel
theorem dX8_dawn_12 : decode cX8_dawn 12 = .ok (.getfield 26, 3) := by decide +kernel
theorem dX8_dawn_15 : decode cX8_dawn 15 = .ok (.invokevirtual 181, 3) := by decide +kernel
theorem dX8_dawn_18 : decode cX8_dawn 18 = .ok (.ireturn, 1) := by decide +kernel
theorem dX8_hang_0 : decode cX8_hang 0 = .ok (.aload_n 0, 1) := by decide +kernel
theorem dX8_hang_1 : decode cX8_hang 1 = .ok (.iload_n 1, 1) := by decide +kernel
theorem dX8_hang_2 : decode cX8_hang 2 = .ok (.invokevirtual 134, 3) := by decide +kernel
theorem dX8_hang_5 : decode cX8_hang 5 = .ok (.ifCond .eq 5, 3) := by decide +kernel
theorem dX8_hang_8 : decode cX8_hang 8 = .ok (.iconst (-1), 1) := by decide +kernel
theorem dX8_hang_9 : decode cX8_hang 9 = .ok (.ireturn, 1) := by decide +kernel
theorem dX8_hang_10 : decode cX8_hang 10 = .ok (.aload_n 0, 1) := by decide +kernel
theorem dX8_hang_11 : decode cX8_hang 11 = .ok (.getfield 26, 3) := by decide +kernel
theorem dX8_hang_14 : decode cX8_hang 14 = .ok (.getfield 150, 3) := by decide +kernel
theorem dX8_hang_17 : decode cX8_hang 17 = .ok (.iload_n 1, 1) := by decide +kernel
theorem dX8_hang_18 : decode cX8_hang 18 = .ok (.invokestatic 166, 3) := by decide +kernel
theorem dX8_hang_21 : decode cX8_hang 21 = .ok (.ifCond .eq 6, 3) := by decide +kernel
theorem dX8_hang_24 : decode cX8_hang 24 = .ok (.bipush (-3), 2) := by decide +kernel
theorem dX8_hang_26 : decode cX8_hang 26 = .ok (.ireturn, 1) := by decide +kernel
theorem dX8_hang_27 : decode cX8_hang 27 = .ok (.aload_n 0, 1) := by decide +kernel
theorem dX8_hang_28 : decode cX8_hang 28 = .ok (.getfield 36, 3) := by decide +kernel
theorem dX8_hang_31 : decode cX8_hang 31 = .ok (.aload_n 0, 1) := by decide +kernel
theorem dX8_hang_32 : decode cX8_hang 32 = .ok (.getfield 26, 3) := by decide +kernel
theorem dX8_hang_35 : decode cX8_hang 35 = .ok (.invokevirtual 174, 3) := by decide +kernel
theorem dX8_hang_38 : decode cX8_hang 38 = .ok (.aload_n 0, 1) := by decide +kernel
theorem dX8_hang_39 : decode cX8_hang 39 = .ok (.getfield 26, 3) := by decide +kernel
theorem dX8_hang_42 : decode cX8_hang 42 = .ok (.dup, 1) := by decide +kernel
theorem dX8_hang_43 : decode cX8_hang 43 = .ok (.getfield 150, 3) := by decide +kernel
theorem dX8_hang_46 : decode cX8_hang 46 = .ok (.iload_n 1, 1) := by decide +kernel
theorem dX8_hang_47 : decode cX8_hang 47 = .ok (.invokestatic 184, 3) := by decide +kernel
theorem dX8_hang_50 : decode cX8_hang 50 = .ok (.ior, 1) := by decide +kernel
theorem dX8_hang_51 : decode cX8_hang 51 = .ok (.putfield 150, 3) := by decide +kernel
theorem dX8_hang_54 : decode cX8_hang 54 = .ok (.aload_n 0, 1) := by decide +kernel
theorem dX8_hang_55 : decode cX8_hang 55 = .ok (.getfield 26, 3) := by decide +kernel
theorem dX8_hang_58 : decode cX8_hang 58 = .ok (.getfield 140, 3) := by decide +kernel
theorem dX8_hang_61 : decode cX8_hang 61 = .ok (.iload_n 1, 1) := by decide +kernel
theorem dX8_hang_62 : decode cX8_hang 62 = .ok (.invokestatic 143, 3) := by decide +kernel
theorem dX8_hang_65 : decode cX8_hang 65 = .ok (.ireturn, 1) := by decide +kernel
theorem dX8_bolt_0 : decode cX8_bolt 0 = .ok (.aload_n 0, 1) := by decide +kernel
theorem dX8_bolt_1 : decode cX8_bolt 1 = .ok (.iload_n 1, 1) := by decide +kernel
theorem dX8_bolt_2 : decode cX8_bolt 2 = .ok (.invokevirtual 107, 3) := by decide +kernel
theorem dX8_bolt_5 : decode cX8_bolt 5 = .ok (.ifCond .eq 5, 3) := by decide +kernel
theorem dX8_bolt_8 : decode cX8_bolt 8 = .ok (.iconst (-1), 1) := by decide +kernel
theorem dX8_bolt_9 : decode cX8_bolt 9 = .ok (.ireturn, 1) := by decide +kernel
theorem dX8_bolt_10 : decode cX8_bolt 10 = .ok (.iload_n 2, 1) := by decide +kernel
theorem dX8_bolt_11 : decode cX8_bolt 11 = .ok (.ifCond .lt 8, 3) := by decide +kernel
theorem dX8_bolt_14 : decode cX8_bolt 14 = .ok (.iload_n 2, 1) := by decide +kernel
theorem dX8_bolt_15 : decode cX8_bolt 15 = .ok (.iconst 2, 1) := by decide +kernel
theorem dX8_bolt_16 : decode cX8_bolt 16 = .ok (.if_icmp .le 6, 3) := by decide +kernel
theorem dX8_bolt_19 : decode cX8_bolt 19 = .ok (.bipush (-2), 2) := by decide +kernel
theorem dX8_bolt_21 : decode cX8_bolt 21 = .ok (.ireturn, 1) := by decide +kernel
theorem dX8_bolt_22 : decode cX8_bolt 22 = .ok (.aload_n 0, 1) := by decide +kernel
theorem dX8_bolt_23 : decode cX8_bolt 23 = .ok (.getfield 26, 3) := by decide +kernel
theorem dX8_bolt_26 : decode cX8_bolt 26 = .ok (.iload_n 1, 1) := by decide +kernel
theorem dX8_bolt_27 : decode cX8_bolt 27 = .ok (.invokevirtual 118, 3) := by decide +kernel
theorem dX8_bolt_30 : decode cX8_bolt 30 = .ok (.istore_n 3, 1) := by decide +kernel
theorem dX8_bolt_31 : decode cX8_bolt 31 = .ok (.iload_n 3, 1) := by decide +kernel
theorem dX8_bolt_32 : decode cX8_bolt 32 = .ok (.iload_n 2, 1) := by decide +kernel
theorem dX8_bolt_33 : decode cX8_bolt 33 = .ok (.if_icmp .ne 6, 3) := by decide +kernel
theorem dX8_bolt_36 : decode cX8_bolt 36 = .ok (.bipush (-3), 2) := by decide +kernel
theorem dX8_bolt_38 : decode cX8_bolt 38 = .ok (.ireturn, 1) := by decide +kernel
theorem dX8_bolt_39 : decode cX8_bolt 39 = .ok (.aload_n 0, 1) := by decide +kernel
theorem dX8_bolt_40 : decode cX8_bolt 40 = .ok (.getfield 36, 3) := by decide +kernel
theorem dX8_bolt_43 : decode cX8_bolt 43 = .ok (.aload_n 0, 1) := by decide +kernel
theorem dX8_bolt_44 : decode cX8_bolt 44 = .ok (.getfield 26, 3) := by decide +kernel
theorem dX8_bolt_47 : decode cX8_bolt 47 = .ok (.invokevirtual 174, 3) := by decide +kernel
theorem dX8_bolt_50 : decode cX8_bolt 50 = .ok (.aload_n 0, 1) := by decide +kernel
theorem dX8_bolt_51 : decode cX8_bolt 51 = .ok (.getfield 26, 3) := by decide +kernel
theorem dX8_bolt_54 : decode cX8_bolt 54 = .ok (.iload_n 1, 1) := by decide +kernel
theorem dX8_bolt_55 : decode cX8_bolt 55 = .ok (.iload_n 2, 1) := by decide +kernel
theorem dX8_bolt_56 : decode cX8_bolt 56 = .ok (.invokevirtual 187, 3) := by decide +kernel
theorem dX8_bolt_59 : decode cX8_bolt 59 = .ok (.iload_n 3, 1) := by decide +kernel
theorem dX8_bolt_60 : decode cX8_bolt 60 = .ok (.ireturn, 1) := by decide +kernel
theorem dX8_undo_0 : decode cX8_undo 0 = .ok (.aload_n 0, 1) := by decide +kernel
theorem dX8_undo_1 : decode cX8_undo 1 = .ok (.getfield 36, 3) := by decide +kernel
theorem dX8_undo_4 : decode cX8_undo 4 = .ok (.aload_n 0, 1) := by decide +kernel
theorem dX8_undo_5 : decode cX8_undo 5 = .ok (.getfield 26, 3) := by decide +kernel
theorem dX8_undo_8 : decode cX8_undo 8 = .ok (.invokevirtual 191, 3) := by decide +kernel
theorem dX8_undo_11 : decode cX8_undo 11 = .ok (.ifCond .eq 13, 3) := by decide +kernel
theorem dX8_undo_14 : decode cX8_undo 14 = .ok (.aload_n 0, 1) := by decide +kernel
theorem dX8_undo_15 : decode cX8_undo 15 = .ok (.getfield 36, 3) := by decide +kernel
theorem dX8_undo_18 : decode cX8_undo 18 = .ok (.getfield 195, 3) := by decide +kernel
theorem dX8_undo_21 : decode cX8_undo 21 = .ok (.goto 5, 3) := by decide +kernel
theorem dX8_undo_24 : decode cX8_undo 24 = .ok (.bipush (-3), 2) := by decide +kernel
theorem dX8_undo_26 : decode cX8_undo 26 = .ok (.ireturn, 1) := by decide +kernel
theorem dX8_judge_0 : decode cX8_judge 0 = .ok (.iload_n 1, 1) := by decide +kernel
theorem dX8_judge_1 : decode cX8_judge 1 = .ok (.iconst 1, 1) := by decide +kernel
theorem dX8_judge_2 : decode cX8_judge 2 = .ok (.if_icmp .lt 25, 3) := by decide +kernel
theorem dX8_judge_5 : decode cX8_judge 5 = .ok (.iload_n 1, 1) := by decide +kernel
theorem dX8_judge_6 : decode cX8_judge 6 = .ok (.iconst 4, 1) := by decide +kernel
theorem dX8_judge_7 : decode cX8_judge 7 = .ok (.if_icmp .gt 20, 3) := by decide +kernel
theorem dX8_judge_10 : decode cX8_judge 10 = .ok (.iload_n 2, 1) := by decide +kernel
theorem dX8_judge_11 : decode cX8_judge 11 = .ok (.ifCond .lt 16, 3) := by decide +kernel
theorem dX8_judge_14 : decode cX8_judge 14 = .ok (.iload_n 2, 1) := by decide +kernel
theorem dX8_judge_15 : decode cX8_judge 15 = .ok (.i2l, 1) := by decide +kernel
theorem dX8_judge_16 : decode cX8_judge 16 = .ok (.ldc2_w 198, 3) := by decide +kernel
theorem dX8_judge_19 : decode cX8_judge 19 = .ok (.iload_n 1, 1) := by decide +kernel
theorem dX8_judge_20 : decode cX8_judge 20 = .ok (.invokestatic 200, 3) := by decide +kernel
theorem dX8_judge_23 : decode cX8_judge 23 = .ok (.lcmp, 1) := by decide +kernel
theorem dX8_judge_24 : decode cX8_judge 24 = .ok (.ifCond .lt 6, 3) := by decide +kernel
theorem dX8_judge_27 : decode cX8_judge 27 = .ok (.bipush (-2), 2) := by decide +kernel
theorem dX8_judge_29 : decode cX8_judge 29 = .ok (.ireturn, 1) := by decide +kernel
theorem dX8_judge_30 : decode cX8_judge 30 = .ok (.aload_n 0, 1) := by decide +kernel
theorem dX8_judge_31 : decode cX8_judge 31 = .ok (.getfield 30, 3) := by decide +kernel
theorem dX8_judge_34 : decode cX8_judge 34 = .ok (.aload_n 0, 1) := by decide +kernel
theorem dX8_judge_35 : decode cX8_judge 35 = .ok (.getfield 26, 3) := by decide +kernel
theorem dX8_judge_38 : decode cX8_judge 38 = .ok (.invokevirtual 204, 3) := by decide +kernel
theorem dX8_judge_41 : decode cX8_judge 41 = .ok (.iconst 0, 1) := by decide +kernel
theorem dX8_judge_42 : decode cX8_judge 42 = .ok (.istore_n 3, 1) := by decide +kernel
theorem dX8_judge_43 : decode cX8_judge 43 = .ok (.iload_n 3, 1) := by decide +kernel
theorem dX8_judge_44 : decode cX8_judge 44 = .ok (.iload_n 1, 1) := by decide +kernel
theorem dX8_judge_45 : decode cX8_judge 45 = .ok (.if_icmp .ge 110, 3) := by decide +kernel
theorem dX8_judge_48 : decode cX8_judge 48 = .ok (.iload_n 2, 1) := by decide +kernel
theorem dX8_judge_49 : decode cX8_judge 49 = .ok (.istore 4, 2) := by decide +kernel
theorem dX8_judge_51 : decode cX8_judge 51 = .ok (.iload_n 1, 1) := by decide +kernel
theorem dX8_judge_52 : decode cX8_judge 52 = .ok (.iconst 1, 1) := by decide +kernel
theorem dX8_judge_53 : decode cX8_judge 53 = .ok (.isub, 1) := by decide +kernel
theorem dX8_judge_54 : decode cX8_judge 54 = .ok (.istore 5, 2) := by decide +kernel
theorem dX8_judge_56 : decode cX8_judge 56 = .ok (.iload 5, 2) := by decide +kernel
theorem dX8_judge_58 : decode cX8_judge 58 = .ok (.iload_n 3, 1) := by decide +kernel
theorem dX8_judge_59 : decode cX8_judge 59 = .ok (.if_icmp .le 16, 3) := by decide +kernel
theorem dX8_judge_62 : decode cX8_judge 62 = .ok (.iload 4, 2) := by decide +kernel
theorem dX8_judge_64 : decode cX8_judge 64 = .ok (.bipush 100, 2) := by decide +kernel
theorem dX8_judge_66 : decode cX8_judge 66 = .ok (.idiv, 1) := by decide +kernel
theorem dX8_judge_67 : decode cX8_judge 67 = .ok (.istore 4, 2) := by decide +kernel
theorem dX8_judge_69 : decode cX8_judge 69 = .ok (.iinc 5 (-1), 3) := by decide +kernel
theorem dX8_judge_72 : decode cX8_judge 72 = .ok (.goto (-16), 3) := by decide +kernel
theorem dX8_judge_75 : decode cX8_judge 75 = .ok (.iload 4, 2) := by decide +kernel
theorem dX8_judge_77 : decode cX8_judge 77 = .ok (.bipush 10, 2) := by decide +kernel
theorem dX8_judge_79 : decode cX8_judge 79 = .ok (.idiv, 1) := by decide +kernel
theorem dX8_judge_80 : decode cX8_judge 80 = .ok (.bipush 10, 2) := by decide +kernel
theorem dX8_judge_82 : decode cX8_judge 82 = .ok (.irem, 1) := by decide +kernel
theorem dX8_judge_83 : decode cX8_judge 83 = .ok (.istore 5, 2) := by decide +kernel
theorem dX8_judge_85 : decode cX8_judge 85 = .ok (.iload 4, 2) := by decide +kernel
theorem dX8_judge_87 : decode cX8_judge 87 = .ok (.bipush 10, 2) := by decide +kernel
theorem dX8_judge_89 : decode cX8_judge 89 = .ok (.irem, 1) := by decide +kernel
theorem dX8_judge_90 : decode cX8_judge 90 = .ok (.istore 6, 2) := by decide +kernel
theorem dX8_judge_92 : decode cX8_judge 92 = .ok (.aload_n 0, 1) := by decide +kernel
theorem dX8_judge_93 : decode cX8_judge 93 = .ok (.iload 5, 2) := by decide +kernel
theorem dX8_judge_95 : decode cX8_judge 95 = .ok (.invokevirtual 134, 3) := by decide +kernel
theorem dX8_judge_98 : decode cX8_judge 98 = .ok (.ifCond .ne 33, 3) := by decide +kernel
theorem dX8_judge_101 : decode cX8_judge 101 = .ok (.aload_n 0, 1) := by decide +kernel
theorem dX8_judge_102 : decode cX8_judge 102 = .ok (.iload 6, 2) := by decide +kernel
theorem dX8_judge_104 : decode cX8_judge 104 = .ok (.invokevirtual 107, 3) := by decide +kernel
theorem dX8_judge_107 : decode cX8_judge 107 = .ok (.ifCond .ne 24, 3) := by decide +kernel
theorem dX8_judge_110 : decode cX8_judge 110 = .ok (.aload_n 0, 1) := by decide +kernel
theorem dX8_judge_111 : decode cX8_judge 111 = .ok (.getfield 30, 3) := by decide +kernel
theorem dX8_judge_114 : decode cX8_judge 114 = .ok (.aload_n 0, 1) := by decide +kernel
theorem dX8_judge_115 : decode cX8_judge 115 = .ok (.getfield 19, 3) := by decide +kernel
theorem dX8_judge_118 : decode cX8_judge 118 = .ok (.iload 5, 2) := by decide +kernel
theorem dX8_judge_120 : decode cX8_judge 120 = .ok (.invokevirtual 162, 3) := by decide +kernel
theorem dX8_judge_123 : decode cX8_judge 123 = .ok (.iload 6, 2) := by decide +kernel
theorem dX8_judge_125 : decode cX8_judge 125 = .ok (.invokestatic 166, 3) := by decide +kernel
theorem dX8_judge_128 : decode cX8_judge 128 = .ok (.ifCond .ne 5, 3) := by decide +kernel
theorem dX8_judge_131 : decode cX8_judge 131 = .ok (.iload_n 3, 1) := by decide +kernel
theorem dX8_judge_132 : decode cX8_judge 132 = .ok (.ireturn, 1) := by decide +kernel
theorem dX8_judge_133 : decode cX8_judge 133 = .ok (.aload_n 0, 1) := by decide +kernel
theorem dX8_judge_134 : decode cX8_judge 134 = .ok (.getfield 30, 3) := by decide +kernel
theorem dX8_judge_137 : decode cX8_judge 137 = .ok (.aload_n 0, 1) := by decide +kernel
theorem dX8_judge_138 : decode cX8_judge 138 = .ok (.getfield 19, 3) := by decide +kernel
theorem dX8_judge_141 : decode cX8_judge 141 = .ok (.iload 5, 2) := by decide +kernel
theorem dX8_judge_143 : decode cX8_judge 143 = .ok (.iload 6, 2) := by decide +kernel
theorem dX8_judge_145 : decode cX8_judge 145 = .ok (.invokevirtual 178, 3) := by decide +kernel
theorem dX8_judge_148 : decode cX8_judge 148 = .ok (.pop, 1) := by decide +kernel
theorem dX8_judge_149 : decode cX8_judge 149 = .ok (.iinc 3 1, 3) := by decide +kernel
theorem dX8_judge_152 : decode cX8_judge 152 = .ok (.goto (-109), 3) := by decide +kernel
theorem dX8_judge_155 : decode cX8_judge 155 = .ok (.bipush (-9), 2) := by decide +kernel
theorem dX8_judge_157 : decode cX8_judge 157 = .ok (.ireturn, 1) := by decide +kernel
theorem dX8_first_0 : decode cX8_first 0 = .ok (.aload_n 0, 1) := by decide +kernel
theorem dX8_first_1 : decode cX8_first 1 = .ok (.iload_n 1, 1) := by decide +kernel
theorem dX8_first_2 : decode cX8_first 2 = .ok (.invokevirtual 134, 3) := by decide +kernel
theorem dX8_first_5 : decode cX8_first 5 = .ok (.ifCond .eq 7, 3) := by decide +kernel
theorem dX8_first_8 : decode cX8_first 8 = .ok (.iconst (-1), 1) := by decide +kernel
theorem dX8_first_9 : decode cX8_first 9 = .ok (.goto 11, 3) := by decide +kernel
theorem dX8_first_12 : decode cX8_first 12 = .ok (.aload_n 0, 1) := by decide +kernel
theorem dX8_first_13 : decode cX8_first 13 = .ok (.getfield 26, 3) := by decide +kernel
theorem dX8_first_16 : decode cX8_first 16 = .ok (.iload_n 1, 1) := by decide +kernel
theorem dX8_first_17 : decode cX8_first 17 = .ok (.invokevirtual 207, 3) := by decide +kernel
theorem dX8_first_20 : decode cX8_first 20 = .ok (.ireturn, 1) := by decide +kernel
theorem dX8_line_0 : decode cX8_line 0 = .ok (.aload_n 0, 1) := by decide +kernel
theorem dX8_line_1 : decode cX8_line 1 = .ok (.iload_n 1, 1) := by decide +kernel
theorem dX8_line_2 : decode cX8_line 2 = .ok (.invokevirtual 134, 3) := by decide +kernel
theorem dX8_line_5 : decode cX8_line 5 = .ok (.ifCond .eq 7, 3) := by decide +kernel
theorem dX8_line_8 : decode cX8_line 8 = .ok (.iconst (-1), 1) := by decide +kernel
theorem dX8_line_9 : decode cX8_line 9 = .ok (.goto 11, 3) := by decide +kernel
theorem dX8_line_12 : decode cX8_line 12 = .ok (.aload_n 0, 1) := by decide +kernel
theorem dX8_line_13 : decode cX8_line 13 = .ok (.getfield 26, 3) := by decide +kernel
theorem dX8_line_16 : decode cX8_line 16 = .ok (.iload_n 1, 1) := by decide +kernel
theorem dX8_line_17 : decode cX8_line 17 = .ok (.invokevirtual 210, 3) := by decide +kernel
theorem dX8_line_20 : decode cX8_line 20 = .ok (.ireturn, 1) := by decide +kernel
theorem dX8_brood_0 : decode cX8_brood 0 = .ok (.aload_n 0, 1) := by decide +kernel
theorem dX8_brood_1 : decode cX8_brood 1 = .ok (.iload_n 1, 1) := by decide +kernel
theorem dX8_brood_2 : decode cX8_brood 2 = .ok (.invokevirtual 134, 3) := by decide +kernel
theorem dX8_brood_5 : decode cX8_brood 5 = .ok (.ifCond .eq 5, 3) := by decide +kernel
theorem dX8_brood_8 : decode cX8_brood 8 = .ok (.iconst (-1), 1) := by decide +kernel
theorem dX8_brood_9 : decode cX8_brood 9 = .ok (.ireturn, 1) := by decide +kernel
theorem dX8_brood_10 : decode cX8_brood 10 = .ok (.iconst 0, 1) := by decide +kernel
theorem dX8_brood_11 : decode cX8_brood 11 = .ok (.istore_n 2, 1) := by decide +kernel
theorem dX8_brood_12 : decode cX8_brood 12 = .ok (.iconst 0, 1) := by decide +kernel
theorem dX8_brood_13 : decode cX8_brood 13 = .ok (.istore_n 3, 1) := by decide +kernel
theorem dX8_brood_14 : decode cX8_brood 14 = .ok (.iload_n 3, 1) := by decide +kernel
theorem dX8_brood_15 : decode cX8_brood 15 = .ok (.aload_n 0, 1) := by decide +kernel
theorem dX8_brood_16 : decode cX8_brood 16 = .ok (.getfield 19, 3) := by decide +kernel
theorem dX8_brood_19 : decode cX8_brood 19 = .ok (.getfield 104, 3) := by decide +kernel
theorem dX8_brood_22 : decode cX8_brood 22 = .ok (.if_icmp .ge 28, 3) := by decide +kernel
theorem dX8_brood_25 : decode cX8_brood 25 = .ok (.aload_n 0, 1) := by decide +kernel
theorem dX8_brood_26 : decode cX8_brood 26 = .ok (.getfield 26, 3) := by decide +kernel
theorem dX8_brood_29 : decode cX8_brood 29 = .ok (.iload_n 3, 1) := by decide +kernel
theorem dX8_brood_30 : decode cX8_brood 30 = .ok (.invokevirtual 207, 3) := by decide +kernel
theorem dX8_brood_33 : decode cX8_brood 33 = .ok (.iload_n 1, 1) := by decide +kernel
theorem dX8_brood_34 : decode cX8_brood 34 = .ok (.if_icmp .ne 10, 3) := by decide +kernel
theorem dX8_brood_37 : decode cX8_brood 37 = .ok (.iload_n 2, 1) := by decide +kernel
theorem dX8_brood_38 : decode cX8_brood 38 = .ok (.iload_n 3, 1) := by decide +kernel
theorem dX8_brood_39 : decode cX8_brood 39 = .ok (.invokestatic 184, 3) := by decide +kernel
theorem dX8_brood_42 : decode cX8_brood 42 = .ok (.ior, 1) := by decide +kernel
theorem dX8_brood_43 : decode cX8_brood 43 = .ok (.istore_n 2, 1) := by decide +kernel
theorem dX8_brood_44 : decode cX8_brood 44 = .ok (.iinc 3 1, 3) := by decide +kernel
theorem dX8_brood_47 : decode cX8_brood 47 = .ok (.goto (-33), 3) := by decide +kernel
theorem dX8_brood_50 : decode cX8_brood 50 = .ok (.iload_n 2, 1) := by decide +kernel
theorem dX8_brood_51 : decode cX8_brood 51 = .ok (.ireturn, 1) := by decide +kernel
theorem dX8_track_0 : decode cX8_track 0 = .ok (.aload_n 0, 1) := by decide +kernel
theorem dX8_track_1 : decode cX8_track 1 = .ok (.iload_n 2, 1) := by decide +kernel
theorem dX8_track_2 : decode cX8_track 2 = .ok (.invokevirtual 107, 3) := by decide +kernel
theorem dX8_track_5 : decode cX8_track 5 = .ok (.ifCond .eq 5, 3) := by decide +kernel
theorem dX8_track_8 : decode cX8_track 8 = .ok (.iconst (-1), 1) := by decide +kernel
theorem dX8_track_9 : decode cX8_track 9 = .ok (.ireturn, 1) := by decide +kernel
theorem dX8_track_10 : decode cX8_track 10 = .ok (.iload_n 1, 1) := by decide +kernel
theorem dX8_track_11 : decode cX8_track 11 = .ok (.invokestatic 213, 3) := by decide +kernel
theorem dX8_track_14 : decode cX8_track 14 = .ok (.ifCond .ne 13, 3) := by decide +kernel
theorem dX8_track_17 : decode cX8_track 17 = .ok (.iload_n 3, 1) := by decide +kernel
theorem dX8_track_18 : decode cX8_track 18 = .ok (.ifCond .lt 9, 3) := by decide +kernel
theorem dX8_track_21 : decode cX8_track 21 = .ok (.iload_n 3, 1) := by decide +kernel
theorem dX8_track_22 : decode cX8_track 22 = .ok (.bipush 6, 2) := by decide +kernel
theorem dX8_track_24 : decode cX8_track 24 = .ok (.if_icmp .le 6, 3) := by decide +kernel
theorem dX8_track_27 : decode cX8_track 27 = .ok (.bipush (-2), 2) := by decide +kernel
theorem dX8_track_29 : decode cX8_track 29 = .ok (.ireturn, 1) := by decide +kernel
theorem dX8_track_30 : decode cX8_track 30 = .ok (.aload_n 0, 1) := by decide +kernel
theorem dX8_track_31 : decode cX8_track 31 = .ok (.getfield 51, 3) := by decide +kernel
theorem dX8_track_34 : decode cX8_track 34 = .ok (.iconst 0, 1) := by decide +kernel
theorem dX8_track_35 : decode cX8_track 35 = .ok (.iload_n 1, 1) := by decide +kernel
theorem dX8_track_36 : decode cX8_track 36 = .ok (.iload_n 2, 1) := by decide +kernel
theorem dX8_track_37 : decode cX8_track 37 = .ok (.iload_n 3, 1) := by decide +kernel
theorem dX8_track_38 : decode cX8_track 38 = .ok (.invokevirtual 216, 3) := by decide +kernel
theorem dX8_track_41 : decode cX8_track 41 = .ok (.ireturn, 1) := by decide +kernel
theorem dX8_hungry_0 : decode cX8_hungry 0 = .ok (.aload_n 0, 1) := by decide +kernel
theorem dX8_hungry_1 : decode cX8_hungry 1 = .ok (.iload_n 2, 1) := by decide +kernel
theorem dX8_hungry_2 : decode cX8_hungry 2 = .ok (.invokevirtual 134, 3) := by decide +kernel
theorem dX8_hungry_5 : decode cX8_hungry 5 = .ok (.ifCond .eq 5, 3) := by decide +kernel
theorem dX8_hungry_8 : decode cX8_hungry 8 = .ok (.iconst (-1), 1) := by decide +kernel
theorem dX8_hungry_9 : decode cX8_hungry 9 = .ok (.ireturn, 1) := by decide +kernel
theorem dX8_hungry_10 : decode cX8_hungry 10 = .ok (.iload_n 1, 1) := by decide +kernel
theorem dX8_hungry_11 : decode cX8_hungry 11 = .ok (.invokestatic 213, 3) := by decide +kernel
theorem dX8_hungry_14 : decode cX8_hungry 14 = .ok (.ifCond .eq 6, 3) := by decide +kernel
theorem dX8_hungry_17 : decode cX8_hungry 17 = .ok (.bipush (-2), 2) := by decide +kernel
theorem dX8_hungry_19 : decode cX8_hungry 19 = .ok (.ireturn, 1) := by decide +kernel
theorem dX8_hungry_20 : decode cX8_hungry 20 = .ok (.aload_n 0, 1) := by decide +kernel
theorem dX8_hungry_21 : decode cX8_hungry 21 = .ok (.getfield 51, 3) := by decide +kernel
theorem dX8_hungry_24 : decode cX8_hungry 24 = .ok (.iconst 1, 1) := by decide +kernel
theorem dX8_hungry_25 : decode cX8_hungry 25 = .ok (.iload_n 1, 1) := by decide +kernel
theorem dX8_hungry_26 : decode cX8_hungry 26 = .ok (.iload_n 2, 1) := by decide +kernel
theorem dX8_hungry_27 : decode cX8_hungry 27 = .ok (.iload_n 3, 1) := by decide +kernel
theorem dX8_hungry_28 : decode cX8_hungry 28 = .ok (.ifCond .eq 7, 3) := by decide +kernel
theorem dX8_hungry_31 : decode cX8_hungry 31 = .ok (.iconst 1, 1) := by decide +kernel
theorem dX8_hungry_32 : decode cX8_hungry 32 = .ok (.goto 4, 3) := by decide +kernel
theorem dX8_hungry_35 : decode cX8_hungry 35 = .ok (.iconst 0, 1) := by decide +kernel
theorem dX8_hungry_36 : decode cX8_hungry 36 = .ok (.invokevirtual 216, 3) := by decide +kernel
theorem dX8_hungry_39 : decode cX8_hungry 39 = .ok (.ireturn, 1) := by decide +kernel
theorem dX8_spoon_0 : decode cX8_spoon 0 = .ok (.aload_n 0, 1) := by decide +kernel
theorem dX8_spoon_1 : decode cX8_spoon 1 = .ok (.iload_n 1, 1) := by decide +kernel
theorem dX8_spoon_2 : decode cX8_spoon 2 = .ok (.invokevirtual 134, 3) := by decide +kernel
theorem dX8_spoon_5 : decode cX8_spoon 5 = .ok (.ifCond .eq 7, 3) := by decide +kernel
theorem dX8_spoon_8 : decode cX8_spoon 8 = .ok (.iconst (-1), 1) := by decide +kernel
theorem dX8_spoon_9 : decode cX8_spoon 9 = .ok (.goto 22, 3) := by decide +kernel
theorem dX8_spoon_12 : decode cX8_spoon 12 = .ok (.aload_n 0, 1) := by decide +kernel
theorem dX8_spoon_13 : decode cX8_spoon 13 = .ok (.getfield 51, 3) := by decide +kernel
theorem dX8_spoon_16 : decode cX8_spoon 16 = .ok (.iconst 2, 1) := by decide +kernel
theorem dX8_spoon_17 : decode cX8_spoon 17 = .ok (.iconst 0, 1) := by decide +kernel
theorem dX8_spoon_18 : decode cX8_spoon 18 = .ok (.iload_n 1, 1) := by decide +kernel
theorem dX8_spoon_19 : decode cX8_spoon 19 = .ok (.iload_n 2, 1) := by decide +kernel
theorem dX8_spoon_20 : decode cX8_spoon 20 = .ok (.ifCond .eq 7, 3) := by decide +kernel
theorem dX8_spoon_23 : decode cX8_spoon 23 = .ok (.iconst 1, 1) := by decide +kernel
theorem dX8_spoon_24 : decode cX8_spoon 24 = .ok (.goto 4, 3) := by decide +kernel
theorem dX8_spoon_27 : decode cX8_spoon 27 = .ok (.iconst 0, 1) := by decide +kernel
theorem dX8_spoon_28 : decode cX8_spoon 28 = .ok (.invokevirtual 216, 3) := by decide +kernel
theorem dX8_spoon_31 : decode cX8_spoon 31 = .ok (.ireturn, 1) := by decide +kernel
theorem dX8_unsee_0 : decode cX8_unsee 0 = .ok (.aload_n 0, 1) := by decide +kernel
theorem dX8_unsee_1 : decode cX8_unsee 1 = .ok (.getfield 51, 3) := by decide +kernel
theorem dX8_unsee_4 : decode cX8_unsee 4 = .ok (.getfield 219, 3) := by decide +kernel
theorem dX8_unsee_7 : decode cX8_unsee 7 = .ok (.istore_n 1, 1) := by decide +kernel
theorem dX8_unsee_8 : decode cX8_unsee 8 = .ok (.aload_n 0, 1) := by decide +kernel
theorem dX8_unsee_9 : decode cX8_unsee 9 = .ok (.getfield 51, 3) := by decide +kernel
theorem dX8_unsee_12 : decode cX8_unsee 12 = .ok (.iconst 0, 1) := by decide +kernel
theorem dX8_unsee_13 : decode cX8_unsee 13 = .ok (.putfield 219, 3) := by decide +kernel
theorem dX8_unsee_16 : decode cX8_unsee 16 = .ok (.iload_n 1, 1) := by decide +kernel
theorem dX8_unsee_17 : decode cX8_unsee 17 = .ok (.ireturn, 1) := by decide +kernel
theorem dX8_tales_0 : decode cX8_tales 0 = .ok (.aload_n 0, 1) := by decide +kernel
theorem dX8_tales_1 : decode cX8_tales 1 = .ok (.invokevirtual 220, 3) := by decide +kernel
theorem dX8_tales_4 : decode cX8_tales 4 = .ok (.aload_n 0, 1) := by decide +kernel
theorem dX8_tales_5 : decode cX8_tales 5 = .ok (.getfield 58, 3) := by decide +kernel
theorem dX8_tales_8 : decode cX8_tales 8 = .ok (.invokevirtual 223, 3) := by decide +kernel
theorem dX8_tales_11 : decode cX8_tales 11 = .ok (.lreturn, 1) := by decide +kernel
theorem dX8_sets_0 : decode cX8_sets 0 = .ok (.aload_n 0, 1) := by decide +kernel
theorem dX8_sets_1 : decode cX8_sets 1 = .ok (.invokevirtual 220, 3) := by decide +kernel
theorem dX8_sets_4 : decode cX8_sets 4 = .ok (.aload_n 0, 1) := by decide +kernel
theorem dX8_sets_5 : decode cX8_sets 5 = .ok (.getfield 58, 3) := by decide +kernel
theorem dX8_sets_8 : decode cX8_sets 8 = .ok (.invokevirtual 227, 3) := by decide +kernel
theorem dX8_sets_11 : decode cX8_sets 11 = .ok (.ireturn, 1) := by decide +kernel
theorem dX8_setAt_0 : decode cX8_setAt 0 = .ok (.aload_n 0, 1) := by decide +kernel
theorem dX8_setAt_1 : decode cX8_setAt 1 = .ok (.invokevirtual 220, 3) := by decide +kernel
theorem dX8_setAt_4 : decode cX8_setAt 4 = .ok (.aload_n 0, 1) := by decide +kernel
theorem dX8_setAt_5 : decode cX8_setAt 5 = .ok (.getfield 58, 3) := by decide +kernel
theorem dX8_setAt_8 : decode cX8_setAt 8 = .ok (.iload_n 1, 1) := by decide +kernel
theorem dX8_setAt_9 : decode cX8_setAt 9 = .ok (.invokevirtual 230, 3) := by decide +kernel
theorem dX8_setAt_12 : decode cX8_setAt 12 = .ok (.ireturn, 1) := by decide +kernel
theorem dX8_sure_0 : decode cX8_sure 0 = .ok (.iload_n 1, 1) := by decide +kernel
theorem dX8_sure_1 : decode cX8_sure 1 = .ok (.ifCond .lt 8, 3) := by decide +kernel
theorem dX8_sure_4 : decode cX8_sure 4 = .ok (.iload_n 1, 1) := by decide +kernel
theorem dX8_sure_5 : decode cX8_sure 5 = .ok (.iconst 2, 1) := by decide +kernel
theorem dX8_sure_6 : decode cX8_sure 6 = .ok (.if_icmp .le 6, 3) := by decide +kernel
theorem dX8_sure_9 : decode cX8_sure 9 = .ok (.bipush (-2), 2) := by decide +kernel
theorem dX8_sure_11 : decode cX8_sure 11 = .ok (.ireturn, 1) := by decide +kernel
theorem dX8_sure_12 : decode cX8_sure 12 = .ok (.aload_n 0, 1) := by decide +kernel
theorem dX8_sure_13 : decode cX8_sure 13 = .ok (.invokevirtual 220, 3) := by decide +kernel
theorem dX8_sure_16 : decode cX8_sure 16 = .ok (.aload_n 0, 1) := by decide +kernel
theorem dX8_sure_17 : decode cX8_sure 17 = .ok (.getfield 58, 3) := by decide +kernel
theorem dX8_sure_20 : decode cX8_sure 20 = .ok (.invokevirtual 227, 3) := by decide +kernel
theorem dX8_sure_23 : decode cX8_sure 23 = .ok (.ifCond .ne 6, 3) := by decide +kernel
theorem dX8_sure_26 : decode cX8_sure 26 = .ok (.bipush (-9), 2) := by decide +kernel
theorem dX8_sure_28 : decode cX8_sure 28 = .ok (.ireturn, 1) := by decide +kernel
theorem dX8_sure_29 : decode cX8_sure 29 = .ok (.iload_n 1, 1) := by decide +kernel
theorem dX8_sure_30 : decode cX8_sure 30 = .ok (.ifCond .ne 11, 3) := by decide +kernel
theorem dX8_sure_33 : decode cX8_sure 33 = .ok (.aload_n 0, 1) := by decide +kernel
theorem dX8_sure_34 : decode cX8_sure 34 = .ok (.getfield 58, 3) := by decide +kernel
theorem dX8_sure_37 : decode cX8_sure 37 = .ok (.invokevirtual 233, 3) := by decide +kernel
theorem dX8_sure_40 : decode cX8_sure 40 = .ok (.ireturn, 1) := by decide +kernel
theorem dX8_sure_41 : decode cX8_sure 41 = .ok (.iload_n 1, 1) := by decide +kernel
theorem dX8_sure_42 : decode cX8_sure 42 = .ok (.iconst 1, 1) := by decide +kernel
theorem dX8_sure_43 : decode cX8_sure 43 = .ok (.if_icmp .ne 27, 3) := by decide +kernel
theorem dX8_sure_46 : decode cX8_sure 46 = .ok (.aload_n 0, 1) := by decide +kernel
theorem dX8_sure_47 : decode cX8_sure 47 = .ok (.getfield 26, 3) := by decide +kernel
theorem dX8_sure_50 : decode cX8_sure 50 = .ok (.aload_n 0, 1) := by decide +kernel
theorem dX8_sure_51 : decode cX8_sure 51 = .ok (.getfield 19, 3) := by decide +kernel
theorem dX8_sure_54 : decode cX8_sure 54 = .ok (.invokevirtual 236, 3) := by decide +kernel
theorem dX8_sure_57 : decode cX8_sure 57 = .ok (.aload_n 0, 1) := by decide +kernel
theorem dX8_sure_58 : decode cX8_sure 58 = .ok (.getfield 58, 3) := by decide +kernel
theorem dX8_sure_61 : decode cX8_sure 61 = .ok (.invokevirtual 240, 3) := by decide +kernel
theorem dX8_sure_64 : decode cX8_sure 64 = .ok (.iconst (-1), 1) := by decide +kernel
theorem dX8_sure_65 : decode cX8_sure 65 = .ok (.ixor, 1) := by decide +kernel
theorem dX8_sure_66 : decode cX8_sure 66 = .ok (.iand, 1) := by decide +kernel
theorem dX8_sure_67 : decode cX8_sure 67 = .ok (.goto 10, 3) := by decide +kernel
theorem dX8_sure_70 : decode cX8_sure 70 = .ok (.aload_n 0, 1) := by decide +kernel
theorem dX8_sure_71 : decode cX8_sure 71 = .ok (.getfield 58, 3) := by decide +kernel
theorem dX8_sure_74 : decode cX8_sure 74 = .ok (.invokevirtual 240, 3) := by decide +kernel
theorem dX8_sure_77 : decode cX8_sure 77 = .ok (.ireturn, 1) := by decide +kernel
theorem dX8_likely_0 : decode cX8_likely 0 = .ok (.aload_n 0, 1) := by decide +kernel
theorem dX8_likely_1 : decode cX8_likely 1 = .ok (.iload_n 1, 1) := by decide +kernel
theorem dX8_likely_2 : decode cX8_likely 2 = .ok (.invokevirtual 134, 3) := by decide +kernel
theorem dX8_likely_5 : decode cX8_likely 5 = .ok (.ifCond .eq 7, 3) := by decide +kernel
theorem dX8_likely_8 : decode cX8_likely 8 = .ok (.ldc2_w 243, 3) := by decide +kernel
theorem dX8_likely_11 : decode cX8_likely 11 = .ok (.lreturn, 1) := by decide +kernel
theorem dX8_likely_12 : decode cX8_likely 12 = .ok (.aload_n 0, 1) := by decide +kernel
theorem dX8_likely_13 : decode cX8_likely 13 = .ok (.invokevirtual 220, 3) := by decide +kernel
theorem dX8_likely_16 : decode cX8_likely 16 = .ok (.aload_n 0, 1) := by decide +kernel
theorem dX8_likely_17 : decode cX8_likely 17 = .ok (.getfield 58, 3) := by decide +kernel
theorem dX8_likely_20 : decode cX8_likely 20 = .ok (.invokevirtual 223, 3) := by decide +kernel
theorem dX8_likely_23 : decode cX8_likely 23 = .ok (.lstore_n 3, 1) := by decide +kernel
theorem dX8_likely_24 : decode cX8_likely 24 = .ok (.lload_n 3, 1) := by decide +kernel
theorem dX8_likely_25 : decode cX8_likely 25 = .ok (.lconst 0, 1) := by decide +kernel
theorem dX8_likely_26 : decode cX8_likely 26 = .ok (.lcmp, 1) := by decide +kernel
theorem dX8_likely_27 : decode cX8_likely 27 = .ok (.ifCond .ne 9, 3) := by decide +kernel
theorem dX8_likely_30 : decode cX8_likely 30 = .ok (.ldc2_w 245, 3) := by decide +kernel
theorem dX8_likely_33 : decode cX8_likely 33 = .ok (.goto 16, 3) := by decide +kernel
theorem dX8_likely_36 : decode cX8_likely 36 = .ok (.aload_n 0, 1) := by decide +kernel
theorem dX8_likely_37 : decode cX8_likely 37 = .ok (.getfield 58, 3) := by decide +kernel
theorem dX8_likely_40 : decode cX8_likely 40 = .ok (.iload_n 1, 1) := by decide +kernel
theorem dX8_likely_41 : decode cX8_likely 41 = .ok (.invokevirtual 247, 3) := by decide +kernel
theorem dX8_likely_44 : decode cX8_likely 44 = .ok (.lload_n 3, 1) := by decide +kernel
theorem dX8_likely_45 : decode cX8_likely 45 = .ok (.iload_n 2, 1) := by decide +kernel
theorem dX8_likely_46 : decode cX8_likely 46 = .ok (.invokestatic 251, 3) := by decide +kernel
theorem dX8_likely_49 : decode cX8_likely 49 = .ok (.lreturn, 1) := by decide +kernel
theorem dX8_toTest_0 : decode cX8_toTest 0 = .ok (.aload_n 0, 1) := by decide +kernel
theorem dX8_toTest_1 : decode cX8_toTest 1 = .ok (.invokevirtual 220, 3) := by decide +kernel
theorem dX8_toTest_4 : decode cX8_toTest 4 = .ok (.aload_n 0, 1) := by decide +kernel
theorem dX8_toTest_5 : decode cX8_toTest 5 = .ok (.getfield 58, 3) := by decide +kernel
theorem dX8_toTest_8 : decode cX8_toTest 8 = .ok (.invokevirtual 227, 3) := by decide +kernel
theorem dX8_toTest_11 : decode cX8_toTest 11 = .ok (.ifCond .ne 8, 3) := by decide +kernel
theorem dX8_toTest_14 : decode cX8_toTest 14 = .ok (.bipush (-9), 2) := by decide +kernel
theorem dX8_toTest_16 : decode cX8_toTest 16 = .ok (.goto 21, 3) := by decide +kernel
theorem dX8_toTest_19 : decode cX8_toTest 19 = .ok (.aload_n 0, 1) := by decide +kernel
theorem dX8_toTest_20 : decode cX8_toTest 20 = .ok (.getfield 58, 3) := by decide +kernel
theorem dX8_toTest_23 : decode cX8_toTest 23 = .ok (.aload_n 0, 1) := by decide +kernel
theorem dX8_toTest_24 : decode cX8_toTest 24 = .ok (.getfield 26, 3) := by decide +kernel
theorem dX8_toTest_27 : decode cX8_toTest 27 = .ok (.aload_n 0, 1) := by decide +kernel
theorem dX8_toTest_28 : decode cX8_toTest 28 = .ok (.getfield 19, 3) := by decide +kernel
theorem dX8_toTest_31 : decode cX8_toTest 31 = .ok (.invokevirtual 236, 3) := by decide +kernel
theorem dX8_toTest_34 : decode cX8_toTest 34 = .ok (.invokevirtual 255, 3) := by decide +kernel
theorem dX8_toTest_37 : decode cX8_toTest 37 = .ok (.ireturn, 1) := by decide +kernel
theorem dX8_tests_0 : decode cX8_tests 0 = .ok (.aload_n 0, 1) := by decide +kernel
theorem dX8_tests_1 : decode cX8_tests 1 = .ok (.invokevirtual 220, 3) := by decide +kernel
theorem dX8_tests_4 : decode cX8_tests 4 = .ok (.aload_n 0, 1) := by decide +kernel
theorem dX8_tests_5 : decode cX8_tests 5 = .ok (.getfield 58, 3) := by decide +kernel
theorem dX8_tests_8 : decode cX8_tests 8 = .ok (.invokevirtual 227, 3) := by decide +kernel
theorem dX8_tests_11 : decode cX8_tests 11 = .ok (.ifCond .ne 8, 3) := by decide +kernel
theorem dX8_tests_14 : decode cX8_tests 14 = .ok (.bipush (-9), 2) := by decide +kernel
theorem dX8_tests_16 : decode cX8_tests 16 = .ok (.goto 10, 3) := by decide +kernel
theorem dX8_tests_19 : decode cX8_tests 19 = .ok (.aload_n 0, 1) := by decide +kernel
theorem dX8_tests_20 : decode cX8_tests 20 = .ok (.getfield 58, 3) := by decide +kernel
theorem dX8_tests_23 : decode cX8_tests 23 = .ok (.invokevirtual 258, 3) := by decide +kernel
theorem dX8_tests_26 : decode cX8_tests 26 = .ok (.ireturn, 1) := by decide +kernel
theorem dX8_vote_0 : decode cX8_vote 0 = .ok (.aload_n 0, 1) := by decide +kernel
theorem dX8_vote_1 : decode cX8_vote 1 = .ok (.iload_n 1, 1) := by decide +kernel
theorem dX8_vote_2 : decode cX8_vote 2 = .ok (.invokevirtual 134, 3) := by decide +kernel
theorem dX8_vote_5 : decode cX8_vote 5 = .ok (.ifCond .eq 5, 3) := by decide +kernel
theorem dX8_vote_8 : decode cX8_vote 8 = .ok (.iconst (-1), 1) := by decide +kernel
theorem dX8_vote_9 : decode cX8_vote 9 = .ok (.ireturn, 1) := by decide +kernel
theorem dX8_vote_10 : decode cX8_vote 10 = .ok (.aload_n 0, 1) := by decide +kernel
theorem dX8_vote_11 : decode cX8_vote 11 = .ok (.getfield 26, 3) := by decide +kernel
theorem dX8_vote_14 : decode cX8_vote 14 = .ok (.getfield 150, 3) := by decide +kernel
theorem dX8_vote_17 : decode cX8_vote 17 = .ok (.iload_n 1, 1) := by decide +kernel
theorem dX8_vote_18 : decode cX8_vote 18 = .ok (.invokestatic 166, 3) := by decide +kernel
theorem dX8_vote_21 : decode cX8_vote 21 = .ok (.ifCond .eq 6, 3) := by decide +kernel
theorem dX8_vote_24 : decode cX8_vote 24 = .ok (.bipush (-3), 2) := by decide +kernel
theorem dX8_vote_26 : decode cX8_vote 26 = .ok (.ireturn, 1) := by decide +kernel
theorem dX8_vote_27 : decode cX8_vote 27 = .ok (.aload_n 0, 1) := by decide +kernel
theorem dX8_vote_28 : decode cX8_vote 28 = .ok (.invokevirtual 220, 3) := by decide +kernel
theorem dX8_vote_31 : decode cX8_vote 31 = .ok (.aload_n 0, 1) := by decide +kernel
theorem dX8_vote_32 : decode cX8_vote 32 = .ok (.iload_n 1, 1) := by decide +kernel
theorem dX8_vote_33 : decode cX8_vote 33 = .ok (.invokevirtual 261, 3) := by decide +kernel
theorem dX8_vote_36 : decode cX8_vote 36 = .ok (.ireturn, 1) := by decide +kernel
theorem dX8_hanged_0 : decode cX8_hanged 0 = .ok (.aload_n 0, 1) := by decide +kernel
theorem dX8_hanged_1 : decode cX8_hanged 1 = .ok (.invokevirtual 220, 3) := by decide +kernel
theorem dX8_hanged_4 : decode cX8_hanged 4 = .ok (.lconst 0, 1) := by decide +kernel
theorem dX8_hanged_5 : decode cX8_hanged 5 = .ok (.lstore_n 1, 1) := by decide +kernel
theorem dX8_hanged_6 : decode cX8_hanged 6 = .ok (.iconst 0, 1) := by decide +kernel
theorem dX8_hanged_7 : decode cX8_hanged 7 = .ok (.istore_n 3, 1) := by decide +kernel
theorem dX8_hanged_8 : decode cX8_hanged 8 = .ok (.iload_n 3, 1) := by decide +kernel
theorem dX8_hanged_9 : decode cX8_hanged 9 = .ok (.aload_n 0, 1) := by decide +kernel
theorem dX8_hanged_10 : decode cX8_hanged 10 = .ok (.getfield 19, 3) := by decide +kernel
theorem dX8_hanged_13 : decode cX8_hanged 13 = .ok (.getfield 104, 3) := by decide +kernel
theorem dX8_hanged_16 : decode cX8_hanged 16 = .ok (.if_icmp .ge 57, 3) := by decide +kernel
theorem dX8_hanged_19 : decode cX8_hanged 19 = .ok (.aload_n 0, 1) := by decide +kernel
theorem dX8_hanged_20 : decode cX8_hanged 20 = .ok (.getfield 26, 3) := by decide +kernel
theorem dX8_hanged_23 : decode cX8_hanged 23 = .ok (.getfield 150, 3) := by decide +kernel
theorem dX8_hanged_26 : decode cX8_hanged 26 = .ok (.iload_n 3, 1) := by decide +kernel
theorem dX8_hanged_27 : decode cX8_hanged 27 = .ok (.invokestatic 166, 3) := by decide +kernel
theorem dX8_hanged_30 : decode cX8_hanged 30 = .ok (.ifCond .eq 8, 3) := by decide +kernel
theorem dX8_hanged_33 : decode cX8_hanged 33 = .ok (.bipush (-9), 2) := by decide +kernel
theorem dX8_hanged_35 : decode cX8_hanged 35 = .ok (.goto 8, 3) := by decide +kernel
theorem dX8_hanged_38 : decode cX8_hanged 38 = .ok (.aload_n 0, 1) := by decide +kernel
theorem dX8_hanged_39 : decode cX8_hanged 39 = .ok (.iload_n 3, 1) := by decide +kernel
theorem dX8_hanged_40 : decode cX8_hanged 40 = .ok (.invokevirtual 261, 3) := by decide +kernel
theorem dX8_hanged_43 : decode cX8_hanged 43 = .ok (.istore 4, 2) := by decide +kernel
theorem dX8_hanged_45 : decode cX8_hanged 45 = .ok (.iload 4, 2) := by decide +kernel
theorem dX8_hanged_47 : decode cX8_hanged 47 = .ok (.bipush (-9), 2) := by decide +kernel
theorem dX8_hanged_49 : decode cX8_hanged 49 = .ok (.if_icmp .eq 18, 3) := by decide +kernel
theorem dX8_hanged_52 : decode cX8_hanged 52 = .ok (.lload_n 1, 1) := by decide +kernel
theorem dX8_hanged_53 : decode cX8_hanged 53 = .ok (.iload 4, 2) := by decide +kernel
theorem dX8_hanged_55 : decode cX8_hanged 55 = .ok (.lload_n 1, 1) := by decide +kernel
theorem dX8_hanged_56 : decode cX8_hanged 56 = .ok (.iload 4, 2) := by decide +kernel
theorem dX8_hanged_58 : decode cX8_hanged 58 = .ok (.invokestatic 114, 3) := by decide +kernel
theorem dX8_hanged_61 : decode cX8_hanged 61 = .ok (.iconst 1, 1) := by decide +kernel
theorem dX8_hanged_62 : decode cX8_hanged 62 = .ok (.iadd, 1) := by decide +kernel
theorem dX8_hanged_63 : decode cX8_hanged 63 = .ok (.invokestatic 264, 3) := by decide +kernel
theorem dX8_hanged_66 : decode cX8_hanged 66 = .ok (.lstore_n 1, 1) := by decide +kernel
theorem dX8_hanged_67 : decode cX8_hanged 67 = .ok (.iinc 3 1, 3) := by decide +kernel
theorem dX8_hanged_70 : decode cX8_hanged 70 = .ok (.goto (-62), 3) := by decide +kernel
theorem dX8_hanged_73 : decode cX8_hanged 73 = .ok (.bipush (-9), 2) := by decide +kernel
theorem dX8_hanged_75 : decode cX8_hanged 75 = .ok (.istore_n 3, 1) := by decide +kernel
theorem dX8_hanged_76 : decode cX8_hanged 76 = .ok (.iconst 0, 1) := by decide +kernel
theorem dX8_hanged_77 : decode cX8_hanged 77 = .ok (.istore 4, 2) := by decide +kernel
theorem dX8_hanged_79 : decode cX8_hanged 79 = .ok (.iconst 0, 1) := by decide +kernel
theorem dX8_hanged_80 : decode cX8_hanged 80 = .ok (.istore 5, 2) := by decide +kernel
theorem dX8_hanged_82 : decode cX8_hanged 82 = .ok (.iload 5, 2) := by decide +kernel
theorem dX8_hanged_84 : decode cX8_hanged 84 = .ok (.aload_n 0, 1) := by decide +kernel
theorem dX8_hanged_85 : decode cX8_hanged 85 = .ok (.getfield 19, 3) := by decide +kernel
theorem dX8_hanged_88 : decode cX8_hanged 88 = .ok (.getfield 104, 3) := by decide +kernel
theorem dX8_hanged_91 : decode cX8_hanged 91 = .ok (.if_icmp .ge 31, 3) := by decide +kernel
theorem dX8_hanged_94 : decode cX8_hanged 94 = .ok (.lload_n 1, 1) := by decide +kernel
theorem dX8_hanged_95 : decode cX8_hanged 95 = .ok (.iload 5, 2) := by decide +kernel
theorem dX8_hanged_97 : decode cX8_hanged 97 = .ok (.invokestatic 114, 3) := by decide +kernel
theorem dX8_hanged_100 : decode cX8_hanged 100 = .ok (.iload 4, 2) := by decide +kernel
theorem dX8_hanged_102 : decode cX8_hanged 102 = .ok (.if_icmp .le 14, 3) := by decide +kernel
theorem dX8_hanged_105 : decode cX8_hanged 105 = .ok (.iload 5, 2) := by decide +kernel
theorem dX8_hanged_107 : decode cX8_hanged 107 = .ok (.istore_n 3, 1) := by decide +kernel
theorem dX8_hanged_108 : decode cX8_hanged 108 = .ok (.lload_n 1, 1) := by decide +kernel
theorem dX8_hanged_109 : decode cX8_hanged 109 = .ok (.iload 5, 2) := by decide +kernel
theorem dX8_hanged_111 : decode cX8_hanged 111 = .ok (.invokestatic 114, 3) := by decide +kernel
theorem dX8_hanged_114 : decode cX8_hanged 114 = .ok (.istore 4, 2) := by decide +kernel
theorem dX8_hanged_116 : decode cX8_hanged 116 = .ok (.iinc 5 1, 3) := by decide +kernel
theorem dX8_hanged_119 : decode cX8_hanged 119 = .ok (.goto (-37), 3) := by decide +kernel
theorem dX8_hanged_122 : decode cX8_hanged 122 = .ok (.iload_n 3, 1) := by decide +kernel
theorem dX8_hanged_123 : decode cX8_hanged 123 = .ok (.ireturn, 1) := by decide +kernel
theorem dX8_safe_0 : decode cX8_safe 0 = .ok (.aload_n 0, 1) := by decide +kernel
theorem dX8_safe_1 : decode cX8_safe 1 = .ok (.getfield 26, 3) := by decide +kernel
theorem dX8_safe_4 : decode cX8_safe 4 = .ok (.aload_n 0, 1) := by decide +kernel
theorem dX8_safe_5 : decode cX8_safe 5 = .ok (.getfield 19, 3) := by decide +kernel
theorem dX8_safe_8 : decode cX8_safe 8 = .ok (.invokevirtual 236, 3) := by decide +kernel
theorem dX8_safe_11 : decode cX8_safe 11 = .ok (.istore_n 1, 1) := by decide +kernel
theorem dX8_safe_12 : decode cX8_safe 12 = .ok (.iconst 0, 1) := by decide +kernel
theorem dX8_safe_13 : decode cX8_safe 13 = .ok (.istore_n 2, 1) := by decide +kernel
theorem dX8_safe_14 : decode cX8_safe 14 = .ok (.iconst 0, 1) := by decide +kernel
theorem dX8_safe_15 : decode cX8_safe 15 = .ok (.istore_n 3, 1) := by decide +kernel
theorem dX8_safe_16 : decode cX8_safe 16 = .ok (.iconst 0, 1) := by decide +kernel
theorem dX8_safe_17 : decode cX8_safe 17 = .ok (.istore 4, 2) := by decide +kernel
theorem dX8_safe_19 : decode cX8_safe 19 = .ok (.iload 4, 2) := by decide +kernel
theorem dX8_safe_21 : decode cX8_safe 21 = .ok (.aload_n 0, 1) := by decide +kernel
theorem dX8_safe_22 : decode cX8_safe 22 = .ok (.getfield 19, 3) := by decide +kernel
theorem dX8_safe_25 : decode cX8_safe 25 = .ok (.getfield 104, 3) := by decide +kernel
theorem dX8_safe_28 : decode cX8_safe 28 = .ok (.if_icmp .ge 72, 3) := by decide +kernel
theorem dX8_safe_31 : decode cX8_safe 31 = .ok (.iload_n 1, 1) := by decide +kernel
theorem dX8_safe_32 : decode cX8_safe 32 = .ok (.aload_n 0, 1) := by decide +kernel
theorem dX8_safe_33 : decode cX8_safe 33 = .ok (.getfield 26, 3) := by decide +kernel
theorem dX8_safe_36 : decode cX8_safe 36 = .ok (.getfield 140, 3) := by decide +kernel
theorem dX8_safe_39 : decode cX8_safe 39 = .ok (.iand, 1) := by decide +kernel
theorem dX8_safe_40 : decode cX8_safe 40 = .ok (.iload 4, 2) := by decide +kernel
theorem dX8_safe_42 : decode cX8_safe 42 = .ok (.invokestatic 166, 3) := by decide +kernel
theorem dX8_safe_45 : decode cX8_safe 45 = .ok (.ifCond .eq 22, 3) := by decide +kernel
theorem dX8_safe_48 : decode cX8_safe 48 = .ok (.iload_n 2, 1) := by decide +kernel
theorem dX8_safe_49 : decode cX8_safe 49 = .ok (.aload_n 0, 1) := by decide +kernel
theorem dX8_safe_50 : decode cX8_safe 50 = .ok (.getfield 26, 3) := by decide +kernel
theorem dX8_safe_53 : decode cX8_safe 53 = .ok (.aload_n 0, 1) := by decide +kernel
theorem dX8_safe_54 : decode cX8_safe 54 = .ok (.getfield 19, 3) := by decide +kernel
theorem dX8_safe_57 : decode cX8_safe 57 = .ok (.iload 4, 2) := by decide +kernel
theorem dX8_safe_59 : decode cX8_safe 59 = .ok (.invokevirtual 268, 3) := by decide +kernel
theorem dX8_safe_62 : decode cX8_safe 62 = .ok (.ior, 1) := by decide +kernel
theorem dX8_safe_63 : decode cX8_safe 63 = .ok (.istore_n 2, 1) := by decide +kernel
theorem dX8_safe_64 : decode cX8_safe 64 = .ok (.goto 30, 3) := by decide +kernel
theorem dX8_safe_67 : decode cX8_safe 67 = .ok (.iload_n 1, 1) := by decide +kernel
theorem dX8_safe_68 : decode cX8_safe 68 = .ok (.iload 4, 2) := by decide +kernel
theorem dX8_safe_70 : decode cX8_safe 70 = .ok (.invokestatic 166, 3) := by decide +kernel
theorem dX8_safe_73 : decode cX8_safe 73 = .ok (.ifCond .eq 21, 3) := by decide +kernel
theorem dX8_safe_76 : decode cX8_safe 76 = .ok (.iload_n 3, 1) := by decide +kernel
theorem dX8_safe_77 : decode cX8_safe 77 = .ok (.aload_n 0, 1) := by decide +kernel
theorem dX8_safe_78 : decode cX8_safe 78 = .ok (.getfield 19, 3) := by decide +kernel
theorem dX8_safe_81 : decode cX8_safe 81 = .ok (.getfield 137, 3) := by decide +kernel
theorem dX8_safe_84 : decode cX8_safe 84 = .ok (.iload 4, 2) := by decide +kernel
theorem dX8_safe_86 : decode cX8_safe 86 = .ok (.invokestatic 114, 3) := by decide +kernel
theorem dX8_safe_89 : decode cX8_safe 89 = .ok (.invokestatic 184, 3) := by decide +kernel
theorem dX8_safe_92 : decode cX8_safe 92 = .ok (.ior, 1) := by decide +kernel
theorem dX8_safe_93 : decode cX8_safe 93 = .ok (.istore_n 3, 1) := by decide +kernel
theorem dX8_safe_94 : decode cX8_safe 94 = .ok (.iinc 4 1, 3) := by decide +kernel
theorem dX8_safe_97 : decode cX8_safe 97 = .ok (.goto (-78), 3) := by decide +kernel
theorem dX8_safe_100 : decode cX8_safe 100 = .ok (.iload_n 2, 1) := by decide +kernel
theorem dX8_safe_101 : decode cX8_safe 101 = .ok (.iload_n 3, 1) := by decide +kernel
theorem dX8_safe_102 : decode cX8_safe 102 = .ok (.iand, 1) := by decide +kernel
theorem dX8_safe_103 : decode cX8_safe 103 = .ok (.ireturn, 1) := by decide +kernel
theorem dX8_locked_0 : decode cX8_locked 0 = .ok (.aload_n 0, 1) := by decide +kernel
theorem dX8_locked_1 : decode cX8_locked 1 = .ok (.invokevirtual 220, 3) := by decide +kernel
theorem dX8_locked_4 : decode cX8_locked 4 = .ok (.aload_n 0, 1) := by decide +kernel
theorem dX8_locked_5 : decode cX8_locked 5 = .ok (.getfield 58, 3) := by decide +kernel
theorem dX8_locked_8 : decode cX8_locked 8 = .ok (.invokevirtual 240, 3) := by decide +kernel
theorem dX8_locked_11 : decode cX8_locked 11 = .ok (.istore_n 1, 1) := by decide +kernel
theorem dX8_locked_12 : decode cX8_locked 12 = .ok (.aload_n 0, 1) := by decide +kernel
theorem dX8_locked_13 : decode cX8_locked 13 = .ok (.getfield 19, 3) := by decide +kernel
theorem dX8_locked_16 : decode cX8_locked 16 = .ok (.getfield 101, 3) := by decide +kernel
theorem dX8_locked_19 : decode cX8_locked 19 = .ok (.invokestatic 271, 3) := by decide +kernel
theorem dX8_locked_22 : decode cX8_locked 22 = .ok (.istore_n 2, 1) := by decide +kernel
theorem dX8_locked_23 : decode cX8_locked 23 = .ok (.iconst 0, 1) := by decide +kernel
theorem dX8_locked_24 : decode cX8_locked 24 = .ok (.istore_n 3, 1) := by decide +kernel
theorem dX8_locked_25 : decode cX8_locked 25 = .ok (.iload_n 3, 1) := by decide +kernel
theorem dX8_locked_26 : decode cX8_locked 26 = .ok (.bipush 16, 2) := by decide +kernel
theorem dX8_locked_28 : decode cX8_locked 28 = .ok (.if_icmp .ge 45, 3) := by decide +kernel
theorem dX8_locked_31 : decode cX8_locked 31 = .ok (.iload_n 3, 1) := by decide +kernel
theorem dX8_locked_32 : decode cX8_locked 32 = .ok (.aload_n 0, 1) := by decide +kernel
theorem dX8_locked_33 : decode cX8_locked 33 = .ok (.getfield 19, 3) := by decide +kernel
theorem dX8_locked_36 : decode cX8_locked 36 = .ok (.getfield 101, 3) := by decide +kernel
theorem dX8_locked_39 : decode cX8_locked 39 = .ok (.invokestatic 271, 3) := by decide +kernel
theorem dX8_locked_42 : decode cX8_locked 42 = .ok (.if_icmp .gt 31, 3) := by decide +kernel
theorem dX8_locked_45 : decode cX8_locked 45 = .ok (.iload_n 3, 1) := by decide +kernel
theorem dX8_locked_46 : decode cX8_locked 46 = .ok (.invokestatic 274, 3) := by decide +kernel
theorem dX8_locked_49 : decode cX8_locked 49 = .ok (.iload_n 2, 1) := by decide +kernel
theorem dX8_locked_50 : decode cX8_locked 50 = .ok (.invokestatic 274, 3) := by decide +kernel
theorem dX8_locked_53 : decode cX8_locked 53 = .ok (.if_icmp .ge 14, 3) := by decide +kernel
theorem dX8_locked_56 : decode cX8_locked 56 = .ok (.aload_n 0, 1) := by decide +kernel
theorem dX8_locked_57 : decode cX8_locked 57 = .ok (.iload_n 1, 1) := by decide +kernel
theorem dX8_locked_58 : decode cX8_locked 58 = .ok (.iload_n 3, 1) := by decide +kernel
theorem dX8_locked_59 : decode cX8_locked 59 = .ok (.invokevirtual 279, 3) := by decide +kernel
theorem dX8_locked_62 : decode cX8_locked 62 = .ok (.ifCond .eq 5, 3) := by decide +kernel
theorem dX8_locked_65 : decode cX8_locked 65 = .ok (.iload_n 3, 1) := by decide +kernel
theorem dX8_locked_66 : decode cX8_locked 66 = .ok (.istore_n 2, 1) := by decide +kernel
theorem dX8_locked_67 : decode cX8_locked 67 = .ok (.iinc 3 1, 3) := by decide +kernel
theorem dX8_locked_70 : decode cX8_locked 70 = .ok (.goto (-45), 3) := by decide +kernel
theorem dX8_locked_73 : decode cX8_locked 73 = .ok (.iload_n 2, 1) := by decide +kernel
theorem dX8_locked_74 : decode cX8_locked 74 = .ok (.ireturn, 1) := by decide +kernel
theorem dX8_danger_0 : decode cX8_danger 0 = .ok (.aload_n 0, 1) := by decide +kernel
theorem dX8_danger_1 : decode cX8_danger 1 = .ok (.iload_n 1, 1) := by decide +kernel
theorem dX8_danger_2 : decode cX8_danger 2 = .ok (.invokevirtual 134, 3) := by decide +kernel
theorem dX8_danger_5 : decode cX8_danger 5 = .ok (.ifCond .eq 7, 3) := by decide +kernel
theorem dX8_danger_8 : decode cX8_danger 8 = .ok (.ldc2_w 243, 3) := by decide +kernel
theorem dX8_danger_11 : decode cX8_danger 11 = .ok (.lreturn, 1) := by decide +kernel
theorem dX8_danger_12 : decode cX8_danger 12 = .ok (.iload_n 2, 1) := by decide +kernel
theorem dX8_danger_13 : decode cX8_danger 13 = .ok (.iconst 1, 1) := by decide +kernel
theorem dX8_danger_14 : decode cX8_danger 14 = .ok (.if_icmp .lt 8, 3) := by decide +kernel
theorem dX8_danger_17 : decode cX8_danger 17 = .ok (.iload_n 2, 1) := by decide +kernel
theorem dX8_danger_18 : decode cX8_danger 18 = .ok (.iconst 2, 1) := by decide +kernel
theorem dX8_danger_19 : decode cX8_danger 19 = .ok (.if_icmp .le 7, 3) := by decide +kernel
theorem dX8_danger_22 : decode cX8_danger 22 = .ok (.ldc2_w 282, 3) := by decide +kernel
theorem dX8_danger_25 : decode cX8_danger 25 = .ok (.lreturn, 1) := by decide +kernel
theorem dX8_danger_26 : decode cX8_danger 26 = .ok (.aload_n 0, 1) := by decide +kernel
theorem dX8_danger_27 : decode cX8_danger 27 = .ok (.getfield 65, 3) := by decide +kernel
theorem dX8_danger_30 : decode cX8_danger 30 = .ok (.aload_n 0, 1) := by decide +kernel
theorem dX8_danger_31 : decode cX8_danger 31 = .ok (.getfield 19, 3) := by decide +kernel
theorem dX8_danger_34 : decode cX8_danger 34 = .ok (.aload_n 0, 1) := by decide +kernel
theorem dX8_danger_35 : decode cX8_danger 35 = .ok (.getfield 26, 3) := by decide +kernel
theorem dX8_danger_38 : decode cX8_danger 38 = .ok (.iload_n 1, 1) := by decide +kernel
theorem dX8_danger_39 : decode cX8_danger 39 = .ok (.iload_n 2, 1) := by decide +kernel
theorem dX8_danger_40 : decode cX8_danger 40 = .ok (.invokevirtual 284, 3) := by decide +kernel
theorem dX8_danger_43 : decode cX8_danger 43 = .ok (.ldc2_w 288, 3) := by decide +kernel
theorem dX8_danger_46 : decode cX8_danger 46 = .ok (.aload_n 0, 1) := by decide +kernel
theorem dX8_danger_47 : decode cX8_danger 47 = .ok (.getfield 19, 3) := by decide +kernel
theorem dX8_danger_50 : decode cX8_danger 50 = .ok (.getfield 104, 3) := by decide +kernel
theorem dX8_danger_53 : decode cX8_danger 53 = .ok (.iload_n 2, 1) := by decide +kernel
theorem dX8_danger_54 : decode cX8_danger 54 = .ok (.imul, 1) := by decide +kernel
theorem dX8_danger_55 : decode cX8_danger 55 = .ok (.invokestatic 200, 3) := by decide +kernel
theorem dX8_danger_58 : decode cX8_danger 58 = .ok (.iload_n 3, 1) := by decide +kernel
theorem dX8_danger_59 : decode cX8_danger 59 = .ok (.invokestatic 251, 3) := by decide +kernel
theorem dX8_danger_62 : decode cX8_danger 62 = .ok (.lreturn, 1) := by decide +kernel
theorem dX8_seed_0 : decode cX8_seed 0 = .ok (.aload_n 0, 1) := by decide +kernel
theorem dX8_seed_1 : decode cX8_seed 1 = .ok (.getfield 69, 3) := by decide +kernel
theorem dX8_seed_4 : decode cX8_seed 4 = .ok (.lstore_n 3, 1) := by decide +kernel
theorem dX8_seed_5 : decode cX8_seed 5 = .ok (.aload_n 0, 1) := by decide +kernel
theorem dX8_seed_6 : decode cX8_seed 6 = .ok (.lload_n 1, 1) := by decide +kernel
theorem dX8_seed_7 : decode cX8_seed 7 = .ok (.putfield 69, 3) := by decide +kernel
theorem dX8_seed_10 : decode cX8_seed 10 = .ok (.lload_n 3, 1) := by decide +kernel
theorem dX8_seed_11 : decode cX8_seed 11 = .ok (.lreturn, 1) := by decide +kernel
theorem dX8_years_0 : decode cX8_years 0 = .ok (.iload_n 1, 1) := by decide +kernel
theorem dX8_years_1 : decode cX8_years 1 = .ok (.iconst 1, 1) := by decide +kernel
theorem dX8_years_2 : decode cX8_years 2 = .ok (.if_icmp .lt 9, 3) := by decide +kernel
theorem dX8_years_5 : decode cX8_years 5 = .ok (.iload_n 1, 1) := by decide +kernel
theorem dX8_years_6 : decode cX8_years 6 = .ok (.bipush 30, 2) := by decide +kernel
theorem dX8_years_8 : decode cX8_years 8 = .ok (.if_icmp .le 6, 3) := by decide +kernel
theorem dX8_years_11 : decode cX8_years 11 = .ok (.bipush (-2), 2) := by decide +kernel
theorem dX8_years_13 : decode cX8_years 13 = .ok (.ireturn, 1) := by decide +kernel
theorem dX8_years_14 : decode cX8_years 14 = .ok (.aload_n 0, 1) := by decide +kernel
theorem dX8_years_15 : decode cX8_years 15 = .ok (.getfield 30, 3) := by decide +kernel
theorem dX8_years_18 : decode cX8_years 18 = .ok (.aload_n 0, 1) := by decide +kernel
theorem dX8_years_19 : decode cX8_years 19 = .ok (.getfield 26, 3) := by decide +kernel
theorem dX8_years_22 : decode cX8_years 22 = .ok (.invokevirtual 204, 3) := by decide +kernel
theorem dX8_years_25 : decode cX8_years 25 = .ok (.iconst 0, 1) := by decide +kernel
theorem dX8_years_26 : decode cX8_years 26 = .ok (.istore_n 2, 1) := by decide +kernel
theorem dX8_years_27 : decode cX8_years 27 = .ok (.iload_n 2, 1) := by decide +kernel
theorem dX8_years_28 : decode cX8_years 28 = .ok (.iload_n 1, 1) := by decide +kernel
theorem dX8_years_29 : decode cX8_years 29 = .ok (.if_icmp .ge 41, 3) := by decide +kernel
theorem dX8_years_32 : decode cX8_years 32 = .ok (.iconst 0, 1) := by decide +kernel
theorem dX8_years_33 : decode cX8_years 33 = .ok (.istore_n 3, 1) := by decide +kernel
theorem dX8_years_34 : decode cX8_years 34 = .ok (.iload_n 3, 1) := by decide +kernel
theorem dX8_years_35 : decode cX8_years 35 = .ok (.aload_n 0, 1) := by decide +kernel
theorem dX8_years_36 : decode cX8_years 36 = .ok (.getfield 19, 3) := by decide +kernel
theorem dX8_years_39 : decode cX8_years 39 = .ok (.getfield 104, 3) := by decide +kernel
theorem dX8_years_42 : decode cX8_years 42 = .ok (.if_icmp .ge 14, 3) := by decide +kernel
theorem dX8_years_45 : decode cX8_years 45 = .ok (.aload_n 0, 1) := by decide +kernel
theorem dX8_years_46 : decode cX8_years 46 = .ok (.iload_n 3, 1) := by decide +kernel
theorem dX8_years_47 : decode cX8_years 47 = .ok (.invokevirtual 290, 3) := by decide +kernel
theorem dX8_years_50 : decode cX8_years 50 = .ok (.iinc 3 1, 3) := by decide +kernel
theorem dX8_years_53 : decode cX8_years 53 = .ok (.goto (-19), 3) := by decide +kernel
theorem dX8_years_56 : decode cX8_years 56 = .ok (.aload_n 0, 1) := by decide +kernel
theorem dX8_years_57 : decode cX8_years 57 = .ok (.getfield 30, 3) := by decide +kernel
theorem dX8_years_60 : decode cX8_years 60 = .ok (.invokevirtual 181, 3) := by decide +kernel
theorem dX8_years_63 : decode cX8_years 63 = .ok (.pop, 1) := by decide +kernel
theorem dX8_years_64 : decode cX8_years 64 = .ok (.iinc 2 1, 3) := by decide +kernel
theorem dX8_years_67 : decode cX8_years 67 = .ok (.goto (-40), 3) := by decide +kernel
theorem dX8_years_70 : decode cX8_years 70 = .ok (.aload_n 0, 1) := by decide +kernel
theorem dX8_years_71 : decode cX8_years 71 = .ok (.getfield 30, 3) := by decide +kernel
theorem dX8_years_74 : decode cX8_years 74 = .ok (.getfield 140, 3) := by decide +kernel
theorem dX8_years_77 : decode cX8_years 77 = .ok (.aload_n 0, 1) := by decide +kernel
theorem dX8_years_78 : decode cX8_years 78 = .ok (.getfield 30, 3) := by decide +kernel
theorem dX8_years_81 : decode cX8_years 81 = .ok (.aload_n 0, 1) := by decide +kernel
theorem dX8_years_82 : decode cX8_years 82 = .ok (.getfield 19, 3) := by decide +kernel
theorem dX8_years_85 : decode cX8_years 85 = .ok (.invokevirtual 236, 3) := by decide +kernel
theorem dX8_years_88 : decode cX8_years 88 = .ok (.iand, 1) := by decide +kernel
theorem dX8_years_89 : decode cX8_years 89 = .ok (.ireturn, 1) := by decide +kernel
theorem dX8_keep_0 : decode cX8_keep 0 = .ok (.aload_n 0, 1) := by decide +kernel
theorem dX8_keep_1 : decode cX8_keep 1 = .ok (.getfield 40, 3) := by decide +kernel
theorem dX8_keep_4 : decode cX8_keep 4 = .ok (.iload_n 1, 1) := by decide +kernel
theorem dX8_keep_5 : decode cX8_keep 5 = .ok (.invokestatic 293, 3) := by decide +kernel
theorem dX8_keep_8 : decode cX8_keep 8 = .ok (.astore_n 2, 1) := by decide +kernel
theorem dX8_keep_9 : decode cX8_keep 9 = .ok (.aload_n 2, 1) := by decide +kernel
theorem dX8_keep_10 : decode cX8_keep 10 = .ok (.ifnonnull 5, 3) := by decide +kernel
theorem dX8_keep_13 : decode cX8_keep 13 = .ok (.iconst (-1), 1) := by decide +kernel
theorem dX8_keep_14 : decode cX8_keep 14 = .ok (.ireturn, 1) := by decide +kernel
theorem dX8_keep_15 : decode cX8_keep 15 = .ok (.aload_n 2, 1) := by decide +kernel
theorem dX8_keep_16 : decode cX8_keep 16 = .ok (.aload_n 0, 1) := by decide +kernel
theorem dX8_keep_17 : decode cX8_keep 17 = .ok (.getfield 26, 3) := by decide +kernel
theorem dX8_keep_20 : decode cX8_keep 20 = .ok (.invokevirtual 204, 3) := by decide +kernel
theorem dX8_keep_23 : decode cX8_keep 23 = .ok (.aload_n 0, 1) := by decide +kernel
theorem dX8_keep_24 : decode cX8_keep 24 = .ok (.dup, 1) := by decide +kernel
theorem dX8_keep_25 : decode cX8_keep 25 = .ok (.getfield 44, 3) := by decide +kernel
theorem dX8_keep_28 : decode cX8_keep 28 = .ok (.iload_n 1, 1) := by decide +kernel
theorem dX8_keep_29 : decode cX8_keep 29 = .ok (.invokestatic 184, 3) := by decide +kernel
theorem dX8_keep_32 : decode cX8_keep 32 = .ok (.ior, 1) := by decide +kernel
theorem dX8_keep_33 : decode cX8_keep 33 = .ok (.putfield 44, 3) := by decide +kernel
theorem dX8_keep_36 : decode cX8_keep 36 = .ok (.aload_n 0, 1) := by decide +kernel
theorem dX8_keep_37 : decode cX8_keep 37 = .ok (.getfield 26, 3) := by decide +kernel
theorem dX8_keep_40 : decode cX8_keep 40 = .ok (.getfield 297, 3) := by decide +kernel
theorem dX8_keep_43 : decode cX8_keep 43 = .ok (.ireturn, 1) := by decide +kernel
theorem dX8_again_0 : decode cX8_again 0 = .ok (.aload_n 0, 1) := by decide +kernel
theorem dX8_again_1 : decode cX8_again 1 = .ok (.getfield 40, 3) := by decide +kernel
theorem dX8_again_4 : decode cX8_again 4 = .ok (.iload_n 1, 1) := by decide +kernel
theorem dX8_again_5 : decode cX8_again 5 = .ok (.invokestatic 293, 3) := by decide +kernel
theorem dX8_again_8 : decode cX8_again 8 = .ok (.astore_n 2, 1) := by decide +kernel
theorem dX8_again_9 : decode cX8_again 9 = .ok (.aload_n 2, 1) := by decide +kernel
theorem dX8_again_10 : decode cX8_again 10 = .ok (.ifnonnull 5, 3) := by decide +kernel
theorem dX8_again_13 : decode cX8_again 13 = .ok (.iconst (-1), 1) := by decide +kernel
theorem dX8_again_14 : decode cX8_again 14 = .ok (.ireturn, 1) := by decide +kernel
theorem dX8_again_15 : decode cX8_again 15 = .ok (.aload_n 0, 1) := by decide +kernel
theorem dX8_again_16 : decode cX8_again 16 = .ok (.getfield 44, 3) := by decide +kernel
theorem dX8_again_19 : decode cX8_again 19 = .ok (.iload_n 1, 1) := by decide +kernel
theorem dX8_again_20 : decode cX8_again 20 = .ok (.invokestatic 166, 3) := by decide +kernel
theorem dX8_again_23 : decode cX8_again 23 = .ok (.ifCond .ne 6, 3) := by decide +kernel
theorem dX8_again_26 : decode cX8_again 26 = .ok (.bipush (-3), 2) := by decide +kernel
theorem dX8_again_28 : decode cX8_again 28 = .ok (.ireturn, 1) := by decide +kernel
theorem dX8_again_29 : decode cX8_again 29 = .ok (.aload_n 0, 1) := by decide +kernel
theorem dX8_again_30 : decode cX8_again 30 = .ok (.getfield 26, 3) := by decide +kernel
theorem dX8_again_33 : decode cX8_again 33 = .ok (.aload_n 2, 1) := by decide +kernel
theorem dX8_again_34 : decode cX8_again 34 = .ok (.invokevirtual 204, 3) := by decide +kernel
theorem dX8_again_37 : decode cX8_again 37 = .ok (.aload_n 0, 1) := by decide +kernel
theorem dX8_again_38 : decode cX8_again 38 = .ok (.getfield 36, 3) := by decide +kernel
theorem dX8_again_41 : decode cX8_again 41 = .ok (.invokevirtual 98, 3) := by decide +kernel
theorem dX8_again_44 : decode cX8_again 44 = .ok (.aload_n 0, 1) := by decide +kernel
theorem dX8_again_45 : decode cX8_again 45 = .ok (.getfield 26, 3) := by decide +kernel
theorem dX8_again_48 : decode cX8_again 48 = .ok (.getfield 297, 3) := by decide +kernel
theorem dX8_again_51 : decode cX8_again 51 = .ok (.ireturn, 1) := by decide +kernel
theorem dX8_count_0 : decode cX8_count 0 = .ok (.iload_n 1, 1) := by decide +kernel
theorem dX8_count_1 : decode cX8_count 1 = .ok (.tableswitch 167 0 10 #[59, 67, 75, 83, 91, 111, 123, 131, 139, 147, 155], 59) := by decide +kernel
theorem dX8_count_60 : decode cX8_count 60 = .ok (.aload_n 0, 1) := by decide +kernel
theorem dX8_count_61 : decode cX8_count 61 = .ok (.getfield 10, 3) := by decide +kernel
theorem dX8_count_64 : decode cX8_count 64 = .ok (.getfield 77, 3) := by decide +kernel
theorem dX8_count_67 : decode cX8_count 67 = .ok (.ireturn, 1) := by decide +kernel
theorem dX8_count_68 : decode cX8_count 68 = .ok (.aload_n 0, 1) := by decide +kernel
theorem dX8_count_69 : decode cX8_count 69 = .ok (.getfield 19, 3) := by decide +kernel
theorem dX8_count_72 : decode cX8_count 72 = .ok (.getfield 101, 3) := by decide +kernel
theorem dX8_count_75 : decode cX8_count 75 = .ok (.ireturn, 1) := by decide +kernel
theorem dX8_count_76 : decode cX8_count 76 = .ok (.aload_n 0, 1) := by decide +kernel
theorem dX8_count_77 : decode cX8_count 77 = .ok (.getfield 19, 3) := by decide +kernel
theorem dX8_count_80 : decode cX8_count 80 = .ok (.getfield 104, 3) := by decide +kernel
theorem dX8_count_83 : decode cX8_count 83 = .ok (.ireturn, 1) := by decide +kernel
theorem dX8_count_84 : decode cX8_count 84 = .ok (.aload_n 0, 1) := by decide +kernel
theorem dX8_count_85 : decode cX8_count 85 = .ok (.getfield 26, 3) := by decide +kernel
theorem dX8_count_88 : decode cX8_count 88 = .ok (.getfield 297, 3) := by decide +kernel
theorem dX8_count_91 : decode cX8_count 91 = .ok (.ireturn, 1) := by decide +kernel
theorem dX8_count_92 : decode cX8_count 92 = .ok (.aload_n 0, 1) := by decide +kernel
