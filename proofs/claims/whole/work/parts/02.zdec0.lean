theorem dX0_init_0 : decode cX0_init 0 = .ok (.aload_n 0, 1) := by decide +kernel
theorem dX0_init_1 : decode cX0_init 1 = .ok (.invokespecial 3, 3) := by decide +kernel
theorem dX0_init_4 : decode cX0_init 4 = .ok (.aload_n 0, 1) := by decide +kernel
theorem dX0_init_5 : decode cX0_init 5 = .ok (.bipush 100, 2) := by decide +kernel
theorem dX0_init_7 : decode cX0_init 7 = .ok (.newarray .int, 2) := by decide +kernel
theorem dX0_init_9 : decode cX0_init 9 = .ok (.putfield 9, 3) := by decide +kernel
theorem dX0_init_12 : decode cX0_init 12 = .ok (.aload_n 0, 1) := by decide +kernel
theorem dX0_init_13 : decode cX0_init 13 = .ok (.new 15, 3) := by decide +kernel
theorem dX0_init_16 : decode cX0_init 16 = .ok (.dup, 1) := by decide +kernel
theorem dX0_init_17 : decode cX0_init 17 = .ok (.invokespecial 17, 3) := by decide +kernel
theorem dX0_init_20 : decode cX0_init 20 = .ok (.putfield 18, 3) := by decide +kernel
theorem dX0_init_23 : decode cX0_init 23 = .ok (.return_, 1) := by decide +kernel
theorem dX0_boundOf_0 : decode cX0_boundOf 0 = .ok (.aload_n 1, 1) := by decide +kernel
theorem dX0_boundOf_1 : decode cX0_boundOf 1 = .ok (.getfield 22, 3) := by decide +kernel
theorem dX0_boundOf_4 : decode cX0_boundOf 4 = .ok (.iconst 0, 1) := by decide +kernel
theorem dX0_boundOf_5 : decode cX0_boundOf 5 = .ok (.aload_n 0, 1) := by decide +kernel
theorem dX0_boundOf_6 : decode cX0_boundOf 6 = .ok (.getfield 9, 3) := by decide +kernel
theorem dX0_boundOf_9 : decode cX0_boundOf 9 = .ok (.iconst 0, 1) := by decide +kernel
theorem dX0_boundOf_10 : decode cX0_boundOf 10 = .ok (.aload_n 0, 1) := by decide +kernel
theorem dX0_boundOf_11 : decode cX0_boundOf 11 = .ok (.getfield 9, 3) := by decide +kernel
theorem dX0_boundOf_14 : decode cX0_boundOf 14 = .ok (.arraylength, 1) := by decide +kernel
theorem dX0_boundOf_15 : decode cX0_boundOf 15 = .ok (.invokestatic 27, 3) := by decide +kernel
theorem dX0_boundOf_18 : decode cX0_boundOf 18 = .ok (.iconst 0, 1) := by decide +kernel
theorem dX0_boundOf_19 : decode cX0_boundOf 19 = .ok (.istore_n 2, 1) := by decide +kernel
theorem dX0_boundOf_20 : decode cX0_boundOf 20 = .ok (.iconst 0, 1) := by decide +kernel
theorem dX0_boundOf_21 : decode cX0_boundOf 21 = .ok (.istore_n 3, 1) := by decide +kernel
theorem dX0_boundOf_22 : decode cX0_boundOf 22 = .ok (.iload_n 3, 1) := by decide +kernel
theorem dX0_boundOf_23 : decode cX0_boundOf 23 = .ok (.aload_n 0, 1) := by decide +kernel
theorem dX0_boundOf_24 : decode cX0_boundOf 24 = .ok (.getfield 9, 3) := by decide +kernel
theorem dX0_boundOf_27 : decode cX0_boundOf 27 = .ok (.arraylength, 1) := by decide +kernel
theorem dX0_boundOf_28 : decode cX0_boundOf 28 = .ok (.if_icmp .ge 53, 3) := by decide +kernel
theorem dX0_boundOf_31 : decode cX0_boundOf 31 = .ok (.aload_n 0, 1) := by decide +kernel
theorem dX0_boundOf_32 : decode cX0_boundOf 32 = .ok (.getfield 18, 3) := by decide +kernel
theorem dX0_boundOf_35 : decode cX0_boundOf 35 = .ok (.aload_n 0, 1) := by decide +kernel
theorem dX0_boundOf_36 : decode cX0_boundOf 36 = .ok (.getfield 9, 3) := by decide +kernel
theorem dX0_boundOf_39 : decode cX0_boundOf 39 = .ok (.aload_n 1, 1) := by decide +kernel
theorem dX0_boundOf_40 : decode cX0_boundOf 40 = .ok (.getfield 33, 3) := by decide +kernel
theorem dX0_boundOf_43 : decode cX0_boundOf 43 = .ok (.getfield 34, 3) := by decide +kernel
theorem dX0_boundOf_46 : decode cX0_boundOf 46 = .ok (.invokevirtual 38, 3) := by decide +kernel
theorem dX0_boundOf_49 : decode cX0_boundOf 49 = .ok (.aload_n 0, 1) := by decide +kernel
theorem dX0_boundOf_50 : decode cX0_boundOf 50 = .ok (.getfield 18, 3) := by decide +kernel
theorem dX0_boundOf_53 : decode cX0_boundOf 53 = .ok (.invokevirtual 42, 3) := by decide +kernel
theorem dX0_boundOf_56 : decode cX0_boundOf 56 = .ok (.istore 4, 2) := by decide +kernel
theorem dX0_boundOf_58 : decode cX0_boundOf 58 = .ok (.iload 4, 2) := by decide +kernel
theorem dX0_boundOf_60 : decode cX0_boundOf 60 = .ok (.ifCond .ne 6, 3) := by decide +kernel
theorem dX0_boundOf_63 : decode cX0_boundOf 63 = .ok (.goto 18, 3) := by decide +kernel
theorem dX0_boundOf_66 : decode cX0_boundOf 66 = .ok (.iload_n 2, 1) := by decide +kernel
theorem dX0_boundOf_67 : decode cX0_boundOf 67 = .ok (.aload_n 0, 1) := by decide +kernel
theorem dX0_boundOf_68 : decode cX0_boundOf 68 = .ok (.iload 4, 2) := by decide +kernel
theorem dX0_boundOf_70 : decode cX0_boundOf 70 = .ok (.invokevirtual 46, 3) := by decide +kernel
theorem dX0_boundOf_73 : decode cX0_boundOf 73 = .ok (.iadd, 1) := by decide +kernel
theorem dX0_boundOf_74 : decode cX0_boundOf 74 = .ok (.istore_n 2, 1) := by decide +kernel
theorem dX0_boundOf_75 : decode cX0_boundOf 75 = .ok (.iinc 3 1, 3) := by decide +kernel
theorem dX0_boundOf_78 : decode cX0_boundOf 78 = .ok (.goto (-56), 3) := by decide +kernel
theorem dX0_boundOf_81 : decode cX0_boundOf 81 = .ok (.iload_n 2, 1) := by decide +kernel
theorem dX0_boundOf_82 : decode cX0_boundOf 82 = .ok (.ireturn, 1) := by decide +kernel
theorem dX0_takeLeastOff_0 : decode cX0_takeLeastOff 0 = .ok (.ldc 50, 2) := by decide +kernel
theorem dX0_takeLeastOff_2 : decode cX0_takeLeastOff 2 = .ok (.istore_n 2, 1) := by decide +kernel
theorem dX0_takeLeastOff_3 : decode cX0_takeLeastOff 3 = .ok (.iconst 0, 1) := by decide +kernel
theorem dX0_takeLeastOff_4 : decode cX0_takeLeastOff 4 = .ok (.istore_n 3, 1) := by decide +kernel
theorem dX0_takeLeastOff_5 : decode cX0_takeLeastOff 5 = .ok (.iload_n 3, 1) := by decide +kernel
theorem dX0_takeLeastOff_6 : decode cX0_takeLeastOff 6 = .ok (.iload_n 1, 1) := by decide +kernel
theorem dX0_takeLeastOff_7 : decode cX0_takeLeastOff 7 = .ok (.if_icmp .ge 25, 3) := by decide +kernel
theorem dX0_takeLeastOff_10 : decode cX0_takeLeastOff 10 = .ok (.iload_n 2, 1) := by decide +kernel
theorem dX0_takeLeastOff_11 : decode cX0_takeLeastOff 11 = .ok (.aload_n 0, 1) := by decide +kernel
theorem dX0_takeLeastOff_12 : decode cX0_takeLeastOff 12 = .ok (.getfield 9, 3) := by decide +kernel
theorem dX0_takeLeastOff_15 : decode cX0_takeLeastOff 15 = .ok (.aload_n 0, 1) := by decide +kernel
theorem dX0_takeLeastOff_16 : decode cX0_takeLeastOff 16 = .ok (.iload_n 3, 1) := by decide +kernel
theorem dX0_takeLeastOff_17 : decode cX0_takeLeastOff 17 = .ok (.iload_n 1, 1) := by decide +kernel
theorem dX0_takeLeastOff_18 : decode cX0_takeLeastOff 18 = .ok (.invokevirtual 51, 3) := by decide +kernel
theorem dX0_takeLeastOff_21 : decode cX0_takeLeastOff 21 = .ok (.iaload, 1) := by decide +kernel
theorem dX0_takeLeastOff_22 : decode cX0_takeLeastOff 22 = .ok (.invokestatic 55, 3) := by decide +kernel
theorem dX0_takeLeastOff_25 : decode cX0_takeLeastOff 25 = .ok (.istore_n 2, 1) := by decide +kernel
theorem dX0_takeLeastOff_26 : decode cX0_takeLeastOff 26 = .ok (.iinc 3 1, 3) := by decide +kernel
theorem dX0_takeLeastOff_29 : decode cX0_takeLeastOff 29 = .ok (.goto (-24), 3) := by decide +kernel
theorem dX0_takeLeastOff_32 : decode cX0_takeLeastOff 32 = .ok (.iconst 0, 1) := by decide +kernel
theorem dX0_takeLeastOff_33 : decode cX0_takeLeastOff 33 = .ok (.istore_n 3, 1) := by decide +kernel
theorem dX0_takeLeastOff_34 : decode cX0_takeLeastOff 34 = .ok (.iload_n 3, 1) := by decide +kernel
theorem dX0_takeLeastOff_35 : decode cX0_takeLeastOff 35 = .ok (.iload_n 1, 1) := by decide +kernel
theorem dX0_takeLeastOff_36 : decode cX0_takeLeastOff 36 = .ok (.if_icmp .ge 24, 3) := by decide +kernel
theorem dX0_takeLeastOff_39 : decode cX0_takeLeastOff 39 = .ok (.aload_n 0, 1) := by decide +kernel
theorem dX0_takeLeastOff_40 : decode cX0_takeLeastOff 40 = .ok (.getfield 9, 3) := by decide +kernel
theorem dX0_takeLeastOff_43 : decode cX0_takeLeastOff 43 = .ok (.aload_n 0, 1) := by decide +kernel
theorem dX0_takeLeastOff_44 : decode cX0_takeLeastOff 44 = .ok (.iload_n 3, 1) := by decide +kernel
theorem dX0_takeLeastOff_45 : decode cX0_takeLeastOff 45 = .ok (.iload_n 1, 1) := by decide +kernel
theorem dX0_takeLeastOff_46 : decode cX0_takeLeastOff 46 = .ok (.invokevirtual 51, 3) := by decide +kernel
theorem dX0_takeLeastOff_49 : decode cX0_takeLeastOff 49 = .ok (.dup2, 1) := by decide +kernel
theorem dX0_takeLeastOff_50 : decode cX0_takeLeastOff 50 = .ok (.iaload, 1) := by decide +kernel
theorem dX0_takeLeastOff_51 : decode cX0_takeLeastOff 51 = .ok (.iload_n 2, 1) := by decide +kernel
theorem dX0_takeLeastOff_52 : decode cX0_takeLeastOff 52 = .ok (.isub, 1) := by decide +kernel
theorem dX0_takeLeastOff_53 : decode cX0_takeLeastOff 53 = .ok (.iastore, 1) := by decide +kernel
theorem dX0_takeLeastOff_54 : decode cX0_takeLeastOff 54 = .ok (.iinc 3 1, 3) := by decide +kernel
theorem dX0_takeLeastOff_57 : decode cX0_takeLeastOff 57 = .ok (.goto (-23), 3) := by decide +kernel
theorem dX0_takeLeastOff_60 : decode cX0_takeLeastOff 60 = .ok (.iload_n 2, 1) := by decide +kernel
theorem dX0_takeLeastOff_61 : decode cX0_takeLeastOff 61 = .ok (.ireturn, 1) := by decide +kernel
theorem dX0_ringPair_0 : decode cX0_ringPair 0 = .ok (.aload_n 0, 1) := by decide +kernel
theorem dX0_ringPair_1 : decode cX0_ringPair 1 = .ok (.getfield 18, 3) := by decide +kernel
theorem dX0_ringPair_4 : decode cX0_ringPair 4 = .ok (.getfield 60, 3) := by decide +kernel
theorem dX0_ringPair_7 : decode cX0_ringPair 7 = .ok (.iload_n 1, 1) := by decide +kernel
theorem dX0_ringPair_8 : decode cX0_ringPair 8 = .ok (.iaload, 1) := by decide +kernel
theorem dX0_ringPair_9 : decode cX0_ringPair 9 = .ok (.aload_n 0, 1) := by decide +kernel
theorem dX0_ringPair_10 : decode cX0_ringPair 10 = .ok (.getfield 18, 3) := by decide +kernel
theorem dX0_ringPair_13 : decode cX0_ringPair 13 = .ok (.getfield 60, 3) := by decide +kernel
theorem dX0_ringPair_16 : decode cX0_ringPair 16 = .ok (.iload_n 1, 1) := by decide +kernel
theorem dX0_ringPair_17 : decode cX0_ringPair 17 = .ok (.iconst 1, 1) := by decide +kernel
theorem dX0_ringPair_18 : decode cX0_ringPair 18 = .ok (.iadd, 1) := by decide +kernel
theorem dX0_ringPair_19 : decode cX0_ringPair 19 = .ok (.iload_n 2, 1) := by decide +kernel
theorem dX0_ringPair_20 : decode cX0_ringPair 20 = .ok (.if_icmp .ge 9, 3) := by decide +kernel
theorem dX0_ringPair_23 : decode cX0_ringPair 23 = .ok (.iload_n 1, 1) := by decide +kernel
theorem dX0_ringPair_24 : decode cX0_ringPair 24 = .ok (.iconst 1, 1) := by decide +kernel
theorem dX0_ringPair_25 : decode cX0_ringPair 25 = .ok (.iadd, 1) := by decide +kernel
theorem dX0_ringPair_26 : decode cX0_ringPair 26 = .ok (.goto 4, 3) := by decide +kernel
theorem dX0_ringPair_29 : decode cX0_ringPair 29 = .ok (.iconst 0, 1) := by decide +kernel
theorem dX0_ringPair_30 : decode cX0_ringPair 30 = .ok (.iaload, 1) := by decide +kernel
theorem dX0_ringPair_31 : decode cX0_ringPair 31 = .ok (.invokestatic 63, 3) := by decide +kernel
theorem dX0_ringPair_34 : decode cX0_ringPair 34 = .ok (.ireturn, 1) := by decide +kernel
theorem dX1_init_0 : decode cX1_init 0 = .ok (.aload_n 0, 1) := by decide +kernel
theorem dX1_init_1 : decode cX1_init 1 = .ok (.invokespecial 5, 3) := by decide +kernel
theorem dX1_init_4 : decode cX1_init 4 = .ok (.aload_n 0, 1) := by decide +kernel
theorem dX1_init_5 : decode cX1_init 5 = .ok (.iconst (-1), 1) := by decide +kernel
theorem dX1_init_6 : decode cX1_init 6 = .ok (.putfield 11, 3) := by decide +kernel
theorem dX1_init_9 : decode cX1_init 9 = .ok (.aload_n 0, 1) := by decide +kernel
theorem dX1_init_10 : decode cX1_init 10 = .ok (.bipush 100, 2) := by decide +kernel
theorem dX1_init_12 : decode cX1_init 12 = .ok (.newarray .int, 2) := by decide +kernel
theorem dX1_init_14 : decode cX1_init 14 = .ok (.putfield 15, 3) := by decide +kernel
theorem dX1_init_17 : decode cX1_init 17 = .ok (.aload_n 0, 1) := by decide +kernel
theorem dX1_init_18 : decode cX1_init 18 = .ok (.sipush 1024, 3) := by decide +kernel
theorem dX1_init_21 : decode cX1_init 21 = .ok (.newarray .int, 2) := by decide +kernel
theorem dX1_init_23 : decode cX1_init 23 = .ok (.putfield 19, 3) := by decide +kernel
theorem dX1_init_26 : decode cX1_init 26 = .ok (.aload_n 0, 1) := by decide +kernel
theorem dX1_init_27 : decode cX1_init 27 = .ok (.sipush 320, 3) := by decide +kernel
theorem dX1_init_30 : decode cX1_init 30 = .ok (.newarray .int, 2) := by decide +kernel
theorem dX1_init_32 : decode cX1_init 32 = .ok (.putfield 22, 3) := by decide +kernel
theorem dX1_init_35 : decode cX1_init 35 = .ok (.aload_n 0, 1) := by decide +kernel
theorem dX1_init_36 : decode cX1_init 36 = .ok (.sipush 320, 3) := by decide +kernel
theorem dX1_init_39 : decode cX1_init 39 = .ok (.newarray .int, 2) := by decide +kernel
theorem dX1_init_41 : decode cX1_init 41 = .ok (.putfield 25, 3) := by decide +kernel
theorem dX1_init_44 : decode cX1_init 44 = .ok (.aload_n 0, 1) := by decide +kernel
theorem dX1_init_45 : decode cX1_init 45 = .ok (.bipush 10, 2) := by decide +kernel
theorem dX1_init_47 : decode cX1_init 47 = .ok (.newarray .int, 2) := by decide +kernel
theorem dX1_init_49 : decode cX1_init 49 = .ok (.putfield 28, 3) := by decide +kernel
theorem dX1_init_52 : decode cX1_init 52 = .ok (.aload_n 0, 1) := by decide +kernel
theorem dX1_init_53 : decode cX1_init 53 = .ok (.bipush 10, 2) := by decide +kernel
theorem dX1_init_55 : decode cX1_init 55 = .ok (.newarray .int, 2) := by decide +kernel
theorem dX1_init_57 : decode cX1_init 57 = .ok (.putfield 31, 3) := by decide +kernel
theorem dX1_init_60 : decode cX1_init 60 = .ok (.return_, 1) := by decide +kernel
theorem dX1_arrange_0 : decode cX1_arrange 0 = .ok (.aload_n 0, 1) := by decide +kernel
theorem dX1_arrange_1 : decode cX1_arrange 1 = .ok (.aload_n 1, 1) := by decide +kernel
theorem dX1_arrange_2 : decode cX1_arrange 2 = .ok (.invokevirtual 34, 3) := by decide +kernel
theorem dX1_arrange_5 : decode cX1_arrange 5 = .ok (.ifCond .ne 44, 3) := by decide +kernel
theorem dX1_arrange_8 : decode cX1_arrange 8 = .ok (.aload_n 0, 1) := by decide +kernel
theorem dX1_arrange_9 : decode cX1_arrange 9 = .ok (.aload_n 1, 1) := by decide +kernel
theorem dX1_arrange_10 : decode cX1_arrange 10 = .ok (.getfield 38, 3) := by decide +kernel
theorem dX1_arrange_13 : decode cX1_arrange 13 = .ok (.getfield 44, 3) := by decide +kernel
theorem dX1_arrange_16 : decode cX1_arrange 16 = .ok (.putfield 11, 3) := by decide +kernel
theorem dX1_arrange_19 : decode cX1_arrange 19 = .ok (.aload_n 1, 1) := by decide +kernel
theorem dX1_arrange_20 : decode cX1_arrange 20 = .ok (.getfield 47, 3) := by decide +kernel
theorem dX1_arrange_23 : decode cX1_arrange 23 = .ok (.iconst 0, 1) := by decide +kernel
theorem dX1_arrange_24 : decode cX1_arrange 24 = .ok (.aload_n 0, 1) := by decide +kernel
theorem dX1_arrange_25 : decode cX1_arrange 25 = .ok (.getfield 15, 3) := by decide +kernel
theorem dX1_arrange_28 : decode cX1_arrange 28 = .ok (.iconst 0, 1) := by decide +kernel
theorem dX1_arrange_29 : decode cX1_arrange 29 = .ok (.aload_n 0, 1) := by decide +kernel
theorem dX1_arrange_30 : decode cX1_arrange 30 = .ok (.getfield 15, 3) := by decide +kernel
theorem dX1_arrange_33 : decode cX1_arrange 33 = .ok (.arraylength, 1) := by decide +kernel
theorem dX1_arrange_34 : decode cX1_arrange 34 = .ok (.invokestatic 48, 3) := by decide +kernel
theorem dX1_arrange_37 : decode cX1_arrange 37 = .ok (.aload_n 0, 1) := by decide +kernel
theorem dX1_arrange_38 : decode cX1_arrange 38 = .ok (.invokevirtual 54, 3) := by decide +kernel
theorem dX1_arrange_41 : decode cX1_arrange 41 = .ok (.aload_n 0, 1) := by decide +kernel
theorem dX1_arrange_42 : decode cX1_arrange 42 = .ok (.invokevirtual 57, 3) := by decide +kernel
theorem dX1_arrange_45 : decode cX1_arrange 45 = .ok (.aload_n 0, 1) := by decide +kernel
theorem dX1_arrange_46 : decode cX1_arrange 46 = .ok (.invokevirtual 60, 3) := by decide +kernel
theorem dX1_arrange_49 : decode cX1_arrange 49 = .ok (.aload_n 0, 1) := by decide +kernel
theorem dX1_arrange_50 : decode cX1_arrange 50 = .ok (.getfield 19, 3) := by decide +kernel
theorem dX1_arrange_53 : decode cX1_arrange 53 = .ok (.iconst 0, 1) := by decide +kernel
theorem dX1_arrange_54 : decode cX1_arrange 54 = .ok (.iaload, 1) := by decide +kernel
theorem dX1_arrange_55 : decode cX1_arrange 55 = .ok (.ireturn, 1) := by decide +kernel
theorem dX1_isMadeFor_0 : decode cX1_isMadeFor 0 = .ok (.aload_n 0, 1) := by decide +kernel
theorem dX1_isMadeFor_1 : decode cX1_isMadeFor 1 = .ok (.getfield 11, 3) := by decide +kernel
theorem dX1_isMadeFor_4 : decode cX1_isMadeFor 4 = .ok (.aload_n 1, 1) := by decide +kernel
theorem dX1_isMadeFor_5 : decode cX1_isMadeFor 5 = .ok (.getfield 38, 3) := by decide +kernel
theorem dX1_isMadeFor_8 : decode cX1_isMadeFor 8 = .ok (.getfield 44, 3) := by decide +kernel
theorem dX1_isMadeFor_11 : decode cX1_isMadeFor 11 = .ok (.if_icmp .eq 5, 3) := by decide +kernel
theorem dX1_isMadeFor_14 : decode cX1_isMadeFor 14 = .ok (.iconst 0, 1) := by decide +kernel
theorem dX1_isMadeFor_15 : decode cX1_isMadeFor 15 = .ok (.ireturn, 1) := by decide +kernel
theorem dX1_isMadeFor_16 : decode cX1_isMadeFor 16 = .ok (.iconst 0, 1) := by decide +kernel
theorem dX1_isMadeFor_17 : decode cX1_isMadeFor 17 = .ok (.istore_n 2, 1) := by decide +kernel
theorem dX1_isMadeFor_18 : decode cX1_isMadeFor 18 = .ok (.iload_n 2, 1) := by decide +kernel
theorem dX1_isMadeFor_19 : decode cX1_isMadeFor 19 = .ok (.aload_n 0, 1) := by decide +kernel
theorem dX1_isMadeFor_20 : decode cX1_isMadeFor 20 = .ok (.getfield 15, 3) := by decide +kernel
theorem dX1_isMadeFor_23 : decode cX1_isMadeFor 23 = .ok (.arraylength, 1) := by decide +kernel
theorem dX1_isMadeFor_24 : decode cX1_isMadeFor 24 = .ok (.if_icmp .ge 26, 3) := by decide +kernel
theorem dX1_isMadeFor_27 : decode cX1_isMadeFor 27 = .ok (.aload_n 0, 1) := by decide +kernel
theorem dX1_isMadeFor_28 : decode cX1_isMadeFor 28 = .ok (.getfield 15, 3) := by decide +kernel
theorem dX1_isMadeFor_31 : decode cX1_isMadeFor 31 = .ok (.iload_n 2, 1) := by decide +kernel
theorem dX1_isMadeFor_32 : decode cX1_isMadeFor 32 = .ok (.iaload, 1) := by decide +kernel
theorem dX1_isMadeFor_33 : decode cX1_isMadeFor 33 = .ok (.aload_n 1, 1) := by decide +kernel
theorem dX1_isMadeFor_34 : decode cX1_isMadeFor 34 = .ok (.getfield 47, 3) := by decide +kernel
theorem dX1_isMadeFor_37 : decode cX1_isMadeFor 37 = .ok (.iload_n 2, 1) := by decide +kernel
theorem dX1_isMadeFor_38 : decode cX1_isMadeFor 38 = .ok (.iaload, 1) := by decide +kernel
theorem dX1_isMadeFor_39 : decode cX1_isMadeFor 39 = .ok (.if_icmp .eq 5, 3) := by decide +kernel
theorem dX1_isMadeFor_42 : decode cX1_isMadeFor 42 = .ok (.iconst 0, 1) := by decide +kernel
theorem dX1_isMadeFor_43 : decode cX1_isMadeFor 43 = .ok (.ireturn, 1) := by decide +kernel
theorem dX1_isMadeFor_44 : decode cX1_isMadeFor 44 = .ok (.iinc 2 1, 3) := by decide +kernel
theorem dX1_isMadeFor_47 : decode cX1_isMadeFor 47 = .ok (.goto (-29), 3) := by decide +kernel
theorem dX1_isMadeFor_50 : decode cX1_isMadeFor 50 = .ok (.iconst 1, 1) := by decide +kernel
theorem dX1_isMadeFor_51 : decode cX1_isMadeFor 51 = .ok (.ireturn, 1) := by decide +kernel
theorem dX1_sumHalves_0 : decode cX1_sumHalves 0 = .ok (.iconst 0, 1) := by decide +kernel
theorem dX1_sumHalves_1 : decode cX1_sumHalves 1 = .ok (.istore_n 1, 1) := by decide +kernel
theorem dX1_sumHalves_2 : decode cX1_sumHalves 2 = .ok (.iload_n 1, 1) := by decide +kernel
theorem dX1_sumHalves_3 : decode cX1_sumHalves 3 = .ok (.aload_n 0, 1) := by decide +kernel
theorem dX1_sumHalves_4 : decode cX1_sumHalves 4 = .ok (.getfield 11, 3) := by decide +kernel
theorem dX1_sumHalves_7 : decode cX1_sumHalves 7 = .ok (.if_icmp .ge 114, 3) := by decide +kernel
theorem dX1_sumHalves_10 : decode cX1_sumHalves 10 = .ok (.iconst 0, 1) := by decide +kernel
theorem dX1_sumHalves_11 : decode cX1_sumHalves 11 = .ok (.istore_n 2, 1) := by decide +kernel
theorem dX1_sumHalves_12 : decode cX1_sumHalves 12 = .ok (.iload_n 2, 1) := by decide +kernel
theorem dX1_sumHalves_13 : decode cX1_sumHalves 13 = .ok (.iconst 5, 1) := by decide +kernel
theorem dX1_sumHalves_14 : decode cX1_sumHalves 14 = .ok (.if_icmp .ge 101, 3) := by decide +kernel
theorem dX1_sumHalves_17 : decode cX1_sumHalves 17 = .ok (.iload_n 1, 1) := by decide +kernel
theorem dX1_sumHalves_18 : decode cX1_sumHalves 18 = .ok (.bipush 32, 2) := by decide +kernel
theorem dX1_sumHalves_20 : decode cX1_sumHalves 20 = .ok (.imul, 1) := by decide +kernel
theorem dX1_sumHalves_21 : decode cX1_sumHalves 21 = .ok (.iconst 1, 1) := by decide +kernel
theorem dX1_sumHalves_22 : decode cX1_sumHalves 22 = .ok (.iload_n 2, 1) := by decide +kernel
theorem dX1_sumHalves_23 : decode cX1_sumHalves 23 = .ok (.ishl, 1) := by decide +kernel
theorem dX1_sumHalves_24 : decode cX1_sumHalves 24 = .ok (.iadd, 1) := by decide +kernel
theorem dX1_sumHalves_25 : decode cX1_sumHalves 25 = .ok (.istore_n 3, 1) := by decide +kernel
theorem dX1_sumHalves_26 : decode cX1_sumHalves 26 = .ok (.iconst 0, 1) := by decide +kernel
theorem dX1_sumHalves_27 : decode cX1_sumHalves 27 = .ok (.istore 4, 2) := by decide +kernel
theorem dX1_sumHalves_29 : decode cX1_sumHalves 29 = .ok (.iload 4, 2) := by decide +kernel
theorem dX1_sumHalves_31 : decode cX1_sumHalves 31 = .ok (.iconst 1, 1) := by decide +kernel
theorem dX1_sumHalves_32 : decode cX1_sumHalves 32 = .ok (.iload_n 2, 1) := by decide +kernel
theorem dX1_sumHalves_33 : decode cX1_sumHalves 33 = .ok (.ishl, 1) := by decide +kernel
theorem dX1_sumHalves_34 : decode cX1_sumHalves 34 = .ok (.if_icmp .ge 75, 3) := by decide +kernel
theorem dX1_sumHalves_37 : decode cX1_sumHalves 37 = .ok (.aload_n 0, 1) := by decide +kernel
theorem dX1_sumHalves_38 : decode cX1_sumHalves 38 = .ok (.getfield 22, 3) := by decide +kernel
theorem dX1_sumHalves_41 : decode cX1_sumHalves 41 = .ok (.iload_n 3, 1) := by decide +kernel
theorem dX1_sumHalves_42 : decode cX1_sumHalves 42 = .ok (.iload 4, 2) := by decide +kernel
theorem dX1_sumHalves_44 : decode cX1_sumHalves 44 = .ok (.iadd, 1) := by decide +kernel
theorem dX1_sumHalves_45 : decode cX1_sumHalves 45 = .ok (.aload_n 0, 1) := by decide +kernel
theorem dX1_sumHalves_46 : decode cX1_sumHalves 46 = .ok (.getfield 22, 3) := by decide +kernel
theorem dX1_sumHalves_49 : decode cX1_sumHalves 49 = .ok (.iload_n 1, 1) := by decide +kernel
theorem dX1_sumHalves_50 : decode cX1_sumHalves 50 = .ok (.bipush 32, 2) := by decide +kernel
theorem dX1_sumHalves_52 : decode cX1_sumHalves 52 = .ok (.imul, 1) := by decide +kernel
theorem dX1_sumHalves_53 : decode cX1_sumHalves 53 = .ok (.iload 4, 2) := by decide +kernel
theorem dX1_sumHalves_55 : decode cX1_sumHalves 55 = .ok (.iadd, 1) := by decide +kernel
theorem dX1_sumHalves_56 : decode cX1_sumHalves 56 = .ok (.iaload, 1) := by decide +kernel
theorem dX1_sumHalves_57 : decode cX1_sumHalves 57 = .ok (.aload_n 0, 1) := by decide +kernel
theorem dX1_sumHalves_58 : decode cX1_sumHalves 58 = .ok (.getfield 15, 3) := by decide +kernel
theorem dX1_sumHalves_61 : decode cX1_sumHalves 61 = .ok (.iload_n 1, 1) := by decide +kernel
theorem dX1_sumHalves_62 : decode cX1_sumHalves 62 = .ok (.iload_n 2, 1) := by decide +kernel
theorem dX1_sumHalves_63 : decode cX1_sumHalves 63 = .ok (.invokestatic 63, 3) := by decide +kernel
theorem dX1_sumHalves_66 : decode cX1_sumHalves 66 = .ok (.iaload, 1) := by decide +kernel
theorem dX1_sumHalves_67 : decode cX1_sumHalves 67 = .ok (.iadd, 1) := by decide +kernel
theorem dX1_sumHalves_68 : decode cX1_sumHalves 68 = .ok (.iastore, 1) := by decide +kernel
theorem dX1_sumHalves_69 : decode cX1_sumHalves 69 = .ok (.aload_n 0, 1) := by decide +kernel
theorem dX1_sumHalves_70 : decode cX1_sumHalves 70 = .ok (.getfield 25, 3) := by decide +kernel
theorem dX1_sumHalves_73 : decode cX1_sumHalves 73 = .ok (.iload_n 3, 1) := by decide +kernel
theorem dX1_sumHalves_74 : decode cX1_sumHalves 74 = .ok (.iload 4, 2) := by decide +kernel
theorem dX1_sumHalves_76 : decode cX1_sumHalves 76 = .ok (.iadd, 1) := by decide +kernel
theorem dX1_sumHalves_77 : decode cX1_sumHalves 77 = .ok (.aload_n 0, 1) := by decide +kernel
theorem dX1_sumHalves_78 : decode cX1_sumHalves 78 = .ok (.getfield 25, 3) := by decide +kernel
theorem dX1_sumHalves_81 : decode cX1_sumHalves 81 = .ok (.iload_n 1, 1) := by decide +kernel
theorem dX1_sumHalves_82 : decode cX1_sumHalves 82 = .ok (.bipush 32, 2) := by decide +kernel
theorem dX1_sumHalves_84 : decode cX1_sumHalves 84 = .ok (.imul, 1) := by decide +kernel
theorem dX1_sumHalves_85 : decode cX1_sumHalves 85 = .ok (.iload 4, 2) := by decide +kernel
theorem dX1_sumHalves_87 : decode cX1_sumHalves 87 = .ok (.iadd, 1) := by decide +kernel
theorem dX1_sumHalves_88 : decode cX1_sumHalves 88 = .ok (.iaload, 1) := by decide +kernel
theorem dX1_sumHalves_89 : decode cX1_sumHalves 89 = .ok (.aload_n 0, 1) := by decide +kernel
theorem dX1_sumHalves_90 : decode cX1_sumHalves 90 = .ok (.getfield 15, 3) := by decide +kernel
theorem dX1_sumHalves_93 : decode cX1_sumHalves 93 = .ok (.iload_n 1, 1) := by decide +kernel
theorem dX1_sumHalves_94 : decode cX1_sumHalves 94 = .ok (.iload_n 2, 1) := by decide +kernel
theorem dX1_sumHalves_95 : decode cX1_sumHalves 95 = .ok (.iconst 5, 1) := by decide +kernel
theorem dX1_sumHalves_96 : decode cX1_sumHalves 96 = .ok (.iadd, 1) := by decide +kernel
theorem dX1_sumHalves_97 : decode cX1_sumHalves 97 = .ok (.invokestatic 63, 3) := by decide +kernel
theorem dX1_sumHalves_100 : decode cX1_sumHalves 100 = .ok (.iaload, 1) := by decide +kernel
theorem dX1_sumHalves_101 : decode cX1_sumHalves 101 = .ok (.iadd, 1) := by decide +kernel
theorem dX1_sumHalves_102 : decode cX1_sumHalves 102 = .ok (.iastore, 1) := by decide +kernel
theorem dX1_sumHalves_103 : decode cX1_sumHalves 103 = .ok (.iinc 4 1, 3) := by decide +kernel
theorem dX1_sumHalves_106 : decode cX1_sumHalves 106 = .ok (.goto (-77), 3) := by decide +kernel
theorem dX1_sumHalves_109 : decode cX1_sumHalves 109 = .ok (.iinc 2 1, 3) := by decide +kernel
theorem dX1_sumHalves_112 : decode cX1_sumHalves 112 = .ok (.goto (-100), 3) := by decide +kernel
theorem dX1_sumHalves_115 : decode cX1_sumHalves 115 = .ok (.iinc 1 1, 3) := by decide +kernel
theorem dX1_sumHalves_118 : decode cX1_sumHalves 118 = .ok (.goto (-116), 3) := by decide +kernel
theorem dX1_sumHalves_121 : decode cX1_sumHalves 121 = .ok (.return_, 1) := by decide +kernel
theorem dX1_costBehind_0 : decode cX1_costBehind 0 = .ok (.aload_n 0, 1) := by decide +kernel
theorem dX1_costBehind_1 : decode cX1_costBehind 1 = .ok (.getfield 22, 3) := by decide +kernel
theorem dX1_costBehind_4 : decode cX1_costBehind 4 = .ok (.iload_n 1, 1) := by decide +kernel
theorem dX1_costBehind_5 : decode cX1_costBehind 5 = .ok (.bipush 32, 2) := by decide +kernel
theorem dX1_costBehind_7 : decode cX1_costBehind 7 = .ok (.imul, 1) := by decide +kernel
theorem dX1_costBehind_8 : decode cX1_costBehind 8 = .ok (.iload_n 2, 1) := by decide +kernel
theorem dX1_costBehind_9 : decode cX1_costBehind 9 = .ok (.bipush 32, 2) := by decide +kernel
theorem dX1_costBehind_11 : decode cX1_costBehind 11 = .ok (.irem, 1) := by decide +kernel
theorem dX1_costBehind_12 : decode cX1_costBehind 12 = .ok (.iadd, 1) := by decide +kernel
theorem dX1_costBehind_13 : decode cX1_costBehind 13 = .ok (.iaload, 1) := by decide +kernel
theorem dX1_costBehind_14 : decode cX1_costBehind 14 = .ok (.aload_n 0, 1) := by decide +kernel
theorem dX1_costBehind_15 : decode cX1_costBehind 15 = .ok (.getfield 25, 3) := by decide +kernel
theorem dX1_costBehind_18 : decode cX1_costBehind 18 = .ok (.iload_n 1, 1) := by decide +kernel
theorem dX1_costBehind_19 : decode cX1_costBehind 19 = .ok (.bipush 32, 2) := by decide +kernel
theorem dX1_costBehind_21 : decode cX1_costBehind 21 = .ok (.imul, 1) := by decide +kernel
theorem dX1_costBehind_22 : decode cX1_costBehind 22 = .ok (.iload_n 2, 1) := by decide +kernel
theorem dX1_costBehind_23 : decode cX1_costBehind 23 = .ok (.bipush 32, 2) := by decide +kernel
theorem dX1_costBehind_25 : decode cX1_costBehind 25 = .ok (.idiv, 1) := by decide +kernel
theorem dX1_costBehind_26 : decode cX1_costBehind 26 = .ok (.iadd, 1) := by decide +kernel
theorem dX1_costBehind_27 : decode cX1_costBehind 27 = .ok (.iaload, 1) := by decide +kernel
theorem dX1_costBehind_28 : decode cX1_costBehind 28 = .ok (.iadd, 1) := by decide +kernel
theorem dX1_costBehind_29 : decode cX1_costBehind 29 = .ok (.ireturn, 1) := by decide +kernel
theorem dX1_weighSets_0 : decode cX1_weighSets 0 = .ok (.iconst 1, 1) := by decide +kernel
theorem dX1_weighSets_1 : decode cX1_weighSets 1 = .ok (.aload_n 0, 1) := by decide +kernel
theorem dX1_weighSets_2 : decode cX1_weighSets 2 = .ok (.getfield 11, 3) := by decide +kernel
theorem dX1_weighSets_5 : decode cX1_weighSets 5 = .ok (.ishl, 1) := by decide +kernel
theorem dX1_weighSets_6 : decode cX1_weighSets 6 = .ok (.iconst 1, 1) := by decide +kernel
theorem dX1_weighSets_7 : decode cX1_weighSets 7 = .ok (.isub, 1) := by decide +kernel
theorem dX1_weighSets_8 : decode cX1_weighSets 8 = .ok (.istore_n 1, 1) := by decide +kernel
theorem dX1_weighSets_9 : decode cX1_weighSets 9 = .ok (.aload_n 0, 1) := by decide +kernel
theorem dX1_weighSets_10 : decode cX1_weighSets 10 = .ok (.getfield 19, 3) := by decide +kernel
theorem dX1_weighSets_13 : decode cX1_weighSets 13 = .ok (.iload_n 1, 1) := by decide +kernel
theorem dX1_weighSets_14 : decode cX1_weighSets 14 = .ok (.iconst 0, 1) := by decide +kernel
theorem dX1_weighSets_15 : decode cX1_weighSets 15 = .ok (.iastore, 1) := by decide +kernel
theorem dX1_weighSets_16 : decode cX1_weighSets 16 = .ok (.iload_n 1, 1) := by decide +kernel
theorem dX1_weighSets_17 : decode cX1_weighSets 17 = .ok (.iconst 1, 1) := by decide +kernel
theorem dX1_weighSets_18 : decode cX1_weighSets 18 = .ok (.isub, 1) := by decide +kernel
theorem dX1_weighSets_19 : decode cX1_weighSets 19 = .ok (.istore_n 2, 1) := by decide +kernel
theorem dX1_weighSets_20 : decode cX1_weighSets 20 = .ok (.iload_n 2, 1) := by decide +kernel
theorem dX1_weighSets_21 : decode cX1_weighSets 21 = .ok (.ifCond .lt 70, 3) := by decide +kernel
theorem dX1_weighSets_24 : decode cX1_weighSets 24 = .ok (.ldc 67, 2) := by decide +kernel
theorem dX1_weighSets_26 : decode cX1_weighSets 26 = .ok (.istore_n 3, 1) := by decide +kernel
theorem dX1_weighSets_27 : decode cX1_weighSets 27 = .ok (.iconst 0, 1) := by decide +kernel
theorem dX1_weighSets_28 : decode cX1_weighSets 28 = .ok (.istore 4, 2) := by decide +kernel
theorem dX1_weighSets_30 : decode cX1_weighSets 30 = .ok (.iload 4, 2) := by decide +kernel
theorem dX1_weighSets_32 : decode cX1_weighSets 32 = .ok (.aload_n 0, 1) := by decide +kernel
theorem dX1_weighSets_33 : decode cX1_weighSets 33 = .ok (.getfield 11, 3) := by decide +kernel
theorem dX1_weighSets_36 : decode cX1_weighSets 36 = .ok (.if_icmp .ge 42, 3) := by decide +kernel
theorem dX1_weighSets_39 : decode cX1_weighSets 39 = .ok (.iload 4, 2) := by decide +kernel
theorem dX1_weighSets_41 : decode cX1_weighSets 41 = .ok (.iload_n 2, 1) := by decide +kernel
theorem dX1_weighSets_42 : decode cX1_weighSets 42 = .ok (.invokestatic 68, 3) := by decide +kernel
theorem dX1_weighSets_45 : decode cX1_weighSets 45 = .ok (.ifCond .ne 27, 3) := by decide +kernel
theorem dX1_weighSets_48 : decode cX1_weighSets 48 = .ok (.iload_n 3, 1) := by decide +kernel
theorem dX1_weighSets_49 : decode cX1_weighSets 49 = .ok (.aload_n 0, 1) := by decide +kernel
theorem dX1_weighSets_50 : decode cX1_weighSets 50 = .ok (.iload 4, 2) := by decide +kernel
theorem dX1_weighSets_52 : decode cX1_weighSets 52 = .ok (.iload_n 2, 1) := by decide +kernel
theorem dX1_weighSets_53 : decode cX1_weighSets 53 = .ok (.invokevirtual 72, 3) := by decide +kernel
theorem dX1_weighSets_56 : decode cX1_weighSets 56 = .ok (.aload_n 0, 1) := by decide +kernel
theorem dX1_weighSets_57 : decode cX1_weighSets 57 = .ok (.getfield 19, 3) := by decide +kernel
theorem dX1_weighSets_60 : decode cX1_weighSets 60 = .ok (.iload_n 2, 1) := by decide +kernel
theorem dX1_weighSets_61 : decode cX1_weighSets 61 = .ok (.iconst 1, 1) := by decide +kernel
theorem dX1_weighSets_62 : decode cX1_weighSets 62 = .ok (.iload 4, 2) := by decide +kernel
theorem dX1_weighSets_64 : decode cX1_weighSets 64 = .ok (.ishl, 1) := by decide +kernel
theorem dX1_weighSets_65 : decode cX1_weighSets 65 = .ok (.ior, 1) := by decide +kernel
theorem dX1_weighSets_66 : decode cX1_weighSets 66 = .ok (.iaload, 1) := by decide +kernel
theorem dX1_weighSets_67 : decode cX1_weighSets 67 = .ok (.iadd, 1) := by decide +kernel
theorem dX1_weighSets_68 : decode cX1_weighSets 68 = .ok (.invokestatic 75, 3) := by decide +kernel
theorem dX1_weighSets_71 : decode cX1_weighSets 71 = .ok (.istore_n 3, 1) := by decide +kernel
theorem dX1_weighSets_72 : decode cX1_weighSets 72 = .ok (.iinc 4 1, 3) := by decide +kernel
theorem dX1_weighSets_75 : decode cX1_weighSets 75 = .ok (.goto (-45), 3) := by decide +kernel
theorem dX1_weighSets_78 : decode cX1_weighSets 78 = .ok (.aload_n 0, 1) := by decide +kernel
theorem dX1_weighSets_79 : decode cX1_weighSets 79 = .ok (.getfield 19, 3) := by decide +kernel
theorem dX1_weighSets_82 : decode cX1_weighSets 82 = .ok (.iload_n 2, 1) := by decide +kernel
theorem dX1_weighSets_83 : decode cX1_weighSets 83 = .ok (.iload_n 3, 1) := by decide +kernel
theorem dX1_weighSets_84 : decode cX1_weighSets 84 = .ok (.iastore, 1) := by decide +kernel
theorem dX1_weighSets_85 : decode cX1_weighSets 85 = .ok (.iinc 2 (-1), 3) := by decide +kernel
theorem dX1_weighSets_88 : decode cX1_weighSets 88 = .ok (.goto (-68), 3) := by decide +kernel
theorem dX1_weighSets_91 : decode cX1_weighSets 91 = .ok (.return_, 1) := by decide +kernel
theorem dX1_makeRow_0 : decode cX1_makeRow 0 = .ok (.iconst 0, 1) := by decide +kernel
theorem dX1_makeRow_1 : decode cX1_makeRow 1 = .ok (.istore_n 1, 1) := by decide +kernel
theorem dX1_makeRow_2 : decode cX1_makeRow 2 = .ok (.iconst 0, 1) := by decide +kernel
theorem dX1_makeRow_3 : decode cX1_makeRow 3 = .ok (.istore_n 2, 1) := by decide +kernel
theorem dX1_makeRow_4 : decode cX1_makeRow 4 = .ok (.iload_n 2, 1) := by decide +kernel
theorem dX1_makeRow_5 : decode cX1_makeRow 5 = .ok (.aload_n 0, 1) := by decide +kernel
theorem dX1_makeRow_6 : decode cX1_makeRow 6 = .ok (.getfield 11, 3) := by decide +kernel
theorem dX1_makeRow_9 : decode cX1_makeRow 9 = .ok (.if_icmp .ge 35, 3) := by decide +kernel
theorem dX1_makeRow_12 : decode cX1_makeRow 12 = .ok (.aload_n 0, 1) := by decide +kernel
theorem dX1_makeRow_13 : decode cX1_makeRow 13 = .ok (.iload_n 1, 1) := by decide +kernel
theorem dX1_makeRow_14 : decode cX1_makeRow 14 = .ok (.invokevirtual 80, 3) := by decide +kernel
theorem dX1_makeRow_17 : decode cX1_makeRow 17 = .ok (.istore_n 3, 1) := by decide +kernel
theorem dX1_makeRow_18 : decode cX1_makeRow 18 = .ok (.aload_n 0, 1) := by decide +kernel
theorem dX1_makeRow_19 : decode cX1_makeRow 19 = .ok (.getfield 28, 3) := by decide +kernel
theorem dX1_makeRow_22 : decode cX1_makeRow 22 = .ok (.iload_n 2, 1) := by decide +kernel
theorem dX1_makeRow_23 : decode cX1_makeRow 23 = .ok (.iload_n 3, 1) := by decide +kernel
theorem dX1_makeRow_24 : decode cX1_makeRow 24 = .ok (.iastore, 1) := by decide +kernel
theorem dX1_makeRow_25 : decode cX1_makeRow 25 = .ok (.aload_n 0, 1) := by decide +kernel
theorem dX1_makeRow_26 : decode cX1_makeRow 26 = .ok (.getfield 31, 3) := by decide +kernel
theorem dX1_makeRow_29 : decode cX1_makeRow 29 = .ok (.iload_n 3, 1) := by decide +kernel
theorem dX1_makeRow_30 : decode cX1_makeRow 30 = .ok (.iload_n 2, 1) := by decide +kernel
theorem dX1_makeRow_31 : decode cX1_makeRow 31 = .ok (.iastore, 1) := by decide +kernel
theorem dX1_makeRow_32 : decode cX1_makeRow 32 = .ok (.iload_n 1, 1) := by decide +kernel
theorem dX1_makeRow_33 : decode cX1_makeRow 33 = .ok (.iconst 1, 1) := by decide +kernel
theorem dX1_makeRow_34 : decode cX1_makeRow 34 = .ok (.iload_n 3, 1) := by decide +kernel
theorem dX1_makeRow_35 : decode cX1_makeRow 35 = .ok (.ishl, 1) := by decide +kernel
theorem dX1_makeRow_36 : decode cX1_makeRow 36 = .ok (.ior, 1) := by decide +kernel
theorem dX1_makeRow_37 : decode cX1_makeRow 37 = .ok (.istore_n 1, 1) := by decide +kernel
theorem dX1_makeRow_38 : decode cX1_makeRow 38 = .ok (.iinc 2 1, 3) := by decide +kernel
theorem dX1_makeRow_41 : decode cX1_makeRow 41 = .ok (.goto (-37), 3) := by decide +kernel
theorem dX1_makeRow_44 : decode cX1_makeRow 44 = .ok (.return_, 1) := by decide +kernel
theorem dX1_firstBest_0 : decode cX1_firstBest 0 = .ok (.iconst 0, 1) := by decide +kernel
theorem dX1_firstBest_1 : decode cX1_firstBest 1 = .ok (.istore_n 2, 1) := by decide +kernel
theorem dX1_firstBest_2 : decode cX1_firstBest 2 = .ok (.iload_n 2, 1) := by decide +kernel
theorem dX1_firstBest_3 : decode cX1_firstBest 3 = .ok (.aload_n 0, 1) := by decide +kernel
theorem dX1_firstBest_4 : decode cX1_firstBest 4 = .ok (.getfield 11, 3) := by decide +kernel
theorem dX1_firstBest_7 : decode cX1_firstBest 7 = .ok (.if_icmp .ge 45, 3) := by decide +kernel
theorem dX1_firstBest_10 : decode cX1_firstBest 10 = .ok (.iload_n 2, 1) := by decide +kernel
theorem dX1_firstBest_11 : decode cX1_firstBest 11 = .ok (.iload_n 1, 1) := by decide +kernel
theorem dX1_firstBest_12 : decode cX1_firstBest 12 = .ok (.invokestatic 68, 3) := by decide +kernel
theorem dX1_firstBest_15 : decode cX1_firstBest 15 = .ok (.ifCond .ne 31, 3) := by decide +kernel
theorem dX1_firstBest_18 : decode cX1_firstBest 18 = .ok (.aload_n 0, 1) := by decide +kernel
theorem dX1_firstBest_19 : decode cX1_firstBest 19 = .ok (.iload_n 2, 1) := by decide +kernel
theorem dX1_firstBest_20 : decode cX1_firstBest 20 = .ok (.iload_n 1, 1) := by decide +kernel
theorem dX1_firstBest_21 : decode cX1_firstBest 21 = .ok (.invokevirtual 72, 3) := by decide +kernel
theorem dX1_firstBest_24 : decode cX1_firstBest 24 = .ok (.aload_n 0, 1) := by decide +kernel
theorem dX1_firstBest_25 : decode cX1_firstBest 25 = .ok (.getfield 19, 3) := by decide +kernel
theorem dX1_firstBest_28 : decode cX1_firstBest 28 = .ok (.iload_n 1, 1) := by decide +kernel
theorem dX1_firstBest_29 : decode cX1_firstBest 29 = .ok (.iconst 1, 1) := by decide +kernel
theorem dX1_firstBest_30 : decode cX1_firstBest 30 = .ok (.iload_n 2, 1) := by decide +kernel
theorem dX1_firstBest_31 : decode cX1_firstBest 31 = .ok (.ishl, 1) := by decide +kernel
theorem dX1_firstBest_32 : decode cX1_firstBest 32 = .ok (.ior, 1) := by decide +kernel
theorem dX1_firstBest_33 : decode cX1_firstBest 33 = .ok (.iaload, 1) := by decide +kernel
theorem dX1_firstBest_34 : decode cX1_firstBest 34 = .ok (.iadd, 1) := by decide +kernel
theorem dX1_firstBest_35 : decode cX1_firstBest 35 = .ok (.aload_n 0, 1) := by decide +kernel
theorem dX1_firstBest_36 : decode cX1_firstBest 36 = .ok (.getfield 19, 3) := by decide +kernel
theorem dX1_firstBest_39 : decode cX1_firstBest 39 = .ok (.iload_n 1, 1) := by decide +kernel
theorem dX1_firstBest_40 : decode cX1_firstBest 40 = .ok (.iaload, 1) := by decide +kernel
theorem dX1_firstBest_41 : decode cX1_firstBest 41 = .ok (.if_icmp .ne 5, 3) := by decide +kernel
theorem dX1_firstBest_44 : decode cX1_firstBest 44 = .ok (.iload_n 2, 1) := by decide +kernel
theorem dX1_firstBest_45 : decode cX1_firstBest 45 = .ok (.ireturn, 1) := by decide +kernel
theorem dX1_firstBest_46 : decode cX1_firstBest 46 = .ok (.iinc 2 1, 3) := by decide +kernel
theorem dX1_firstBest_49 : decode cX1_firstBest 49 = .ok (.goto (-47), 3) := by decide +kernel
theorem dX1_firstBest_52 : decode cX1_firstBest 52 = .ok (.iconst 0, 1) := by decide +kernel
theorem dX1_firstBest_53 : decode cX1_firstBest 53 = .ok (.ireturn, 1) := by decide +kernel
theorem dX1_chosenTie_0 : decode cX1_chosenTie 0 = .ok (.iconst 0, 1) := by decide +kernel
theorem dX1_chosenTie_1 : decode cX1_chosenTie 1 = .ok (.istore_n 3, 1) := by decide +kernel
theorem dX1_chosenTie_2 : decode cX1_chosenTie 2 = .ok (.iconst 0, 1) := by decide +kernel
theorem dX1_chosenTie_3 : decode cX1_chosenTie 3 = .ok (.istore 4, 2) := by decide +kernel
theorem dX1_chosenTie_5 : decode cX1_chosenTie 5 = .ok (.iload 4, 2) := by decide +kernel
theorem dX1_chosenTie_7 : decode cX1_chosenTie 7 = .ok (.aload_n 0, 1) := by decide +kernel
theorem dX1_chosenTie_8 : decode cX1_chosenTie 8 = .ok (.getfield 11, 3) := by decide +kernel
theorem dX1_chosenTie_11 : decode cX1_chosenTie 11 = .ok (.if_icmp .ge 75, 3) := by decide +kernel
theorem dX1_chosenTie_14 : decode cX1_chosenTie 14 = .ok (.iconst 0, 1) := by decide +kernel
theorem dX1_chosenTie_15 : decode cX1_chosenTie 15 = .ok (.istore 5, 2) := by decide +kernel
theorem dX1_chosenTie_17 : decode cX1_chosenTie 17 = .ok (.iload 5, 2) := by decide +kernel
theorem dX1_chosenTie_19 : decode cX1_chosenTie 19 = .ok (.aload_n 0, 1) := by decide +kernel
theorem dX1_chosenTie_20 : decode cX1_chosenTie 20 = .ok (.getfield 11, 3) := by decide +kernel
theorem dX1_chosenTie_23 : decode cX1_chosenTie 23 = .ok (.if_icmp .ge 57, 3) := by decide +kernel
theorem dX1_chosenTie_26 : decode cX1_chosenTie 26 = .ok (.aload_n 1, 1) := by decide +kernel
theorem dX1_chosenTie_27 : decode cX1_chosenTie 27 = .ok (.getfield 38, 3) := by decide +kernel
theorem dX1_chosenTie_30 : decode cX1_chosenTie 30 = .ok (.iload 4, 2) := by decide +kernel
theorem dX1_chosenTie_32 : decode cX1_chosenTie 32 = .ok (.iload 5, 2) := by decide +kernel
theorem dX1_chosenTie_34 : decode cX1_chosenTie 34 = .ok (.invokevirtual 84, 3) := by decide +kernel
theorem dX1_chosenTie_37 : decode cX1_chosenTie 37 = .ok (.ifCond .eq 37, 3) := by decide +kernel
theorem dX1_chosenTie_40 : decode cX1_chosenTie 40 = .ok (.aload_n 0, 1) := by decide +kernel
theorem dX1_chosenTie_41 : decode cX1_chosenTie 41 = .ok (.getfield 31, 3) := by decide +kernel
theorem dX1_chosenTie_44 : decode cX1_chosenTie 44 = .ok (.iload 5, 2) := by decide +kernel
theorem dX1_chosenTie_46 : decode cX1_chosenTie 46 = .ok (.iaload, 1) := by decide +kernel
theorem dX1_chosenTie_47 : decode cX1_chosenTie 47 = .ok (.aload_n 0, 1) := by decide +kernel
theorem dX1_chosenTie_48 : decode cX1_chosenTie 48 = .ok (.getfield 31, 3) := by decide +kernel
theorem dX1_chosenTie_51 : decode cX1_chosenTie 51 = .ok (.iload 4, 2) := by decide +kernel
theorem dX1_chosenTie_53 : decode cX1_chosenTie 53 = .ok (.iaload, 1) := by decide +kernel
theorem dX1_chosenTie_54 : decode cX1_chosenTie 54 = .ok (.if_icmp .ge 20, 3) := by decide +kernel
theorem dX1_chosenTie_57 : decode cX1_chosenTie 57 = .ok (.iload_n 3, 1) := by decide +kernel
theorem dX1_chosenTie_58 : decode cX1_chosenTie 58 = .ok (.iload_n 2, 1) := by decide +kernel
theorem dX1_chosenTie_59 : decode cX1_chosenTie 59 = .ok (.if_icmp .ne 12, 3) := by decide +kernel
theorem dX1_chosenTie_62 : decode cX1_chosenTie 62 = .ok (.bipush 10, 2) := by decide +kernel
theorem dX1_chosenTie_64 : decode cX1_chosenTie 64 = .ok (.iload 4, 2) := by decide +kernel
theorem dX1_chosenTie_66 : decode cX1_chosenTie 66 = .ok (.imul, 1) := by decide +kernel
theorem dX1_chosenTie_67 : decode cX1_chosenTie 67 = .ok (.iload 5, 2) := by decide +kernel
theorem dX1_chosenTie_69 : decode cX1_chosenTie 69 = .ok (.iadd, 1) := by decide +kernel
theorem dX1_chosenTie_70 : decode cX1_chosenTie 70 = .ok (.ireturn, 1) := by decide +kernel
theorem dX1_chosenTie_71 : decode cX1_chosenTie 71 = .ok (.iinc 3 1, 3) := by decide +kernel
theorem dX1_chosenTie_74 : decode cX1_chosenTie 74 = .ok (.iinc 5 1, 3) := by decide +kernel
theorem dX1_chosenTie_77 : decode cX1_chosenTie 77 = .ok (.goto (-60), 3) := by decide +kernel
theorem dX1_chosenTie_80 : decode cX1_chosenTie 80 = .ok (.iinc 4 1, 3) := by decide +kernel
theorem dX1_chosenTie_83 : decode cX1_chosenTie 83 = .ok (.goto (-78), 3) := by decide +kernel
theorem dX1_chosenTie_86 : decode cX1_chosenTie 86 = .ok (.iconst (-1), 1) := by decide +kernel
theorem dX1_chosenTie_87 : decode cX1_chosenTie 87 = .ok (.ireturn, 1) := by decide +kernel
theorem dX2_init_0 : decode cX2_init 0 = .ok (.aload_n 0, 1) := by decide +kernel
theorem dX2_init_1 : decode cX2_init 1 = .ok (.invokespecial 3, 3) := by decide +kernel
theorem dX2_init_4 : decode cX2_init 4 = .ok (.aload_n 0, 1) := by decide +kernel
theorem dX2_init_5 : decode cX2_init 5 = .ok (.bipush 20, 2) := by decide +kernel
theorem dX2_init_7 : decode cX2_init 7 = .ok (.anewarray 9, 3) := by decide +kernel
theorem dX2_init_10 : decode cX2_init 10 = .ok (.putfield 11, 3) := by decide +kernel
theorem dX2_init_13 : decode cX2_init 13 = .ok (.aload_n 0, 1) := by decide +kernel
theorem dX2_init_14 : decode cX2_init 14 = .ok (.iconst 0, 1) := by decide +kernel
theorem dX2_init_15 : decode cX2_init 15 = .ok (.putfield 17, 3) := by decide +kernel
theorem dX2_init_18 : decode cX2_init 18 = .ok (.aload_n 0, 1) := by decide +kernel
theorem dX2_init_19 : decode cX2_init 19 = .ok (.iconst 0, 1) := by decide +kernel
theorem dX2_init_20 : decode cX2_init 20 = .ok (.putfield 21, 3) := by decide +kernel
theorem dX2_init_23 : decode cX2_init 23 = .ok (.return_, 1) := by decide +kernel
theorem dX2_keep_0 : decode cX2_keep 0 = .ok (.aload_n 0, 1) := by decide +kernel
theorem dX2_keep_1 : decode cX2_keep 1 = .ok (.getfield 17, 3) := by decide +kernel
theorem dX2_keep_4 : decode cX2_keep 4 = .ok (.aload_n 0, 1) := by decide +kernel
theorem dX2_keep_5 : decode cX2_keep 5 = .ok (.getfield 21, 3) := by decide +kernel
theorem dX2_keep_8 : decode cX2_keep 8 = .ok (.iadd, 1) := by decide +kernel
theorem dX2_keep_9 : decode cX2_keep 9 = .ok (.bipush 20, 2) := by decide +kernel
theorem dX2_keep_11 : decode cX2_keep 11 = .ok (.irem, 1) := by decide +kernel
theorem dX2_keep_12 : decode cX2_keep 12 = .ok (.istore_n 2, 1) := by decide +kernel
theorem dX2_keep_13 : decode cX2_keep 13 = .ok (.aload_n 0, 1) := by decide +kernel
theorem dX2_keep_14 : decode cX2_keep 14 = .ok (.getfield 11, 3) := by decide +kernel
theorem dX2_keep_17 : decode cX2_keep 17 = .ok (.iload_n 2, 1) := by decide +kernel
theorem dX2_keep_18 : decode cX2_keep 18 = .ok (.aaload, 1) := by decide +kernel
theorem dX2_keep_19 : decode cX2_keep 19 = .ok (.astore_n 3, 1) := by decide +kernel
theorem dX2_keep_20 : decode cX2_keep 20 = .ok (.aload_n 0, 1) := by decide +kernel
theorem dX2_keep_21 : decode cX2_keep 21 = .ok (.getfield 11, 3) := by decide +kernel
theorem dX2_keep_24 : decode cX2_keep 24 = .ok (.iload_n 2, 1) := by decide +kernel
theorem dX2_keep_25 : decode cX2_keep 25 = .ok (.aload_n 1, 1) := by decide +kernel
theorem dX2_keep_26 : decode cX2_keep 26 = .ok (.aastore, 1) := by decide +kernel
theorem dX2_keep_27 : decode cX2_keep 27 = .ok (.aload_n 0, 1) := by decide +kernel
theorem dX2_keep_28 : decode cX2_keep 28 = .ok (.getfield 21, 3) := by decide +kernel
theorem dX2_keep_31 : decode cX2_keep 31 = .ok (.bipush 20, 2) := by decide +kernel
theorem dX2_keep_33 : decode cX2_keep 33 = .ok (.if_icmp .ge 16, 3) := by decide +kernel
theorem dX2_keep_36 : decode cX2_keep 36 = .ok (.aload_n 0, 1) := by decide +kernel
theorem dX2_keep_37 : decode cX2_keep 37 = .ok (.dup, 1) := by decide +kernel
theorem dX2_keep_38 : decode cX2_keep 38 = .ok (.getfield 21, 3) := by decide +kernel
theorem dX2_keep_41 : decode cX2_keep 41 = .ok (.iconst 1, 1) := by decide +kernel
theorem dX2_keep_42 : decode cX2_keep 42 = .ok (.iadd, 1) := by decide +kernel
theorem dX2_keep_43 : decode cX2_keep 43 = .ok (.putfield 21, 3) := by decide +kernel
theorem dX2_keep_46 : decode cX2_keep 46 = .ok (.goto 16, 3) := by decide +kernel
theorem dX2_keep_49 : decode cX2_keep 49 = .ok (.aload_n 0, 1) := by decide +kernel
theorem dX2_keep_50 : decode cX2_keep 50 = .ok (.aload_n 0, 1) := by decide +kernel
theorem dX2_keep_51 : decode cX2_keep 51 = .ok (.getfield 17, 3) := by decide +kernel
theorem dX2_keep_54 : decode cX2_keep 54 = .ok (.iconst 1, 1) := by decide +kernel
theorem dX2_keep_55 : decode cX2_keep 55 = .ok (.iadd, 1) := by decide +kernel
theorem dX2_keep_56 : decode cX2_keep 56 = .ok (.bipush 20, 2) := by decide +kernel
theorem dX2_keep_58 : decode cX2_keep 58 = .ok (.irem, 1) := by decide +kernel
theorem dX2_keep_59 : decode cX2_keep 59 = .ok (.putfield 17, 3) := by decide +kernel
theorem dX2_keep_62 : decode cX2_keep 62 = .ok (.aload_n 3, 1) := by decide +kernel
theorem dX2_keep_63 : decode cX2_keep 63 = .ok (.ifnonnull 13, 3) := by decide +kernel
theorem dX2_keep_66 : decode cX2_keep 66 = .ok (.new 9, 3) := by decide +kernel
theorem dX2_keep_69 : decode cX2_keep 69 = .ok (.dup, 1) := by decide +kernel
theorem dX2_keep_70 : decode cX2_keep 70 = .ok (.invokespecial 24, 3) := by decide +kernel
theorem dX2_keep_73 : decode cX2_keep 73 = .ok (.goto 4, 3) := by decide +kernel
theorem dX2_keep_76 : decode cX2_keep 76 = .ok (.aload_n 3, 1) := by decide +kernel
theorem dX2_keep_77 : decode cX2_keep 77 = .ok (.areturn, 1) := by decide +kernel
theorem dX2_takeBack_0 : decode cX2_takeBack 0 = .ok (.aload_n 0, 1) := by decide +kernel
theorem dX2_takeBack_1 : decode cX2_takeBack 1 = .ok (.getfield 21, 3) := by decide +kernel
theorem dX2_takeBack_4 : decode cX2_takeBack 4 = .ok (.ifCond .ne 5, 3) := by decide +kernel
theorem dX2_takeBack_7 : decode cX2_takeBack 7 = .ok (.aload_n 1, 1) := by decide +kernel
theorem dX2_takeBack_8 : decode cX2_takeBack 8 = .ok (.areturn, 1) := by decide +kernel
theorem dX2_takeBack_9 : decode cX2_takeBack 9 = .ok (.aload_n 0, 1) := by decide +kernel
theorem dX2_takeBack_10 : decode cX2_takeBack 10 = .ok (.dup, 1) := by decide +kernel
theorem dX2_takeBack_11 : decode cX2_takeBack 11 = .ok (.getfield 21, 3) := by decide +kernel
theorem dX2_takeBack_14 : decode cX2_takeBack 14 = .ok (.iconst 1, 1) := by decide +kernel
theorem dX2_takeBack_15 : decode cX2_takeBack 15 = .ok (.isub, 1) := by decide +kernel
theorem dX2_takeBack_16 : decode cX2_takeBack 16 = .ok (.putfield 21, 3) := by decide +kernel
theorem dX2_takeBack_19 : decode cX2_takeBack 19 = .ok (.aload_n 0, 1) := by decide +kernel
theorem dX2_takeBack_20 : decode cX2_takeBack 20 = .ok (.getfield 17, 3) := by decide +kernel
theorem dX2_takeBack_23 : decode cX2_takeBack 23 = .ok (.aload_n 0, 1) := by decide +kernel
theorem dX2_takeBack_24 : decode cX2_takeBack 24 = .ok (.getfield 21, 3) := by decide +kernel
theorem dX2_takeBack_27 : decode cX2_takeBack 27 = .ok (.iadd, 1) := by decide +kernel
theorem dX2_takeBack_28 : decode cX2_takeBack 28 = .ok (.bipush 20, 2) := by decide +kernel
theorem dX2_takeBack_30 : decode cX2_takeBack 30 = .ok (.irem, 1) := by decide +kernel
theorem dX2_takeBack_31 : decode cX2_takeBack 31 = .ok (.istore_n 2, 1) := by decide +kernel
theorem dX2_takeBack_32 : decode cX2_takeBack 32 = .ok (.aload_n 0, 1) := by decide +kernel
theorem dX2_takeBack_33 : decode cX2_takeBack 33 = .ok (.getfield 11, 3) := by decide +kernel
theorem dX2_takeBack_36 : decode cX2_takeBack 36 = .ok (.iload_n 2, 1) := by decide +kernel
theorem dX2_takeBack_37 : decode cX2_takeBack 37 = .ok (.aaload, 1) := by decide +kernel
theorem dX2_takeBack_38 : decode cX2_takeBack 38 = .ok (.astore_n 3, 1) := by decide +kernel
theorem dX2_takeBack_39 : decode cX2_takeBack 39 = .ok (.aload_n 0, 1) := by decide +kernel
theorem dX2_takeBack_40 : decode cX2_takeBack 40 = .ok (.getfield 11, 3) := by decide +kernel
theorem dX2_takeBack_43 : decode cX2_takeBack 43 = .ok (.iload_n 2, 1) := by decide +kernel
theorem dX2_takeBack_44 : decode cX2_takeBack 44 = .ok (.aload_n 1, 1) := by decide +kernel
theorem dX2_takeBack_45 : decode cX2_takeBack 45 = .ok (.aastore, 1) := by decide +kernel
theorem dX2_takeBack_46 : decode cX2_takeBack 46 = .ok (.aload_n 3, 1) := by decide +kernel
theorem dX2_takeBack_47 : decode cX2_takeBack 47 = .ok (.ifnonnull 7, 3) := by decide +kernel
theorem dX2_takeBack_50 : decode cX2_takeBack 50 = .ok (.aload_n 1, 1) := by decide +kernel
theorem dX2_takeBack_51 : decode cX2_takeBack 51 = .ok (.goto 4, 3) := by decide +kernel
theorem dX2_takeBack_54 : decode cX2_takeBack 54 = .ok (.aload_n 3, 1) := by decide +kernel
theorem dX2_takeBack_55 : decode cX2_takeBack 55 = .ok (.areturn, 1) := by decide +kernel
theorem dX3_init_0 : decode cX3_init 0 = .ok (.aload_n 0, 1) := by decide +kernel
theorem dX3_init_1 : decode cX3_init 1 = .ok (.invokespecial 3, 3) := by decide +kernel
theorem dX3_init_4 : decode cX3_init 4 = .ok (.aload_n 0, 1) := by decide +kernel
theorem dX3_init_5 : decode cX3_init 5 = .ok (.iconst 0, 1) := by decide +kernel
theorem dX3_init_6 : decode cX3_init 6 = .ok (.putfield 9, 3) := by decide +kernel
theorem dX3_init_9 : decode cX3_init 9 = .ok (.aload_n 0, 1) := by decide +kernel
theorem dX3_init_10 : decode cX3_init 10 = .ok (.iconst 3, 1) := by decide +kernel
theorem dX3_init_11 : decode cX3_init 11 = .ok (.newarray .int, 2) := by decide +kernel
theorem dX3_init_13 : decode cX3_init 13 = .ok (.putfield 15, 3) := by decide +kernel
theorem dX3_init_16 : decode cX3_init 16 = .ok (.aload_n 0, 1) := by decide +kernel
theorem dX3_init_17 : decode cX3_init 17 = .ok (.bipush 60, 2) := by decide +kernel
theorem dX3_init_19 : decode cX3_init 19 = .ok (.newarray .int, 2) := by decide +kernel
theorem dX3_init_21 : decode cX3_init 21 = .ok (.putfield 19, 3) := by decide +kernel
theorem dX3_init_24 : decode cX3_init 24 = .ok (.aload_n 0, 1) := by decide +kernel
theorem dX3_init_25 : decode cX3_init 25 = .ok (.bipush 20, 2) := by decide +kernel
theorem dX3_init_27 : decode cX3_init 27 = .ok (.newarray .int, 2) := by decide +kernel
theorem dX3_init_29 : decode cX3_init 29 = .ok (.putfield 22, 3) := by decide +kernel
theorem dX3_init_32 : decode cX3_init 32 = .ok (.aload_n 0, 1) := by decide +kernel
theorem dX3_init_33 : decode cX3_init 33 = .ok (.sipush 200, 3) := by decide +kernel
theorem dX3_init_36 : decode cX3_init 36 = .ok (.newarray .int, 2) := by decide +kernel
theorem dX3_init_38 : decode cX3_init 38 = .ok (.putfield 25, 3) := by decide +kernel
theorem dX3_init_41 : decode cX3_init 41 = .ok (.aload_n 0, 1) := by decide +kernel
theorem dX3_init_42 : decode cX3_init 42 = .ok (.bipush 20, 2) := by decide +kernel
theorem dX3_init_44 : decode cX3_init 44 = .ok (.newarray .int, 2) := by decide +kernel
theorem dX3_init_46 : decode cX3_init 46 = .ok (.putfield 28, 3) := by decide +kernel
theorem dX3_init_49 : decode cX3_init 49 = .ok (.aload_n 0, 1) := by decide +kernel
theorem dX3_init_50 : decode cX3_init 50 = .ok (.bipush 8, 2) := by decide +kernel
theorem dX3_init_52 : decode cX3_init 52 = .ok (.newarray .int, 2) := by decide +kernel
theorem dX3_init_54 : decode cX3_init 54 = .ok (.putfield 31, 3) := by decide +kernel
theorem dX3_init_57 : decode cX3_init 57 = .ok (.aload_n 0, 1) := by decide +kernel
theorem dX3_init_58 : decode cX3_init 58 = .ok (.bipush 48, 2) := by decide +kernel
theorem dX3_init_60 : decode cX3_init 60 = .ok (.newarray .int, 2) := by decide +kernel
theorem dX3_init_62 : decode cX3_init 62 = .ok (.putfield 34, 3) := by decide +kernel
theorem dX3_init_65 : decode cX3_init 65 = .ok (.aload_n 0, 1) := by decide +kernel
theorem dX3_init_66 : decode cX3_init 66 = .ok (.bipush 100, 2) := by decide +kernel
theorem dX3_init_68 : decode cX3_init 68 = .ok (.newarray .int, 2) := by decide +kernel
theorem dX3_init_70 : decode cX3_init 70 = .ok (.putfield 37, 3) := by decide +kernel
theorem dX3_init_73 : decode cX3_init 73 = .ok (.return_, 1) := by decide +kernel
theorem dX3_copyFrom_0 : decode cX3_copyFrom 0 = .ok (.aload_n 0, 1) := by decide +kernel
theorem dX3_copyFrom_1 : decode cX3_copyFrom 1 = .ok (.aload_n 1, 1) := by decide +kernel
theorem dX3_copyFrom_2 : decode cX3_copyFrom 2 = .ok (.getfield 9, 3) := by decide +kernel
theorem dX3_copyFrom_5 : decode cX3_copyFrom 5 = .ok (.putfield 9, 3) := by decide +kernel
theorem dX3_copyFrom_8 : decode cX3_copyFrom 8 = .ok (.aload_n 1, 1) := by decide +kernel
theorem dX3_copyFrom_9 : decode cX3_copyFrom 9 = .ok (.getfield 15, 3) := by decide +kernel
theorem dX3_copyFrom_12 : decode cX3_copyFrom 12 = .ok (.iconst 0, 1) := by decide +kernel
theorem dX3_copyFrom_13 : decode cX3_copyFrom 13 = .ok (.aload_n 0, 1) := by decide +kernel
theorem dX3_copyFrom_14 : decode cX3_copyFrom 14 = .ok (.getfield 15, 3) := by decide +kernel
theorem dX3_copyFrom_17 : decode cX3_copyFrom 17 = .ok (.iconst 0, 1) := by decide +kernel
theorem dX3_copyFrom_18 : decode cX3_copyFrom 18 = .ok (.aload_n 0, 1) := by decide +kernel
theorem dX3_copyFrom_19 : decode cX3_copyFrom 19 = .ok (.getfield 15, 3) := by decide +kernel
theorem dX3_copyFrom_22 : decode cX3_copyFrom 22 = .ok (.arraylength, 1) := by decide +kernel
theorem dX3_copyFrom_23 : decode cX3_copyFrom 23 = .ok (.invokestatic 40, 3) := by decide +kernel
theorem dX3_copyFrom_26 : decode cX3_copyFrom 26 = .ok (.aload_n 1, 1) := by decide +kernel
theorem dX3_copyFrom_27 : decode cX3_copyFrom 27 = .ok (.getfield 19, 3) := by decide +kernel
theorem dX3_copyFrom_30 : decode cX3_copyFrom 30 = .ok (.iconst 0, 1) := by decide +kernel
theorem dX3_copyFrom_31 : decode cX3_copyFrom 31 = .ok (.aload_n 0, 1) := by decide +kernel
theorem dX3_copyFrom_32 : decode cX3_copyFrom 32 = .ok (.getfield 19, 3) := by decide +kernel
theorem dX3_copyFrom_35 : decode cX3_copyFrom 35 = .ok (.iconst 0, 1) := by decide +kernel
theorem dX3_copyFrom_36 : decode cX3_copyFrom 36 = .ok (.aload_n 0, 1) := by decide +kernel
theorem dX3_copyFrom_37 : decode cX3_copyFrom 37 = .ok (.getfield 19, 3) := by decide +kernel
theorem dX3_copyFrom_40 : decode cX3_copyFrom 40 = .ok (.arraylength, 1) := by decide +kernel
theorem dX3_copyFrom_41 : decode cX3_copyFrom 41 = .ok (.invokestatic 40, 3) := by decide +kernel
theorem dX3_copyFrom_44 : decode cX3_copyFrom 44 = .ok (.aload_n 1, 1) := by decide +kernel
theorem dX3_copyFrom_45 : decode cX3_copyFrom 45 = .ok (.getfield 22, 3) := by decide +kernel
theorem dX3_copyFrom_48 : decode cX3_copyFrom 48 = .ok (.iconst 0, 1) := by decide +kernel
theorem dX3_copyFrom_49 : decode cX3_copyFrom 49 = .ok (.aload_n 0, 1) := by decide +kernel
theorem dX3_copyFrom_50 : decode cX3_copyFrom 50 = .ok (.getfield 22, 3) := by decide +kernel
theorem dX3_copyFrom_53 : decode cX3_copyFrom 53 = .ok (.iconst 0, 1) := by decide +kernel
theorem dX3_copyFrom_54 : decode cX3_copyFrom 54 = .ok (.aload_n 0, 1) := by decide +kernel
theorem dX3_copyFrom_55 : decode cX3_copyFrom 55 = .ok (.getfield 22, 3) := by decide +kernel
theorem dX3_copyFrom_58 : decode cX3_copyFrom 58 = .ok (.arraylength, 1) := by decide +kernel
theorem dX3_copyFrom_59 : decode cX3_copyFrom 59 = .ok (.invokestatic 40, 3) := by decide +kernel
theorem dX3_copyFrom_62 : decode cX3_copyFrom 62 = .ok (.aload_n 1, 1) := by decide +kernel
theorem dX3_copyFrom_63 : decode cX3_copyFrom 63 = .ok (.getfield 25, 3) := by decide +kernel
theorem dX3_copyFrom_66 : decode cX3_copyFrom 66 = .ok (.iconst 0, 1) := by decide +kernel
theorem dX3_copyFrom_67 : decode cX3_copyFrom 67 = .ok (.aload_n 0, 1) := by decide +kernel
theorem dX3_copyFrom_68 : decode cX3_copyFrom 68 = .ok (.getfield 25, 3) := by decide +kernel
theorem dX3_copyFrom_71 : decode cX3_copyFrom 71 = .ok (.iconst 0, 1) := by decide +kernel
theorem dX3_copyFrom_72 : decode cX3_copyFrom 72 = .ok (.aload_n 0, 1) := by decide +kernel
theorem dX3_copyFrom_73 : decode cX3_copyFrom 73 = .ok (.getfield 25, 3) := by decide +kernel
theorem dX3_copyFrom_76 : decode cX3_copyFrom 76 = .ok (.arraylength, 1) := by decide +kernel
theorem dX3_copyFrom_77 : decode cX3_copyFrom 77 = .ok (.invokestatic 40, 3) := by decide +kernel
theorem dX3_copyFrom_80 : decode cX3_copyFrom 80 = .ok (.aload_n 1, 1) := by decide +kernel
theorem dX3_copyFrom_81 : decode cX3_copyFrom 81 = .ok (.getfield 28, 3) := by decide +kernel
theorem dX3_copyFrom_84 : decode cX3_copyFrom 84 = .ok (.iconst 0, 1) := by decide +kernel
theorem dX3_copyFrom_85 : decode cX3_copyFrom 85 = .ok (.aload_n 0, 1) := by decide +kernel
theorem dX3_copyFrom_86 : decode cX3_copyFrom 86 = .ok (.getfield 28, 3) := by decide +kernel
theorem dX3_copyFrom_89 : decode cX3_copyFrom 89 = .ok (.iconst 0, 1) := by decide +kernel
theorem dX3_copyFrom_90 : decode cX3_copyFrom 90 = .ok (.aload_n 0, 1) := by decide +kernel
theorem dX3_copyFrom_91 : decode cX3_copyFrom 91 = .ok (.getfield 28, 3) := by decide +kernel
theorem dX3_copyFrom_94 : decode cX3_copyFrom 94 = .ok (.arraylength, 1) := by decide +kernel
theorem dX3_copyFrom_95 : decode cX3_copyFrom 95 = .ok (.invokestatic 40, 3) := by decide +kernel
theorem dX3_copyFrom_98 : decode cX3_copyFrom 98 = .ok (.aload_n 1, 1) := by decide +kernel
theorem dX3_copyFrom_99 : decode cX3_copyFrom 99 = .ok (.getfield 31, 3) := by decide +kernel
theorem dX3_copyFrom_102 : decode cX3_copyFrom 102 = .ok (.iconst 0, 1) := by decide +kernel
theorem dX3_copyFrom_103 : decode cX3_copyFrom 103 = .ok (.aload_n 0, 1) := by decide +kernel
theorem dX3_copyFrom_104 : decode cX3_copyFrom 104 = .ok (.getfield 31, 3) := by decide +kernel
theorem dX3_copyFrom_107 : decode cX3_copyFrom 107 = .ok (.iconst 0, 1) := by decide +kernel
theorem dX3_copyFrom_108 : decode cX3_copyFrom 108 = .ok (.aload_n 0, 1) := by decide +kernel
theorem dX3_copyFrom_109 : decode cX3_copyFrom 109 = .ok (.getfield 31, 3) := by decide +kernel
theorem dX3_copyFrom_112 : decode cX3_copyFrom 112 = .ok (.arraylength, 1) := by decide +kernel
theorem dX3_copyFrom_113 : decode cX3_copyFrom 113 = .ok (.invokestatic 40, 3) := by decide +kernel
theorem dX3_copyFrom_116 : decode cX3_copyFrom 116 = .ok (.aload_n 1, 1) := by decide +kernel
theorem dX3_copyFrom_117 : decode cX3_copyFrom 117 = .ok (.getfield 34, 3) := by decide +kernel
theorem dX3_copyFrom_120 : decode cX3_copyFrom 120 = .ok (.iconst 0, 1) := by decide +kernel
theorem dX3_copyFrom_121 : decode cX3_copyFrom 121 = .ok (.aload_n 0, 1) := by decide +kernel
theorem dX3_copyFrom_122 : decode cX3_copyFrom 122 = .ok (.getfield 34, 3) := by decide +kernel
theorem dX3_copyFrom_125 : decode cX3_copyFrom 125 = .ok (.iconst 0, 1) := by decide +kernel
theorem dX3_copyFrom_126 : decode cX3_copyFrom 126 = .ok (.aload_n 0, 1) := by decide +kernel
theorem dX3_copyFrom_127 : decode cX3_copyFrom 127 = .ok (.getfield 34, 3) := by decide +kernel
theorem dX3_copyFrom_130 : decode cX3_copyFrom 130 = .ok (.arraylength, 1) := by decide +kernel
theorem dX3_copyFrom_131 : decode cX3_copyFrom 131 = .ok (.invokestatic 40, 3) := by decide +kernel
theorem dX3_copyFrom_134 : decode cX3_copyFrom 134 = .ok (.aload_n 1, 1) := by decide +kernel
theorem dX3_copyFrom_135 : decode cX3_copyFrom 135 = .ok (.getfield 37, 3) := by decide +kernel
theorem dX3_copyFrom_138 : decode cX3_copyFrom 138 = .ok (.iconst 0, 1) := by decide +kernel
theorem dX3_copyFrom_139 : decode cX3_copyFrom 139 = .ok (.aload_n 0, 1) := by decide +kernel
theorem dX3_copyFrom_140 : decode cX3_copyFrom 140 = .ok (.getfield 37, 3) := by decide +kernel
theorem dX3_copyFrom_143 : decode cX3_copyFrom 143 = .ok (.iconst 0, 1) := by decide +kernel
theorem dX3_copyFrom_144 : decode cX3_copyFrom 144 = .ok (.aload_n 0, 1) := by decide +kernel
theorem dX3_copyFrom_145 : decode cX3_copyFrom 145 = .ok (.getfield 37, 3) := by decide +kernel
theorem dX3_copyFrom_148 : decode cX3_copyFrom 148 = .ok (.arraylength, 1) := by decide +kernel
theorem dX3_copyFrom_149 : decode cX3_copyFrom 149 = .ok (.invokestatic 40, 3) := by decide +kernel
theorem dX3_copyFrom_152 : decode cX3_copyFrom 152 = .ok (.return_, 1) := by decide +kernel
theorem dX3_hasPart_0 : decode cX3_hasPart 0 = .ok (.iload_n 1, 1) := by decide +kernel
theorem dX3_hasPart_1 : decode cX3_hasPart 1 = .ok (.ifCond .lt 15, 3) := by decide +kernel
theorem dX3_hasPart_4 : decode cX3_hasPart 4 = .ok (.iload_n 1, 1) := by decide +kernel
theorem dX3_hasPart_5 : decode cX3_hasPart 5 = .ok (.aload_n 0, 1) := by decide +kernel
theorem dX3_hasPart_6 : decode cX3_hasPart 6 = .ok (.getfield 9, 3) := by decide +kernel
theorem dX3_hasPart_9 : decode cX3_hasPart 9 = .ok (.if_icmp .ge 7, 3) := by decide +kernel
theorem dX3_hasPart_12 : decode cX3_hasPart 12 = .ok (.iconst 1, 1) := by decide +kernel
theorem dX3_hasPart_13 : decode cX3_hasPart 13 = .ok (.goto 4, 3) := by decide +kernel
theorem dX3_hasPart_16 : decode cX3_hasPart 16 = .ok (.iconst 0, 1) := by decide +kernel
theorem dX3_hasPart_17 : decode cX3_hasPart 17 = .ok (.ireturn, 1) := by decide +kernel
theorem dX3_has_0 : decode cX3_has 0 = .ok (.iload_n 1, 1) := by decide +kernel
theorem dX3_has_1 : decode cX3_has 1 = .ok (.invokestatic 46, 3) := by decide +kernel
theorem dX3_has_4 : decode cX3_has 4 = .ok (.ifCond .eq 21, 3) := by decide +kernel
theorem dX3_has_7 : decode cX3_has 7 = .ok (.iload_n 2, 1) := by decide +kernel
theorem dX3_has_8 : decode cX3_has 8 = .ok (.ifCond .lt 17, 3) := by decide +kernel
theorem dX3_has_11 : decode cX3_has 11 = .ok (.iload_n 2, 1) := by decide +kernel
theorem dX3_has_12 : decode cX3_has 12 = .ok (.aload_n 0, 1) := by decide +kernel
theorem dX3_has_13 : decode cX3_has 13 = .ok (.getfield 15, 3) := by decide +kernel
theorem dX3_has_16 : decode cX3_has 16 = .ok (.iload_n 1, 1) := by decide +kernel
theorem dX3_has_17 : decode cX3_has 17 = .ok (.iaload, 1) := by decide +kernel
theorem dX3_has_18 : decode cX3_has 18 = .ok (.if_icmp .ge 7, 3) := by decide +kernel
theorem dX3_has_21 : decode cX3_has 21 = .ok (.iconst 1, 1) := by decide +kernel
theorem dX3_has_22 : decode cX3_has 22 = .ok (.goto 4, 3) := by decide +kernel
theorem dX3_has_25 : decode cX3_has 25 = .ok (.iconst 0, 1) := by decide +kernel
theorem dX3_has_26 : decode cX3_has 26 = .ok (.ireturn, 1) := by decide +kernel
theorem dX3_hasAct_0 : decode cX3_hasAct 0 = .ok (.aload_n 0, 1) := by decide +kernel
theorem dX3_hasAct_1 : decode cX3_hasAct 1 = .ok (.iconst 0, 1) := by decide +kernel
theorem dX3_hasAct_2 : decode cX3_hasAct 2 = .ok (.iload_n 1, 1) := by decide +kernel
theorem dX3_hasAct_3 : decode cX3_hasAct 3 = .ok (.invokevirtual 50, 3) := by decide +kernel
theorem dX3_hasAct_6 : decode cX3_hasAct 6 = .ok (.ifCond .eq 21, 3) := by decide +kernel
theorem dX3_hasAct_9 : decode cX3_hasAct 9 = .ok (.iload_n 2, 1) := by decide +kernel
theorem dX3_hasAct_10 : decode cX3_hasAct 10 = .ok (.ifCond .lt 17, 3) := by decide +kernel
theorem dX3_hasAct_13 : decode cX3_hasAct 13 = .ok (.iload_n 2, 1) := by decide +kernel
theorem dX3_hasAct_14 : decode cX3_hasAct 14 = .ok (.aload_n 0, 1) := by decide +kernel
theorem dX3_hasAct_15 : decode cX3_hasAct 15 = .ok (.getfield 22, 3) := by decide +kernel
theorem dX3_hasAct_18 : decode cX3_hasAct 18 = .ok (.iload_n 1, 1) := by decide +kernel
theorem dX3_hasAct_19 : decode cX3_hasAct 19 = .ok (.iaload, 1) := by decide +kernel
theorem dX3_hasAct_20 : decode cX3_hasAct 20 = .ok (.if_icmp .ge 7, 3) := by decide +kernel
theorem dX3_hasAct_23 : decode cX3_hasAct 23 = .ok (.iconst 1, 1) := by decide +kernel
theorem dX3_hasAct_24 : decode cX3_hasAct 24 = .ok (.goto 4, 3) := by decide +kernel
theorem dX3_hasAct_27 : decode cX3_hasAct 27 = .ok (.iconst 0, 1) := by decide +kernel
theorem dX3_hasAct_28 : decode cX3_hasAct 28 = .ok (.ireturn, 1) := by decide +kernel
theorem dX3_isFull_0 : decode cX3_isFull 0 = .ok (.aload_n 0, 1) := by decide +kernel
theorem dX3_isFull_1 : decode cX3_isFull 1 = .ok (.getfield 15, 3) := by decide +kernel
theorem dX3_isFull_4 : decode cX3_isFull 4 = .ok (.iload_n 1, 1) := by decide +kernel
theorem dX3_isFull_5 : decode cX3_isFull 5 = .ok (.iaload, 1) := by decide +kernel
theorem dX3_isFull_6 : decode cX3_isFull 6 = .ok (.getstatic 54, 3) := by decide +kernel
theorem dX3_isFull_9 : decode cX3_isFull 9 = .ok (.iload_n 1, 1) := by decide +kernel
theorem dX3_isFull_10 : decode cX3_isFull 10 = .ok (.iaload, 1) := by decide +kernel
theorem dX3_isFull_11 : decode cX3_isFull 11 = .ok (.if_icmp .lt 7, 3) := by decide +kernel
theorem dX3_isFull_14 : decode cX3_isFull 14 = .ok (.iconst 1, 1) := by decide +kernel
theorem dX3_isFull_15 : decode cX3_isFull 15 = .ok (.goto 4, 3) := by decide +kernel
theorem dX3_isFull_18 : decode cX3_isFull 18 = .ok (.iconst 0, 1) := by decide +kernel
theorem dX3_isFull_19 : decode cX3_isFull 19 = .ok (.ireturn, 1) := by decide +kernel
theorem dX3_isFace_0 : decode cX3_isFace 0 = .ok (.aload_n 0, 1) := by decide +kernel
theorem dX3_isFace_1 : decode cX3_isFace 1 = .ok (.getfield 28, 3) := by decide +kernel
theorem dX3_isFace_4 : decode cX3_isFace 4 = .ok (.iload_n 1, 1) := by decide +kernel
theorem dX3_isFace_5 : decode cX3_isFace 5 = .ok (.iaload, 1) := by decide +kernel
theorem dX3_isFace_6 : decode cX3_isFace 6 = .ok (.iconst (-1), 1) := by decide +kernel
theorem dX3_isFace_7 : decode cX3_isFace 7 = .ok (.if_icmp .eq 7, 3) := by decide +kernel
theorem dX3_isFace_10 : decode cX3_isFace 10 = .ok (.iconst 1, 1) := by decide +kernel
theorem dX3_isFace_11 : decode cX3_isFace 11 = .ok (.goto 4, 3) := by decide +kernel
theorem dX3_isFace_14 : decode cX3_isFace 14 = .ok (.iconst 0, 1) := by decide +kernel
theorem dX3_isFace_15 : decode cX3_isFace 15 = .ok (.ireturn, 1) := by decide +kernel
theorem dX3_homeOf_0 : decode cX3_homeOf 0 = .ok (.aload_n 0, 1) := by decide +kernel
theorem dX3_homeOf_1 : decode cX3_homeOf 1 = .ok (.getfield 19, 3) := by decide +kernel
theorem dX3_homeOf_4 : decode cX3_homeOf 4 = .ok (.iload_n 1, 1) := by decide +kernel
theorem dX3_homeOf_5 : decode cX3_homeOf 5 = .ok (.bipush 20, 2) := by decide +kernel
theorem dX3_homeOf_7 : decode cX3_homeOf 7 = .ok (.imul, 1) := by decide +kernel
theorem dX3_homeOf_8 : decode cX3_homeOf 8 = .ok (.iload_n 2, 1) := by decide +kernel
theorem dX3_homeOf_9 : decode cX3_homeOf 9 = .ok (.iadd, 1) := by decide +kernel
theorem dX3_homeOf_10 : decode cX3_homeOf 10 = .ok (.iaload, 1) := by decide +kernel
theorem dX3_homeOf_11 : decode cX3_homeOf 11 = .ok (.ireturn, 1) := by decide +kernel
theorem dX3_setHome_0 : decode cX3_setHome 0 = .ok (.aload_n 0, 1) := by decide +kernel
theorem dX3_setHome_1 : decode cX3_setHome 1 = .ok (.getfield 19, 3) := by decide +kernel
theorem dX3_setHome_4 : decode cX3_setHome 4 = .ok (.iload_n 1, 1) := by decide +kernel
theorem dX3_setHome_5 : decode cX3_setHome 5 = .ok (.bipush 20, 2) := by decide +kernel
theorem dX3_setHome_7 : decode cX3_setHome 7 = .ok (.imul, 1) := by decide +kernel
theorem dX3_setHome_8 : decode cX3_setHome 8 = .ok (.iload_n 2, 1) := by decide +kernel
theorem dX3_setHome_9 : decode cX3_setHome 9 = .ok (.iadd, 1) := by decide +kernel
theorem dX3_setHome_10 : decode cX3_setHome 10 = .ok (.iload_n 3, 1) := by decide +kernel
theorem dX3_setHome_11 : decode cX3_setHome 11 = .ok (.iastore, 1) := by decide +kernel
theorem dX3_setHome_12 : decode cX3_setHome 12 = .ok (.return_, 1) := by decide +kernel
theorem dX3_sortOf_0 : decode cX3_sortOf 0 = .ok (.aload_n 0, 1) := by decide +kernel
theorem dX3_sortOf_1 : decode cX3_sortOf 1 = .ok (.getfield 25, 3) := by decide +kernel
theorem dX3_sortOf_4 : decode cX3_sortOf 4 = .ok (.iload_n 1, 1) := by decide +kernel
theorem dX3_sortOf_5 : decode cX3_sortOf 5 = .ok (.bipush 10, 2) := by decide +kernel
theorem dX3_sortOf_7 : decode cX3_sortOf 7 = .ok (.imul, 1) := by decide +kernel
theorem dX3_sortOf_8 : decode cX3_sortOf 8 = .ok (.iload_n 2, 1) := by decide +kernel
theorem dX3_sortOf_9 : decode cX3_sortOf 9 = .ok (.iadd, 1) := by decide +kernel
theorem dX3_sortOf_10 : decode cX3_sortOf 10 = .ok (.iaload, 1) := by decide +kernel
theorem dX3_sortOf_11 : decode cX3_sortOf 11 = .ok (.sipush 1000, 3) := by decide +kernel
theorem dX3_sortOf_14 : decode cX3_sortOf 14 = .ok (.idiv, 1) := by decide +kernel
theorem dX3_sortOf_15 : decode cX3_sortOf 15 = .ok (.ireturn, 1) := by decide +kernel
theorem dX3_numberOf_0 : decode cX3_numberOf 0 = .ok (.aload_n 0, 1) := by decide +kernel
theorem dX3_numberOf_1 : decode cX3_numberOf 1 = .ok (.getfield 25, 3) := by decide +kernel
theorem dX3_numberOf_4 : decode cX3_numberOf 4 = .ok (.iload_n 1, 1) := by decide +kernel
theorem dX3_numberOf_5 : decode cX3_numberOf 5 = .ok (.bipush 10, 2) := by decide +kernel
theorem dX3_numberOf_7 : decode cX3_numberOf 7 = .ok (.imul, 1) := by decide +kernel
theorem dX3_numberOf_8 : decode cX3_numberOf 8 = .ok (.iload_n 2, 1) := by decide +kernel
theorem dX3_numberOf_9 : decode cX3_numberOf 9 = .ok (.iadd, 1) := by decide +kernel
theorem dX3_numberOf_10 : decode cX3_numberOf 10 = .ok (.iaload, 1) := by decide +kernel
theorem dX3_numberOf_11 : decode cX3_numberOf 11 = .ok (.sipush 1000, 3) := by decide +kernel
theorem dX3_numberOf_14 : decode cX3_numberOf 14 = .ok (.irem, 1) := by decide +kernel
theorem dX3_numberOf_15 : decode cX3_numberOf 15 = .ok (.ireturn, 1) := by decide +kernel
theorem dX3_setAct_0 : decode cX3_setAct 0 = .ok (.aload_n 0, 1) := by decide +kernel
theorem dX3_setAct_1 : decode cX3_setAct 1 = .ok (.getfield 25, 3) := by decide +kernel
theorem dX3_setAct_4 : decode cX3_setAct 4 = .ok (.iload_n 1, 1) := by decide +kernel
theorem dX3_setAct_5 : decode cX3_setAct 5 = .ok (.bipush 10, 2) := by decide +kernel
theorem dX3_setAct_7 : decode cX3_setAct 7 = .ok (.imul, 1) := by decide +kernel
theorem dX3_setAct_8 : decode cX3_setAct 8 = .ok (.iload_n 2, 1) := by decide +kernel
theorem dX3_setAct_9 : decode cX3_setAct 9 = .ok (.iadd, 1) := by decide +kernel
theorem dX3_setAct_10 : decode cX3_setAct 10 = .ok (.sipush 1000, 3) := by decide +kernel
theorem dX3_setAct_13 : decode cX3_setAct 13 = .ok (.iload_n 3, 1) := by decide +kernel
theorem dX3_setAct_14 : decode cX3_setAct 14 = .ok (.imul, 1) := by decide +kernel
theorem dX3_setAct_15 : decode cX3_setAct 15 = .ok (.iload 4, 2) := by decide +kernel
theorem dX3_setAct_17 : decode cX3_setAct 17 = .ok (.iadd, 1) := by decide +kernel
theorem dX3_setAct_18 : decode cX3_setAct 18 = .ok (.iastore, 1) := by decide +kernel
theorem dX3_setAct_19 : decode cX3_setAct 19 = .ok (.return_, 1) := by decide +kernel
theorem dX3_addPart_0 : decode cX3_addPart 0 = .ok (.aload_n 0, 1) := by decide +kernel
theorem dX3_addPart_1 : decode cX3_addPart 1 = .ok (.dup, 1) := by decide +kernel
theorem dX3_addPart_2 : decode cX3_addPart 2 = .ok (.getfield 9, 3) := by decide +kernel
theorem dX3_addPart_5 : decode cX3_addPart 5 = .ok (.iconst 1, 1) := by decide +kernel
theorem dX3_addPart_6 : decode cX3_addPart 6 = .ok (.iadd, 1) := by decide +kernel
theorem dX3_addPart_7 : decode cX3_addPart 7 = .ok (.putfield 9, 3) := by decide +kernel
theorem dX3_addPart_10 : decode cX3_addPart 10 = .ok (.aload_n 0, 1) := by decide +kernel
theorem dX3_addPart_11 : decode cX3_addPart 11 = .ok (.getfield 9, 3) := by decide +kernel
theorem dX3_addPart_14 : decode cX3_addPart 14 = .ok (.iconst 1, 1) := by decide +kernel
theorem dX3_addPart_15 : decode cX3_addPart 15 = .ok (.isub, 1) := by decide +kernel
theorem dX3_addPart_16 : decode cX3_addPart 16 = .ok (.ireturn, 1) := by decide +kernel
theorem dX3_addThing_0 : decode cX3_addThing 0 = .ok (.aload_n 0, 1) := by decide +kernel
theorem dX3_addThing_1 : decode cX3_addThing 1 = .ok (.getfield 15, 3) := by decide +kernel
theorem dX3_addThing_4 : decode cX3_addThing 4 = .ok (.iload_n 1, 1) := by decide +kernel
theorem dX3_addThing_5 : decode cX3_addThing 5 = .ok (.iaload, 1) := by decide +kernel
theorem dX3_addThing_6 : decode cX3_addThing 6 = .ok (.istore_n 3, 1) := by decide +kernel
theorem dX3_addThing_7 : decode cX3_addThing 7 = .ok (.aload_n 0, 1) := by decide +kernel
theorem dX3_addThing_8 : decode cX3_addThing 8 = .ok (.getfield 15, 3) := by decide +kernel
theorem dX3_addThing_11 : decode cX3_addThing 11 = .ok (.iload_n 1, 1) := by decide +kernel
theorem dX3_addThing_12 : decode cX3_addThing 12 = .ok (.dup2, 1) := by decide +kernel
theorem dX3_addThing_13 : decode cX3_addThing 13 = .ok (.iaload, 1) := by decide +kernel
theorem dX3_addThing_14 : decode cX3_addThing 14 = .ok (.iconst 1, 1) := by decide +kernel
theorem dX3_addThing_15 : decode cX3_addThing 15 = .ok (.iadd, 1) := by decide +kernel
theorem dX3_addThing_16 : decode cX3_addThing 16 = .ok (.iastore, 1) := by decide +kernel
theorem dX3_addThing_17 : decode cX3_addThing 17 = .ok (.aload_n 0, 1) := by decide +kernel
theorem dX3_addThing_18 : decode cX3_addThing 18 = .ok (.iload_n 1, 1) := by decide +kernel
theorem dX3_addThing_19 : decode cX3_addThing 19 = .ok (.iload_n 3, 1) := by decide +kernel
theorem dX3_addThing_20 : decode cX3_addThing 20 = .ok (.iload_n 2, 1) := by decide +kernel
theorem dX3_addThing_21 : decode cX3_addThing 21 = .ok (.invokevirtual 57, 3) := by decide +kernel
theorem dX3_addThing_24 : decode cX3_addThing 24 = .ok (.iload_n 1, 1) := by decide +kernel
theorem dX3_addThing_25 : decode cX3_addThing 25 = .ok (.ifCond .ne 10, 3) := by decide +kernel
theorem dX3_addThing_28 : decode cX3_addThing 28 = .ok (.aload_n 0, 1) := by decide +kernel
theorem dX3_addThing_29 : decode cX3_addThing 29 = .ok (.getfield 28, 3) := by decide +kernel
theorem dX3_addThing_32 : decode cX3_addThing 32 = .ok (.iload_n 3, 1) := by decide +kernel
theorem dX3_addThing_33 : decode cX3_addThing 33 = .ok (.iconst (-1), 1) := by decide +kernel
theorem dX3_addThing_34 : decode cX3_addThing 34 = .ok (.iastore, 1) := by decide +kernel
theorem dX3_addThing_35 : decode cX3_addThing 35 = .ok (.iload_n 3, 1) := by decide +kernel
theorem dX3_addThing_36 : decode cX3_addThing 36 = .ok (.ireturn, 1) := by decide +kernel
theorem dX3_knowsAllOf_0 : decode cX3_knowsAllOf 0 = .ok (.iconst 0, 1) := by decide +kernel
theorem dX3_knowsAllOf_1 : decode cX3_knowsAllOf 1 = .ok (.istore_n 2, 1) := by decide +kernel
theorem dX3_knowsAllOf_2 : decode cX3_knowsAllOf 2 = .ok (.iload_n 2, 1) := by decide +kernel
theorem dX3_knowsAllOf_3 : decode cX3_knowsAllOf 3 = .ok (.aload_n 1, 1) := by decide +kernel
theorem dX3_knowsAllOf_4 : decode cX3_knowsAllOf 4 = .ok (.getfield 61, 3) := by decide +kernel
theorem dX3_knowsAllOf_7 : decode cX3_knowsAllOf 7 = .ok (.if_icmp .ge 40, 3) := by decide +kernel
theorem dX3_knowsAllOf_10 : decode cX3_knowsAllOf 10 = .ok (.aload_n 1, 1) := by decide +kernel
theorem dX3_knowsAllOf_11 : decode cX3_knowsAllOf 11 = .ok (.getfield 65, 3) := by decide +kernel
theorem dX3_knowsAllOf_14 : decode cX3_knowsAllOf 14 = .ok (.iload_n 2, 1) := by decide +kernel
theorem dX3_knowsAllOf_15 : decode cX3_knowsAllOf 15 = .ok (.iaload, 1) := by decide +kernel
theorem dX3_knowsAllOf_16 : decode cX3_knowsAllOf 16 = .ok (.invokestatic 68, 3) := by decide +kernel
theorem dX3_knowsAllOf_19 : decode cX3_knowsAllOf 19 = .ok (.istore_n 3, 1) := by decide +kernel
theorem dX3_knowsAllOf_20 : decode cX3_knowsAllOf 20 = .ok (.iload_n 3, 1) := by decide +kernel
theorem dX3_knowsAllOf_21 : decode cX3_knowsAllOf 21 = .ok (.iconst (-1), 1) := by decide +kernel
theorem dX3_knowsAllOf_22 : decode cX3_knowsAllOf 22 = .ok (.if_icmp .eq 19, 3) := by decide +kernel
theorem dX3_knowsAllOf_25 : decode cX3_knowsAllOf 25 = .ok (.aload_n 0, 1) := by decide +kernel
theorem dX3_knowsAllOf_26 : decode cX3_knowsAllOf 26 = .ok (.iload_n 3, 1) := by decide +kernel
theorem dX3_knowsAllOf_27 : decode cX3_knowsAllOf 27 = .ok (.aload_n 1, 1) := by decide +kernel
theorem dX3_knowsAllOf_28 : decode cX3_knowsAllOf 28 = .ok (.getfield 72, 3) := by decide +kernel
theorem dX3_knowsAllOf_31 : decode cX3_knowsAllOf 31 = .ok (.iload_n 2, 1) := by decide +kernel
theorem dX3_knowsAllOf_32 : decode cX3_knowsAllOf 32 = .ok (.iaload, 1) := by decide +kernel
theorem dX3_knowsAllOf_33 : decode cX3_knowsAllOf 33 = .ok (.invokevirtual 50, 3) := by decide +kernel
theorem dX3_knowsAllOf_36 : decode cX3_knowsAllOf 36 = .ok (.ifCond .ne 5, 3) := by decide +kernel
theorem dX3_knowsAllOf_39 : decode cX3_knowsAllOf 39 = .ok (.iconst 0, 1) := by decide +kernel
theorem dX3_knowsAllOf_40 : decode cX3_knowsAllOf 40 = .ok (.ireturn, 1) := by decide +kernel
theorem dX3_knowsAllOf_41 : decode cX3_knowsAllOf 41 = .ok (.iinc 2 1, 3) := by decide +kernel
theorem dX3_knowsAllOf_44 : decode cX3_knowsAllOf 44 = .ok (.goto (-42), 3) := by decide +kernel
theorem dX3_knowsAllOf_47 : decode cX3_knowsAllOf 47 = .ok (.iconst 1, 1) := by decide +kernel
theorem dX3_knowsAllOf_48 : decode cX3_knowsAllOf 48 = .ok (.ireturn, 1) := by decide +kernel
theorem dX3_kindToldBy_0 : decode cX3_kindToldBy 0 = .ok (.iload_n 0, 1) := by decide +kernel
theorem dX3_kindToldBy_1 : decode cX3_kindToldBy 1 = .ok (.tableswitch 41 2 6 #[35, 35, 37, 37, 39], 35) := by decide +kernel
theorem dX3_kindToldBy_36 : decode cX3_kindToldBy 36 = .ok (.iconst 1, 1) := by decide +kernel
theorem dX3_kindToldBy_37 : decode cX3_kindToldBy 37 = .ok (.ireturn, 1) := by decide +kernel
theorem dX3_kindToldBy_38 : decode cX3_kindToldBy 38 = .ok (.iconst 0, 1) := by decide +kernel
theorem dX3_kindToldBy_39 : decode cX3_kindToldBy 39 = .ok (.ireturn, 1) := by decide +kernel
theorem dX3_kindToldBy_40 : decode cX3_kindToldBy 40 = .ok (.iconst 2, 1) := by decide +kernel
theorem dX3_kindToldBy_41 : decode cX3_kindToldBy 41 = .ok (.ireturn, 1) := by decide +kernel
theorem dX3_kindToldBy_42 : decode cX3_kindToldBy 42 = .ok (.iconst (-1), 1) := by decide +kernel
theorem dX3_kindToldBy_43 : decode cX3_kindToldBy 43 = .ok (.ireturn, 1) := by decide +kernel
theorem dX3_setBody_0 : decode cX3_setBody 0 = .ok (.aload_n 0, 1) := by decide +kernel
theorem dX3_setBody_1 : decode cX3_setBody 1 = .ok (.getfield 22, 3) := by decide +kernel
theorem dX3_setBody_4 : decode cX3_setBody 4 = .ok (.iload_n 1, 1) := by decide +kernel
theorem dX3_setBody_5 : decode cX3_setBody 5 = .ok (.aload_n 2, 1) := by decide +kernel
theorem dX3_setBody_6 : decode cX3_setBody 6 = .ok (.getfield 61, 3) := by decide +kernel
theorem dX3_setBody_9 : decode cX3_setBody 9 = .ok (.iastore, 1) := by decide +kernel
theorem dX3_setBody_10 : decode cX3_setBody 10 = .ok (.iconst 0, 1) := by decide +kernel
theorem dX3_setBody_11 : decode cX3_setBody 11 = .ok (.istore_n 3, 1) := by decide +kernel
theorem dX3_setBody_12 : decode cX3_setBody 12 = .ok (.iload_n 3, 1) := by decide +kernel
theorem dX3_setBody_13 : decode cX3_setBody 13 = .ok (.aload_n 2, 1) := by decide +kernel
theorem dX3_setBody_14 : decode cX3_setBody 14 = .ok (.getfield 61, 3) := by decide +kernel
theorem dX3_setBody_17 : decode cX3_setBody 17 = .ok (.if_icmp .ge 27, 3) := by decide +kernel
theorem dX3_setBody_20 : decode cX3_setBody 20 = .ok (.aload_n 0, 1) := by decide +kernel
theorem dX3_setBody_21 : decode cX3_setBody 21 = .ok (.iload_n 1, 1) := by decide +kernel
theorem dX3_setBody_22 : decode cX3_setBody 22 = .ok (.iload_n 3, 1) := by decide +kernel
theorem dX3_setBody_23 : decode cX3_setBody 23 = .ok (.aload_n 2, 1) := by decide +kernel
theorem dX3_setBody_24 : decode cX3_setBody 24 = .ok (.getfield 65, 3) := by decide +kernel
theorem dX3_setBody_27 : decode cX3_setBody 27 = .ok (.iload_n 3, 1) := by decide +kernel
theorem dX3_setBody_28 : decode cX3_setBody 28 = .ok (.iaload, 1) := by decide +kernel
theorem dX3_setBody_29 : decode cX3_setBody 29 = .ok (.aload_n 2, 1) := by decide +kernel
theorem dX3_setBody_30 : decode cX3_setBody 30 = .ok (.getfield 72, 3) := by decide +kernel
theorem dX3_setBody_33 : decode cX3_setBody 33 = .ok (.iload_n 3, 1) := by decide +kernel
theorem dX3_setBody_34 : decode cX3_setBody 34 = .ok (.iaload, 1) := by decide +kernel
theorem dX3_setBody_35 : decode cX3_setBody 35 = .ok (.invokevirtual 75, 3) := by decide +kernel
theorem dX3_setBody_38 : decode cX3_setBody 38 = .ok (.iinc 3 1, 3) := by decide +kernel
theorem dX3_setBody_41 : decode cX3_setBody 41 = .ok (.goto (-29), 3) := by decide +kernel
theorem dX3_setBody_44 : decode cX3_setBody 44 = .ok (.return_, 1) := by decide +kernel
theorem dX3_hearerOf_0 : decode cX3_hearerOf 0 = .ok (.aload_n 0, 1) := by decide +kernel
theorem dX3_hearerOf_1 : decode cX3_hearerOf 1 = .ok (.getfield 34, 3) := by decide +kernel
theorem dX3_hearerOf_4 : decode cX3_hearerOf 4 = .ok (.iload_n 1, 1) := by decide +kernel
theorem dX3_hearerOf_5 : decode cX3_hearerOf 5 = .ok (.bipush 6, 2) := by decide +kernel
theorem dX3_hearerOf_7 : decode cX3_hearerOf 7 = .ok (.imul, 1) := by decide +kernel
theorem dX3_hearerOf_8 : decode cX3_hearerOf 8 = .ok (.iload_n 2, 1) := by decide +kernel
theorem dX3_hearerOf_9 : decode cX3_hearerOf 9 = .ok (.iadd, 1) := by decide +kernel
theorem dX3_hearerOf_10 : decode cX3_hearerOf 10 = .ok (.iaload, 1) := by decide +kernel
theorem dX3_hearerOf_11 : decode cX3_hearerOf 11 = .ok (.ireturn, 1) := by decide +kernel
theorem dX3_hears_0 : decode cX3_hears 0 = .ok (.iconst 0, 1) := by decide +kernel
theorem dX3_hears_1 : decode cX3_hears 1 = .ok (.istore_n 3, 1) := by decide +kernel
theorem dX3_hears_2 : decode cX3_hears 2 = .ok (.iload_n 3, 1) := by decide +kernel
theorem dX3_hears_3 : decode cX3_hears 3 = .ok (.aload_n 0, 1) := by decide +kernel
theorem dX3_hears_4 : decode cX3_hears 4 = .ok (.getfield 31, 3) := by decide +kernel
theorem dX3_hears_7 : decode cX3_hears 7 = .ok (.iload_n 1, 1) := by decide +kernel
theorem dX3_hears_8 : decode cX3_hears 8 = .ok (.iaload, 1) := by decide +kernel
theorem dX3_hears_9 : decode cX3_hears 9 = .ok (.if_icmp .ge 21, 3) := by decide +kernel
theorem dX3_hears_12 : decode cX3_hears 12 = .ok (.aload_n 0, 1) := by decide +kernel
theorem dX3_hears_13 : decode cX3_hears 13 = .ok (.iload_n 1, 1) := by decide +kernel
theorem dX3_hears_14 : decode cX3_hears 14 = .ok (.iload_n 3, 1) := by decide +kernel
theorem dX3_hears_15 : decode cX3_hears 15 = .ok (.invokevirtual 79, 3) := by decide +kernel
theorem dX3_hears_18 : decode cX3_hears 18 = .ok (.iload_n 2, 1) := by decide +kernel
theorem dX3_hears_19 : decode cX3_hears 19 = .ok (.if_icmp .ne 5, 3) := by decide +kernel
theorem dX3_hears_22 : decode cX3_hears 22 = .ok (.iconst 1, 1) := by decide +kernel
theorem dX3_hears_23 : decode cX3_hears 23 = .ok (.ireturn, 1) := by decide +kernel
theorem dX3_hears_24 : decode cX3_hears 24 = .ok (.iinc 3 1, 3) := by decide +kernel
theorem dX3_hears_27 : decode cX3_hears 27 = .ok (.goto (-25), 3) := by decide +kernel
theorem dX3_hears_30 : decode cX3_hears 30 = .ok (.iconst 0, 1) := by decide +kernel
theorem dX3_hears_31 : decode cX3_hears 31 = .ok (.ireturn, 1) := by decide +kernel
theorem dX3_addHearer_0 : decode cX3_addHearer 0 = .ok (.aload_n 0, 1) := by decide +kernel
theorem dX3_addHearer_1 : decode cX3_addHearer 1 = .ok (.getfield 34, 3) := by decide +kernel
theorem dX3_addHearer_4 : decode cX3_addHearer 4 = .ok (.iload_n 1, 1) := by decide +kernel
theorem dX3_addHearer_5 : decode cX3_addHearer 5 = .ok (.bipush 6, 2) := by decide +kernel
theorem dX3_addHearer_7 : decode cX3_addHearer 7 = .ok (.imul, 1) := by decide +kernel
theorem dX3_addHearer_8 : decode cX3_addHearer 8 = .ok (.aload_n 0, 1) := by decide +kernel
theorem dX3_addHearer_9 : decode cX3_addHearer 9 = .ok (.getfield 31, 3) := by decide +kernel
theorem dX3_addHearer_12 : decode cX3_addHearer 12 = .ok (.iload_n 1, 1) := by decide +kernel
theorem dX3_addHearer_13 : decode cX3_addHearer 13 = .ok (.iaload, 1) := by decide +kernel
theorem dX3_addHearer_14 : decode cX3_addHearer 14 = .ok (.iadd, 1) := by decide +kernel
theorem dX3_addHearer_15 : decode cX3_addHearer 15 = .ok (.iload_n 2, 1) := by decide +kernel
theorem dX3_addHearer_16 : decode cX3_addHearer 16 = .ok (.iastore, 1) := by decide +kernel
theorem dX3_addHearer_17 : decode cX3_addHearer 17 = .ok (.aload_n 0, 1) := by decide +kernel
theorem dX3_addHearer_18 : decode cX3_addHearer 18 = .ok (.getfield 31, 3) := by decide +kernel
theorem dX3_addHearer_21 : decode cX3_addHearer 21 = .ok (.iload_n 1, 1) := by decide +kernel
theorem dX3_addHearer_22 : decode cX3_addHearer 22 = .ok (.dup2, 1) := by decide +kernel
theorem dX3_addHearer_23 : decode cX3_addHearer 23 = .ok (.iaload, 1) := by decide +kernel
theorem dX3_addHearer_24 : decode cX3_addHearer 24 = .ok (.iconst 1, 1) := by decide +kernel
theorem dX3_addHearer_25 : decode cX3_addHearer 25 = .ok (.iadd, 1) := by decide +kernel
theorem dX3_addHearer_26 : decode cX3_addHearer 26 = .ok (.iastore, 1) := by decide +kernel
theorem dX3_addHearer_27 : decode cX3_addHearer 27 = .ok (.return_, 1) := by decide +kernel
theorem dX3_hasPlainRoutines_0 : decode cX3_hasPlainRoutines 0 = .ok (.iload_n 1, 1) := by decide +kernel
theorem dX3_hasPlainRoutines_1 : decode cX3_hasPlainRoutines 1 = .ok (.aload_n 0, 1) := by decide +kernel
theorem dX3_hasPlainRoutines_2 : decode cX3_hasPlainRoutines 2 = .ok (.getfield 15, 3) := by decide +kernel
theorem dX3_hasPlainRoutines_5 : decode cX3_hasPlainRoutines 5 = .ok (.iconst 0, 1) := by decide +kernel
theorem dX3_hasPlainRoutines_6 : decode cX3_hasPlainRoutines 6 = .ok (.iaload, 1) := by decide +kernel
theorem dX3_hasPlainRoutines_7 : decode cX3_hasPlainRoutines 7 = .ok (.ishr, 1) := by decide +kernel
theorem dX3_hasPlainRoutines_8 : decode cX3_hasPlainRoutines 8 = .ok (.ifCond .eq 5, 3) := by decide +kernel
theorem dX3_hasPlainRoutines_11 : decode cX3_hasPlainRoutines 11 = .ok (.iconst 0, 1) := by decide +kernel
theorem dX3_hasPlainRoutines_12 : decode cX3_hasPlainRoutines 12 = .ok (.ireturn, 1) := by decide +kernel
theorem dX3_hasPlainRoutines_13 : decode cX3_hasPlainRoutines 13 = .ok (.iconst 0, 1) := by decide +kernel
theorem dX3_hasPlainRoutines_14 : decode cX3_hasPlainRoutines 14 = .ok (.istore_n 2, 1) := by decide +kernel
theorem dX3_hasPlainRoutines_15 : decode cX3_hasPlainRoutines 15 = .ok (.iload_n 2, 1) := by decide +kernel
theorem dX3_hasPlainRoutines_16 : decode cX3_hasPlainRoutines 16 = .ok (.aload_n 0, 1) := by decide +kernel
theorem dX3_hasPlainRoutines_17 : decode cX3_hasPlainRoutines 17 = .ok (.getfield 15, 3) := by decide +kernel
theorem dX3_hasPlainRoutines_20 : decode cX3_hasPlainRoutines 20 = .ok (.iconst 0, 1) := by decide +kernel
theorem dX3_hasPlainRoutines_21 : decode cX3_hasPlainRoutines 21 = .ok (.iaload, 1) := by decide +kernel
theorem dX3_hasPlainRoutines_22 : decode cX3_hasPlainRoutines 22 = .ok (.if_icmp .ge 27, 3) := by decide +kernel
theorem dX3_hasPlainRoutines_25 : decode cX3_hasPlainRoutines 25 = .ok (.iload_n 2, 1) := by decide +kernel
theorem dX3_hasPlainRoutines_26 : decode cX3_hasPlainRoutines 26 = .ok (.iload_n 1, 1) := by decide +kernel
theorem dX3_hasPlainRoutines_27 : decode cX3_hasPlainRoutines 27 = .ok (.invokestatic 83, 3) := by decide +kernel
theorem dX3_hasPlainRoutines_30 : decode cX3_hasPlainRoutines 30 = .ok (.ifCond .eq 13, 3) := by decide +kernel
theorem dX3_hasPlainRoutines_33 : decode cX3_hasPlainRoutines 33 = .ok (.aload_n 0, 1) := by decide +kernel
theorem dX3_hasPlainRoutines_34 : decode cX3_hasPlainRoutines 34 = .ok (.iload_n 2, 1) := by decide +kernel
theorem dX3_hasPlainRoutines_35 : decode cX3_hasPlainRoutines 35 = .ok (.invokevirtual 86, 3) := by decide +kernel
theorem dX3_hasPlainRoutines_38 : decode cX3_hasPlainRoutines 38 = .ok (.ifCond .eq 5, 3) := by decide +kernel
theorem dX3_hasPlainRoutines_41 : decode cX3_hasPlainRoutines 41 = .ok (.iconst 0, 1) := by decide +kernel
theorem dX3_hasPlainRoutines_42 : decode cX3_hasPlainRoutines 42 = .ok (.ireturn, 1) := by decide +kernel
theorem dX3_hasPlainRoutines_43 : decode cX3_hasPlainRoutines 43 = .ok (.iinc 2 1, 3) := by decide +kernel
theorem dX3_hasPlainRoutines_46 : decode cX3_hasPlainRoutines 46 = .ok (.goto (-31), 3) := by decide +kernel
theorem dX3_hasPlainRoutines_49 : decode cX3_hasPlainRoutines 49 = .ok (.iconst 1, 1) := by decide +kernel
theorem dX3_hasPlainRoutines_50 : decode cX3_hasPlainRoutines 50 = .ok (.ireturn, 1) := by decide +kernel
theorem dX3_allLieIn_0 : decode cX3_allLieIn 0 = .ok (.iconst 0, 1) := by decide +kernel
theorem dX3_allLieIn_1 : decode cX3_allLieIn 1 = .ok (.istore_n 3, 1) := by decide +kernel
theorem dX3_allLieIn_2 : decode cX3_allLieIn 2 = .ok (.iload_n 3, 1) := by decide +kernel
theorem dX3_allLieIn_3 : decode cX3_allLieIn 3 = .ok (.aload_n 0, 1) := by decide +kernel
theorem dX3_allLieIn_4 : decode cX3_allLieIn 4 = .ok (.getfield 15, 3) := by decide +kernel
theorem dX3_allLieIn_7 : decode cX3_allLieIn 7 = .ok (.iconst 0, 1) := by decide +kernel
theorem dX3_allLieIn_8 : decode cX3_allLieIn 8 = .ok (.iaload, 1) := by decide +kernel
theorem dX3_allLieIn_9 : decode cX3_allLieIn 9 = .ok (.if_icmp .ge 29, 3) := by decide +kernel
theorem dX3_allLieIn_12 : decode cX3_allLieIn 12 = .ok (.iload_n 3, 1) := by decide +kernel
theorem dX3_allLieIn_13 : decode cX3_allLieIn 13 = .ok (.iload_n 2, 1) := by decide +kernel
theorem dX3_allLieIn_14 : decode cX3_allLieIn 14 = .ok (.invokestatic 83, 3) := by decide +kernel
theorem dX3_allLieIn_17 : decode cX3_allLieIn 17 = .ok (.ifCond .eq 15, 3) := by decide +kernel
theorem dX3_allLieIn_20 : decode cX3_allLieIn 20 = .ok (.aload_n 0, 1) := by decide +kernel
theorem dX3_allLieIn_21 : decode cX3_allLieIn 21 = .ok (.iconst 0, 1) := by decide +kernel
theorem dX3_allLieIn_22 : decode cX3_allLieIn 22 = .ok (.iload_n 3, 1) := by decide +kernel
theorem dX3_allLieIn_23 : decode cX3_allLieIn 23 = .ok (.invokevirtual 89, 3) := by decide +kernel
theorem dX3_allLieIn_26 : decode cX3_allLieIn 26 = .ok (.iload_n 1, 1) := by decide +kernel
theorem dX3_allLieIn_27 : decode cX3_allLieIn 27 = .ok (.if_icmp .eq 5, 3) := by decide +kernel
theorem dX3_allLieIn_30 : decode cX3_allLieIn 30 = .ok (.iconst 0, 1) := by decide +kernel
theorem dX3_allLieIn_31 : decode cX3_allLieIn 31 = .ok (.ireturn, 1) := by decide +kernel
theorem dX3_allLieIn_32 : decode cX3_allLieIn 32 = .ok (.iinc 3 1, 3) := by decide +kernel
theorem dX3_allLieIn_35 : decode cX3_allLieIn 35 = .ok (.goto (-33), 3) := by decide +kernel
theorem dX3_allLieIn_38 : decode cX3_allLieIn 38 = .ok (.iconst 1, 1) := by decide +kernel
theorem dX3_allLieIn_39 : decode cX3_allLieIn 39 = .ok (.ireturn, 1) := by decide +kernel
theorem dX3_setHomes_0 : decode cX3_setHomes 0 = .ok (.iconst 0, 1) := by decide +kernel
theorem dX3_setHomes_1 : decode cX3_setHomes 1 = .ok (.istore_n 3, 1) := by decide +kernel
theorem dX3_setHomes_2 : decode cX3_setHomes 2 = .ok (.iload_n 3, 1) := by decide +kernel
theorem dX3_setHomes_3 : decode cX3_setHomes 3 = .ok (.aload_n 0, 1) := by decide +kernel
theorem dX3_setHomes_4 : decode cX3_setHomes 4 = .ok (.getfield 15, 3) := by decide +kernel
theorem dX3_setHomes_7 : decode cX3_setHomes 7 = .ok (.iconst 0, 1) := by decide +kernel
theorem dX3_setHomes_8 : decode cX3_setHomes 8 = .ok (.iaload, 1) := by decide +kernel
theorem dX3_setHomes_9 : decode cX3_setHomes 9 = .ok (.if_icmp .ge 24, 3) := by decide +kernel
theorem dX3_setHomes_12 : decode cX3_setHomes 12 = .ok (.iload_n 3, 1) := by decide +kernel
theorem dX3_setHomes_13 : decode cX3_setHomes 13 = .ok (.iload_n 1, 1) := by decide +kernel
theorem dX3_setHomes_14 : decode cX3_setHomes 14 = .ok (.invokestatic 83, 3) := by decide +kernel
theorem dX3_setHomes_17 : decode cX3_setHomes 17 = .ok (.ifCond .eq 10, 3) := by decide +kernel
theorem dX3_setHomes_20 : decode cX3_setHomes 20 = .ok (.aload_n 0, 1) := by decide +kernel
theorem dX3_setHomes_21 : decode cX3_setHomes 21 = .ok (.iconst 0, 1) := by decide +kernel
theorem dX3_setHomes_22 : decode cX3_setHomes 22 = .ok (.iload_n 3, 1) := by decide +kernel
theorem dX3_setHomes_23 : decode cX3_setHomes 23 = .ok (.iload_n 2, 1) := by decide +kernel
theorem dX3_setHomes_24 : decode cX3_setHomes 24 = .ok (.invokevirtual 57, 3) := by decide +kernel
theorem dX3_setHomes_27 : decode cX3_setHomes 27 = .ok (.iinc 3 1, 3) := by decide +kernel
theorem dX3_setHomes_30 : decode cX3_setHomes 30 = .ok (.goto (-28), 3) := by decide +kernel
theorem dX3_setHomes_33 : decode cX3_setHomes 33 = .ok (.return_, 1) := by decide +kernel
theorem dX3_meltParts_0 : decode cX3_meltParts 0 = .ok (.iconst 0, 1) := by decide +kernel
theorem dX3_meltParts_1 : decode cX3_meltParts 1 = .ok (.istore_n 3, 1) := by decide +kernel
theorem dX3_meltParts_2 : decode cX3_meltParts 2 = .ok (.iload_n 3, 1) := by decide +kernel
theorem dX3_meltParts_3 : decode cX3_meltParts 3 = .ok (.iconst 3, 1) := by decide +kernel
theorem dX3_meltParts_4 : decode cX3_meltParts 4 = .ok (.if_icmp .ge 75, 3) := by decide +kernel
theorem dX3_meltParts_7 : decode cX3_meltParts 7 = .ok (.iconst 0, 1) := by decide +kernel
theorem dX3_meltParts_8 : decode cX3_meltParts 8 = .ok (.istore 4, 2) := by decide +kernel
theorem dX3_meltParts_10 : decode cX3_meltParts 10 = .ok (.iload 4, 2) := by decide +kernel
theorem dX3_meltParts_12 : decode cX3_meltParts 12 = .ok (.aload_n 0, 1) := by decide +kernel
theorem dX3_meltParts_13 : decode cX3_meltParts 13 = .ok (.getfield 15, 3) := by decide +kernel
theorem dX3_meltParts_16 : decode cX3_meltParts 16 = .ok (.iload_n 3, 1) := by decide +kernel
theorem dX3_meltParts_17 : decode cX3_meltParts 17 = .ok (.iaload, 1) := by decide +kernel
theorem dX3_meltParts_18 : decode cX3_meltParts 18 = .ok (.if_icmp .ge 55, 3) := by decide +kernel
theorem dX3_meltParts_21 : decode cX3_meltParts 21 = .ok (.aload_n 0, 1) := by decide +kernel
theorem dX3_meltParts_22 : decode cX3_meltParts 22 = .ok (.iload_n 3, 1) := by decide +kernel
theorem dX3_meltParts_23 : decode cX3_meltParts 23 = .ok (.iload 4, 2) := by decide +kernel
theorem dX3_meltParts_25 : decode cX3_meltParts 25 = .ok (.invokevirtual 89, 3) := by decide +kernel
theorem dX3_meltParts_28 : decode cX3_meltParts 28 = .ok (.iload_n 2, 1) := by decide +kernel
theorem dX3_meltParts_29 : decode cX3_meltParts 29 = .ok (.if_icmp .ne 7, 3) := by decide +kernel
theorem dX3_meltParts_32 : decode cX3_meltParts 32 = .ok (.iload_n 1, 1) := by decide +kernel
theorem dX3_meltParts_33 : decode cX3_meltParts 33 = .ok (.goto 10, 3) := by decide +kernel
theorem dX3_meltParts_36 : decode cX3_meltParts 36 = .ok (.aload_n 0, 1) := by decide +kernel
theorem dX3_meltParts_37 : decode cX3_meltParts 37 = .ok (.iload_n 3, 1) := by decide +kernel
theorem dX3_meltParts_38 : decode cX3_meltParts 38 = .ok (.iload 4, 2) := by decide +kernel
theorem dX3_meltParts_40 : decode cX3_meltParts 40 = .ok (.invokevirtual 89, 3) := by decide +kernel
theorem dX3_meltParts_43 : decode cX3_meltParts 43 = .ok (.istore 5, 2) := by decide +kernel
theorem dX3_meltParts_45 : decode cX3_meltParts 45 = .ok (.aload_n 0, 1) := by decide +kernel
theorem dX3_meltParts_46 : decode cX3_meltParts 46 = .ok (.iload_n 3, 1) := by decide +kernel
theorem dX3_meltParts_47 : decode cX3_meltParts 47 = .ok (.iload 4, 2) := by decide +kernel
theorem dX3_meltParts_49 : decode cX3_meltParts 49 = .ok (.iload 5, 2) := by decide +kernel
theorem dX3_meltParts_51 : decode cX3_meltParts 51 = .ok (.iload_n 2, 1) := by decide +kernel
theorem dX3_meltParts_52 : decode cX3_meltParts 52 = .ok (.if_icmp .le 10, 3) := by decide +kernel
theorem dX3_meltParts_55 : decode cX3_meltParts 55 = .ok (.iload 5, 2) := by decide +kernel
theorem dX3_meltParts_57 : decode cX3_meltParts 57 = .ok (.iconst 1, 1) := by decide +kernel
theorem dX3_meltParts_58 : decode cX3_meltParts 58 = .ok (.isub, 1) := by decide +kernel
theorem dX3_meltParts_59 : decode cX3_meltParts 59 = .ok (.goto 5, 3) := by decide +kernel
theorem dX3_meltParts_62 : decode cX3_meltParts 62 = .ok (.iload 5, 2) := by decide +kernel
theorem dX3_meltParts_64 : decode cX3_meltParts 64 = .ok (.invokevirtual 57, 3) := by decide +kernel
theorem dX3_meltParts_67 : decode cX3_meltParts 67 = .ok (.iinc 4 1, 3) := by decide +kernel
theorem dX3_meltParts_70 : decode cX3_meltParts 70 = .ok (.goto (-60), 3) := by decide +kernel
theorem dX3_meltParts_73 : decode cX3_meltParts 73 = .ok (.iinc 3 1, 3) := by decide +kernel
theorem dX3_meltParts_76 : decode cX3_meltParts 76 = .ok (.goto (-74), 3) := by decide +kernel
theorem dX3_meltParts_79 : decode cX3_meltParts 79 = .ok (.aload_n 0, 1) := by decide +kernel
theorem dX3_meltParts_80 : decode cX3_meltParts 80 = .ok (.dup, 1) := by decide +kernel
theorem dX3_meltParts_81 : decode cX3_meltParts 81 = .ok (.getfield 9, 3) := by decide +kernel
theorem dX3_meltParts_84 : decode cX3_meltParts 84 = .ok (.iconst 1, 1) := by decide +kernel
theorem dX3_meltParts_85 : decode cX3_meltParts 85 = .ok (.isub, 1) := by decide +kernel
theorem dX3_meltParts_86 : decode cX3_meltParts 86 = .ok (.putfield 9, 3) := by decide +kernel
theorem dX3_meltParts_89 : decode cX3_meltParts 89 = .ok (.aload_n 0, 1) := by decide +kernel
theorem dX3_meltParts_90 : decode cX3_meltParts 90 = .ok (.iload_n 2, 1) := by decide +kernel
theorem dX3_meltParts_91 : decode cX3_meltParts 91 = .ok (.invokevirtual 92, 3) := by decide +kernel
theorem dX3_meltParts_94 : decode cX3_meltParts 94 = .ok (.return_, 1) := by decide +kernel
theorem dX3_dropAllowed_0 : decode cX3_dropAllowed 0 = .ok (.iconst 0, 1) := by decide +kernel
theorem dX3_dropAllowed_1 : decode cX3_dropAllowed 1 = .ok (.istore_n 2, 1) := by decide +kernel
theorem dX3_dropAllowed_2 : decode cX3_dropAllowed 2 = .ok (.iload_n 2, 1) := by decide +kernel
theorem dX3_dropAllowed_3 : decode cX3_dropAllowed 3 = .ok (.aload_n 0, 1) := by decide +kernel
theorem dX3_dropAllowed_4 : decode cX3_dropAllowed 4 = .ok (.getfield 9, 3) := by decide +kernel
theorem dX3_dropAllowed_7 : decode cX3_dropAllowed 7 = .ok (.if_icmp .ge 53, 3) := by decide +kernel
theorem dX3_dropAllowed_10 : decode cX3_dropAllowed 10 = .ok (.iconst 0, 1) := by decide +kernel
theorem dX3_dropAllowed_11 : decode cX3_dropAllowed 11 = .ok (.istore_n 3, 1) := by decide +kernel
theorem dX3_dropAllowed_12 : decode cX3_dropAllowed 12 = .ok (.iload_n 3, 1) := by decide +kernel
theorem dX3_dropAllowed_13 : decode cX3_dropAllowed 13 = .ok (.aload_n 0, 1) := by decide +kernel
theorem dX3_dropAllowed_14 : decode cX3_dropAllowed 14 = .ok (.getfield 9, 3) := by decide +kernel
theorem dX3_dropAllowed_17 : decode cX3_dropAllowed 17 = .ok (.if_icmp .ge 37, 3) := by decide +kernel
theorem dX3_dropAllowed_20 : decode cX3_dropAllowed 20 = .ok (.aload_n 0, 1) := by decide +kernel
theorem dX3_dropAllowed_21 : decode cX3_dropAllowed 21 = .ok (.getfield 37, 3) := by decide +kernel
theorem dX3_dropAllowed_24 : decode cX3_dropAllowed 24 = .ok (.iload_n 2, 1) := by decide +kernel
theorem dX3_dropAllowed_25 : decode cX3_dropAllowed 25 = .ok (.iload_n 3, 1) := by decide +kernel
theorem dX3_dropAllowed_26 : decode cX3_dropAllowed 26 = .ok (.invokestatic 96, 3) := by decide +kernel
theorem dX3_dropAllowed_29 : decode cX3_dropAllowed 29 = .ok (.aload_n 0, 1) := by decide +kernel
theorem dX3_dropAllowed_30 : decode cX3_dropAllowed 30 = .ok (.getfield 37, 3) := by decide +kernel
theorem dX3_dropAllowed_33 : decode cX3_dropAllowed 33 = .ok (.iload_n 2, 1) := by decide +kernel
theorem dX3_dropAllowed_34 : decode cX3_dropAllowed 34 = .ok (.iload_n 1, 1) := by decide +kernel
theorem dX3_dropAllowed_35 : decode cX3_dropAllowed 35 = .ok (.invokestatic 99, 3) := by decide +kernel
theorem dX3_dropAllowed_38 : decode cX3_dropAllowed 38 = .ok (.iload_n 3, 1) := by decide +kernel
theorem dX3_dropAllowed_39 : decode cX3_dropAllowed 39 = .ok (.iload_n 1, 1) := by decide +kernel
theorem dX3_dropAllowed_40 : decode cX3_dropAllowed 40 = .ok (.invokestatic 99, 3) := by decide +kernel
theorem dX3_dropAllowed_43 : decode cX3_dropAllowed 43 = .ok (.invokestatic 96, 3) := by decide +kernel
theorem dX3_dropAllowed_46 : decode cX3_dropAllowed 46 = .ok (.iaload, 1) := by decide +kernel
theorem dX3_dropAllowed_47 : decode cX3_dropAllowed 47 = .ok (.iastore, 1) := by decide +kernel
theorem dX3_dropAllowed_48 : decode cX3_dropAllowed 48 = .ok (.iinc 3 1, 3) := by decide +kernel
theorem dX3_dropAllowed_51 : decode cX3_dropAllowed 51 = .ok (.goto (-39), 3) := by decide +kernel
theorem dX3_dropAllowed_54 : decode cX3_dropAllowed 54 = .ok (.iinc 2 1, 3) := by decide +kernel
theorem dX3_dropAllowed_57 : decode cX3_dropAllowed 57 = .ok (.goto (-55), 3) := by decide +kernel
theorem dX3_dropAllowed_60 : decode cX3_dropAllowed 60 = .ok (.iconst 0, 1) := by decide +kernel
theorem dX3_dropAllowed_61 : decode cX3_dropAllowed 61 = .ok (.istore_n 2, 1) := by decide +kernel
theorem dX3_dropAllowed_62 : decode cX3_dropAllowed 62 = .ok (.iload_n 2, 1) := by decide +kernel
theorem dX3_dropAllowed_63 : decode cX3_dropAllowed 63 = .ok (.aload_n 0, 1) := by decide +kernel
theorem dX3_dropAllowed_64 : decode cX3_dropAllowed 64 = .ok (.getfield 9, 3) := by decide +kernel
theorem dX3_dropAllowed_67 : decode cX3_dropAllowed 67 = .ok (.if_icmp .gt 37, 3) := by decide +kernel
theorem dX3_dropAllowed_70 : decode cX3_dropAllowed 70 = .ok (.aload_n 0, 1) := by decide +kernel
theorem dX3_dropAllowed_71 : decode cX3_dropAllowed 71 = .ok (.getfield 37, 3) := by decide +kernel
theorem dX3_dropAllowed_74 : decode cX3_dropAllowed 74 = .ok (.iload_n 2, 1) := by decide +kernel
theorem dX3_dropAllowed_75 : decode cX3_dropAllowed 75 = .ok (.aload_n 0, 1) := by decide +kernel
theorem dX3_dropAllowed_76 : decode cX3_dropAllowed 76 = .ok (.getfield 9, 3) := by decide +kernel
theorem dX3_dropAllowed_79 : decode cX3_dropAllowed 79 = .ok (.invokestatic 96, 3) := by decide +kernel
theorem dX3_dropAllowed_82 : decode cX3_dropAllowed 82 = .ok (.iconst 0, 1) := by decide +kernel
theorem dX3_dropAllowed_83 : decode cX3_dropAllowed 83 = .ok (.iastore, 1) := by decide +kernel
theorem dX3_dropAllowed_84 : decode cX3_dropAllowed 84 = .ok (.aload_n 0, 1) := by decide +kernel
theorem dX3_dropAllowed_85 : decode cX3_dropAllowed 85 = .ok (.getfield 37, 3) := by decide +kernel
theorem dX3_dropAllowed_88 : decode cX3_dropAllowed 88 = .ok (.aload_n 0, 1) := by decide +kernel
theorem dX3_dropAllowed_89 : decode cX3_dropAllowed 89 = .ok (.getfield 9, 3) := by decide +kernel
theorem dX3_dropAllowed_92 : decode cX3_dropAllowed 92 = .ok (.iload_n 2, 1) := by decide +kernel
theorem dX3_dropAllowed_93 : decode cX3_dropAllowed 93 = .ok (.invokestatic 96, 3) := by decide +kernel
theorem dX3_dropAllowed_96 : decode cX3_dropAllowed 96 = .ok (.iconst 0, 1) := by decide +kernel
theorem dX3_dropAllowed_97 : decode cX3_dropAllowed 97 = .ok (.iastore, 1) := by decide +kernel
theorem dX3_dropAllowed_98 : decode cX3_dropAllowed 98 = .ok (.iinc 2 1, 3) := by decide +kernel
theorem dX3_dropAllowed_101 : decode cX3_dropAllowed 101 = .ok (.goto (-39), 3) := by decide +kernel
theorem dX3_dropAllowed_104 : decode cX3_dropAllowed 104 = .ok (.return_, 1) := by decide +kernel
theorem dX3_canComeBetween_0 : decode cX3_canComeBetween 0 = .ok (.aload_n 0, 1) := by decide +kernel
theorem dX3_canComeBetween_1 : decode cX3_canComeBetween 1 = .ok (.iload_n 1, 1) := by decide +kernel
theorem dX3_canComeBetween_2 : decode cX3_canComeBetween 2 = .ok (.iload_n 2, 1) := by decide +kernel
theorem dX3_canComeBetween_3 : decode cX3_canComeBetween 3 = .ok (.invokevirtual 102, 3) := by decide +kernel
theorem dX3_canComeBetween_6 : decode cX3_canComeBetween 6 = .ok (.invokestatic 68, 3) := by decide +kernel
theorem dX3_canComeBetween_9 : decode cX3_canComeBetween 9 = .ok (.ifCond .ne 28, 3) := by decide +kernel
theorem dX3_canComeBetween_12 : decode cX3_canComeBetween 12 = .ok (.aload_n 0, 1) := by decide +kernel
theorem dX3_canComeBetween_13 : decode cX3_canComeBetween 13 = .ok (.iload_n 1, 1) := by decide +kernel
theorem dX3_canComeBetween_14 : decode cX3_canComeBetween 14 = .ok (.invokevirtual 86, 3) := by decide +kernel
theorem dX3_canComeBetween_17 : decode cX3_canComeBetween 17 = .ok (.ifCond .ne 20, 3) := by decide +kernel
theorem dX3_canComeBetween_20 : decode cX3_canComeBetween 20 = .ok (.aload_n 0, 1) := by decide +kernel
theorem dX3_canComeBetween_21 : decode cX3_canComeBetween 21 = .ok (.aload_n 0, 1) := by decide +kernel
theorem dX3_canComeBetween_22 : decode cX3_canComeBetween 22 = .ok (.iload_n 1, 1) := by decide +kernel
theorem dX3_canComeBetween_23 : decode cX3_canComeBetween 23 = .ok (.iload_n 2, 1) := by decide +kernel
theorem dX3_canComeBetween_24 : decode cX3_canComeBetween 24 = .ok (.invokevirtual 105, 3) := by decide +kernel
theorem dX3_canComeBetween_27 : decode cX3_canComeBetween 27 = .ok (.invokevirtual 86, 3) := by decide +kernel
theorem dX3_canComeBetween_30 : decode cX3_canComeBetween 30 = .ok (.ifCond .ne 7, 3) := by decide +kernel
theorem dX3_canComeBetween_33 : decode cX3_canComeBetween 33 = .ok (.iconst 1, 1) := by decide +kernel
theorem dX3_canComeBetween_34 : decode cX3_canComeBetween 34 = .ok (.goto 4, 3) := by decide +kernel
theorem dX3_canComeBetween_37 : decode cX3_canComeBetween 37 = .ok (.iconst 0, 1) := by decide +kernel
theorem dX3_canComeBetween_38 : decode cX3_canComeBetween 38 = .ok (.ireturn, 1) := by decide +kernel
theorem dX3_turnToNews_0 : decode cX3_turnToNews 0 = .ok (.aload_n 0, 1) := by decide +kernel
theorem dX3_turnToNews_1 : decode cX3_turnToNews 1 = .ok (.iload_n 1, 1) := by decide +kernel
theorem dX3_turnToNews_2 : decode cX3_turnToNews 2 = .ok (.iload_n 2, 1) := by decide +kernel
theorem dX3_turnToNews_3 : decode cX3_turnToNews 3 = .ok (.invokevirtual 105, 3) := by decide +kernel
theorem dX3_turnToNews_6 : decode cX3_turnToNews 6 = .ok (.istore_n 3, 1) := by decide +kernel
theorem dX3_turnToNews_7 : decode cX3_turnToNews 7 = .ok (.aload_n 0, 1) := by decide +kernel
theorem dX3_turnToNews_8 : decode cX3_turnToNews 8 = .ok (.iconst 2, 1) := by decide +kernel
theorem dX3_turnToNews_9 : decode cX3_turnToNews 9 = .ok (.aload_n 0, 1) := by decide +kernel
theorem dX3_turnToNews_10 : decode cX3_turnToNews 10 = .ok (.iconst 0, 1) := by decide +kernel
theorem dX3_turnToNews_11 : decode cX3_turnToNews 11 = .ok (.iload_n 3, 1) := by decide +kernel
theorem dX3_turnToNews_12 : decode cX3_turnToNews 12 = .ok (.invokevirtual 89, 3) := by decide +kernel
theorem dX3_turnToNews_15 : decode cX3_turnToNews 15 = .ok (.invokevirtual 108, 3) := by decide +kernel
theorem dX3_turnToNews_18 : decode cX3_turnToNews 18 = .ok (.istore 4, 2) := by decide +kernel
theorem dX3_turnToNews_20 : decode cX3_turnToNews 20 = .ok (.aload_n 0, 1) := by decide +kernel
theorem dX3_turnToNews_21 : decode cX3_turnToNews 21 = .ok (.iload 4, 2) := by decide +kernel
theorem dX3_turnToNews_23 : decode cX3_turnToNews 23 = .ok (.iload_n 3, 1) := by decide +kernel
theorem dX3_turnToNews_24 : decode cX3_turnToNews 24 = .ok (.invokevirtual 111, 3) := by decide +kernel
theorem dX3_turnToNews_27 : decode cX3_turnToNews 27 = .ok (.aload_n 0, 1) := by decide +kernel
theorem dX3_turnToNews_28 : decode cX3_turnToNews 28 = .ok (.iload_n 1, 1) := by decide +kernel
theorem dX3_turnToNews_29 : decode cX3_turnToNews 29 = .ok (.iload_n 2, 1) := by decide +kernel
theorem dX3_turnToNews_30 : decode cX3_turnToNews 30 = .ok (.bipush 6, 2) := by decide +kernel
theorem dX3_turnToNews_32 : decode cX3_turnToNews 32 = .ok (.iload 4, 2) := by decide +kernel
theorem dX3_turnToNews_34 : decode cX3_turnToNews 34 = .ok (.invokevirtual 75, 3) := by decide +kernel
theorem dX3_turnToNews_37 : decode cX3_turnToNews 37 = .ok (.iload 4, 2) := by decide +kernel
theorem dX3_turnToNews_39 : decode cX3_turnToNews 39 = .ok (.ireturn, 1) := by decide +kernel
theorem dX3_putFace_0 : decode cX3_putFace 0 = .ok (.aload_n 0, 1) := by decide +kernel
theorem dX3_putFace_1 : decode cX3_putFace 1 = .ok (.iload_n 1, 1) := by decide +kernel
theorem dX3_putFace_2 : decode cX3_putFace 2 = .ok (.iload_n 2, 1) := by decide +kernel
theorem dX3_putFace_3 : decode cX3_putFace 3 = .ok (.invokevirtual 105, 3) := by decide +kernel
theorem dX3_putFace_6 : decode cX3_putFace 6 = .ok (.istore_n 3, 1) := by decide +kernel
theorem dX3_putFace_7 : decode cX3_putFace 7 = .ok (.aload_n 0, 1) := by decide +kernel
theorem dX3_putFace_8 : decode cX3_putFace 8 = .ok (.iconst 0, 1) := by decide +kernel
theorem dX3_putFace_9 : decode cX3_putFace 9 = .ok (.aload_n 0, 1) := by decide +kernel
theorem dX3_putFace_10 : decode cX3_putFace 10 = .ok (.invokevirtual 115, 3) := by decide +kernel
theorem dX3_putFace_13 : decode cX3_putFace 13 = .ok (.invokevirtual 108, 3) := by decide +kernel
theorem dX3_putFace_16 : decode cX3_putFace 16 = .ok (.istore 4, 2) := by decide +kernel
theorem dX3_putFace_18 : decode cX3_putFace 18 = .ok (.aload_n 0, 1) := by decide +kernel
theorem dX3_putFace_19 : decode cX3_putFace 19 = .ok (.getfield 28, 3) := by decide +kernel
theorem dX3_putFace_22 : decode cX3_putFace 22 = .ok (.iload 4, 2) := by decide +kernel
theorem dX3_putFace_24 : decode cX3_putFace 24 = .ok (.iload_n 3, 1) := by decide +kernel
theorem dX3_putFace_25 : decode cX3_putFace 25 = .ok (.iastore, 1) := by decide +kernel
theorem dX3_putFace_26 : decode cX3_putFace 26 = .ok (.aload_n 0, 1) := by decide +kernel
theorem dX3_putFace_27 : decode cX3_putFace 27 = .ok (.getfield 22, 3) := by decide +kernel
theorem dX3_putFace_30 : decode cX3_putFace 30 = .ok (.iload 4, 2) := by decide +kernel
theorem dX3_putFace_32 : decode cX3_putFace 32 = .ok (.iconst 1, 1) := by decide +kernel
theorem dX3_putFace_33 : decode cX3_putFace 33 = .ok (.iastore, 1) := by decide +kernel
theorem dX3_putFace_34 : decode cX3_putFace 34 = .ok (.aload_n 0, 1) := by decide +kernel
theorem dX3_putFace_35 : decode cX3_putFace 35 = .ok (.iload 4, 2) := by decide +kernel
theorem dX3_putFace_37 : decode cX3_putFace 37 = .ok (.iconst 0, 1) := by decide +kernel
theorem dX3_putFace_38 : decode cX3_putFace 38 = .ok (.iconst 4, 1) := by decide +kernel
theorem dX3_putFace_39 : decode cX3_putFace 39 = .ok (.iload_n 3, 1) := by decide +kernel
theorem dX3_putFace_40 : decode cX3_putFace 40 = .ok (.invokevirtual 75, 3) := by decide +kernel
theorem dX3_putFace_43 : decode cX3_putFace 43 = .ok (.aload_n 0, 1) := by decide +kernel
theorem dX3_putFace_44 : decode cX3_putFace 44 = .ok (.iload_n 1, 1) := by decide +kernel
theorem dX3_putFace_45 : decode cX3_putFace 45 = .ok (.iload_n 2, 1) := by decide +kernel
theorem dX3_putFace_46 : decode cX3_putFace 46 = .ok (.aload_n 0, 1) := by decide +kernel
theorem dX3_putFace_47 : decode cX3_putFace 47 = .ok (.iload_n 1, 1) := by decide +kernel
theorem dX3_putFace_48 : decode cX3_putFace 48 = .ok (.iload_n 2, 1) := by decide +kernel
theorem dX3_putFace_49 : decode cX3_putFace 49 = .ok (.invokevirtual 102, 3) := by decide +kernel
theorem dX3_putFace_52 : decode cX3_putFace 52 = .ok (.iload 4, 2) := by decide +kernel
theorem dX3_putFace_54 : decode cX3_putFace 54 = .ok (.invokevirtual 75, 3) := by decide +kernel
theorem dX3_putFace_57 : decode cX3_putFace 57 = .ok (.iload 4, 2) := by decide +kernel
theorem dX3_putFace_59 : decode cX3_putFace 59 = .ok (.ireturn, 1) := by decide +kernel
theorem dX3_pullFace_0 : decode cX3_pullFace 0 = .ok (.aload_n 0, 1) := by decide +kernel
theorem dX3_pullFace_1 : decode cX3_pullFace 1 = .ok (.getfield 28, 3) := by decide +kernel
theorem dX3_pullFace_4 : decode cX3_pullFace 4 = .ok (.iload_n 1, 1) := by decide +kernel
theorem dX3_pullFace_5 : decode cX3_pullFace 5 = .ok (.iaload, 1) := by decide +kernel
theorem dX3_pullFace_6 : decode cX3_pullFace 6 = .ok (.istore_n 2, 1) := by decide +kernel
theorem dX3_pullFace_7 : decode cX3_pullFace 7 = .ok (.iconst 0, 1) := by decide +kernel
theorem dX3_pullFace_8 : decode cX3_pullFace 8 = .ok (.istore_n 3, 1) := by decide +kernel
theorem dX3_pullFace_9 : decode cX3_pullFace 9 = .ok (.iconst 0, 1) := by decide +kernel
theorem dX3_pullFace_10 : decode cX3_pullFace 10 = .ok (.istore 4, 2) := by decide +kernel
theorem dX3_pullFace_12 : decode cX3_pullFace 12 = .ok (.iload 4, 2) := by decide +kernel
theorem dX3_pullFace_14 : decode cX3_pullFace 14 = .ok (.aload_n 0, 1) := by decide +kernel
theorem dX3_pullFace_15 : decode cX3_pullFace 15 = .ok (.getfield 15, 3) := by decide +kernel
theorem dX3_pullFace_18 : decode cX3_pullFace 18 = .ok (.iconst 0, 1) := by decide +kernel
theorem dX3_pullFace_19 : decode cX3_pullFace 19 = .ok (.iaload, 1) := by decide +kernel
theorem dX3_pullFace_20 : decode cX3_pullFace 20 = .ok (.if_icmp .ge 76, 3) := by decide +kernel
theorem dX3_pullFace_23 : decode cX3_pullFace 23 = .ok (.iconst 0, 1) := by decide +kernel
theorem dX3_pullFace_24 : decode cX3_pullFace 24 = .ok (.istore 5, 2) := by decide +kernel
theorem dX3_pullFace_26 : decode cX3_pullFace 26 = .ok (.iload 5, 2) := by decide +kernel
theorem dX3_pullFace_28 : decode cX3_pullFace 28 = .ok (.aload_n 0, 1) := by decide +kernel
theorem dX3_pullFace_29 : decode cX3_pullFace 29 = .ok (.getfield 22, 3) := by decide +kernel
theorem dX3_pullFace_32 : decode cX3_pullFace 32 = .ok (.iload 4, 2) := by decide +kernel
theorem dX3_pullFace_34 : decode cX3_pullFace 34 = .ok (.iaload, 1) := by decide +kernel
theorem dX3_pullFace_35 : decode cX3_pullFace 35 = .ok (.if_icmp .ge 55, 3) := by decide +kernel
theorem dX3_pullFace_38 : decode cX3_pullFace 38 = .ok (.aload_n 0, 1) := by decide +kernel
theorem dX3_pullFace_39 : decode cX3_pullFace 39 = .ok (.iload 4, 2) := by decide +kernel
theorem dX3_pullFace_41 : decode cX3_pullFace 41 = .ok (.iload 5, 2) := by decide +kernel
theorem dX3_pullFace_43 : decode cX3_pullFace 43 = .ok (.invokevirtual 102, 3) := by decide +kernel
theorem dX3_pullFace_46 : decode cX3_pullFace 46 = .ok (.invokestatic 68, 3) := by decide +kernel
theorem dX3_pullFace_49 : decode cX3_pullFace 49 = .ok (.ifCond .ne 35, 3) := by decide +kernel
theorem dX3_pullFace_52 : decode cX3_pullFace 52 = .ok (.aload_n 0, 1) := by decide +kernel
theorem dX3_pullFace_53 : decode cX3_pullFace 53 = .ok (.iload 4, 2) := by decide +kernel
theorem dX3_pullFace_55 : decode cX3_pullFace 55 = .ok (.iload 5, 2) := by decide +kernel
theorem dX3_pullFace_57 : decode cX3_pullFace 57 = .ok (.invokevirtual 105, 3) := by decide +kernel
theorem dX3_pullFace_60 : decode cX3_pullFace 60 = .ok (.iload_n 1, 1) := by decide +kernel
theorem dX3_pullFace_61 : decode cX3_pullFace 61 = .ok (.if_icmp .ne 23, 3) := by decide +kernel
theorem dX3_pullFace_64 : decode cX3_pullFace 64 = .ok (.aload_n 0, 1) := by decide +kernel
theorem dX3_pullFace_65 : decode cX3_pullFace 65 = .ok (.iload 4, 2) := by decide +kernel
theorem dX3_pullFace_67 : decode cX3_pullFace 67 = .ok (.iload 5, 2) := by decide +kernel
theorem dX3_pullFace_69 : decode cX3_pullFace 69 = .ok (.aload_n 0, 1) := by decide +kernel
theorem dX3_pullFace_70 : decode cX3_pullFace 70 = .ok (.iload 4, 2) := by decide +kernel
theorem dX3_pullFace_72 : decode cX3_pullFace 72 = .ok (.iload 5, 2) := by decide +kernel
theorem dX3_pullFace_74 : decode cX3_pullFace 74 = .ok (.invokevirtual 102, 3) := by decide +kernel
theorem dX3_pullFace_77 : decode cX3_pullFace 77 = .ok (.iload_n 2, 1) := by decide +kernel
theorem dX3_pullFace_78 : decode cX3_pullFace 78 = .ok (.invokevirtual 75, 3) := by decide +kernel
theorem dX3_pullFace_81 : decode cX3_pullFace 81 = .ok (.iinc 3 1, 3) := by decide +kernel
theorem dX3_pullFace_84 : decode cX3_pullFace 84 = .ok (.iinc 5 1, 3) := by decide +kernel
theorem dX3_pullFace_87 : decode cX3_pullFace 87 = .ok (.goto (-61), 3) := by decide +kernel
theorem dX3_pullFace_90 : decode cX3_pullFace 90 = .ok (.iinc 4 1, 3) := by decide +kernel
theorem dX3_pullFace_93 : decode cX3_pullFace 93 = .ok (.goto (-81), 3) := by decide +kernel
theorem dX3_pullFace_96 : decode cX3_pullFace 96 = .ok (.aload_n 0, 1) := by decide +kernel
theorem dX3_pullFace_97 : decode cX3_pullFace 97 = .ok (.getfield 28, 3) := by decide +kernel
theorem dX3_pullFace_100 : decode cX3_pullFace 100 = .ok (.iload_n 1, 1) := by decide +kernel
theorem dX3_pullFace_101 : decode cX3_pullFace 101 = .ok (.iconst (-1), 1) := by decide +kernel
theorem dX3_pullFace_102 : decode cX3_pullFace 102 = .ok (.iastore, 1) := by decide +kernel
theorem dX3_pullFace_103 : decode cX3_pullFace 103 = .ok (.aload_n 0, 1) := by decide +kernel
theorem dX3_pullFace_104 : decode cX3_pullFace 104 = .ok (.getfield 22, 3) := by decide +kernel
theorem dX3_pullFace_107 : decode cX3_pullFace 107 = .ok (.iload_n 1, 1) := by decide +kernel
theorem dX3_pullFace_108 : decode cX3_pullFace 108 = .ok (.iconst 0, 1) := by decide +kernel
theorem dX3_pullFace_109 : decode cX3_pullFace 109 = .ok (.iastore, 1) := by decide +kernel
theorem dX3_pullFace_110 : decode cX3_pullFace 110 = .ok (.iload_n 3, 1) := by decide +kernel
theorem dX3_pullFace_111 : decode cX3_pullFace 111 = .ok (.ireturn, 1) := by decide +kernel
theorem dX3_countActs_0 : decode cX3_countActs 0 = .ok (.iconst 0, 1) := by decide +kernel
theorem dX3_countActs_1 : decode cX3_countActs 1 = .ok (.istore_n 1, 1) := by decide +kernel
theorem dX3_countActs_2 : decode cX3_countActs 2 = .ok (.iconst 0, 1) := by decide +kernel
theorem dX3_countActs_3 : decode cX3_countActs 3 = .ok (.istore_n 2, 1) := by decide +kernel
theorem dX3_countActs_4 : decode cX3_countActs 4 = .ok (.iload_n 2, 1) := by decide +kernel
theorem dX3_countActs_5 : decode cX3_countActs 5 = .ok (.aload_n 0, 1) := by decide +kernel
theorem dX3_countActs_6 : decode cX3_countActs 6 = .ok (.getfield 15, 3) := by decide +kernel
theorem dX3_countActs_9 : decode cX3_countActs 9 = .ok (.iconst 0, 1) := by decide +kernel
theorem dX3_countActs_10 : decode cX3_countActs 10 = .ok (.iaload, 1) := by decide +kernel
theorem dX3_countActs_11 : decode cX3_countActs 11 = .ok (.if_icmp .ge 18, 3) := by decide +kernel
theorem dX3_countActs_14 : decode cX3_countActs 14 = .ok (.iload_n 1, 1) := by decide +kernel
theorem dX3_countActs_15 : decode cX3_countActs 15 = .ok (.aload_n 0, 1) := by decide +kernel
theorem dX3_countActs_16 : decode cX3_countActs 16 = .ok (.getfield 22, 3) := by decide +kernel
theorem dX3_countActs_19 : decode cX3_countActs 19 = .ok (.iload_n 2, 1) := by decide +kernel
theorem dX3_countActs_20 : decode cX3_countActs 20 = .ok (.iaload, 1) := by decide +kernel
theorem dX3_countActs_21 : decode cX3_countActs 21 = .ok (.iadd, 1) := by decide +kernel
theorem dX3_countActs_22 : decode cX3_countActs 22 = .ok (.istore_n 1, 1) := by decide +kernel
theorem dX3_countActs_23 : decode cX3_countActs 23 = .ok (.iinc 2 1, 3) := by decide +kernel
theorem dX3_countActs_26 : decode cX3_countActs 26 = .ok (.goto (-22), 3) := by decide +kernel
theorem dX3_countActs_29 : decode cX3_countActs 29 = .ok (.iload_n 1, 1) := by decide +kernel
theorem dX3_countActs_30 : decode cX3_countActs 30 = .ok (.ireturn, 1) := by decide +kernel
theorem dX3_countFaces_0 : decode cX3_countFaces 0 = .ok (.iconst 0, 1) := by decide +kernel
theorem dX3_countFaces_1 : decode cX3_countFaces 1 = .ok (.istore_n 1, 1) := by decide +kernel
theorem dX3_countFaces_2 : decode cX3_countFaces 2 = .ok (.iconst 0, 1) := by decide +kernel
theorem dX3_countFaces_3 : decode cX3_countFaces 3 = .ok (.istore_n 2, 1) := by decide +kernel
theorem dX3_countFaces_4 : decode cX3_countFaces 4 = .ok (.iload_n 2, 1) := by decide +kernel
theorem dX3_countFaces_5 : decode cX3_countFaces 5 = .ok (.aload_n 0, 1) := by decide +kernel
theorem dX3_countFaces_6 : decode cX3_countFaces 6 = .ok (.getfield 15, 3) := by decide +kernel
theorem dX3_countFaces_9 : decode cX3_countFaces 9 = .ok (.iconst 0, 1) := by decide +kernel
theorem dX3_countFaces_10 : decode cX3_countFaces 10 = .ok (.iaload, 1) := by decide +kernel
theorem dX3_countFaces_11 : decode cX3_countFaces 11 = .ok (.if_icmp .ge 20, 3) := by decide +kernel
theorem dX3_countFaces_14 : decode cX3_countFaces 14 = .ok (.aload_n 0, 1) := by decide +kernel
theorem dX3_countFaces_15 : decode cX3_countFaces 15 = .ok (.iload_n 2, 1) := by decide +kernel
theorem dX3_countFaces_16 : decode cX3_countFaces 16 = .ok (.invokevirtual 86, 3) := by decide +kernel
theorem dX3_countFaces_19 : decode cX3_countFaces 19 = .ok (.ifCond .eq 6, 3) := by decide +kernel
theorem dX3_countFaces_22 : decode cX3_countFaces 22 = .ok (.iinc 1 1, 3) := by decide +kernel
theorem dX3_countFaces_25 : decode cX3_countFaces 25 = .ok (.iinc 2 1, 3) := by decide +kernel
theorem dX3_countFaces_28 : decode cX3_countFaces 28 = .ok (.goto (-24), 3) := by decide +kernel
theorem dX3_countFaces_31 : decode cX3_countFaces 31 = .ok (.iload_n 1, 1) := by decide +kernel
theorem dX3_countFaces_32 : decode cX3_countFaces 32 = .ok (.ireturn, 1) := by decide +kernel
theorem dX4_init_0 : decode cX4_init 0 = .ok (.aload_n 0, 1) := by decide +kernel
theorem dX4_init_1 : decode cX4_init 1 = .ok (.invokespecial 3, 3) := by decide +kernel
theorem dX4_init_4 : decode cX4_init 4 = .ok (.aload_n 0, 1) := by decide +kernel
theorem dX4_init_5 : decode cX4_init 5 = .ok (.bipush 10, 2) := by decide +kernel
theorem dX4_init_7 : decode cX4_init 7 = .ok (.newarray .int, 2) := by decide +kernel
theorem dX4_init_9 : decode cX4_init 9 = .ok (.putfield 9, 3) := by decide +kernel
theorem dX4_init_12 : decode cX4_init 12 = .ok (.aload_n 0, 1) := by decide +kernel
theorem dX4_init_13 : decode cX4_init 13 = .ok (.iconst 0, 1) := by decide +kernel
theorem dX4_init_14 : decode cX4_init 14 = .ok (.putfield 15, 3) := by decide +kernel
theorem dX4_init_17 : decode cX4_init 17 = .ok (.aload_n 0, 1) := by decide +kernel
theorem dX4_init_18 : decode cX4_init 18 = .ok (.iconst 0, 1) := by decide +kernel
theorem dX4_init_19 : decode cX4_init 19 = .ok (.putfield 19, 3) := by decide +kernel
theorem dX4_init_22 : decode cX4_init 22 = .ok (.aload_n 0, 1) := by decide +kernel
theorem dX4_init_23 : decode cX4_init 23 = .ok (.iconst 0, 1) := by decide +kernel
theorem dX4_init_24 : decode cX4_init 24 = .ok (.putfield 22, 3) := by decide +kernel
theorem dX4_init_27 : decode cX4_init 27 = .ok (.return_, 1) := by decide +kernel
theorem dX4_runFrom_0 : decode cX4_runFrom 0 = .ok (.iconst 0, 1) := by decide +kernel
theorem dX4_runFrom_1 : decode cX4_runFrom 1 = .ok (.istore 4, 2) := by decide +kernel
theorem dX4_runFrom_3 : decode cX4_runFrom 3 = .ok (.iload 4, 2) := by decide +kernel
theorem dX4_runFrom_5 : decode cX4_runFrom 5 = .ok (.bipush 10, 2) := by decide +kernel
theorem dX4_runFrom_7 : decode cX4_runFrom 7 = .ok (.if_icmp .ge 17, 3) := by decide +kernel
theorem dX4_runFrom_10 : decode cX4_runFrom 10 = .ok (.aload_n 0, 1) := by decide +kernel
theorem dX4_runFrom_11 : decode cX4_runFrom 11 = .ok (.getfield 9, 3) := by decide +kernel
theorem dX4_runFrom_14 : decode cX4_runFrom 14 = .ok (.iload 4, 2) := by decide +kernel
theorem dX4_runFrom_16 : decode cX4_runFrom 16 = .ok (.iconst 0, 1) := by decide +kernel
theorem dX4_runFrom_17 : decode cX4_runFrom 17 = .ok (.iastore, 1) := by decide +kernel
theorem dX4_runFrom_18 : decode cX4_runFrom 18 = .ok (.iinc 4 1, 3) := by decide +kernel
theorem dX4_runFrom_21 : decode cX4_runFrom 21 = .ok (.goto (-18), 3) := by decide +kernel
theorem dX4_runFrom_24 : decode cX4_runFrom 24 = .ok (.aload_n 0, 1) := by decide +kernel
theorem dX4_runFrom_25 : decode cX4_runFrom 25 = .ok (.iload_n 3, 1) := by decide +kernel
theorem dX4_runFrom_26 : decode cX4_runFrom 26 = .ok (.putfield 15, 3) := by decide +kernel
theorem dX4_runFrom_29 : decode cX4_runFrom 29 = .ok (.aload_n 0, 1) := by decide +kernel
theorem dX4_runFrom_30 : decode cX4_runFrom 30 = .ok (.iconst 0, 1) := by decide +kernel
theorem dX4_runFrom_31 : decode cX4_runFrom 31 = .ok (.putfield 19, 3) := by decide +kernel
theorem dX4_runFrom_34 : decode cX4_runFrom 34 = .ok (.aload_n 0, 1) := by decide +kernel
theorem dX4_runFrom_35 : decode cX4_runFrom 35 = .ok (.iconst 0, 1) := by decide +kernel
theorem dX4_runFrom_36 : decode cX4_runFrom 36 = .ok (.putfield 22, 3) := by decide +kernel
theorem dX4_runFrom_39 : decode cX4_runFrom 39 = .ok (.aload_n 0, 1) := by decide +kernel
theorem dX4_runFrom_40 : decode cX4_runFrom 40 = .ok (.aload_n 1, 1) := by decide +kernel
theorem dX4_runFrom_41 : decode cX4_runFrom 41 = .ok (.iload_n 2, 1) := by decide +kernel
theorem dX4_runFrom_42 : decode cX4_runFrom 42 = .ok (.iconst 1, 1) := by decide +kernel
theorem dX4_runFrom_43 : decode cX4_runFrom 43 = .ok (.invokevirtual 26, 3) := by decide +kernel
theorem dX4_runFrom_46 : decode cX4_runFrom 46 = .ok (.aload_n 0, 1) := by decide +kernel
theorem dX4_runFrom_47 : decode cX4_runFrom 47 = .ok (.getfield 22, 3) := by decide +kernel
theorem dX4_runFrom_50 : decode cX4_runFrom 50 = .ok (.ifCond .eq 8, 3) := by decide +kernel
theorem dX4_runFrom_53 : decode cX4_runFrom 53 = .ok (.bipush (-6), 2) := by decide +kernel
theorem dX4_runFrom_55 : decode cX4_runFrom 55 = .ok (.goto 7, 3) := by decide +kernel
theorem dX4_runFrom_58 : decode cX4_runFrom 58 = .ok (.aload_n 0, 1) := by decide +kernel
theorem dX4_runFrom_59 : decode cX4_runFrom 59 = .ok (.getfield 15, 3) := by decide +kernel
theorem dX4_runFrom_62 : decode cX4_runFrom 62 = .ok (.ireturn, 1) := by decide +kernel
theorem dX4_work_0 : decode cX4_work 0 = .ok (.aload_n 0, 1) := by decide +kernel
theorem dX4_work_1 : decode cX4_work 1 = .ok (.aload_n 0, 1) := by decide +kernel
theorem dX4_work_2 : decode cX4_work 2 = .ok (.getfield 22, 3) := by decide +kernel
theorem dX4_work_5 : decode cX4_work 5 = .ok (.ifCond .ne 9, 3) := by decide +kernel
theorem dX4_work_8 : decode cX4_work 8 = .ok (.iload_n 3, 1) := by decide +kernel
theorem dX4_work_9 : decode cX4_work 9 = .ok (.bipush 30, 2) := by decide +kernel
theorem dX4_work_11 : decode cX4_work 11 = .ok (.if_icmp .le 7, 3) := by decide +kernel
theorem dX4_work_14 : decode cX4_work 14 = .ok (.iconst 1, 1) := by decide +kernel
theorem dX4_work_15 : decode cX4_work 15 = .ok (.goto 4, 3) := by decide +kernel
theorem dX4_work_18 : decode cX4_work 18 = .ok (.iconst 0, 1) := by decide +kernel
theorem dX4_work_19 : decode cX4_work 19 = .ok (.putfield 22, 3) := by decide +kernel
theorem dX4_work_22 : decode cX4_work 22 = .ok (.aload_n 1, 1) := by decide +kernel
theorem dX4_work_23 : decode cX4_work 23 = .ok (.getfield 30, 3) := by decide +kernel
theorem dX4_work_26 : decode cX4_work 26 = .ok (.iload_n 2, 1) := by decide +kernel
theorem dX4_work_27 : decode cX4_work 27 = .ok (.iaload, 1) := by decide +kernel
theorem dX4_work_28 : decode cX4_work 28 = .ok (.istore 4, 2) := by decide +kernel
theorem dX4_work_30 : decode cX4_work 30 = .ok (.iconst 0, 1) := by decide +kernel
theorem dX4_work_31 : decode cX4_work 31 = .ok (.istore 5, 2) := by decide +kernel
theorem dX4_work_33 : decode cX4_work 33 = .ok (.iload 5, 2) := by decide +kernel
theorem dX4_work_35 : decode cX4_work 35 = .ok (.iload 4, 2) := by decide +kernel
theorem dX4_work_37 : decode cX4_work 37 = .ok (.if_icmp .ge 72, 3) := by decide +kernel
theorem dX4_work_40 : decode cX4_work 40 = .ok (.aload_n 0, 1) := by decide +kernel
theorem dX4_work_41 : decode cX4_work 41 = .ok (.getfield 22, 3) := by decide +kernel
theorem dX4_work_44 : decode cX4_work 44 = .ok (.ifCond .ne 65, 3) := by decide +kernel
theorem dX4_work_47 : decode cX4_work 47 = .ok (.aload_n 0, 1) := by decide +kernel
theorem dX4_work_48 : decode cX4_work 48 = .ok (.dup, 1) := by decide +kernel
theorem dX4_work_49 : decode cX4_work 49 = .ok (.getfield 19, 3) := by decide +kernel
theorem dX4_work_52 : decode cX4_work 52 = .ok (.iconst 1, 1) := by decide +kernel
theorem dX4_work_53 : decode cX4_work 53 = .ok (.iadd, 1) := by decide +kernel
theorem dX4_work_54 : decode cX4_work 54 = .ok (.putfield 19, 3) := by decide +kernel
theorem dX4_work_57 : decode cX4_work 57 = .ok (.aload_n 0, 1) := by decide +kernel
theorem dX4_work_58 : decode cX4_work 58 = .ok (.aload_n 0, 1) := by decide +kernel
theorem dX4_work_59 : decode cX4_work 59 = .ok (.getfield 19, 3) := by decide +kernel
theorem dX4_work_62 : decode cX4_work 62 = .ok (.sipush 400, 3) := by decide +kernel
theorem dX4_work_65 : decode cX4_work 65 = .ok (.if_icmp .le 7, 3) := by decide +kernel
theorem dX4_work_68 : decode cX4_work 68 = .ok (.iconst 1, 1) := by decide +kernel
theorem dX4_work_69 : decode cX4_work 69 = .ok (.goto 4, 3) := by decide +kernel
theorem dX4_work_72 : decode cX4_work 72 = .ok (.iconst 0, 1) := by decide +kernel
theorem dX4_work_73 : decode cX4_work 73 = .ok (.putfield 22, 3) := by decide +kernel
theorem dX4_work_76 : decode cX4_work 76 = .ok (.aload_n 0, 1) := by decide +kernel
theorem dX4_work_77 : decode cX4_work 77 = .ok (.getfield 22, 3) := by decide +kernel
theorem dX4_work_80 : decode cX4_work 80 = .ok (.ifCond .ne 23, 3) := by decide +kernel
theorem dX4_work_83 : decode cX4_work 83 = .ok (.aload_n 0, 1) := by decide +kernel
theorem dX4_work_84 : decode cX4_work 84 = .ok (.aload_n 1, 1) := by decide +kernel
theorem dX4_work_85 : decode cX4_work 85 = .ok (.aload_n 1, 1) := by decide +kernel
theorem dX4_work_86 : decode cX4_work 86 = .ok (.iload_n 2, 1) := by decide +kernel
theorem dX4_work_87 : decode cX4_work 87 = .ok (.iload 5, 2) := by decide +kernel
theorem dX4_work_89 : decode cX4_work 89 = .ok (.invokevirtual 35, 3) := by decide +kernel
theorem dX4_work_92 : decode cX4_work 92 = .ok (.aload_n 1, 1) := by decide +kernel
theorem dX4_work_93 : decode cX4_work 93 = .ok (.iload_n 2, 1) := by decide +kernel
theorem dX4_work_94 : decode cX4_work 94 = .ok (.iload 5, 2) := by decide +kernel
theorem dX4_work_96 : decode cX4_work 96 = .ok (.invokevirtual 39, 3) := by decide +kernel
theorem dX4_work_99 : decode cX4_work 99 = .ok (.iload_n 3, 1) := by decide +kernel
theorem dX4_work_100 : decode cX4_work 100 = .ok (.invokevirtual 42, 3) := by decide +kernel
theorem dX4_work_103 : decode cX4_work 103 = .ok (.iinc 5 1, 3) := by decide +kernel
theorem dX4_work_106 : decode cX4_work 106 = .ok (.goto (-73), 3) := by decide +kernel
theorem dX4_work_109 : decode cX4_work 109 = .ok (.return_, 1) := by decide +kernel
theorem dX4_perform_0 : decode cX4_perform 0 = .ok (.iload_n 2, 1) := by decide +kernel
theorem dX4_perform_1 : decode cX4_perform 1 = .ok (.tableswitch 144 0 5 #[39, 56, 73, 86, 108, 121], 39) := by decide +kernel
theorem dX4_perform_40 : decode cX4_perform 40 = .ok (.aload_n 0, 1) := by decide +kernel
theorem dX4_perform_41 : decode cX4_perform 41 = .ok (.aload_n 0, 1) := by decide +kernel
theorem dX4_perform_42 : decode cX4_perform 42 = .ok (.getfield 15, 3) := by decide +kernel
theorem dX4_perform_45 : decode cX4_perform 45 = .ok (.iload_n 3, 1) := by decide +kernel
theorem dX4_perform_46 : decode cX4_perform 46 = .ok (.iadd, 1) := by decide +kernel
theorem dX4_perform_47 : decode cX4_perform 47 = .ok (.sipush 9973, 3) := by decide +kernel
theorem dX4_perform_50 : decode cX4_perform 50 = .ok (.irem, 1) := by decide +kernel
theorem dX4_perform_51 : decode cX4_perform 51 = .ok (.putfield 15, 3) := by decide +kernel
theorem dX4_perform_54 : decode cX4_perform 54 = .ok (.goto 99, 3) := by decide +kernel
theorem dX4_perform_57 : decode cX4_perform 57 = .ok (.aload_n 0, 1) := by decide +kernel
theorem dX4_perform_58 : decode cX4_perform 58 = .ok (.aload_n 0, 1) := by decide +kernel
theorem dX4_perform_59 : decode cX4_perform 59 = .ok (.getfield 15, 3) := by decide +kernel
theorem dX4_perform_62 : decode cX4_perform 62 = .ok (.iload_n 3, 1) := by decide +kernel
theorem dX4_perform_63 : decode cX4_perform 63 = .ok (.imul, 1) := by decide +kernel
theorem dX4_perform_64 : decode cX4_perform 64 = .ok (.sipush 9973, 3) := by decide +kernel
theorem dX4_perform_67 : decode cX4_perform 67 = .ok (.irem, 1) := by decide +kernel
theorem dX4_perform_68 : decode cX4_perform 68 = .ok (.putfield 15, 3) := by decide +kernel
theorem dX4_perform_71 : decode cX4_perform 71 = .ok (.goto 82, 3) := by decide +kernel
theorem dX4_perform_74 : decode cX4_perform 74 = .ok (.aload_n 0, 1) := by decide +kernel
theorem dX4_perform_75 : decode cX4_perform 75 = .ok (.getfield 9, 3) := by decide +kernel
theorem dX4_perform_78 : decode cX4_perform 78 = .ok (.iload_n 3, 1) := by decide +kernel
theorem dX4_perform_79 : decode cX4_perform 79 = .ok (.aload_n 0, 1) := by decide +kernel
theorem dX4_perform_80 : decode cX4_perform 80 = .ok (.getfield 15, 3) := by decide +kernel
theorem dX4_perform_83 : decode cX4_perform 83 = .ok (.iastore, 1) := by decide +kernel
theorem dX4_perform_84 : decode cX4_perform 84 = .ok (.goto 69, 3) := by decide +kernel
theorem dX4_perform_87 : decode cX4_perform 87 = .ok (.aload_n 0, 1) := by decide +kernel
theorem dX4_perform_88 : decode cX4_perform 88 = .ok (.aload_n 0, 1) := by decide +kernel
theorem dX4_perform_89 : decode cX4_perform 89 = .ok (.getfield 15, 3) := by decide +kernel
theorem dX4_perform_92 : decode cX4_perform 92 = .ok (.aload_n 0, 1) := by decide +kernel
theorem dX4_perform_93 : decode cX4_perform 93 = .ok (.getfield 9, 3) := by decide +kernel
theorem dX4_perform_96 : decode cX4_perform 96 = .ok (.iload_n 3, 1) := by decide +kernel
theorem dX4_perform_97 : decode cX4_perform 97 = .ok (.iaload, 1) := by decide +kernel
theorem dX4_perform_98 : decode cX4_perform 98 = .ok (.iadd, 1) := by decide +kernel
theorem dX4_perform_99 : decode cX4_perform 99 = .ok (.sipush 9973, 3) := by decide +kernel
theorem dX4_perform_102 : decode cX4_perform 102 = .ok (.irem, 1) := by decide +kernel
theorem dX4_perform_103 : decode cX4_perform 103 = .ok (.putfield 15, 3) := by decide +kernel
theorem dX4_perform_106 : decode cX4_perform 106 = .ok (.goto 47, 3) := by decide +kernel
theorem dX4_perform_109 : decode cX4_perform 109 = .ok (.aload_n 0, 1) := by decide +kernel
theorem dX4_perform_110 : decode cX4_perform 110 = .ok (.aload_n 1, 1) := by decide +kernel
theorem dX4_perform_111 : decode cX4_perform 111 = .ok (.iload_n 3, 1) := by decide +kernel
theorem dX4_perform_112 : decode cX4_perform 112 = .ok (.iload 4, 2) := by decide +kernel
theorem dX4_perform_114 : decode cX4_perform 114 = .ok (.iconst 1, 1) := by decide +kernel
theorem dX4_perform_115 : decode cX4_perform 115 = .ok (.iadd, 1) := by decide +kernel
theorem dX4_perform_116 : decode cX4_perform 116 = .ok (.invokevirtual 26, 3) := by decide +kernel
theorem dX4_perform_119 : decode cX4_perform 119 = .ok (.goto 34, 3) := by decide +kernel
theorem dX4_perform_122 : decode cX4_perform 122 = .ok (.aload_n 0, 1) := by decide +kernel
theorem dX4_perform_123 : decode cX4_perform 123 = .ok (.getfield 15, 3) := by decide +kernel
theorem dX4_perform_126 : decode cX4_perform 126 = .ok (.iconst 2, 1) := by decide +kernel
theorem dX4_perform_127 : decode cX4_perform 127 = .ok (.irem, 1) := by decide +kernel
theorem dX4_perform_128 : decode cX4_perform 128 = .ok (.iconst 1, 1) := by decide +kernel
theorem dX4_perform_129 : decode cX4_perform 129 = .ok (.if_icmp .ne 24, 3) := by decide +kernel
theorem dX4_perform_132 : decode cX4_perform 132 = .ok (.aload_n 0, 1) := by decide +kernel
theorem dX4_perform_133 : decode cX4_perform 133 = .ok (.aload_n 1, 1) := by decide +kernel
theorem dX4_perform_134 : decode cX4_perform 134 = .ok (.iload_n 3, 1) := by decide +kernel
theorem dX4_perform_135 : decode cX4_perform 135 = .ok (.iload 4, 2) := by decide +kernel
theorem dX4_perform_137 : decode cX4_perform 137 = .ok (.iconst 1, 1) := by decide +kernel
theorem dX4_perform_138 : decode cX4_perform 138 = .ok (.iadd, 1) := by decide +kernel
theorem dX4_perform_139 : decode cX4_perform 139 = .ok (.invokevirtual 26, 3) := by decide +kernel
theorem dX4_perform_142 : decode cX4_perform 142 = .ok (.goto 11, 3) := by decide +kernel
theorem dX4_perform_145 : decode cX4_perform 145 = .ok (.aload_n 0, 1) := by decide +kernel
theorem dX4_perform_146 : decode cX4_perform 146 = .ok (.aload_n 1, 1) := by decide +kernel
theorem dX4_perform_147 : decode cX4_perform 147 = .ok (.iload_n 3, 1) := by decide +kernel
theorem dX4_perform_148 : decode cX4_perform 148 = .ok (.iload 4, 2) := by decide +kernel
theorem dX4_perform_150 : decode cX4_perform 150 = .ok (.invokevirtual 46, 3) := by decide +kernel
theorem dX4_perform_153 : decode cX4_perform 153 = .ok (.return_, 1) := by decide +kernel
theorem dX4_tellHearers_0 : decode cX4_tellHearers 0 = .ok (.iconst 0, 1) := by decide +kernel
theorem dX4_tellHearers_1 : decode cX4_tellHearers 1 = .ok (.istore 4, 2) := by decide +kernel
theorem dX4_tellHearers_3 : decode cX4_tellHearers 3 = .ok (.iload 4, 2) := by decide +kernel
theorem dX4_tellHearers_5 : decode cX4_tellHearers 5 = .ok (.aload_n 1, 1) := by decide +kernel
theorem dX4_tellHearers_6 : decode cX4_tellHearers 6 = .ok (.getfield 49, 3) := by decide +kernel
theorem dX4_tellHearers_9 : decode cX4_tellHearers 9 = .ok (.iload_n 2, 1) := by decide +kernel
theorem dX4_tellHearers_10 : decode cX4_tellHearers 10 = .ok (.iaload, 1) := by decide +kernel
theorem dX4_tellHearers_11 : decode cX4_tellHearers 11 = .ok (.if_icmp .ge 31, 3) := by decide +kernel
theorem dX4_tellHearers_14 : decode cX4_tellHearers 14 = .ok (.aload_n 0, 1) := by decide +kernel
theorem dX4_tellHearers_15 : decode cX4_tellHearers 15 = .ok (.getfield 22, 3) := by decide +kernel
theorem dX4_tellHearers_18 : decode cX4_tellHearers 18 = .ok (.ifCond .ne 24, 3) := by decide +kernel
theorem dX4_tellHearers_21 : decode cX4_tellHearers 21 = .ok (.aload_n 0, 1) := by decide +kernel
theorem dX4_tellHearers_22 : decode cX4_tellHearers 22 = .ok (.aload_n 1, 1) := by decide +kernel
theorem dX4_tellHearers_23 : decode cX4_tellHearers 23 = .ok (.aload_n 1, 1) := by decide +kernel
theorem dX4_tellHearers_24 : decode cX4_tellHearers 24 = .ok (.iload_n 2, 1) := by decide +kernel
theorem dX4_tellHearers_25 : decode cX4_tellHearers 25 = .ok (.iload 4, 2) := by decide +kernel
theorem dX4_tellHearers_27 : decode cX4_tellHearers 27 = .ok (.invokevirtual 52, 3) := by decide +kernel
theorem dX4_tellHearers_30 : decode cX4_tellHearers 30 = .ok (.iload_n 3, 1) := by decide +kernel
theorem dX4_tellHearers_31 : decode cX4_tellHearers 31 = .ok (.iconst 1, 1) := by decide +kernel
theorem dX4_tellHearers_32 : decode cX4_tellHearers 32 = .ok (.iadd, 1) := by decide +kernel
theorem dX4_tellHearers_33 : decode cX4_tellHearers 33 = .ok (.invokevirtual 26, 3) := by decide +kernel
theorem dX4_tellHearers_36 : decode cX4_tellHearers 36 = .ok (.iinc 4 1, 3) := by decide +kernel
theorem dX4_tellHearers_39 : decode cX4_tellHearers 39 = .ok (.goto (-36), 3) := by decide +kernel
theorem dX4_tellHearers_42 : decode cX4_tellHearers 42 = .ok (.return_, 1) := by decide +kernel
