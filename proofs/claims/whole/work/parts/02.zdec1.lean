theorem dX5_init_0 : decode cX5_init 0 = .ok (.aload_n 0, 1) := by decide +kernel
theorem dX5_init_1 : decode cX5_init 1 = .ok (.invokespecial 3, 3) := by decide +kernel
theorem dX5_init_4 : decode cX5_init 4 = .ok (.aload_n 0, 1) := by decide +kernel
theorem dX5_init_5 : decode cX5_init 5 = .ok (.bipush 120, 2) := by decide +kernel
theorem dX5_init_7 : decode cX5_init 7 = .ok (.newarray .int, 2) := by decide +kernel
theorem dX5_init_9 : decode cX5_init 9 = .ok (.putfield 9, 3) := by decide +kernel
theorem dX5_init_12 : decode cX5_init 12 = .ok (.aload_n 0, 1) := by decide +kernel
theorem dX5_init_13 : decode cX5_init 13 = .ok (.iconst 0, 1) := by decide +kernel
theorem dX5_init_14 : decode cX5_init 14 = .ok (.putfield 15, 3) := by decide +kernel
theorem dX5_init_17 : decode cX5_init 17 = .ok (.aload_n 0, 1) := by decide +kernel
theorem dX5_init_18 : decode cX5_init 18 = .ok (.iconst 0, 1) := by decide +kernel
theorem dX5_init_19 : decode cX5_init 19 = .ok (.putfield 19, 3) := by decide +kernel
theorem dX5_init_22 : decode cX5_init 22 = .ok (.aload_n 0, 1) := by decide +kernel
theorem dX5_init_23 : decode cX5_init 23 = .ok (.iconst 0, 1) := by decide +kernel
theorem dX5_init_24 : decode cX5_init 24 = .ok (.putfield 22, 3) := by decide +kernel
theorem dX5_init_27 : decode cX5_init 27 = .ok (.aload_n 0, 1) := by decide +kernel
theorem dX5_init_28 : decode cX5_init 28 = .ok (.bipush 10, 2) := by decide +kernel
theorem dX5_init_30 : decode cX5_init 30 = .ok (.newarray .int, 2) := by decide +kernel
theorem dX5_init_32 : decode cX5_init 32 = .ok (.putfield 25, 3) := by decide +kernel
theorem dX5_init_35 : decode cX5_init 35 = .ok (.aload_n 0, 1) := by decide +kernel
theorem dX5_init_36 : decode cX5_init 36 = .ok (.bipush 10, 2) := by decide +kernel
theorem dX5_init_38 : decode cX5_init 38 = .ok (.newarray .int, 2) := by decide +kernel
theorem dX5_init_40 : decode cX5_init 40 = .ok (.putfield 28, 3) := by decide +kernel
theorem dX5_init_43 : decode cX5_init 43 = .ok (.return_, 1) := by decide +kernel
theorem dX5_append_0 : decode cX5_append 0 = .ok (.aload_n 0, 1) := by decide +kernel
theorem dX5_append_1 : decode cX5_append 1 = .ok (.getfield 15, 3) := by decide +kernel
theorem dX5_append_4 : decode cX5_append 4 = .ok (.iload_n 3, 1) := by decide +kernel
theorem dX5_append_5 : decode cX5_append 5 = .ok (.iadd, 1) := by decide +kernel
theorem dX5_append_6 : decode cX5_append 6 = .ok (.bipush 120, 2) := by decide +kernel
theorem dX5_append_8 : decode cX5_append 8 = .ok (.if_icmp .le 5, 3) := by decide +kernel
theorem dX5_append_11 : decode cX5_append 11 = .ok (.iconst 0, 1) := by decide +kernel
theorem dX5_append_12 : decode cX5_append 12 = .ok (.ireturn, 1) := by decide +kernel
theorem dX5_append_13 : decode cX5_append 13 = .ok (.iload_n 3, 1) := by decide +kernel
theorem dX5_append_14 : decode cX5_append 14 = .ok (.iconst 1, 1) := by decide +kernel
theorem dX5_append_15 : decode cX5_append 15 = .ok (.isub, 1) := by decide +kernel
theorem dX5_append_16 : decode cX5_append 16 = .ok (.istore 4, 2) := by decide +kernel
theorem dX5_append_18 : decode cX5_append 18 = .ok (.iload 4, 2) := by decide +kernel
theorem dX5_append_20 : decode cX5_append 20 = .ok (.ifCond .lt 40, 3) := by decide +kernel
theorem dX5_append_23 : decode cX5_append 23 = .ok (.aload_n 0, 1) := by decide +kernel
theorem dX5_append_24 : decode cX5_append 24 = .ok (.getfield 9, 3) := by decide +kernel
theorem dX5_append_27 : decode cX5_append 27 = .ok (.aload_n 0, 1) := by decide +kernel
theorem dX5_append_28 : decode cX5_append 28 = .ok (.getfield 15, 3) := by decide +kernel
theorem dX5_append_31 : decode cX5_append 31 = .ok (.lload_n 1, 1) := by decide +kernel
theorem dX5_append_32 : decode cX5_append 32 = .ok (.bipush 8, 2) := by decide +kernel
theorem dX5_append_34 : decode cX5_append 34 = .ok (.iload 4, 2) := by decide +kernel
theorem dX5_append_36 : decode cX5_append 36 = .ok (.imul, 1) := by decide +kernel
theorem dX5_append_37 : decode cX5_append 37 = .ok (.lshr, 1) := by decide +kernel
theorem dX5_append_38 : decode cX5_append 38 = .ok (.ldc2_w 31, 3) := by decide +kernel
theorem dX5_append_41 : decode cX5_append 41 = .ok (.land, 1) := by decide +kernel
theorem dX5_append_42 : decode cX5_append 42 = .ok (.l2i, 1) := by decide +kernel
theorem dX5_append_43 : decode cX5_append 43 = .ok (.iastore, 1) := by decide +kernel
theorem dX5_append_44 : decode cX5_append 44 = .ok (.aload_n 0, 1) := by decide +kernel
theorem dX5_append_45 : decode cX5_append 45 = .ok (.dup, 1) := by decide +kernel
theorem dX5_append_46 : decode cX5_append 46 = .ok (.getfield 15, 3) := by decide +kernel
theorem dX5_append_49 : decode cX5_append 49 = .ok (.iconst 1, 1) := by decide +kernel
theorem dX5_append_50 : decode cX5_append 50 = .ok (.iadd, 1) := by decide +kernel
theorem dX5_append_51 : decode cX5_append 51 = .ok (.putfield 15, 3) := by decide +kernel
theorem dX5_append_54 : decode cX5_append 54 = .ok (.iinc 4 (-1), 3) := by decide +kernel
theorem dX5_append_57 : decode cX5_append 57 = .ok (.goto (-39), 3) := by decide +kernel
theorem dX5_append_60 : decode cX5_append 60 = .ok (.iconst 1, 1) := by decide +kernel
theorem dX5_append_61 : decode cX5_append 61 = .ok (.ireturn, 1) := by decide +kernel
theorem dX5_readActs_0 : decode cX5_readActs 0 = .ok (.aload_n 0, 1) := by decide +kernel
theorem dX5_readActs_1 : decode cX5_readActs 1 = .ok (.iconst 0, 1) := by decide +kernel
theorem dX5_readActs_2 : decode cX5_readActs 2 = .ok (.putfield 19, 3) := by decide +kernel
theorem dX5_readActs_5 : decode cX5_readActs 5 = .ok (.aload_n 0, 1) := by decide +kernel
theorem dX5_readActs_6 : decode cX5_readActs 6 = .ok (.iconst 0, 1) := by decide +kernel
theorem dX5_readActs_7 : decode cX5_readActs 7 = .ok (.putfield 22, 3) := by decide +kernel
theorem dX5_readActs_10 : decode cX5_readActs 10 = .ok (.aload_n 0, 1) := by decide +kernel
theorem dX5_readActs_11 : decode cX5_readActs 11 = .ok (.getfield 15, 3) := by decide +kernel
theorem dX5_readActs_14 : decode cX5_readActs 14 = .ok (.ifCond .le 7, 3) := by decide +kernel
theorem dX5_readActs_17 : decode cX5_readActs 17 = .ok (.iconst 1, 1) := by decide +kernel
theorem dX5_readActs_18 : decode cX5_readActs 18 = .ok (.goto 4, 3) := by decide +kernel
theorem dX5_readActs_21 : decode cX5_readActs 21 = .ok (.iconst 0, 1) := by decide +kernel
theorem dX5_readActs_22 : decode cX5_readActs 22 = .ok (.istore_n 1, 1) := by decide +kernel
theorem dX5_readActs_23 : decode cX5_readActs 23 = .ok (.iconst 0, 1) := by decide +kernel
theorem dX5_readActs_24 : decode cX5_readActs 24 = .ok (.istore_n 2, 1) := by decide +kernel
theorem dX5_readActs_25 : decode cX5_readActs 25 = .ok (.iload_n 2, 1) := by decide +kernel
theorem dX5_readActs_26 : decode cX5_readActs 26 = .ok (.bipush 10, 2) := by decide +kernel
theorem dX5_readActs_28 : decode cX5_readActs 28 = .ok (.if_icmp .ge 82, 3) := by decide +kernel
theorem dX5_readActs_31 : decode cX5_readActs 31 = .ok (.iload_n 1, 1) := by decide +kernel
theorem dX5_readActs_32 : decode cX5_readActs 32 = .ok (.ifCond .eq 78, 3) := by decide +kernel
theorem dX5_readActs_35 : decode cX5_readActs 35 = .ok (.aload_n 0, 1) := by decide +kernel
theorem dX5_readActs_36 : decode cX5_readActs 36 = .ok (.iload_n 2, 1) := by decide +kernel
theorem dX5_readActs_37 : decode cX5_readActs 37 = .ok (.invokevirtual 33, 3) := by decide +kernel
theorem dX5_readActs_40 : decode cX5_readActs 40 = .ok (.ifCond .eq 11, 3) := by decide +kernel
theorem dX5_readActs_43 : decode cX5_readActs 43 = .ok (.aload_n 0, 1) := by decide +kernel
theorem dX5_readActs_44 : decode cX5_readActs 44 = .ok (.iload_n 2, 1) := by decide +kernel
theorem dX5_readActs_45 : decode cX5_readActs 45 = .ok (.invokevirtual 37, 3) := by decide +kernel
theorem dX5_readActs_48 : decode cX5_readActs 48 = .ok (.ifCond .ne 8, 3) := by decide +kernel
theorem dX5_readActs_51 : decode cX5_readActs 51 = .ok (.aload_n 0, 1) := by decide +kernel
theorem dX5_readActs_52 : decode cX5_readActs 52 = .ok (.getfield 19, 3) := by decide +kernel
theorem dX5_readActs_55 : decode cX5_readActs 55 = .ok (.ireturn, 1) := by decide +kernel
theorem dX5_readActs_56 : decode cX5_readActs 56 = .ok (.aload_n 0, 1) := by decide +kernel
theorem dX5_readActs_57 : decode cX5_readActs 57 = .ok (.dup, 1) := by decide +kernel
theorem dX5_readActs_58 : decode cX5_readActs 58 = .ok (.getfield 22, 3) := by decide +kernel
theorem dX5_readActs_61 : decode cX5_readActs 61 = .ok (.iconst 1, 1) := by decide +kernel
theorem dX5_readActs_62 : decode cX5_readActs 62 = .ok (.iadd, 1) := by decide +kernel
theorem dX5_readActs_63 : decode cX5_readActs 63 = .ok (.putfield 22, 3) := by decide +kernel
theorem dX5_readActs_66 : decode cX5_readActs 66 = .ok (.aload_n 0, 1) := by decide +kernel
theorem dX5_readActs_67 : decode cX5_readActs 67 = .ok (.getfield 22, 3) := by decide +kernel
theorem dX5_readActs_70 : decode cX5_readActs 70 = .ok (.bipush 10, 2) := by decide +kernel
theorem dX5_readActs_72 : decode cX5_readActs 72 = .ok (.if_icmp .ge 16, 3) := by decide +kernel
theorem dX5_readActs_75 : decode cX5_readActs 75 = .ok (.aload_n 0, 1) := by decide +kernel
theorem dX5_readActs_76 : decode cX5_readActs 76 = .ok (.invokevirtual 40, 3) := by decide +kernel
theorem dX5_readActs_79 : decode cX5_readActs 79 = .ok (.bipush 59, 2) := by decide +kernel
theorem dX5_readActs_81 : decode cX5_readActs 81 = .ok (.if_icmp .ne 7, 3) := by decide +kernel
theorem dX5_readActs_84 : decode cX5_readActs 84 = .ok (.iconst 1, 1) := by decide +kernel
theorem dX5_readActs_85 : decode cX5_readActs 85 = .ok (.goto 4, 3) := by decide +kernel
theorem dX5_readActs_88 : decode cX5_readActs 88 = .ok (.iconst 0, 1) := by decide +kernel
theorem dX5_readActs_89 : decode cX5_readActs 89 = .ok (.istore_n 1, 1) := by decide +kernel
theorem dX5_readActs_90 : decode cX5_readActs 90 = .ok (.iload_n 1, 1) := by decide +kernel
theorem dX5_readActs_91 : decode cX5_readActs 91 = .ok (.ifCond .eq 13, 3) := by decide +kernel
theorem dX5_readActs_94 : decode cX5_readActs 94 = .ok (.aload_n 0, 1) := by decide +kernel
theorem dX5_readActs_95 : decode cX5_readActs 95 = .ok (.dup, 1) := by decide +kernel
theorem dX5_readActs_96 : decode cX5_readActs 96 = .ok (.getfield 19, 3) := by decide +kernel
theorem dX5_readActs_99 : decode cX5_readActs 99 = .ok (.iconst 1, 1) := by decide +kernel
theorem dX5_readActs_100 : decode cX5_readActs 100 = .ok (.iadd, 1) := by decide +kernel
theorem dX5_readActs_101 : decode cX5_readActs 101 = .ok (.putfield 19, 3) := by decide +kernel
theorem dX5_readActs_104 : decode cX5_readActs 104 = .ok (.iinc 2 1, 3) := by decide +kernel
theorem dX5_readActs_107 : decode cX5_readActs 107 = .ok (.goto (-82), 3) := by decide +kernel
theorem dX5_readActs_110 : decode cX5_readActs 110 = .ok (.aload_n 0, 1) := by decide +kernel
theorem dX5_readActs_111 : decode cX5_readActs 111 = .ok (.getfield 19, 3) := by decide +kernel
theorem dX5_readActs_114 : decode cX5_readActs 114 = .ok (.aload_n 0, 1) := by decide +kernel
theorem dX5_readActs_115 : decode cX5_readActs 115 = .ok (.getfield 15, 3) := by decide +kernel
theorem dX5_readActs_118 : decode cX5_readActs 118 = .ok (.if_icmp .ge 10, 3) := by decide +kernel
theorem dX5_readActs_121 : decode cX5_readActs 121 = .ok (.aload_n 0, 1) := by decide +kernel
theorem dX5_readActs_122 : decode cX5_readActs 122 = .ok (.getfield 19, 3) := by decide +kernel
theorem dX5_readActs_125 : decode cX5_readActs 125 = .ok (.goto 4, 3) := by decide +kernel
theorem dX5_readActs_128 : decode cX5_readActs 128 = .ok (.iconst (-1), 1) := by decide +kernel
theorem dX5_readActs_129 : decode cX5_readActs 129 = .ok (.ireturn, 1) := by decide +kernel
theorem dX5_peek_0 : decode cX5_peek 0 = .ok (.aload_n 0, 1) := by decide +kernel
theorem dX5_peek_1 : decode cX5_peek 1 = .ok (.getfield 19, 3) := by decide +kernel
theorem dX5_peek_4 : decode cX5_peek 4 = .ok (.aload_n 0, 1) := by decide +kernel
theorem dX5_peek_5 : decode cX5_peek 5 = .ok (.getfield 15, 3) := by decide +kernel
theorem dX5_peek_8 : decode cX5_peek 8 = .ok (.if_icmp .ge 15, 3) := by decide +kernel
theorem dX5_peek_11 : decode cX5_peek 11 = .ok (.aload_n 0, 1) := by decide +kernel
theorem dX5_peek_12 : decode cX5_peek 12 = .ok (.getfield 9, 3) := by decide +kernel
theorem dX5_peek_15 : decode cX5_peek 15 = .ok (.aload_n 0, 1) := by decide +kernel
theorem dX5_peek_16 : decode cX5_peek 16 = .ok (.getfield 19, 3) := by decide +kernel
theorem dX5_peek_19 : decode cX5_peek 19 = .ok (.iaload, 1) := by decide +kernel
theorem dX5_peek_20 : decode cX5_peek 20 = .ok (.goto 4, 3) := by decide +kernel
theorem dX5_peek_23 : decode cX5_peek 23 = .ok (.iconst (-1), 1) := by decide +kernel
theorem dX5_peek_24 : decode cX5_peek 24 = .ok (.ireturn, 1) := by decide +kernel
theorem dX5_readWord_0 : decode cX5_readWord 0 = .ok (.aload_n 0, 1) := by decide +kernel
theorem dX5_readWord_1 : decode cX5_readWord 1 = .ok (.invokevirtual 40, 3) := by decide +kernel
theorem dX5_readWord_4 : decode cX5_readWord 4 = .ok (.invokestatic 44, 3) := by decide +kernel
theorem dX5_readWord_7 : decode cX5_readWord 7 = .ok (.istore_n 2, 1) := by decide +kernel
theorem dX5_readWord_8 : decode cX5_readWord 8 = .ok (.iload_n 2, 1) := by decide +kernel
theorem dX5_readWord_9 : decode cX5_readWord 9 = .ok (.iconst (-1), 1) := by decide +kernel
theorem dX5_readWord_10 : decode cX5_readWord 10 = .ok (.if_icmp .ne 5, 3) := by decide +kernel
theorem dX5_readWord_13 : decode cX5_readWord 13 = .ok (.iconst 0, 1) := by decide +kernel
theorem dX5_readWord_14 : decode cX5_readWord 14 = .ok (.ireturn, 1) := by decide +kernel
theorem dX5_readWord_15 : decode cX5_readWord 15 = .ok (.aload_n 0, 1) := by decide +kernel
theorem dX5_readWord_16 : decode cX5_readWord 16 = .ok (.getfield 25, 3) := by decide +kernel
theorem dX5_readWord_19 : decode cX5_readWord 19 = .ok (.iload_n 1, 1) := by decide +kernel
theorem dX5_readWord_20 : decode cX5_readWord 20 = .ok (.iload_n 2, 1) := by decide +kernel
theorem dX5_readWord_21 : decode cX5_readWord 21 = .ok (.iastore, 1) := by decide +kernel
theorem dX5_readWord_22 : decode cX5_readWord 22 = .ok (.getstatic 48, 3) := by decide +kernel
theorem dX5_readWord_25 : decode cX5_readWord 25 = .ok (.iload_n 2, 1) := by decide +kernel
theorem dX5_readWord_26 : decode cX5_readWord 26 = .ok (.iaload, 1) := by decide +kernel
theorem dX5_readWord_27 : decode cX5_readWord 27 = .ok (.istore_n 3, 1) := by decide +kernel
theorem dX5_readWord_28 : decode cX5_readWord 28 = .ok (.iload_n 3, 1) := by decide +kernel
theorem dX5_readWord_29 : decode cX5_readWord 29 = .ok (.ldc 51, 2) := by decide +kernel
theorem dX5_readWord_31 : decode cX5_readWord 31 = .ok (.invokevirtual 53, 3) := by decide +kernel
theorem dX5_readWord_34 : decode cX5_readWord 34 = .ok (.if_icmp .ge 47, 3) := by decide +kernel
theorem dX5_readWord_37 : decode cX5_readWord 37 = .ok (.ldc 51, 2) := by decide +kernel
theorem dX5_readWord_39 : decode cX5_readWord 39 = .ok (.iload_n 3, 1) := by decide +kernel
theorem dX5_readWord_40 : decode cX5_readWord 40 = .ok (.invokevirtual 58, 3) := by decide +kernel
theorem dX5_readWord_43 : decode cX5_readWord 43 = .ok (.istore 4, 2) := by decide +kernel
theorem dX5_readWord_45 : decode cX5_readWord 45 = .ok (.aload_n 0, 1) := by decide +kernel
theorem dX5_readWord_46 : decode cX5_readWord 46 = .ok (.invokevirtual 40, 3) := by decide +kernel
theorem dX5_readWord_49 : decode cX5_readWord 49 = .ok (.iload 4, 2) := by decide +kernel
theorem dX5_readWord_51 : decode cX5_readWord 51 = .ok (.if_icmp .eq 5, 3) := by decide +kernel
theorem dX5_readWord_54 : decode cX5_readWord 54 = .ok (.iconst 0, 1) := by decide +kernel
theorem dX5_readWord_55 : decode cX5_readWord 55 = .ok (.ireturn, 1) := by decide +kernel
theorem dX5_readWord_56 : decode cX5_readWord 56 = .ok (.aload_n 0, 1) := by decide +kernel
theorem dX5_readWord_57 : decode cX5_readWord 57 = .ok (.dup, 1) := by decide +kernel
theorem dX5_readWord_58 : decode cX5_readWord 58 = .ok (.getfield 19, 3) := by decide +kernel
theorem dX5_readWord_61 : decode cX5_readWord 61 = .ok (.iconst 1, 1) := by decide +kernel
theorem dX5_readWord_62 : decode cX5_readWord 62 = .ok (.iadd, 1) := by decide +kernel
theorem dX5_readWord_63 : decode cX5_readWord 63 = .ok (.putfield 19, 3) := by decide +kernel
theorem dX5_readWord_66 : decode cX5_readWord 66 = .ok (.iload 4, 2) := by decide +kernel
theorem dX5_readWord_68 : decode cX5_readWord 68 = .ok (.bipush 32, 2) := by decide +kernel
theorem dX5_readWord_70 : decode cX5_readWord 70 = .ok (.if_icmp .ne 5, 3) := by decide +kernel
theorem dX5_readWord_73 : decode cX5_readWord 73 = .ok (.iconst 1, 1) := by decide +kernel
theorem dX5_readWord_74 : decode cX5_readWord 74 = .ok (.ireturn, 1) := by decide +kernel
theorem dX5_readWord_75 : decode cX5_readWord 75 = .ok (.iinc 3 1, 3) := by decide +kernel
theorem dX5_readWord_78 : decode cX5_readWord 78 = .ok (.goto (-50), 3) := by decide +kernel
theorem dX5_readWord_81 : decode cX5_readWord 81 = .ok (.iconst 0, 1) := by decide +kernel
theorem dX5_readWord_82 : decode cX5_readWord 82 = .ok (.ireturn, 1) := by decide +kernel
theorem dX5_sortBegunBy_0 : decode cX5_sortBegunBy 0 = .ok (.iconst 0, 1) := by decide +kernel
theorem dX5_sortBegunBy_1 : decode cX5_sortBegunBy 1 = .ok (.istore_n 1, 1) := by decide +kernel
theorem dX5_sortBegunBy_2 : decode cX5_sortBegunBy 2 = .ok (.iload_n 1, 1) := by decide +kernel
theorem dX5_sortBegunBy_3 : decode cX5_sortBegunBy 3 = .ok (.bipush 7, 2) := by decide +kernel
theorem dX5_sortBegunBy_5 : decode cX5_sortBegunBy 5 = .ok (.if_icmp .ge 25, 3) := by decide +kernel
theorem dX5_sortBegunBy_8 : decode cX5_sortBegunBy 8 = .ok (.ldc 51, 2) := by decide +kernel
theorem dX5_sortBegunBy_10 : decode cX5_sortBegunBy 10 = .ok (.getstatic 48, 3) := by decide +kernel
theorem dX5_sortBegunBy_13 : decode cX5_sortBegunBy 13 = .ok (.iload_n 1, 1) := by decide +kernel
theorem dX5_sortBegunBy_14 : decode cX5_sortBegunBy 14 = .ok (.iaload, 1) := by decide +kernel
theorem dX5_sortBegunBy_15 : decode cX5_sortBegunBy 15 = .ok (.invokevirtual 58, 3) := by decide +kernel
theorem dX5_sortBegunBy_18 : decode cX5_sortBegunBy 18 = .ok (.iload_n 0, 1) := by decide +kernel
theorem dX5_sortBegunBy_19 : decode cX5_sortBegunBy 19 = .ok (.if_icmp .ne 5, 3) := by decide +kernel
theorem dX5_sortBegunBy_22 : decode cX5_sortBegunBy 22 = .ok (.iload_n 1, 1) := by decide +kernel
theorem dX5_sortBegunBy_23 : decode cX5_sortBegunBy 23 = .ok (.ireturn, 1) := by decide +kernel
theorem dX5_sortBegunBy_24 : decode cX5_sortBegunBy 24 = .ok (.iinc 1 1, 3) := by decide +kernel
theorem dX5_sortBegunBy_27 : decode cX5_sortBegunBy 27 = .ok (.goto (-25), 3) := by decide +kernel
theorem dX5_sortBegunBy_30 : decode cX5_sortBegunBy 30 = .ok (.iconst (-1), 1) := by decide +kernel
theorem dX5_sortBegunBy_31 : decode cX5_sortBegunBy 31 = .ok (.ireturn, 1) := by decide +kernel
theorem dX5_readNumber_0 : decode cX5_readNumber 0 = .ok (.iconst 0, 1) := by decide +kernel
theorem dX5_readNumber_1 : decode cX5_readNumber 1 = .ok (.istore_n 2, 1) := by decide +kernel
theorem dX5_readNumber_2 : decode cX5_readNumber 2 = .ok (.iconst 0, 1) := by decide +kernel
theorem dX5_readNumber_3 : decode cX5_readNumber 3 = .ok (.istore_n 3, 1) := by decide +kernel
theorem dX5_readNumber_4 : decode cX5_readNumber 4 = .ok (.iconst 0, 1) := by decide +kernel
theorem dX5_readNumber_5 : decode cX5_readNumber 5 = .ok (.istore 4, 2) := by decide +kernel
theorem dX5_readNumber_7 : decode cX5_readNumber 7 = .ok (.iload 4, 2) := by decide +kernel
theorem dX5_readNumber_9 : decode cX5_readNumber 9 = .ok (.iconst 3, 1) := by decide +kernel
theorem dX5_readNumber_10 : decode cX5_readNumber 10 = .ok (.if_icmp .ge 53, 3) := by decide +kernel
theorem dX5_readNumber_13 : decode cX5_readNumber 13 = .ok (.aload_n 0, 1) := by decide +kernel
theorem dX5_readNumber_14 : decode cX5_readNumber 14 = .ok (.invokevirtual 40, 3) := by decide +kernel
theorem dX5_readNumber_17 : decode cX5_readNumber 17 = .ok (.bipush 48, 2) := by decide +kernel
theorem dX5_readNumber_19 : decode cX5_readNumber 19 = .ok (.if_icmp .lt 44, 3) := by decide +kernel
theorem dX5_readNumber_22 : decode cX5_readNumber 22 = .ok (.aload_n 0, 1) := by decide +kernel
theorem dX5_readNumber_23 : decode cX5_readNumber 23 = .ok (.invokevirtual 40, 3) := by decide +kernel
theorem dX5_readNumber_26 : decode cX5_readNumber 26 = .ok (.bipush 57, 2) := by decide +kernel
theorem dX5_readNumber_28 : decode cX5_readNumber 28 = .ok (.if_icmp .gt 35, 3) := by decide +kernel
theorem dX5_readNumber_31 : decode cX5_readNumber 31 = .ok (.bipush 10, 2) := by decide +kernel
theorem dX5_readNumber_33 : decode cX5_readNumber 33 = .ok (.iload_n 3, 1) := by decide +kernel
theorem dX5_readNumber_34 : decode cX5_readNumber 34 = .ok (.imul, 1) := by decide +kernel
theorem dX5_readNumber_35 : decode cX5_readNumber 35 = .ok (.aload_n 0, 1) := by decide +kernel
theorem dX5_readNumber_36 : decode cX5_readNumber 36 = .ok (.invokevirtual 40, 3) := by decide +kernel
theorem dX5_readNumber_39 : decode cX5_readNumber 39 = .ok (.iadd, 1) := by decide +kernel
theorem dX5_readNumber_40 : decode cX5_readNumber 40 = .ok (.bipush 48, 2) := by decide +kernel
theorem dX5_readNumber_42 : decode cX5_readNumber 42 = .ok (.isub, 1) := by decide +kernel
theorem dX5_readNumber_43 : decode cX5_readNumber 43 = .ok (.istore_n 3, 1) := by decide +kernel
theorem dX5_readNumber_44 : decode cX5_readNumber 44 = .ok (.iinc 2 1, 3) := by decide +kernel
theorem dX5_readNumber_47 : decode cX5_readNumber 47 = .ok (.aload_n 0, 1) := by decide +kernel
theorem dX5_readNumber_48 : decode cX5_readNumber 48 = .ok (.dup, 1) := by decide +kernel
theorem dX5_readNumber_49 : decode cX5_readNumber 49 = .ok (.getfield 19, 3) := by decide +kernel
theorem dX5_readNumber_52 : decode cX5_readNumber 52 = .ok (.iconst 1, 1) := by decide +kernel
theorem dX5_readNumber_53 : decode cX5_readNumber 53 = .ok (.iadd, 1) := by decide +kernel
theorem dX5_readNumber_54 : decode cX5_readNumber 54 = .ok (.putfield 19, 3) := by decide +kernel
theorem dX5_readNumber_57 : decode cX5_readNumber 57 = .ok (.iinc 4 1, 3) := by decide +kernel
theorem dX5_readNumber_60 : decode cX5_readNumber 60 = .ok (.goto (-53), 3) := by decide +kernel
theorem dX5_readNumber_63 : decode cX5_readNumber 63 = .ok (.aload_n 0, 1) := by decide +kernel
theorem dX5_readNumber_64 : decode cX5_readNumber 64 = .ok (.getfield 28, 3) := by decide +kernel
theorem dX5_readNumber_67 : decode cX5_readNumber 67 = .ok (.iload_n 1, 1) := by decide +kernel
theorem dX5_readNumber_68 : decode cX5_readNumber 68 = .ok (.iload_n 3, 1) := by decide +kernel
theorem dX5_readNumber_69 : decode cX5_readNumber 69 = .ok (.iastore, 1) := by decide +kernel
theorem dX5_readNumber_70 : decode cX5_readNumber 70 = .ok (.iload_n 2, 1) := by decide +kernel
theorem dX5_readNumber_71 : decode cX5_readNumber 71 = .ok (.ifCond .le 7, 3) := by decide +kernel
theorem dX5_readNumber_74 : decode cX5_readNumber 74 = .ok (.iconst 1, 1) := by decide +kernel
theorem dX5_readNumber_75 : decode cX5_readNumber 75 = .ok (.goto 4, 3) := by decide +kernel
theorem dX5_readNumber_78 : decode cX5_readNumber 78 = .ok (.iconst 0, 1) := by decide +kernel
theorem dX5_readNumber_79 : decode cX5_readNumber 79 = .ok (.ireturn, 1) := by decide +kernel
theorem dX6_init_0 : decode cX6_init 0 = .ok (.aload_n 0, 1) := by decide +kernel
theorem dX6_init_1 : decode cX6_init 1 = .ok (.invokespecial 3, 3) := by decide +kernel
theorem dX6_init_4 : decode cX6_init 4 = .ok (.aload_n 0, 1) := by decide +kernel
theorem dX6_init_5 : decode cX6_init 5 = .ok (.bipush 100, 2) := by decide +kernel
theorem dX6_init_7 : decode cX6_init 7 = .ok (.newarray .int, 2) := by decide +kernel
theorem dX6_init_9 : decode cX6_init 9 = .ok (.putfield 9, 3) := by decide +kernel
theorem dX6_init_12 : decode cX6_init 12 = .ok (.aload_n 0, 1) := by decide +kernel
theorem dX6_init_13 : decode cX6_init 13 = .ok (.bipush 100, 2) := by decide +kernel
theorem dX6_init_15 : decode cX6_init 15 = .ok (.newarray .int, 2) := by decide +kernel
theorem dX6_init_17 : decode cX6_init 17 = .ok (.putfield 15, 3) := by decide +kernel
theorem dX6_init_20 : decode cX6_init 20 = .ok (.aload_n 0, 1) := by decide +kernel
theorem dX6_init_21 : decode cX6_init 21 = .ok (.bipush 10, 2) := by decide +kernel
theorem dX6_init_23 : decode cX6_init 23 = .ok (.newarray .int, 2) := by decide +kernel
theorem dX6_init_25 : decode cX6_init 25 = .ok (.putfield 18, 3) := by decide +kernel
theorem dX6_init_28 : decode cX6_init 28 = .ok (.aload_n 0, 1) := by decide +kernel
theorem dX6_init_29 : decode cX6_init 29 = .ok (.new 21, 3) := by decide +kernel
theorem dX6_init_32 : decode cX6_init 32 = .ok (.dup, 1) := by decide +kernel
theorem dX6_init_33 : decode cX6_init 33 = .ok (.invokespecial 23, 3) := by decide +kernel
theorem dX6_init_36 : decode cX6_init 36 = .ok (.putfield 24, 3) := by decide +kernel
theorem dX6_init_39 : decode cX6_init 39 = .ok (.return_, 1) := by decide +kernel
theorem dX6_readFrom_0 : decode cX6_readFrom 0 = .ok (.iconst 0, 1) := by decide +kernel
theorem dX6_readFrom_1 : decode cX6_readFrom 1 = .ok (.istore 4, 2) := by decide +kernel
theorem dX6_readFrom_3 : decode cX6_readFrom 3 = .ok (.iload 4, 2) := by decide +kernel
theorem dX6_readFrom_5 : decode cX6_readFrom 5 = .ok (.aload_n 0, 1) := by decide +kernel
theorem dX6_readFrom_6 : decode cX6_readFrom 6 = .ok (.getfield 9, 3) := by decide +kernel
theorem dX6_readFrom_9 : decode cX6_readFrom 9 = .ok (.arraylength, 1) := by decide +kernel
theorem dX6_readFrom_10 : decode cX6_readFrom 10 = .ok (.if_icmp .ge 25, 3) := by decide +kernel
theorem dX6_readFrom_13 : decode cX6_readFrom 13 = .ok (.aload_n 0, 1) := by decide +kernel
theorem dX6_readFrom_14 : decode cX6_readFrom 14 = .ok (.getfield 9, 3) := by decide +kernel
theorem dX6_readFrom_17 : decode cX6_readFrom 17 = .ok (.iload 4, 2) := by decide +kernel
theorem dX6_readFrom_19 : decode cX6_readFrom 19 = .ok (.iconst 0, 1) := by decide +kernel
theorem dX6_readFrom_20 : decode cX6_readFrom 20 = .ok (.iastore, 1) := by decide +kernel
theorem dX6_readFrom_21 : decode cX6_readFrom 21 = .ok (.aload_n 0, 1) := by decide +kernel
theorem dX6_readFrom_22 : decode cX6_readFrom 22 = .ok (.getfield 15, 3) := by decide +kernel
theorem dX6_readFrom_25 : decode cX6_readFrom 25 = .ok (.iload 4, 2) := by decide +kernel
theorem dX6_readFrom_27 : decode cX6_readFrom 27 = .ok (.iconst 0, 1) := by decide +kernel
theorem dX6_readFrom_28 : decode cX6_readFrom 28 = .ok (.iastore, 1) := by decide +kernel
theorem dX6_readFrom_29 : decode cX6_readFrom 29 = .ok (.iinc 4 1, 3) := by decide +kernel
theorem dX6_readFrom_32 : decode cX6_readFrom 32 = .ok (.goto (-29), 3) := by decide +kernel
theorem dX6_readFrom_35 : decode cX6_readFrom 35 = .ok (.iconst 0, 1) := by decide +kernel
theorem dX6_readFrom_36 : decode cX6_readFrom 36 = .ok (.istore 4, 2) := by decide +kernel
theorem dX6_readFrom_38 : decode cX6_readFrom 38 = .ok (.iload 4, 2) := by decide +kernel
theorem dX6_readFrom_40 : decode cX6_readFrom 40 = .ok (.aload_n 1, 1) := by decide +kernel
theorem dX6_readFrom_41 : decode cX6_readFrom 41 = .ok (.getfield 28, 3) := by decide +kernel
theorem dX6_readFrom_44 : decode cX6_readFrom 44 = .ok (.iconst 0, 1) := by decide +kernel
theorem dX6_readFrom_45 : decode cX6_readFrom 45 = .ok (.iaload, 1) := by decide +kernel
theorem dX6_readFrom_46 : decode cX6_readFrom 46 = .ok (.if_icmp .ge 55, 3) := by decide +kernel
theorem dX6_readFrom_49 : decode cX6_readFrom 49 = .ok (.aload_n 1, 1) := by decide +kernel
theorem dX6_readFrom_50 : decode cX6_readFrom 50 = .ok (.iload 4, 2) := by decide +kernel
theorem dX6_readFrom_52 : decode cX6_readFrom 52 = .ok (.invokevirtual 33, 3) := by decide +kernel
theorem dX6_readFrom_55 : decode cX6_readFrom 55 = .ok (.ifCond .eq 32, 3) := by decide +kernel
theorem dX6_readFrom_58 : decode cX6_readFrom 58 = .ok (.aload_n 0, 1) := by decide +kernel
theorem dX6_readFrom_59 : decode cX6_readFrom 59 = .ok (.aload_n 1, 1) := by decide +kernel
theorem dX6_readFrom_60 : decode cX6_readFrom 60 = .ok (.iconst 0, 1) := by decide +kernel
theorem dX6_readFrom_61 : decode cX6_readFrom 61 = .ok (.aload_n 1, 1) := by decide +kernel
theorem dX6_readFrom_62 : decode cX6_readFrom 62 = .ok (.getfield 37, 3) := by decide +kernel
theorem dX6_readFrom_65 : decode cX6_readFrom 65 = .ok (.iload 4, 2) := by decide +kernel
theorem dX6_readFrom_67 : decode cX6_readFrom 67 = .ok (.iaload, 1) := by decide +kernel
theorem dX6_readFrom_68 : decode cX6_readFrom 68 = .ok (.invokevirtual 40, 3) := by decide +kernel
theorem dX6_readFrom_71 : decode cX6_readFrom 71 = .ok (.aload_n 1, 1) := by decide +kernel
theorem dX6_readFrom_72 : decode cX6_readFrom 72 = .ok (.iconst 0, 1) := by decide +kernel
theorem dX6_readFrom_73 : decode cX6_readFrom 73 = .ok (.iload 4, 2) := by decide +kernel
theorem dX6_readFrom_75 : decode cX6_readFrom 75 = .ok (.invokevirtual 40, 3) := by decide +kernel
theorem dX6_readFrom_78 : decode cX6_readFrom 78 = .ok (.aload_n 2, 1) := by decide +kernel
theorem dX6_readFrom_79 : decode cX6_readFrom 79 = .ok (.iconst 3, 1) := by decide +kernel
theorem dX6_readFrom_80 : decode cX6_readFrom 80 = .ok (.iaload, 1) := by decide +kernel
theorem dX6_readFrom_81 : decode cX6_readFrom 81 = .ok (.invokevirtual 44, 3) := by decide +kernel
theorem dX6_readFrom_84 : decode cX6_readFrom 84 = .ok (.goto 11, 3) := by decide +kernel
theorem dX6_readFrom_87 : decode cX6_readFrom 87 = .ok (.aload_n 0, 1) := by decide +kernel
theorem dX6_readFrom_88 : decode cX6_readFrom 88 = .ok (.aload_n 1, 1) := by decide +kernel
theorem dX6_readFrom_89 : decode cX6_readFrom 89 = .ok (.iload 4, 2) := by decide +kernel
theorem dX6_readFrom_91 : decode cX6_readFrom 91 = .ok (.aload_n 2, 1) := by decide +kernel
theorem dX6_readFrom_92 : decode cX6_readFrom 92 = .ok (.invokevirtual 48, 3) := by decide +kernel
theorem dX6_readFrom_95 : decode cX6_readFrom 95 = .ok (.iinc 4 1, 3) := by decide +kernel
theorem dX6_readFrom_98 : decode cX6_readFrom 98 = .ok (.goto (-60), 3) := by decide +kernel
theorem dX6_readFrom_101 : decode cX6_readFrom 101 = .ok (.aload_n 0, 1) := by decide +kernel
theorem dX6_readFrom_102 : decode cX6_readFrom 102 = .ok (.aload_n 1, 1) := by decide +kernel
theorem dX6_readFrom_103 : decode cX6_readFrom 103 = .ok (.aload_n 2, 1) := by decide +kernel
theorem dX6_readFrom_104 : decode cX6_readFrom 104 = .ok (.invokevirtual 52, 3) := by decide +kernel
theorem dX6_readFrom_107 : decode cX6_readFrom 107 = .ok (.aload_n 0, 1) := by decide +kernel
theorem dX6_readFrom_108 : decode cX6_readFrom 108 = .ok (.aload_n 1, 1) := by decide +kernel
theorem dX6_readFrom_109 : decode cX6_readFrom 109 = .ok (.iload_n 3, 1) := by decide +kernel
theorem dX6_readFrom_110 : decode cX6_readFrom 110 = .ok (.invokevirtual 56, 3) := by decide +kernel
theorem dX6_readFrom_113 : decode cX6_readFrom 113 = .ok (.aload_n 0, 1) := by decide +kernel
theorem dX6_readFrom_114 : decode cX6_readFrom 114 = .ok (.getfield 24, 3) := by decide +kernel
theorem dX6_readFrom_117 : decode cX6_readFrom 117 = .ok (.aload_n 0, 1) := by decide +kernel
theorem dX6_readFrom_118 : decode cX6_readFrom 118 = .ok (.getfield 9, 3) := by decide +kernel
theorem dX6_readFrom_121 : decode cX6_readFrom 121 = .ok (.aload_n 1, 1) := by decide +kernel
theorem dX6_readFrom_122 : decode cX6_readFrom 122 = .ok (.getfield 60, 3) := by decide +kernel
theorem dX6_readFrom_125 : decode cX6_readFrom 125 = .ok (.invokevirtual 64, 3) := by decide +kernel
theorem dX6_readFrom_128 : decode cX6_readFrom 128 = .ok (.return_, 1) := by decide +kernel
theorem dX6_note_0 : decode cX6_note 0 = .ok (.iload_n 1, 1) := by decide +kernel
theorem dX6_note_1 : decode cX6_note 1 = .ok (.iload_n 2, 1) := by decide +kernel
theorem dX6_note_2 : decode cX6_note 2 = .ok (.if_icmp .eq 31, 3) := by decide +kernel
theorem dX6_note_5 : decode cX6_note 5 = .ok (.aload_n 0, 1) := by decide +kernel
theorem dX6_note_6 : decode cX6_note 6 = .ok (.getfield 9, 3) := by decide +kernel
theorem dX6_note_9 : decode cX6_note 9 = .ok (.iload_n 1, 1) := by decide +kernel
theorem dX6_note_10 : decode cX6_note 10 = .ok (.iload_n 2, 1) := by decide +kernel
theorem dX6_note_11 : decode cX6_note 11 = .ok (.invokestatic 68, 3) := by decide +kernel
theorem dX6_note_14 : decode cX6_note 14 = .ok (.dup2, 1) := by decide +kernel
theorem dX6_note_15 : decode cX6_note 15 = .ok (.iaload, 1) := by decide +kernel
theorem dX6_note_16 : decode cX6_note 16 = .ok (.iconst 1, 1) := by decide +kernel
theorem dX6_note_17 : decode cX6_note 17 = .ok (.iadd, 1) := by decide +kernel
theorem dX6_note_18 : decode cX6_note 18 = .ok (.iastore, 1) := by decide +kernel
theorem dX6_note_19 : decode cX6_note 19 = .ok (.aload_n 0, 1) := by decide +kernel
theorem dX6_note_20 : decode cX6_note 20 = .ok (.getfield 15, 3) := by decide +kernel
theorem dX6_note_23 : decode cX6_note 23 = .ok (.iload_n 1, 1) := by decide +kernel
theorem dX6_note_24 : decode cX6_note 24 = .ok (.iload_n 2, 1) := by decide +kernel
theorem dX6_note_25 : decode cX6_note 25 = .ok (.invokestatic 68, 3) := by decide +kernel
theorem dX6_note_28 : decode cX6_note 28 = .ok (.dup2, 1) := by decide +kernel
theorem dX6_note_29 : decode cX6_note 29 = .ok (.iaload, 1) := by decide +kernel
theorem dX6_note_30 : decode cX6_note 30 = .ok (.iload_n 3, 1) := by decide +kernel
theorem dX6_note_31 : decode cX6_note 31 = .ok (.iadd, 1) := by decide +kernel
theorem dX6_note_32 : decode cX6_note 32 = .ok (.iastore, 1) := by decide +kernel
theorem dX6_note_33 : decode cX6_note 33 = .ok (.return_, 1) := by decide +kernel
theorem dX6_readBody_0 : decode cX6_readBody 0 = .ok (.aload_n 1, 1) := by decide +kernel
theorem dX6_readBody_1 : decode cX6_readBody 1 = .ok (.iconst 0, 1) := by decide +kernel
theorem dX6_readBody_2 : decode cX6_readBody 2 = .ok (.iload_n 2, 1) := by decide +kernel
theorem dX6_readBody_3 : decode cX6_readBody 3 = .ok (.invokevirtual 40, 3) := by decide +kernel
theorem dX6_readBody_6 : decode cX6_readBody 6 = .ok (.istore 4, 2) := by decide +kernel
theorem dX6_readBody_8 : decode cX6_readBody 8 = .ok (.iconst 0, 1) := by decide +kernel
theorem dX6_readBody_9 : decode cX6_readBody 9 = .ok (.istore 5, 2) := by decide +kernel
theorem dX6_readBody_11 : decode cX6_readBody 11 = .ok (.iload 5, 2) := by decide +kernel
theorem dX6_readBody_13 : decode cX6_readBody 13 = .ok (.aload_n 1, 1) := by decide +kernel
theorem dX6_readBody_14 : decode cX6_readBody 14 = .ok (.getfield 71, 3) := by decide +kernel
theorem dX6_readBody_17 : decode cX6_readBody 17 = .ok (.iload_n 2, 1) := by decide +kernel
theorem dX6_readBody_18 : decode cX6_readBody 18 = .ok (.iaload, 1) := by decide +kernel
theorem dX6_readBody_19 : decode cX6_readBody 19 = .ok (.if_icmp .ge 53, 3) := by decide +kernel
theorem dX6_readBody_22 : decode cX6_readBody 22 = .ok (.aload_n 1, 1) := by decide +kernel
theorem dX6_readBody_23 : decode cX6_readBody 23 = .ok (.iload_n 2, 1) := by decide +kernel
theorem dX6_readBody_24 : decode cX6_readBody 24 = .ok (.iload 5, 2) := by decide +kernel
theorem dX6_readBody_26 : decode cX6_readBody 26 = .ok (.invokevirtual 74, 3) := by decide +kernel
theorem dX6_readBody_29 : decode cX6_readBody 29 = .ok (.invokestatic 77, 3) := by decide +kernel
theorem dX6_readBody_32 : decode cX6_readBody 32 = .ok (.istore 6, 2) := by decide +kernel
theorem dX6_readBody_34 : decode cX6_readBody 34 = .ok (.iload 6, 2) := by decide +kernel
theorem dX6_readBody_36 : decode cX6_readBody 36 = .ok (.iconst (-1), 1) := by decide +kernel
theorem dX6_readBody_37 : decode cX6_readBody 37 = .ok (.if_icmp .eq 29, 3) := by decide +kernel
theorem dX6_readBody_40 : decode cX6_readBody 40 = .ok (.aload_n 0, 1) := by decide +kernel
theorem dX6_readBody_41 : decode cX6_readBody 41 = .ok (.iload 4, 2) := by decide +kernel
theorem dX6_readBody_43 : decode cX6_readBody 43 = .ok (.aload_n 1, 1) := by decide +kernel
theorem dX6_readBody_44 : decode cX6_readBody 44 = .ok (.iload 6, 2) := by decide +kernel
theorem dX6_readBody_46 : decode cX6_readBody 46 = .ok (.aload_n 1, 1) := by decide +kernel
theorem dX6_readBody_47 : decode cX6_readBody 47 = .ok (.iload_n 2, 1) := by decide +kernel
theorem dX6_readBody_48 : decode cX6_readBody 48 = .ok (.iload 5, 2) := by decide +kernel
theorem dX6_readBody_50 : decode cX6_readBody 50 = .ok (.invokevirtual 81, 3) := by decide +kernel
theorem dX6_readBody_53 : decode cX6_readBody 53 = .ok (.invokevirtual 40, 3) := by decide +kernel
theorem dX6_readBody_56 : decode cX6_readBody 56 = .ok (.aload_n 3, 1) := by decide +kernel
theorem dX6_readBody_57 : decode cX6_readBody 57 = .ok (.iload 6, 2) := by decide +kernel
theorem dX6_readBody_59 : decode cX6_readBody 59 = .ok (.invokestatic 84, 3) := by decide +kernel
theorem dX6_readBody_62 : decode cX6_readBody 62 = .ok (.iaload, 1) := by decide +kernel
theorem dX6_readBody_63 : decode cX6_readBody 63 = .ok (.invokevirtual 44, 3) := by decide +kernel
theorem dX6_readBody_66 : decode cX6_readBody 66 = .ok (.iinc 5 1, 3) := by decide +kernel
theorem dX6_readBody_69 : decode cX6_readBody 69 = .ok (.goto (-58), 3) := by decide +kernel
theorem dX6_readBody_72 : decode cX6_readBody 72 = .ok (.return_, 1) := by decide +kernel
theorem dX6_tieSortOf_0 : decode cX6_tieSortOf 0 = .ok (.iload_n 0, 1) := by decide +kernel
theorem dX6_tieSortOf_1 : decode cX6_tieSortOf 1 = .ok (.lookupswitch 31 #[(0, 27), (1, 29)], 27) := by decide +kernel
theorem dX6_tieSortOf_28 : decode cX6_tieSortOf 28 = .ok (.iconst 0, 1) := by decide +kernel
theorem dX6_tieSortOf_29 : decode cX6_tieSortOf 29 = .ok (.ireturn, 1) := by decide +kernel
theorem dX6_tieSortOf_30 : decode cX6_tieSortOf 30 = .ok (.iconst 1, 1) := by decide +kernel
theorem dX6_tieSortOf_31 : decode cX6_tieSortOf 31 = .ok (.ireturn, 1) := by decide +kernel
theorem dX6_tieSortOf_32 : decode cX6_tieSortOf 32 = .ok (.iconst 2, 1) := by decide +kernel
theorem dX6_tieSortOf_33 : decode cX6_tieSortOf 33 = .ok (.ireturn, 1) := by decide +kernel
theorem dX6_readHearers_0 : decode cX6_readHearers 0 = .ok (.iconst 0, 1) := by decide +kernel
theorem dX6_readHearers_1 : decode cX6_readHearers 1 = .ok (.istore_n 3, 1) := by decide +kernel
theorem dX6_readHearers_2 : decode cX6_readHearers 2 = .ok (.iload_n 3, 1) := by decide +kernel
theorem dX6_readHearers_3 : decode cX6_readHearers 3 = .ok (.aload_n 1, 1) := by decide +kernel
theorem dX6_readHearers_4 : decode cX6_readHearers 4 = .ok (.getfield 28, 3) := by decide +kernel
theorem dX6_readHearers_7 : decode cX6_readHearers 7 = .ok (.iconst 2, 1) := by decide +kernel
theorem dX6_readHearers_8 : decode cX6_readHearers 8 = .ok (.iaload, 1) := by decide +kernel
theorem dX6_readHearers_9 : decode cX6_readHearers 9 = .ok (.if_icmp .ge 58, 3) := by decide +kernel
theorem dX6_readHearers_12 : decode cX6_readHearers 12 = .ok (.iconst 0, 1) := by decide +kernel
theorem dX6_readHearers_13 : decode cX6_readHearers 13 = .ok (.istore 4, 2) := by decide +kernel
theorem dX6_readHearers_15 : decode cX6_readHearers 15 = .ok (.iload 4, 2) := by decide +kernel
theorem dX6_readHearers_17 : decode cX6_readHearers 17 = .ok (.aload_n 1, 1) := by decide +kernel
theorem dX6_readHearers_18 : decode cX6_readHearers 18 = .ok (.getfield 87, 3) := by decide +kernel
theorem dX6_readHearers_21 : decode cX6_readHearers 21 = .ok (.iload_n 3, 1) := by decide +kernel
theorem dX6_readHearers_22 : decode cX6_readHearers 22 = .ok (.iaload, 1) := by decide +kernel
theorem dX6_readHearers_23 : decode cX6_readHearers 23 = .ok (.if_icmp .ge 38, 3) := by decide +kernel
theorem dX6_readHearers_26 : decode cX6_readHearers 26 = .ok (.aload_n 1, 1) := by decide +kernel
theorem dX6_readHearers_27 : decode cX6_readHearers 27 = .ok (.iconst 0, 1) := by decide +kernel
theorem dX6_readHearers_28 : decode cX6_readHearers 28 = .ok (.aload_n 1, 1) := by decide +kernel
theorem dX6_readHearers_29 : decode cX6_readHearers 29 = .ok (.iload_n 3, 1) := by decide +kernel
theorem dX6_readHearers_30 : decode cX6_readHearers 30 = .ok (.iload 4, 2) := by decide +kernel
theorem dX6_readHearers_32 : decode cX6_readHearers 32 = .ok (.invokevirtual 90, 3) := by decide +kernel
theorem dX6_readHearers_35 : decode cX6_readHearers 35 = .ok (.invokevirtual 40, 3) := by decide +kernel
theorem dX6_readHearers_38 : decode cX6_readHearers 38 = .ok (.istore 5, 2) := by decide +kernel
theorem dX6_readHearers_40 : decode cX6_readHearers 40 = .ok (.aload_n 0, 1) := by decide +kernel
theorem dX6_readHearers_41 : decode cX6_readHearers 41 = .ok (.iload 5, 2) := by decide +kernel
theorem dX6_readHearers_43 : decode cX6_readHearers 43 = .ok (.aload_n 1, 1) := by decide +kernel
theorem dX6_readHearers_44 : decode cX6_readHearers 44 = .ok (.iconst 2, 1) := by decide +kernel
theorem dX6_readHearers_45 : decode cX6_readHearers 45 = .ok (.iload_n 3, 1) := by decide +kernel
theorem dX6_readHearers_46 : decode cX6_readHearers 46 = .ok (.invokevirtual 40, 3) := by decide +kernel
theorem dX6_readHearers_49 : decode cX6_readHearers 49 = .ok (.aload_n 2, 1) := by decide +kernel
theorem dX6_readHearers_50 : decode cX6_readHearers 50 = .ok (.iconst 2, 1) := by decide +kernel
theorem dX6_readHearers_51 : decode cX6_readHearers 51 = .ok (.iaload, 1) := by decide +kernel
theorem dX6_readHearers_52 : decode cX6_readHearers 52 = .ok (.invokevirtual 44, 3) := by decide +kernel
theorem dX6_readHearers_55 : decode cX6_readHearers 55 = .ok (.iinc 4 1, 3) := by decide +kernel
theorem dX6_readHearers_58 : decode cX6_readHearers 58 = .ok (.goto (-43), 3) := by decide +kernel
theorem dX6_readHearers_61 : decode cX6_readHearers 61 = .ok (.iinc 3 1, 3) := by decide +kernel
theorem dX6_readHearers_64 : decode cX6_readHearers 64 = .ok (.goto (-62), 3) := by decide +kernel
theorem dX6_readHearers_67 : decode cX6_readHearers 67 = .ok (.return_, 1) := by decide +kernel
theorem dX6_dropAllowed_0 : decode cX6_dropAllowed 0 = .ok (.iconst 0, 1) := by decide +kernel
theorem dX6_dropAllowed_1 : decode cX6_dropAllowed 1 = .ok (.istore_n 3, 1) := by decide +kernel
theorem dX6_dropAllowed_2 : decode cX6_dropAllowed 2 = .ok (.iload_n 3, 1) := by decide +kernel
theorem dX6_dropAllowed_3 : decode cX6_dropAllowed 3 = .ok (.aload_n 0, 1) := by decide +kernel
theorem dX6_dropAllowed_4 : decode cX6_dropAllowed 4 = .ok (.getfield 9, 3) := by decide +kernel
theorem dX6_dropAllowed_7 : decode cX6_dropAllowed 7 = .ok (.arraylength, 1) := by decide +kernel
theorem dX6_dropAllowed_8 : decode cX6_dropAllowed 8 = .ok (.if_icmp .ge 33, 3) := by decide +kernel
theorem dX6_dropAllowed_11 : decode cX6_dropAllowed 11 = .ok (.aload_n 1, 1) := by decide +kernel
theorem dX6_dropAllowed_12 : decode cX6_dropAllowed 12 = .ok (.getfield 93, 3) := by decide +kernel
theorem dX6_dropAllowed_15 : decode cX6_dropAllowed 15 = .ok (.iload_n 3, 1) := by decide +kernel
theorem dX6_dropAllowed_16 : decode cX6_dropAllowed 16 = .ok (.iaload, 1) := by decide +kernel
theorem dX6_dropAllowed_17 : decode cX6_dropAllowed 17 = .ok (.iload_n 2, 1) := by decide +kernel
theorem dX6_dropAllowed_18 : decode cX6_dropAllowed 18 = .ok (.if_icmp .le 17, 3) := by decide +kernel
theorem dX6_dropAllowed_21 : decode cX6_dropAllowed 21 = .ok (.aload_n 0, 1) := by decide +kernel
theorem dX6_dropAllowed_22 : decode cX6_dropAllowed 22 = .ok (.getfield 9, 3) := by decide +kernel
theorem dX6_dropAllowed_25 : decode cX6_dropAllowed 25 = .ok (.iload_n 3, 1) := by decide +kernel
theorem dX6_dropAllowed_26 : decode cX6_dropAllowed 26 = .ok (.iconst 0, 1) := by decide +kernel
theorem dX6_dropAllowed_27 : decode cX6_dropAllowed 27 = .ok (.iastore, 1) := by decide +kernel
theorem dX6_dropAllowed_28 : decode cX6_dropAllowed 28 = .ok (.aload_n 0, 1) := by decide +kernel
theorem dX6_dropAllowed_29 : decode cX6_dropAllowed 29 = .ok (.getfield 15, 3) := by decide +kernel
theorem dX6_dropAllowed_32 : decode cX6_dropAllowed 32 = .ok (.iload_n 3, 1) := by decide +kernel
theorem dX6_dropAllowed_33 : decode cX6_dropAllowed 33 = .ok (.iconst 0, 1) := by decide +kernel
theorem dX6_dropAllowed_34 : decode cX6_dropAllowed 34 = .ok (.iastore, 1) := by decide +kernel
theorem dX6_dropAllowed_35 : decode cX6_dropAllowed 35 = .ok (.iinc 3 1, 3) := by decide +kernel
theorem dX6_dropAllowed_38 : decode cX6_dropAllowed 38 = .ok (.goto (-36), 3) := by decide +kernel
theorem dX6_dropAllowed_41 : decode cX6_dropAllowed 41 = .ok (.return_, 1) := by decide +kernel
theorem dX6_countAll_0 : decode cX6_countAll 0 = .ok (.iconst 0, 1) := by decide +kernel
theorem dX6_countAll_1 : decode cX6_countAll 1 = .ok (.istore_n 1, 1) := by decide +kernel
theorem dX6_countAll_2 : decode cX6_countAll 2 = .ok (.iconst 0, 1) := by decide +kernel
theorem dX6_countAll_3 : decode cX6_countAll 3 = .ok (.istore_n 2, 1) := by decide +kernel
theorem dX6_countAll_4 : decode cX6_countAll 4 = .ok (.iload_n 2, 1) := by decide +kernel
theorem dX6_countAll_5 : decode cX6_countAll 5 = .ok (.aload_n 0, 1) := by decide +kernel
theorem dX6_countAll_6 : decode cX6_countAll 6 = .ok (.getfield 9, 3) := by decide +kernel
theorem dX6_countAll_9 : decode cX6_countAll 9 = .ok (.arraylength, 1) := by decide +kernel
theorem dX6_countAll_10 : decode cX6_countAll 10 = .ok (.if_icmp .ge 21, 3) := by decide +kernel
theorem dX6_countAll_13 : decode cX6_countAll 13 = .ok (.aload_n 0, 1) := by decide +kernel
theorem dX6_countAll_14 : decode cX6_countAll 14 = .ok (.getfield 9, 3) := by decide +kernel
theorem dX6_countAll_17 : decode cX6_countAll 17 = .ok (.iload_n 2, 1) := by decide +kernel
theorem dX6_countAll_18 : decode cX6_countAll 18 = .ok (.iaload, 1) := by decide +kernel
theorem dX6_countAll_19 : decode cX6_countAll 19 = .ok (.ifCond .le 6, 3) := by decide +kernel
theorem dX6_countAll_22 : decode cX6_countAll 22 = .ok (.iinc 1 1, 3) := by decide +kernel
theorem dX6_countAll_25 : decode cX6_countAll 25 = .ok (.iinc 2 1, 3) := by decide +kernel
theorem dX6_countAll_28 : decode cX6_countAll 28 = .ok (.goto (-24), 3) := by decide +kernel
theorem dX6_countAll_31 : decode cX6_countAll 31 = .ok (.iload_n 1, 1) := by decide +kernel
theorem dX6_countAll_32 : decode cX6_countAll 32 = .ok (.ireturn, 1) := by decide +kernel
theorem dX6_countBroken_0 : decode cX6_countBroken 0 = .ok (.iconst 0, 1) := by decide +kernel
theorem dX6_countBroken_1 : decode cX6_countBroken 1 = .ok (.istore_n 1, 1) := by decide +kernel
theorem dX6_countBroken_2 : decode cX6_countBroken 2 = .ok (.iconst 0, 1) := by decide +kernel
theorem dX6_countBroken_3 : decode cX6_countBroken 3 = .ok (.istore_n 2, 1) := by decide +kernel
theorem dX6_countBroken_4 : decode cX6_countBroken 4 = .ok (.iload_n 2, 1) := by decide +kernel
theorem dX6_countBroken_5 : decode cX6_countBroken 5 = .ok (.aload_n 0, 1) := by decide +kernel
theorem dX6_countBroken_6 : decode cX6_countBroken 6 = .ok (.getfield 24, 3) := by decide +kernel
theorem dX6_countBroken_9 : decode cX6_countBroken 9 = .ok (.getfield 96, 3) := by decide +kernel
theorem dX6_countBroken_12 : decode cX6_countBroken 12 = .ok (.if_icmp .ge 58, 3) := by decide +kernel
theorem dX6_countBroken_15 : decode cX6_countBroken 15 = .ok (.iconst 0, 1) := by decide +kernel
theorem dX6_countBroken_16 : decode cX6_countBroken 16 = .ok (.istore_n 3, 1) := by decide +kernel
theorem dX6_countBroken_17 : decode cX6_countBroken 17 = .ok (.iload_n 3, 1) := by decide +kernel
theorem dX6_countBroken_18 : decode cX6_countBroken 18 = .ok (.aload_n 0, 1) := by decide +kernel
theorem dX6_countBroken_19 : decode cX6_countBroken 19 = .ok (.getfield 24, 3) := by decide +kernel
theorem dX6_countBroken_22 : decode cX6_countBroken 22 = .ok (.getfield 96, 3) := by decide +kernel
theorem dX6_countBroken_25 : decode cX6_countBroken 25 = .ok (.if_icmp .ge 39, 3) := by decide +kernel
theorem dX6_countBroken_28 : decode cX6_countBroken 28 = .ok (.aload_n 0, 1) := by decide +kernel
theorem dX6_countBroken_29 : decode cX6_countBroken 29 = .ok (.getfield 24, 3) := by decide +kernel
theorem dX6_countBroken_32 : decode cX6_countBroken 32 = .ok (.iload_n 2, 1) := by decide +kernel
theorem dX6_countBroken_33 : decode cX6_countBroken 33 = .ok (.iload_n 3, 1) := by decide +kernel
theorem dX6_countBroken_34 : decode cX6_countBroken 34 = .ok (.invokevirtual 99, 3) := by decide +kernel
theorem dX6_countBroken_37 : decode cX6_countBroken 37 = .ok (.ifCond .eq 21, 3) := by decide +kernel
theorem dX6_countBroken_40 : decode cX6_countBroken 40 = .ok (.aload_n 0, 1) := by decide +kernel
theorem dX6_countBroken_41 : decode cX6_countBroken 41 = .ok (.getfield 18, 3) := by decide +kernel
theorem dX6_countBroken_44 : decode cX6_countBroken 44 = .ok (.iload_n 2, 1) := by decide +kernel
theorem dX6_countBroken_45 : decode cX6_countBroken 45 = .ok (.iaload, 1) := by decide +kernel
theorem dX6_countBroken_46 : decode cX6_countBroken 46 = .ok (.aload_n 0, 1) := by decide +kernel
theorem dX6_countBroken_47 : decode cX6_countBroken 47 = .ok (.getfield 18, 3) := by decide +kernel
theorem dX6_countBroken_50 : decode cX6_countBroken 50 = .ok (.iload_n 3, 1) := by decide +kernel
theorem dX6_countBroken_51 : decode cX6_countBroken 51 = .ok (.iaload, 1) := by decide +kernel
theorem dX6_countBroken_52 : decode cX6_countBroken 52 = .ok (.if_icmp .gt 6, 3) := by decide +kernel
theorem dX6_countBroken_55 : decode cX6_countBroken 55 = .ok (.iinc 1 1, 3) := by decide +kernel
theorem dX6_countBroken_58 : decode cX6_countBroken 58 = .ok (.iinc 3 1, 3) := by decide +kernel
theorem dX6_countBroken_61 : decode cX6_countBroken 61 = .ok (.goto (-44), 3) := by decide +kernel
theorem dX6_countBroken_64 : decode cX6_countBroken 64 = .ok (.iinc 2 1, 3) := by decide +kernel
theorem dX6_countBroken_67 : decode cX6_countBroken 67 = .ok (.goto (-63), 3) := by decide +kernel
theorem dX6_countBroken_70 : decode cX6_countBroken 70 = .ok (.iload_n 1, 1) := by decide +kernel
theorem dX6_countBroken_71 : decode cX6_countBroken 71 = .ok (.ireturn, 1) := by decide +kernel
theorem dX7_init_0 : decode cX7_init 0 = .ok (.aload_n 0, 1) := by decide +kernel
theorem dX7_init_1 : decode cX7_init 1 = .ok (.invokespecial 3, 3) := by decide +kernel
theorem dX7_init_4 : decode cX7_init 4 = .ok (.aload_n 0, 1) := by decide +kernel
theorem dX7_init_5 : decode cX7_init 5 = .ok (.iconst 0, 1) := by decide +kernel
theorem dX7_init_6 : decode cX7_init 6 = .ok (.putfield 9, 3) := by decide +kernel
theorem dX7_init_9 : decode cX7_init 9 = .ok (.aload_n 0, 1) := by decide +kernel
theorem dX7_init_10 : decode cX7_init 10 = .ok (.bipush 10, 2) := by decide +kernel
theorem dX7_init_12 : decode cX7_init 12 = .ok (.newarray .int, 2) := by decide +kernel
theorem dX7_init_14 : decode cX7_init 14 = .ok (.putfield 15, 3) := by decide +kernel
theorem dX7_init_17 : decode cX7_init 17 = .ok (.aload_n 0, 1) := by decide +kernel
theorem dX7_init_18 : decode cX7_init 18 = .ok (.bipush 10, 2) := by decide +kernel
theorem dX7_init_20 : decode cX7_init 20 = .ok (.newarray .int, 2) := by decide +kernel
theorem dX7_init_22 : decode cX7_init 22 = .ok (.putfield 19, 3) := by decide +kernel
theorem dX7_init_25 : decode cX7_init 25 = .ok (.aload_n 0, 1) := by decide +kernel
theorem dX7_init_26 : decode cX7_init 26 = .ok (.bipush 10, 2) := by decide +kernel
theorem dX7_init_28 : decode cX7_init 28 = .ok (.newarray .int, 2) := by decide +kernel
theorem dX7_init_30 : decode cX7_init 30 = .ok (.putfield 22, 3) := by decide +kernel
theorem dX7_init_33 : decode cX7_init 33 = .ok (.aload_n 0, 1) := by decide +kernel
theorem dX7_init_34 : decode cX7_init 34 = .ok (.bipush 10, 2) := by decide +kernel
theorem dX7_init_36 : decode cX7_init 36 = .ok (.newarray .int, 2) := by decide +kernel
theorem dX7_init_38 : decode cX7_init 38 = .ok (.putfield 25, 3) := by decide +kernel
theorem dX7_init_41 : decode cX7_init 41 = .ok (.aload_n 0, 1) := by decide +kernel
theorem dX7_init_42 : decode cX7_init 42 = .ok (.bipush 10, 2) := by decide +kernel
theorem dX7_init_44 : decode cX7_init 44 = .ok (.newarray .int, 2) := by decide +kernel
theorem dX7_init_46 : decode cX7_init 46 = .ok (.putfield 28, 3) := by decide +kernel
theorem dX7_init_49 : decode cX7_init 49 = .ok (.aload_n 0, 1) := by decide +kernel
theorem dX7_init_50 : decode cX7_init 50 = .ok (.iconst 0, 1) := by decide +kernel
theorem dX7_init_51 : decode cX7_init 51 = .ok (.putfield 31, 3) := by decide +kernel
theorem dX7_init_54 : decode cX7_init 54 = .ok (.return_, 1) := by decide +kernel
theorem dX7_link_0 : decode cX7_link 0 = .ok (.aload_n 0, 1) := by decide +kernel
theorem dX7_link_1 : decode cX7_link 1 = .ok (.iload_n 2, 1) := by decide +kernel
theorem dX7_link_2 : decode cX7_link 2 = .ok (.putfield 9, 3) := by decide +kernel
theorem dX7_link_5 : decode cX7_link 5 = .ok (.iconst 0, 1) := by decide +kernel
theorem dX7_link_6 : decode cX7_link 6 = .ok (.istore_n 3, 1) := by decide +kernel
theorem dX7_link_7 : decode cX7_link 7 = .ok (.iload_n 3, 1) := by decide +kernel
theorem dX7_link_8 : decode cX7_link 8 = .ok (.aload_n 0, 1) := by decide +kernel
theorem dX7_link_9 : decode cX7_link 9 = .ok (.getfield 9, 3) := by decide +kernel
theorem dX7_link_12 : decode cX7_link 12 = .ok (.if_icmp .ge 70, 3) := by decide +kernel
theorem dX7_link_15 : decode cX7_link 15 = .ok (.aload_n 0, 1) := by decide +kernel
theorem dX7_link_16 : decode cX7_link 16 = .ok (.getfield 15, 3) := by decide +kernel
theorem dX7_link_19 : decode cX7_link 19 = .ok (.iload_n 3, 1) := by decide +kernel
theorem dX7_link_20 : decode cX7_link 20 = .ok (.iconst 0, 1) := by decide +kernel
theorem dX7_link_21 : decode cX7_link 21 = .ok (.iastore, 1) := by decide +kernel
theorem dX7_link_22 : decode cX7_link 22 = .ok (.iconst 0, 1) := by decide +kernel
theorem dX7_link_23 : decode cX7_link 23 = .ok (.istore 4, 2) := by decide +kernel
theorem dX7_link_25 : decode cX7_link 25 = .ok (.iload 4, 2) := by decide +kernel
theorem dX7_link_27 : decode cX7_link 27 = .ok (.aload_n 0, 1) := by decide +kernel
theorem dX7_link_28 : decode cX7_link 28 = .ok (.getfield 9, 3) := by decide +kernel
theorem dX7_link_31 : decode cX7_link 31 = .ok (.if_icmp .ge 33, 3) := by decide +kernel
theorem dX7_link_34 : decode cX7_link 34 = .ok (.aload_n 1, 1) := by decide +kernel
theorem dX7_link_35 : decode cX7_link 35 = .ok (.iload_n 3, 1) := by decide +kernel
theorem dX7_link_36 : decode cX7_link 36 = .ok (.iload 4, 2) := by decide +kernel
theorem dX7_link_38 : decode cX7_link 38 = .ok (.invokestatic 34, 3) := by decide +kernel
theorem dX7_link_41 : decode cX7_link 41 = .ok (.iaload, 1) := by decide +kernel
theorem dX7_link_42 : decode cX7_link 42 = .ok (.ifCond .le 16, 3) := by decide +kernel
theorem dX7_link_45 : decode cX7_link 45 = .ok (.aload_n 0, 1) := by decide +kernel
theorem dX7_link_46 : decode cX7_link 46 = .ok (.getfield 15, 3) := by decide +kernel
theorem dX7_link_49 : decode cX7_link 49 = .ok (.iload_n 3, 1) := by decide +kernel
theorem dX7_link_50 : decode cX7_link 50 = .ok (.dup2, 1) := by decide +kernel
theorem dX7_link_51 : decode cX7_link 51 = .ok (.iaload, 1) := by decide +kernel
theorem dX7_link_52 : decode cX7_link 52 = .ok (.iconst 1, 1) := by decide +kernel
theorem dX7_link_53 : decode cX7_link 53 = .ok (.iload 4, 2) := by decide +kernel
theorem dX7_link_55 : decode cX7_link 55 = .ok (.ishl, 1) := by decide +kernel
theorem dX7_link_56 : decode cX7_link 56 = .ok (.ior, 1) := by decide +kernel
theorem dX7_link_57 : decode cX7_link 57 = .ok (.iastore, 1) := by decide +kernel
theorem dX7_link_58 : decode cX7_link 58 = .ok (.iinc 4 1, 3) := by decide +kernel
theorem dX7_link_61 : decode cX7_link 61 = .ok (.goto (-36), 3) := by decide +kernel
theorem dX7_link_64 : decode cX7_link 64 = .ok (.aload_n 0, 1) := by decide +kernel
theorem dX7_link_65 : decode cX7_link 65 = .ok (.getfield 19, 3) := by decide +kernel
theorem dX7_link_68 : decode cX7_link 68 = .ok (.iload_n 3, 1) := by decide +kernel
theorem dX7_link_69 : decode cX7_link 69 = .ok (.aload_n 0, 1) := by decide +kernel
theorem dX7_link_70 : decode cX7_link 70 = .ok (.getfield 15, 3) := by decide +kernel
theorem dX7_link_73 : decode cX7_link 73 = .ok (.iload_n 3, 1) := by decide +kernel
theorem dX7_link_74 : decode cX7_link 74 = .ok (.iaload, 1) := by decide +kernel
theorem dX7_link_75 : decode cX7_link 75 = .ok (.iastore, 1) := by decide +kernel
theorem dX7_link_76 : decode cX7_link 76 = .ok (.iinc 3 1, 3) := by decide +kernel
theorem dX7_link_79 : decode cX7_link 79 = .ok (.goto (-72), 3) := by decide +kernel
theorem dX7_link_82 : decode cX7_link 82 = .ok (.iconst 0, 1) := by decide +kernel
theorem dX7_link_83 : decode cX7_link 83 = .ok (.istore_n 3, 1) := by decide +kernel
theorem dX7_link_84 : decode cX7_link 84 = .ok (.iload_n 3, 1) := by decide +kernel
theorem dX7_link_85 : decode cX7_link 85 = .ok (.aload_n 0, 1) := by decide +kernel
theorem dX7_link_86 : decode cX7_link 86 = .ok (.getfield 9, 3) := by decide +kernel
theorem dX7_link_89 : decode cX7_link 89 = .ok (.if_icmp .ge 57, 3) := by decide +kernel
theorem dX7_link_92 : decode cX7_link 92 = .ok (.iconst 0, 1) := by decide +kernel
theorem dX7_link_93 : decode cX7_link 93 = .ok (.istore 4, 2) := by decide +kernel
theorem dX7_link_95 : decode cX7_link 95 = .ok (.iload 4, 2) := by decide +kernel
theorem dX7_link_97 : decode cX7_link 97 = .ok (.aload_n 0, 1) := by decide +kernel
theorem dX7_link_98 : decode cX7_link 98 = .ok (.getfield 9, 3) := by decide +kernel
theorem dX7_link_101 : decode cX7_link 101 = .ok (.if_icmp .ge 39, 3) := by decide +kernel
theorem dX7_link_104 : decode cX7_link 104 = .ok (.iload_n 3, 1) := by decide +kernel
theorem dX7_link_105 : decode cX7_link 105 = .ok (.aload_n 0, 1) := by decide +kernel
theorem dX7_link_106 : decode cX7_link 106 = .ok (.getfield 19, 3) := by decide +kernel
theorem dX7_link_109 : decode cX7_link 109 = .ok (.iload 4, 2) := by decide +kernel
theorem dX7_link_111 : decode cX7_link 111 = .ok (.iaload, 1) := by decide +kernel
theorem dX7_link_112 : decode cX7_link 112 = .ok (.invokestatic 38, 3) := by decide +kernel
theorem dX7_link_115 : decode cX7_link 115 = .ok (.ifCond .eq 19, 3) := by decide +kernel
theorem dX7_link_118 : decode cX7_link 118 = .ok (.aload_n 0, 1) := by decide +kernel
theorem dX7_link_119 : decode cX7_link 119 = .ok (.getfield 19, 3) := by decide +kernel
theorem dX7_link_122 : decode cX7_link 122 = .ok (.iload 4, 2) := by decide +kernel
theorem dX7_link_124 : decode cX7_link 124 = .ok (.dup2, 1) := by decide +kernel
theorem dX7_link_125 : decode cX7_link 125 = .ok (.iaload, 1) := by decide +kernel
theorem dX7_link_126 : decode cX7_link 126 = .ok (.aload_n 0, 1) := by decide +kernel
theorem dX7_link_127 : decode cX7_link 127 = .ok (.getfield 19, 3) := by decide +kernel
theorem dX7_link_130 : decode cX7_link 130 = .ok (.iload_n 3, 1) := by decide +kernel
theorem dX7_link_131 : decode cX7_link 131 = .ok (.iaload, 1) := by decide +kernel
theorem dX7_link_132 : decode cX7_link 132 = .ok (.ior, 1) := by decide +kernel
theorem dX7_link_133 : decode cX7_link 133 = .ok (.iastore, 1) := by decide +kernel
theorem dX7_link_134 : decode cX7_link 134 = .ok (.iinc 4 1, 3) := by decide +kernel
theorem dX7_link_137 : decode cX7_link 137 = .ok (.goto (-42), 3) := by decide +kernel
theorem dX7_link_140 : decode cX7_link 140 = .ok (.iinc 3 1, 3) := by decide +kernel
theorem dX7_link_143 : decode cX7_link 143 = .ok (.goto (-59), 3) := by decide +kernel
theorem dX7_link_146 : decode cX7_link 146 = .ok (.return_, 1) := by decide +kernel
theorem dX7_isTie_0 : decode cX7_isTie 0 = .ok (.iload_n 2, 1) := by decide +kernel
theorem dX7_isTie_1 : decode cX7_isTie 1 = .ok (.aload_n 0, 1) := by decide +kernel
theorem dX7_isTie_2 : decode cX7_isTie 2 = .ok (.getfield 15, 3) := by decide +kernel
theorem dX7_isTie_5 : decode cX7_isTie 5 = .ok (.iload_n 1, 1) := by decide +kernel
theorem dX7_isTie_6 : decode cX7_isTie 6 = .ok (.iaload, 1) := by decide +kernel
theorem dX7_isTie_7 : decode cX7_isTie 7 = .ok (.invokestatic 38, 3) := by decide +kernel
theorem dX7_isTie_10 : decode cX7_isTie 10 = .ok (.ireturn, 1) := by decide +kernel
theorem dX7_areTogether_0 : decode cX7_areTogether 0 = .ok (.iload_n 1, 1) := by decide +kernel
theorem dX7_areTogether_1 : decode cX7_areTogether 1 = .ok (.iload_n 2, 1) := by decide +kernel
theorem dX7_areTogether_2 : decode cX7_areTogether 2 = .ok (.if_icmp .eq 29, 3) := by decide +kernel
theorem dX7_areTogether_5 : decode cX7_areTogether 5 = .ok (.iload_n 2, 1) := by decide +kernel
theorem dX7_areTogether_6 : decode cX7_areTogether 6 = .ok (.aload_n 0, 1) := by decide +kernel
theorem dX7_areTogether_7 : decode cX7_areTogether 7 = .ok (.getfield 19, 3) := by decide +kernel
theorem dX7_areTogether_10 : decode cX7_areTogether 10 = .ok (.iload_n 1, 1) := by decide +kernel
theorem dX7_areTogether_11 : decode cX7_areTogether 11 = .ok (.iaload, 1) := by decide +kernel
theorem dX7_areTogether_12 : decode cX7_areTogether 12 = .ok (.invokestatic 38, 3) := by decide +kernel
theorem dX7_areTogether_15 : decode cX7_areTogether 15 = .ok (.ifCond .eq 20, 3) := by decide +kernel
theorem dX7_areTogether_18 : decode cX7_areTogether 18 = .ok (.iload_n 1, 1) := by decide +kernel
theorem dX7_areTogether_19 : decode cX7_areTogether 19 = .ok (.aload_n 0, 1) := by decide +kernel
theorem dX7_areTogether_20 : decode cX7_areTogether 20 = .ok (.getfield 19, 3) := by decide +kernel
theorem dX7_areTogether_23 : decode cX7_areTogether 23 = .ok (.iload_n 2, 1) := by decide +kernel
theorem dX7_areTogether_24 : decode cX7_areTogether 24 = .ok (.iaload, 1) := by decide +kernel
theorem dX7_areTogether_25 : decode cX7_areTogether 25 = .ok (.invokestatic 38, 3) := by decide +kernel
theorem dX7_areTogether_28 : decode cX7_areTogether 28 = .ok (.ifCond .eq 7, 3) := by decide +kernel
theorem dX7_areTogether_31 : decode cX7_areTogether 31 = .ok (.iconst 1, 1) := by decide +kernel
theorem dX7_areTogether_32 : decode cX7_areTogether 32 = .ok (.goto 4, 3) := by decide +kernel
theorem dX7_areTogether_35 : decode cX7_areTogether 35 = .ok (.iconst 0, 1) := by decide +kernel
theorem dX7_areTogether_36 : decode cX7_areTogether 36 = .ok (.ireturn, 1) := by decide +kernel
theorem dX7_isRingTie_0 : decode cX7_isRingTie 0 = .ok (.aload_n 0, 1) := by decide +kernel
theorem dX7_isRingTie_1 : decode cX7_isRingTie 1 = .ok (.iload_n 1, 1) := by decide +kernel
theorem dX7_isRingTie_2 : decode cX7_isRingTie 2 = .ok (.iload_n 2, 1) := by decide +kernel
theorem dX7_isRingTie_3 : decode cX7_isRingTie 3 = .ok (.invokevirtual 42, 3) := by decide +kernel
theorem dX7_isRingTie_6 : decode cX7_isRingTie 6 = .ok (.ifCond .eq 20, 3) := by decide +kernel
theorem dX7_isRingTie_9 : decode cX7_isRingTie 9 = .ok (.iload_n 1, 1) := by decide +kernel
theorem dX7_isRingTie_10 : decode cX7_isRingTie 10 = .ok (.aload_n 0, 1) := by decide +kernel
theorem dX7_isRingTie_11 : decode cX7_isRingTie 11 = .ok (.getfield 19, 3) := by decide +kernel
theorem dX7_isRingTie_14 : decode cX7_isRingTie 14 = .ok (.iload_n 2, 1) := by decide +kernel
theorem dX7_isRingTie_15 : decode cX7_isRingTie 15 = .ok (.iaload, 1) := by decide +kernel
theorem dX7_isRingTie_16 : decode cX7_isRingTie 16 = .ok (.invokestatic 38, 3) := by decide +kernel
theorem dX7_isRingTie_19 : decode cX7_isRingTie 19 = .ok (.ifCond .eq 7, 3) := by decide +kernel
theorem dX7_isRingTie_22 : decode cX7_isRingTie 22 = .ok (.iconst 1, 1) := by decide +kernel
theorem dX7_isRingTie_23 : decode cX7_isRingTie 23 = .ok (.goto 4, 3) := by decide +kernel
theorem dX7_isRingTie_26 : decode cX7_isRingTie 26 = .ok (.iconst 0, 1) := by decide +kernel
theorem dX7_isRingTie_27 : decode cX7_isRingTie 27 = .ok (.ireturn, 1) := by decide +kernel
theorem dX7_leastOfGroup_0 : decode cX7_leastOfGroup 0 = .ok (.iconst 0, 1) := by decide +kernel
theorem dX7_leastOfGroup_1 : decode cX7_leastOfGroup 1 = .ok (.istore_n 2, 1) := by decide +kernel
theorem dX7_leastOfGroup_2 : decode cX7_leastOfGroup 2 = .ok (.iload_n 2, 1) := by decide +kernel
theorem dX7_leastOfGroup_3 : decode cX7_leastOfGroup 3 = .ok (.iload_n 1, 1) := by decide +kernel
theorem dX7_leastOfGroup_4 : decode cX7_leastOfGroup 4 = .ok (.if_icmp .ge 20, 3) := by decide +kernel
theorem dX7_leastOfGroup_7 : decode cX7_leastOfGroup 7 = .ok (.aload_n 0, 1) := by decide +kernel
theorem dX7_leastOfGroup_8 : decode cX7_leastOfGroup 8 = .ok (.iload_n 1, 1) := by decide +kernel
theorem dX7_leastOfGroup_9 : decode cX7_leastOfGroup 9 = .ok (.iload_n 2, 1) := by decide +kernel
theorem dX7_leastOfGroup_10 : decode cX7_leastOfGroup 10 = .ok (.invokevirtual 45, 3) := by decide +kernel
theorem dX7_leastOfGroup_13 : decode cX7_leastOfGroup 13 = .ok (.ifCond .eq 5, 3) := by decide +kernel
theorem dX7_leastOfGroup_16 : decode cX7_leastOfGroup 16 = .ok (.iload_n 2, 1) := by decide +kernel
theorem dX7_leastOfGroup_17 : decode cX7_leastOfGroup 17 = .ok (.ireturn, 1) := by decide +kernel
theorem dX7_leastOfGroup_18 : decode cX7_leastOfGroup 18 = .ok (.iinc 2 1, 3) := by decide +kernel
theorem dX7_leastOfGroup_21 : decode cX7_leastOfGroup 21 = .ok (.goto (-19), 3) := by decide +kernel
theorem dX7_leastOfGroup_24 : decode cX7_leastOfGroup 24 = .ok (.iload_n 1, 1) := by decide +kernel
theorem dX7_leastOfGroup_25 : decode cX7_leastOfGroup 25 = .ok (.ireturn, 1) := by decide +kernel
theorem dX7_countGroups_0 : decode cX7_countGroups 0 = .ok (.iconst 0, 1) := by decide +kernel
theorem dX7_countGroups_1 : decode cX7_countGroups 1 = .ok (.istore_n 1, 1) := by decide +kernel
theorem dX7_countGroups_2 : decode cX7_countGroups 2 = .ok (.iconst 0, 1) := by decide +kernel
theorem dX7_countGroups_3 : decode cX7_countGroups 3 = .ok (.istore_n 2, 1) := by decide +kernel
theorem dX7_countGroups_4 : decode cX7_countGroups 4 = .ok (.iload_n 2, 1) := by decide +kernel
theorem dX7_countGroups_5 : decode cX7_countGroups 5 = .ok (.aload_n 0, 1) := by decide +kernel
theorem dX7_countGroups_6 : decode cX7_countGroups 6 = .ok (.getfield 9, 3) := by decide +kernel
theorem dX7_countGroups_9 : decode cX7_countGroups 9 = .ok (.if_icmp .ge 34, 3) := by decide +kernel
theorem dX7_countGroups_12 : decode cX7_countGroups 12 = .ok (.iload_n 2, 1) := by decide +kernel
theorem dX7_countGroups_13 : decode cX7_countGroups 13 = .ok (.aload_n 0, 1) := by decide +kernel
theorem dX7_countGroups_14 : decode cX7_countGroups 14 = .ok (.getfield 19, 3) := by decide +kernel
theorem dX7_countGroups_17 : decode cX7_countGroups 17 = .ok (.iload_n 2, 1) := by decide +kernel
theorem dX7_countGroups_18 : decode cX7_countGroups 18 = .ok (.iaload, 1) := by decide +kernel
theorem dX7_countGroups_19 : decode cX7_countGroups 19 = .ok (.invokestatic 38, 3) := by decide +kernel
theorem dX7_countGroups_22 : decode cX7_countGroups 22 = .ok (.ifCond .eq 15, 3) := by decide +kernel
theorem dX7_countGroups_25 : decode cX7_countGroups 25 = .ok (.aload_n 0, 1) := by decide +kernel
theorem dX7_countGroups_26 : decode cX7_countGroups 26 = .ok (.iload_n 2, 1) := by decide +kernel
theorem dX7_countGroups_27 : decode cX7_countGroups 27 = .ok (.invokevirtual 48, 3) := by decide +kernel
theorem dX7_countGroups_30 : decode cX7_countGroups 30 = .ok (.iload_n 2, 1) := by decide +kernel
theorem dX7_countGroups_31 : decode cX7_countGroups 31 = .ok (.if_icmp .ne 6, 3) := by decide +kernel
theorem dX7_countGroups_34 : decode cX7_countGroups 34 = .ok (.iinc 1 1, 3) := by decide +kernel
theorem dX7_countGroups_37 : decode cX7_countGroups 37 = .ok (.iinc 2 1, 3) := by decide +kernel
theorem dX7_countGroups_40 : decode cX7_countGroups 40 = .ok (.goto (-36), 3) := by decide +kernel
theorem dX7_countGroups_43 : decode cX7_countGroups 43 = .ok (.iload_n 1, 1) := by decide +kernel
theorem dX7_countGroups_44 : decode cX7_countGroups 44 = .ok (.ireturn, 1) := by decide +kernel
theorem dX7_layerOf_0 : decode cX7_layerOf 0 = .ok (.iconst 0, 1) := by decide +kernel
theorem dX7_layerOf_1 : decode cX7_layerOf 1 = .ok (.istore_n 2, 1) := by decide +kernel
theorem dX7_layerOf_2 : decode cX7_layerOf 2 = .ok (.iload_n 2, 1) := by decide +kernel
theorem dX7_layerOf_3 : decode cX7_layerOf 3 = .ok (.aload_n 0, 1) := by decide +kernel
theorem dX7_layerOf_4 : decode cX7_layerOf 4 = .ok (.getfield 9, 3) := by decide +kernel
theorem dX7_layerOf_7 : decode cX7_layerOf 7 = .ok (.if_icmp .ge 16, 3) := by decide +kernel
theorem dX7_layerOf_10 : decode cX7_layerOf 10 = .ok (.aload_n 0, 1) := by decide +kernel
theorem dX7_layerOf_11 : decode cX7_layerOf 11 = .ok (.getfield 25, 3) := by decide +kernel
theorem dX7_layerOf_14 : decode cX7_layerOf 14 = .ok (.iload_n 2, 1) := by decide +kernel
theorem dX7_layerOf_15 : decode cX7_layerOf 15 = .ok (.iconst 0, 1) := by decide +kernel
theorem dX7_layerOf_16 : decode cX7_layerOf 16 = .ok (.iastore, 1) := by decide +kernel
theorem dX7_layerOf_17 : decode cX7_layerOf 17 = .ok (.iinc 2 1, 3) := by decide +kernel
theorem dX7_layerOf_20 : decode cX7_layerOf 20 = .ok (.goto (-18), 3) := by decide +kernel
theorem dX7_layerOf_23 : decode cX7_layerOf 23 = .ok (.iconst 1, 1) := by decide +kernel
theorem dX7_layerOf_24 : decode cX7_layerOf 24 = .ok (.istore_n 2, 1) := by decide +kernel
theorem dX7_layerOf_25 : decode cX7_layerOf 25 = .ok (.iload_n 2, 1) := by decide +kernel
theorem dX7_layerOf_26 : decode cX7_layerOf 26 = .ok (.aload_n 0, 1) := by decide +kernel
theorem dX7_layerOf_27 : decode cX7_layerOf 27 = .ok (.getfield 9, 3) := by decide +kernel
theorem dX7_layerOf_30 : decode cX7_layerOf 30 = .ok (.if_icmp .ge 84, 3) := by decide +kernel
theorem dX7_layerOf_33 : decode cX7_layerOf 33 = .ok (.iconst 0, 1) := by decide +kernel
theorem dX7_layerOf_34 : decode cX7_layerOf 34 = .ok (.istore_n 3, 1) := by decide +kernel
theorem dX7_layerOf_35 : decode cX7_layerOf 35 = .ok (.iload_n 3, 1) := by decide +kernel
theorem dX7_layerOf_36 : decode cX7_layerOf 36 = .ok (.aload_n 0, 1) := by decide +kernel
theorem dX7_layerOf_37 : decode cX7_layerOf 37 = .ok (.getfield 9, 3) := by decide +kernel
theorem dX7_layerOf_40 : decode cX7_layerOf 40 = .ok (.if_icmp .ge 68, 3) := by decide +kernel
theorem dX7_layerOf_43 : decode cX7_layerOf 43 = .ok (.iconst 0, 1) := by decide +kernel
theorem dX7_layerOf_44 : decode cX7_layerOf 44 = .ok (.istore 4, 2) := by decide +kernel
theorem dX7_layerOf_46 : decode cX7_layerOf 46 = .ok (.iload 4, 2) := by decide +kernel
theorem dX7_layerOf_48 : decode cX7_layerOf 48 = .ok (.aload_n 0, 1) := by decide +kernel
theorem dX7_layerOf_49 : decode cX7_layerOf 49 = .ok (.getfield 9, 3) := by decide +kernel
theorem dX7_layerOf_52 : decode cX7_layerOf 52 = .ok (.if_icmp .ge 50, 3) := by decide +kernel
theorem dX7_layerOf_55 : decode cX7_layerOf 55 = .ok (.aload_n 0, 1) := by decide +kernel
theorem dX7_layerOf_56 : decode cX7_layerOf 56 = .ok (.iload_n 3, 1) := by decide +kernel
theorem dX7_layerOf_57 : decode cX7_layerOf 57 = .ok (.iload 4, 2) := by decide +kernel
theorem dX7_layerOf_59 : decode cX7_layerOf 59 = .ok (.invokevirtual 42, 3) := by decide +kernel
theorem dX7_layerOf_62 : decode cX7_layerOf 62 = .ok (.ifCond .eq 34, 3) := by decide +kernel
theorem dX7_layerOf_65 : decode cX7_layerOf 65 = .ok (.aload_n 0, 1) := by decide +kernel
theorem dX7_layerOf_66 : decode cX7_layerOf 66 = .ok (.getfield 25, 3) := by decide +kernel
theorem dX7_layerOf_69 : decode cX7_layerOf 69 = .ok (.iload_n 3, 1) := by decide +kernel
theorem dX7_layerOf_70 : decode cX7_layerOf 70 = .ok (.iaload, 1) := by decide +kernel
theorem dX7_layerOf_71 : decode cX7_layerOf 71 = .ok (.aload_n 0, 1) := by decide +kernel
theorem dX7_layerOf_72 : decode cX7_layerOf 72 = .ok (.getfield 25, 3) := by decide +kernel
theorem dX7_layerOf_75 : decode cX7_layerOf 75 = .ok (.iload 4, 2) := by decide +kernel
theorem dX7_layerOf_77 : decode cX7_layerOf 77 = .ok (.iaload, 1) := by decide +kernel
theorem dX7_layerOf_78 : decode cX7_layerOf 78 = .ok (.if_icmp .gt 18, 3) := by decide +kernel
theorem dX7_layerOf_81 : decode cX7_layerOf 81 = .ok (.aload_n 0, 1) := by decide +kernel
theorem dX7_layerOf_82 : decode cX7_layerOf 82 = .ok (.getfield 25, 3) := by decide +kernel
theorem dX7_layerOf_85 : decode cX7_layerOf 85 = .ok (.iload_n 3, 1) := by decide +kernel
theorem dX7_layerOf_86 : decode cX7_layerOf 86 = .ok (.aload_n 0, 1) := by decide +kernel
theorem dX7_layerOf_87 : decode cX7_layerOf 87 = .ok (.getfield 25, 3) := by decide +kernel
theorem dX7_layerOf_90 : decode cX7_layerOf 90 = .ok (.iload 4, 2) := by decide +kernel
theorem dX7_layerOf_92 : decode cX7_layerOf 92 = .ok (.iaload, 1) := by decide +kernel
theorem dX7_layerOf_93 : decode cX7_layerOf 93 = .ok (.iconst 1, 1) := by decide +kernel
theorem dX7_layerOf_94 : decode cX7_layerOf 94 = .ok (.iadd, 1) := by decide +kernel
theorem dX7_layerOf_95 : decode cX7_layerOf 95 = .ok (.iastore, 1) := by decide +kernel
theorem dX7_layerOf_96 : decode cX7_layerOf 96 = .ok (.iinc 4 1, 3) := by decide +kernel
theorem dX7_layerOf_99 : decode cX7_layerOf 99 = .ok (.goto (-53), 3) := by decide +kernel
theorem dX7_layerOf_102 : decode cX7_layerOf 102 = .ok (.iinc 3 1, 3) := by decide +kernel
theorem dX7_layerOf_105 : decode cX7_layerOf 105 = .ok (.goto (-70), 3) := by decide +kernel
theorem dX7_layerOf_108 : decode cX7_layerOf 108 = .ok (.iinc 2 1, 3) := by decide +kernel
theorem dX7_layerOf_111 : decode cX7_layerOf 111 = .ok (.goto (-86), 3) := by decide +kernel
theorem dX7_layerOf_114 : decode cX7_layerOf 114 = .ok (.aload_n 0, 1) := by decide +kernel
theorem dX7_layerOf_115 : decode cX7_layerOf 115 = .ok (.getfield 25, 3) := by decide +kernel
theorem dX7_layerOf_118 : decode cX7_layerOf 118 = .ok (.iload_n 1, 1) := by decide +kernel
theorem dX7_layerOf_119 : decode cX7_layerOf 119 = .ok (.iaload, 1) := by decide +kernel
theorem dX7_layerOf_120 : decode cX7_layerOf 120 = .ok (.ireturn, 1) := by decide +kernel
theorem dX7_countFreePairs_0 : decode cX7_countFreePairs 0 = .ok (.iconst 0, 1) := by decide +kernel
theorem dX7_countFreePairs_1 : decode cX7_countFreePairs 1 = .ok (.istore_n 1, 1) := by decide +kernel
theorem dX7_countFreePairs_2 : decode cX7_countFreePairs 2 = .ok (.iconst 0, 1) := by decide +kernel
theorem dX7_countFreePairs_3 : decode cX7_countFreePairs 3 = .ok (.istore_n 2, 1) := by decide +kernel
theorem dX7_countFreePairs_4 : decode cX7_countFreePairs 4 = .ok (.iload_n 2, 1) := by decide +kernel
theorem dX7_countFreePairs_5 : decode cX7_countFreePairs 5 = .ok (.aload_n 0, 1) := by decide +kernel
theorem dX7_countFreePairs_6 : decode cX7_countFreePairs 6 = .ok (.getfield 9, 3) := by decide +kernel
theorem dX7_countFreePairs_9 : decode cX7_countFreePairs 9 = .ok (.if_icmp .ge 56, 3) := by decide +kernel
theorem dX7_countFreePairs_12 : decode cX7_countFreePairs 12 = .ok (.iload_n 2, 1) := by decide +kernel
theorem dX7_countFreePairs_13 : decode cX7_countFreePairs 13 = .ok (.iconst 1, 1) := by decide +kernel
theorem dX7_countFreePairs_14 : decode cX7_countFreePairs 14 = .ok (.iadd, 1) := by decide +kernel
theorem dX7_countFreePairs_15 : decode cX7_countFreePairs 15 = .ok (.istore_n 3, 1) := by decide +kernel
theorem dX7_countFreePairs_16 : decode cX7_countFreePairs 16 = .ok (.iload_n 3, 1) := by decide +kernel
theorem dX7_countFreePairs_17 : decode cX7_countFreePairs 17 = .ok (.aload_n 0, 1) := by decide +kernel
theorem dX7_countFreePairs_18 : decode cX7_countFreePairs 18 = .ok (.getfield 9, 3) := by decide +kernel
theorem dX7_countFreePairs_21 : decode cX7_countFreePairs 21 = .ok (.if_icmp .ge 38, 3) := by decide +kernel
theorem dX7_countFreePairs_24 : decode cX7_countFreePairs 24 = .ok (.iload_n 3, 1) := by decide +kernel
theorem dX7_countFreePairs_25 : decode cX7_countFreePairs 25 = .ok (.aload_n 0, 1) := by decide +kernel
theorem dX7_countFreePairs_26 : decode cX7_countFreePairs 26 = .ok (.getfield 19, 3) := by decide +kernel
theorem dX7_countFreePairs_29 : decode cX7_countFreePairs 29 = .ok (.iload_n 2, 1) := by decide +kernel
theorem dX7_countFreePairs_30 : decode cX7_countFreePairs 30 = .ok (.iaload, 1) := by decide +kernel
theorem dX7_countFreePairs_31 : decode cX7_countFreePairs 31 = .ok (.invokestatic 38, 3) := by decide +kernel
theorem dX7_countFreePairs_34 : decode cX7_countFreePairs 34 = .ok (.ifCond .ne 19, 3) := by decide +kernel
theorem dX7_countFreePairs_37 : decode cX7_countFreePairs 37 = .ok (.iload_n 2, 1) := by decide +kernel
theorem dX7_countFreePairs_38 : decode cX7_countFreePairs 38 = .ok (.aload_n 0, 1) := by decide +kernel
theorem dX7_countFreePairs_39 : decode cX7_countFreePairs 39 = .ok (.getfield 19, 3) := by decide +kernel
theorem dX7_countFreePairs_42 : decode cX7_countFreePairs 42 = .ok (.iload_n 3, 1) := by decide +kernel
theorem dX7_countFreePairs_43 : decode cX7_countFreePairs 43 = .ok (.iaload, 1) := by decide +kernel
theorem dX7_countFreePairs_44 : decode cX7_countFreePairs 44 = .ok (.invokestatic 38, 3) := by decide +kernel
theorem dX7_countFreePairs_47 : decode cX7_countFreePairs 47 = .ok (.ifCond .ne 6, 3) := by decide +kernel
theorem dX7_countFreePairs_50 : decode cX7_countFreePairs 50 = .ok (.iinc 1 1, 3) := by decide +kernel
theorem dX7_countFreePairs_53 : decode cX7_countFreePairs 53 = .ok (.iinc 3 1, 3) := by decide +kernel
theorem dX7_countFreePairs_56 : decode cX7_countFreePairs 56 = .ok (.goto (-40), 3) := by decide +kernel
theorem dX7_countFreePairs_59 : decode cX7_countFreePairs 59 = .ok (.iinc 2 1, 3) := by decide +kernel
theorem dX7_countFreePairs_62 : decode cX7_countFreePairs 62 = .ok (.goto (-58), 3) := by decide +kernel
theorem dX7_countFreePairs_65 : decode cX7_countFreePairs 65 = .ok (.iload_n 1, 1) := by decide +kernel
theorem dX7_countFreePairs_66 : decode cX7_countFreePairs 66 = .ok (.ireturn, 1) := by decide +kernel
theorem dX7_measureTo_0 : decode cX7_measureTo 0 = .ok (.iconst 0, 1) := by decide +kernel
theorem dX7_measureTo_1 : decode cX7_measureTo 1 = .ok (.istore_n 2, 1) := by decide +kernel
theorem dX7_measureTo_2 : decode cX7_measureTo 2 = .ok (.iload_n 2, 1) := by decide +kernel
theorem dX7_measureTo_3 : decode cX7_measureTo 3 = .ok (.aload_n 0, 1) := by decide +kernel
theorem dX7_measureTo_4 : decode cX7_measureTo 4 = .ok (.getfield 9, 3) := by decide +kernel
theorem dX7_measureTo_7 : decode cX7_measureTo 7 = .ok (.if_icmp .ge 16, 3) := by decide +kernel
theorem dX7_measureTo_10 : decode cX7_measureTo 10 = .ok (.aload_n 0, 1) := by decide +kernel
theorem dX7_measureTo_11 : decode cX7_measureTo 11 = .ok (.getfield 22, 3) := by decide +kernel
theorem dX7_measureTo_14 : decode cX7_measureTo 14 = .ok (.iload_n 2, 1) := by decide +kernel
theorem dX7_measureTo_15 : decode cX7_measureTo 15 = .ok (.iconst (-1), 1) := by decide +kernel
theorem dX7_measureTo_16 : decode cX7_measureTo 16 = .ok (.iastore, 1) := by decide +kernel
theorem dX7_measureTo_17 : decode cX7_measureTo 17 = .ok (.iinc 2 1, 3) := by decide +kernel
theorem dX7_measureTo_20 : decode cX7_measureTo 20 = .ok (.goto (-18), 3) := by decide +kernel
theorem dX7_measureTo_23 : decode cX7_measureTo 23 = .ok (.aload_n 0, 1) := by decide +kernel
theorem dX7_measureTo_24 : decode cX7_measureTo 24 = .ok (.getfield 22, 3) := by decide +kernel
theorem dX7_measureTo_27 : decode cX7_measureTo 27 = .ok (.iload_n 1, 1) := by decide +kernel
theorem dX7_measureTo_28 : decode cX7_measureTo 28 = .ok (.iconst 0, 1) := by decide +kernel
theorem dX7_measureTo_29 : decode cX7_measureTo 29 = .ok (.iastore, 1) := by decide +kernel
theorem dX7_measureTo_30 : decode cX7_measureTo 30 = .ok (.iconst 1, 1) := by decide +kernel
theorem dX7_measureTo_31 : decode cX7_measureTo 31 = .ok (.iload_n 1, 1) := by decide +kernel
theorem dX7_measureTo_32 : decode cX7_measureTo 32 = .ok (.ishl, 1) := by decide +kernel
theorem dX7_measureTo_33 : decode cX7_measureTo 33 = .ok (.istore_n 2, 1) := by decide +kernel
theorem dX7_measureTo_34 : decode cX7_measureTo 34 = .ok (.iconst 1, 1) := by decide +kernel
theorem dX7_measureTo_35 : decode cX7_measureTo 35 = .ok (.istore_n 3, 1) := by decide +kernel
theorem dX7_measureTo_36 : decode cX7_measureTo 36 = .ok (.iload_n 3, 1) := by decide +kernel
theorem dX7_measureTo_37 : decode cX7_measureTo 37 = .ok (.aload_n 0, 1) := by decide +kernel
theorem dX7_measureTo_38 : decode cX7_measureTo 38 = .ok (.getfield 9, 3) := by decide +kernel
theorem dX7_measureTo_41 : decode cX7_measureTo 41 = .ok (.if_icmp .ge 71, 3) := by decide +kernel
theorem dX7_measureTo_44 : decode cX7_measureTo 44 = .ok (.iload_n 2, 1) := by decide +kernel
theorem dX7_measureTo_45 : decode cX7_measureTo 45 = .ok (.istore 4, 2) := by decide +kernel
theorem dX7_measureTo_47 : decode cX7_measureTo 47 = .ok (.iconst 0, 1) := by decide +kernel
theorem dX7_measureTo_48 : decode cX7_measureTo 48 = .ok (.istore 5, 2) := by decide +kernel
theorem dX7_measureTo_50 : decode cX7_measureTo 50 = .ok (.iload 5, 2) := by decide +kernel
theorem dX7_measureTo_52 : decode cX7_measureTo 52 = .ok (.aload_n 0, 1) := by decide +kernel
theorem dX7_measureTo_53 : decode cX7_measureTo 53 = .ok (.getfield 9, 3) := by decide +kernel
theorem dX7_measureTo_56 : decode cX7_measureTo 56 = .ok (.if_icmp .ge 47, 3) := by decide +kernel
theorem dX7_measureTo_59 : decode cX7_measureTo 59 = .ok (.iload 5, 2) := by decide +kernel
theorem dX7_measureTo_61 : decode cX7_measureTo 61 = .ok (.iload_n 2, 1) := by decide +kernel
theorem dX7_measureTo_62 : decode cX7_measureTo 62 = .ok (.invokestatic 38, 3) := by decide +kernel
theorem dX7_measureTo_65 : decode cX7_measureTo 65 = .ok (.ifCond .ne 32, 3) := by decide +kernel
theorem dX7_measureTo_68 : decode cX7_measureTo 68 = .ok (.aload_n 0, 1) := by decide +kernel
theorem dX7_measureTo_69 : decode cX7_measureTo 69 = .ok (.getfield 15, 3) := by decide +kernel
theorem dX7_measureTo_72 : decode cX7_measureTo 72 = .ok (.iload 5, 2) := by decide +kernel
theorem dX7_measureTo_74 : decode cX7_measureTo 74 = .ok (.iaload, 1) := by decide +kernel
theorem dX7_measureTo_75 : decode cX7_measureTo 75 = .ok (.iload_n 2, 1) := by decide +kernel
theorem dX7_measureTo_76 : decode cX7_measureTo 76 = .ok (.iand, 1) := by decide +kernel
theorem dX7_measureTo_77 : decode cX7_measureTo 77 = .ok (.ifCond .eq 20, 3) := by decide +kernel
theorem dX7_measureTo_80 : decode cX7_measureTo 80 = .ok (.aload_n 0, 1) := by decide +kernel
theorem dX7_measureTo_81 : decode cX7_measureTo 81 = .ok (.getfield 22, 3) := by decide +kernel
theorem dX7_measureTo_84 : decode cX7_measureTo 84 = .ok (.iload 5, 2) := by decide +kernel
theorem dX7_measureTo_86 : decode cX7_measureTo 86 = .ok (.iload_n 3, 1) := by decide +kernel
theorem dX7_measureTo_87 : decode cX7_measureTo 87 = .ok (.iastore, 1) := by decide +kernel
theorem dX7_measureTo_88 : decode cX7_measureTo 88 = .ok (.iload 4, 2) := by decide +kernel
theorem dX7_measureTo_90 : decode cX7_measureTo 90 = .ok (.iconst 1, 1) := by decide +kernel
theorem dX7_measureTo_91 : decode cX7_measureTo 91 = .ok (.iload 5, 2) := by decide +kernel
theorem dX7_measureTo_93 : decode cX7_measureTo 93 = .ok (.ishl, 1) := by decide +kernel
theorem dX7_measureTo_94 : decode cX7_measureTo 94 = .ok (.ior, 1) := by decide +kernel
theorem dX7_measureTo_95 : decode cX7_measureTo 95 = .ok (.istore 4, 2) := by decide +kernel
theorem dX7_measureTo_97 : decode cX7_measureTo 97 = .ok (.iinc 5 1, 3) := by decide +kernel
theorem dX7_measureTo_100 : decode cX7_measureTo 100 = .ok (.goto (-50), 3) := by decide +kernel
theorem dX7_measureTo_103 : decode cX7_measureTo 103 = .ok (.iload 4, 2) := by decide +kernel
theorem dX7_measureTo_105 : decode cX7_measureTo 105 = .ok (.istore_n 2, 1) := by decide +kernel
theorem dX7_measureTo_106 : decode cX7_measureTo 106 = .ok (.iinc 3 1, 3) := by decide +kernel
theorem dX7_measureTo_109 : decode cX7_measureTo 109 = .ok (.goto (-73), 3) := by decide +kernel
theorem dX7_measureTo_112 : decode cX7_measureTo 112 = .ok (.return_, 1) := by decide +kernel
theorem dX7_findRing_0 : decode cX7_findRing 0 = .ok (.aload_n 0, 1) := by decide +kernel
theorem dX7_findRing_1 : decode cX7_findRing 1 = .ok (.iconst 0, 1) := by decide +kernel
theorem dX7_findRing_2 : decode cX7_findRing 2 = .ok (.putfield 31, 3) := by decide +kernel
theorem dX7_findRing_5 : decode cX7_findRing 5 = .ok (.aload_n 0, 1) := by decide +kernel
theorem dX7_findRing_6 : decode cX7_findRing 6 = .ok (.iload_n 1, 1) := by decide +kernel
theorem dX7_findRing_7 : decode cX7_findRing 7 = .ok (.iload_n 2, 1) := by decide +kernel
theorem dX7_findRing_8 : decode cX7_findRing 8 = .ok (.invokevirtual 52, 3) := by decide +kernel
theorem dX7_findRing_11 : decode cX7_findRing 11 = .ok (.ifCond .eq 61, 3) := by decide +kernel
theorem dX7_findRing_14 : decode cX7_findRing 14 = .ok (.aload_n 0, 1) := by decide +kernel
theorem dX7_findRing_15 : decode cX7_findRing 15 = .ok (.iload_n 1, 1) := by decide +kernel
theorem dX7_findRing_16 : decode cX7_findRing 16 = .ok (.invokevirtual 55, 3) := by decide +kernel
theorem dX7_findRing_19 : decode cX7_findRing 19 = .ok (.aload_n 0, 1) := by decide +kernel
theorem dX7_findRing_20 : decode cX7_findRing 20 = .ok (.getfield 28, 3) := by decide +kernel
theorem dX7_findRing_23 : decode cX7_findRing 23 = .ok (.iconst 0, 1) := by decide +kernel
theorem dX7_findRing_24 : decode cX7_findRing 24 = .ok (.iload_n 1, 1) := by decide +kernel
theorem dX7_findRing_25 : decode cX7_findRing 25 = .ok (.iastore, 1) := by decide +kernel
theorem dX7_findRing_26 : decode cX7_findRing 26 = .ok (.aload_n 0, 1) := by decide +kernel
theorem dX7_findRing_27 : decode cX7_findRing 27 = .ok (.aload_n 0, 1) := by decide +kernel
theorem dX7_findRing_28 : decode cX7_findRing 28 = .ok (.getfield 22, 3) := by decide +kernel
theorem dX7_findRing_31 : decode cX7_findRing 31 = .ok (.iload_n 2, 1) := by decide +kernel
theorem dX7_findRing_32 : decode cX7_findRing 32 = .ok (.iaload, 1) := by decide +kernel
theorem dX7_findRing_33 : decode cX7_findRing 33 = .ok (.iconst 1, 1) := by decide +kernel
theorem dX7_findRing_34 : decode cX7_findRing 34 = .ok (.iadd, 1) := by decide +kernel
theorem dX7_findRing_35 : decode cX7_findRing 35 = .ok (.putfield 31, 3) := by decide +kernel
theorem dX7_findRing_38 : decode cX7_findRing 38 = .ok (.iload_n 2, 1) := by decide +kernel
theorem dX7_findRing_39 : decode cX7_findRing 39 = .ok (.istore_n 3, 1) := by decide +kernel
theorem dX7_findRing_40 : decode cX7_findRing 40 = .ok (.iconst 1, 1) := by decide +kernel
theorem dX7_findRing_41 : decode cX7_findRing 41 = .ok (.istore 4, 2) := by decide +kernel
theorem dX7_findRing_43 : decode cX7_findRing 43 = .ok (.iload 4, 2) := by decide +kernel
theorem dX7_findRing_45 : decode cX7_findRing 45 = .ok (.aload_n 0, 1) := by decide +kernel
theorem dX7_findRing_46 : decode cX7_findRing 46 = .ok (.getfield 31, 3) := by decide +kernel
theorem dX7_findRing_49 : decode cX7_findRing 49 = .ok (.if_icmp .ge 23, 3) := by decide +kernel
theorem dX7_findRing_52 : decode cX7_findRing 52 = .ok (.aload_n 0, 1) := by decide +kernel
theorem dX7_findRing_53 : decode cX7_findRing 53 = .ok (.getfield 28, 3) := by decide +kernel
theorem dX7_findRing_56 : decode cX7_findRing 56 = .ok (.iload 4, 2) := by decide +kernel
theorem dX7_findRing_58 : decode cX7_findRing 58 = .ok (.iload_n 3, 1) := by decide +kernel
theorem dX7_findRing_59 : decode cX7_findRing 59 = .ok (.iastore, 1) := by decide +kernel
theorem dX7_findRing_60 : decode cX7_findRing 60 = .ok (.aload_n 0, 1) := by decide +kernel
theorem dX7_findRing_61 : decode cX7_findRing 61 = .ok (.iload_n 3, 1) := by decide +kernel
theorem dX7_findRing_62 : decode cX7_findRing 62 = .ok (.invokevirtual 59, 3) := by decide +kernel
theorem dX7_findRing_65 : decode cX7_findRing 65 = .ok (.istore_n 3, 1) := by decide +kernel
theorem dX7_findRing_66 : decode cX7_findRing 66 = .ok (.iinc 4 1, 3) := by decide +kernel
theorem dX7_findRing_69 : decode cX7_findRing 69 = .ok (.goto (-26), 3) := by decide +kernel
theorem dX7_findRing_72 : decode cX7_findRing 72 = .ok (.aload_n 0, 1) := by decide +kernel
theorem dX7_findRing_73 : decode cX7_findRing 73 = .ok (.getfield 31, 3) := by decide +kernel
theorem dX7_findRing_76 : decode cX7_findRing 76 = .ok (.ireturn, 1) := by decide +kernel
theorem dX7_nextTowardsHome_0 : decode cX7_nextTowardsHome 0 = .ok (.iconst 0, 1) := by decide +kernel
theorem dX7_nextTowardsHome_1 : decode cX7_nextTowardsHome 1 = .ok (.istore_n 2, 1) := by decide +kernel
theorem dX7_nextTowardsHome_2 : decode cX7_nextTowardsHome 2 = .ok (.iload_n 2, 1) := by decide +kernel
theorem dX7_nextTowardsHome_3 : decode cX7_nextTowardsHome 3 = .ok (.aload_n 0, 1) := by decide +kernel
theorem dX7_nextTowardsHome_4 : decode cX7_nextTowardsHome 4 = .ok (.getfield 9, 3) := by decide +kernel
theorem dX7_nextTowardsHome_7 : decode cX7_nextTowardsHome 7 = .ok (.if_icmp .ge 37, 3) := by decide +kernel
theorem dX7_nextTowardsHome_10 : decode cX7_nextTowardsHome 10 = .ok (.aload_n 0, 1) := by decide +kernel
theorem dX7_nextTowardsHome_11 : decode cX7_nextTowardsHome 11 = .ok (.iload_n 1, 1) := by decide +kernel
theorem dX7_nextTowardsHome_12 : decode cX7_nextTowardsHome 12 = .ok (.iload_n 2, 1) := by decide +kernel
theorem dX7_nextTowardsHome_13 : decode cX7_nextTowardsHome 13 = .ok (.invokevirtual 42, 3) := by decide +kernel
theorem dX7_nextTowardsHome_16 : decode cX7_nextTowardsHome 16 = .ok (.ifCond .eq 22, 3) := by decide +kernel
theorem dX7_nextTowardsHome_19 : decode cX7_nextTowardsHome 19 = .ok (.aload_n 0, 1) := by decide +kernel
theorem dX7_nextTowardsHome_20 : decode cX7_nextTowardsHome 20 = .ok (.getfield 22, 3) := by decide +kernel
theorem dX7_nextTowardsHome_23 : decode cX7_nextTowardsHome 23 = .ok (.iload_n 2, 1) := by decide +kernel
theorem dX7_nextTowardsHome_24 : decode cX7_nextTowardsHome 24 = .ok (.iaload, 1) := by decide +kernel
theorem dX7_nextTowardsHome_25 : decode cX7_nextTowardsHome 25 = .ok (.aload_n 0, 1) := by decide +kernel
theorem dX7_nextTowardsHome_26 : decode cX7_nextTowardsHome 26 = .ok (.getfield 22, 3) := by decide +kernel
theorem dX7_nextTowardsHome_29 : decode cX7_nextTowardsHome 29 = .ok (.iload_n 1, 1) := by decide +kernel
theorem dX7_nextTowardsHome_30 : decode cX7_nextTowardsHome 30 = .ok (.iaload, 1) := by decide +kernel
theorem dX7_nextTowardsHome_31 : decode cX7_nextTowardsHome 31 = .ok (.iconst 1, 1) := by decide +kernel
theorem dX7_nextTowardsHome_32 : decode cX7_nextTowardsHome 32 = .ok (.isub, 1) := by decide +kernel
theorem dX7_nextTowardsHome_33 : decode cX7_nextTowardsHome 33 = .ok (.if_icmp .ne 5, 3) := by decide +kernel
theorem dX7_nextTowardsHome_36 : decode cX7_nextTowardsHome 36 = .ok (.iload_n 2, 1) := by decide +kernel
theorem dX7_nextTowardsHome_37 : decode cX7_nextTowardsHome 37 = .ok (.ireturn, 1) := by decide +kernel
theorem dX7_nextTowardsHome_38 : decode cX7_nextTowardsHome 38 = .ok (.iinc 2 1, 3) := by decide +kernel
theorem dX7_nextTowardsHome_41 : decode cX7_nextTowardsHome 41 = .ok (.goto (-39), 3) := by decide +kernel
theorem dX7_nextTowardsHome_44 : decode cX7_nextTowardsHome 44 = .ok (.iload_n 1, 1) := by decide +kernel
theorem dX7_nextTowardsHome_45 : decode cX7_nextTowardsHome 45 = .ok (.ireturn, 1) := by decide +kernel
theorem dX7_findShortestRing_0 : decode cX7_findShortestRing 0 = .ok (.aload_n 0, 1) := by decide +kernel
theorem dX7_findShortestRing_1 : decode cX7_findShortestRing 1 = .ok (.getfield 9, 3) := by decide +kernel
theorem dX7_findShortestRing_4 : decode cX7_findShortestRing 4 = .ok (.iconst 1, 1) := by decide +kernel
theorem dX7_findShortestRing_5 : decode cX7_findShortestRing 5 = .ok (.iadd, 1) := by decide +kernel
theorem dX7_findShortestRing_6 : decode cX7_findShortestRing 6 = .ok (.istore_n 1, 1) := by decide +kernel
theorem dX7_findShortestRing_7 : decode cX7_findShortestRing 7 = .ok (.iconst 0, 1) := by decide +kernel
theorem dX7_findShortestRing_8 : decode cX7_findShortestRing 8 = .ok (.istore_n 2, 1) := by decide +kernel
theorem dX7_findShortestRing_9 : decode cX7_findShortestRing 9 = .ok (.iconst 0, 1) := by decide +kernel
theorem dX7_findShortestRing_10 : decode cX7_findShortestRing 10 = .ok (.istore_n 3, 1) := by decide +kernel
theorem dX7_findShortestRing_11 : decode cX7_findShortestRing 11 = .ok (.iconst 0, 1) := by decide +kernel
theorem dX7_findShortestRing_12 : decode cX7_findShortestRing 12 = .ok (.istore 4, 2) := by decide +kernel
theorem dX7_findShortestRing_14 : decode cX7_findShortestRing 14 = .ok (.iload 4, 2) := by decide +kernel
theorem dX7_findShortestRing_16 : decode cX7_findShortestRing 16 = .ok (.aload_n 0, 1) := by decide +kernel
theorem dX7_findShortestRing_17 : decode cX7_findShortestRing 17 = .ok (.getfield 9, 3) := by decide +kernel
theorem dX7_findShortestRing_20 : decode cX7_findShortestRing 20 = .ok (.if_icmp .ge 84, 3) := by decide +kernel
theorem dX7_findShortestRing_23 : decode cX7_findShortestRing 23 = .ok (.aload_n 0, 1) := by decide +kernel
theorem dX7_findShortestRing_24 : decode cX7_findShortestRing 24 = .ok (.iload 4, 2) := by decide +kernel
theorem dX7_findShortestRing_26 : decode cX7_findShortestRing 26 = .ok (.invokevirtual 55, 3) := by decide +kernel
theorem dX7_findShortestRing_29 : decode cX7_findShortestRing 29 = .ok (.iconst 0, 1) := by decide +kernel
theorem dX7_findShortestRing_30 : decode cX7_findShortestRing 30 = .ok (.istore 5, 2) := by decide +kernel
theorem dX7_findShortestRing_32 : decode cX7_findShortestRing 32 = .ok (.iload 5, 2) := by decide +kernel
theorem dX7_findShortestRing_34 : decode cX7_findShortestRing 34 = .ok (.aload_n 0, 1) := by decide +kernel
theorem dX7_findShortestRing_35 : decode cX7_findShortestRing 35 = .ok (.getfield 9, 3) := by decide +kernel
theorem dX7_findShortestRing_38 : decode cX7_findShortestRing 38 = .ok (.if_icmp .ge 60, 3) := by decide +kernel
theorem dX7_findShortestRing_41 : decode cX7_findShortestRing 41 = .ok (.aload_n 0, 1) := by decide +kernel
theorem dX7_findShortestRing_42 : decode cX7_findShortestRing 42 = .ok (.iload 4, 2) := by decide +kernel
theorem dX7_findShortestRing_44 : decode cX7_findShortestRing 44 = .ok (.iload 5, 2) := by decide +kernel
theorem dX7_findShortestRing_46 : decode cX7_findShortestRing 46 = .ok (.invokevirtual 42, 3) := by decide +kernel
theorem dX7_findShortestRing_49 : decode cX7_findShortestRing 49 = .ok (.ifCond .eq 43, 3) := by decide +kernel
theorem dX7_findShortestRing_52 : decode cX7_findShortestRing 52 = .ok (.aload_n 0, 1) := by decide +kernel
theorem dX7_findShortestRing_53 : decode cX7_findShortestRing 53 = .ok (.getfield 22, 3) := by decide +kernel
theorem dX7_findShortestRing_56 : decode cX7_findShortestRing 56 = .ok (.iload 5, 2) := by decide +kernel
theorem dX7_findShortestRing_58 : decode cX7_findShortestRing 58 = .ok (.iaload, 1) := by decide +kernel
theorem dX7_findShortestRing_59 : decode cX7_findShortestRing 59 = .ok (.iconst (-1), 1) := by decide +kernel
theorem dX7_findShortestRing_60 : decode cX7_findShortestRing 60 = .ok (.if_icmp .eq 32, 3) := by decide +kernel
theorem dX7_findShortestRing_63 : decode cX7_findShortestRing 63 = .ok (.aload_n 0, 1) := by decide +kernel
theorem dX7_findShortestRing_64 : decode cX7_findShortestRing 64 = .ok (.getfield 22, 3) := by decide +kernel
theorem dX7_findShortestRing_67 : decode cX7_findShortestRing 67 = .ok (.iload 5, 2) := by decide +kernel
theorem dX7_findShortestRing_69 : decode cX7_findShortestRing 69 = .ok (.iaload, 1) := by decide +kernel
theorem dX7_findShortestRing_70 : decode cX7_findShortestRing 70 = .ok (.iconst 1, 1) := by decide +kernel
theorem dX7_findShortestRing_71 : decode cX7_findShortestRing 71 = .ok (.iadd, 1) := by decide +kernel
theorem dX7_findShortestRing_72 : decode cX7_findShortestRing 72 = .ok (.iload_n 1, 1) := by decide +kernel
theorem dX7_findShortestRing_73 : decode cX7_findShortestRing 73 = .ok (.if_icmp .ge 19, 3) := by decide +kernel
theorem dX7_findShortestRing_76 : decode cX7_findShortestRing 76 = .ok (.aload_n 0, 1) := by decide +kernel
theorem dX7_findShortestRing_77 : decode cX7_findShortestRing 77 = .ok (.getfield 22, 3) := by decide +kernel
theorem dX7_findShortestRing_80 : decode cX7_findShortestRing 80 = .ok (.iload 5, 2) := by decide +kernel
theorem dX7_findShortestRing_82 : decode cX7_findShortestRing 82 = .ok (.iaload, 1) := by decide +kernel
theorem dX7_findShortestRing_83 : decode cX7_findShortestRing 83 = .ok (.iconst 1, 1) := by decide +kernel
theorem dX7_findShortestRing_84 : decode cX7_findShortestRing 84 = .ok (.iadd, 1) := by decide +kernel
theorem dX7_findShortestRing_85 : decode cX7_findShortestRing 85 = .ok (.istore_n 1, 1) := by decide +kernel
theorem dX7_findShortestRing_86 : decode cX7_findShortestRing 86 = .ok (.iload 4, 2) := by decide +kernel
theorem dX7_findShortestRing_88 : decode cX7_findShortestRing 88 = .ok (.istore_n 2, 1) := by decide +kernel
theorem dX7_findShortestRing_89 : decode cX7_findShortestRing 89 = .ok (.iload 5, 2) := by decide +kernel
theorem dX7_findShortestRing_91 : decode cX7_findShortestRing 91 = .ok (.istore_n 3, 1) := by decide +kernel
theorem dX7_findShortestRing_92 : decode cX7_findShortestRing 92 = .ok (.iinc 5 1, 3) := by decide +kernel
theorem dX7_findShortestRing_95 : decode cX7_findShortestRing 95 = .ok (.goto (-63), 3) := by decide +kernel
theorem dX7_findShortestRing_98 : decode cX7_findShortestRing 98 = .ok (.iinc 4 1, 3) := by decide +kernel
theorem dX7_findShortestRing_101 : decode cX7_findShortestRing 101 = .ok (.goto (-87), 3) := by decide +kernel
theorem dX7_findShortestRing_104 : decode cX7_findShortestRing 104 = .ok (.iload_n 1, 1) := by decide +kernel
theorem dX7_findShortestRing_105 : decode cX7_findShortestRing 105 = .ok (.aload_n 0, 1) := by decide +kernel
theorem dX7_findShortestRing_106 : decode cX7_findShortestRing 106 = .ok (.getfield 9, 3) := by decide +kernel
theorem dX7_findShortestRing_109 : decode cX7_findShortestRing 109 = .ok (.if_icmp .le 7, 3) := by decide +kernel
theorem dX7_findShortestRing_112 : decode cX7_findShortestRing 112 = .ok (.iconst 0, 1) := by decide +kernel
theorem dX7_findShortestRing_113 : decode cX7_findShortestRing 113 = .ok (.goto 9, 3) := by decide +kernel
theorem dX7_findShortestRing_116 : decode cX7_findShortestRing 116 = .ok (.aload_n 0, 1) := by decide +kernel
theorem dX7_findShortestRing_117 : decode cX7_findShortestRing 117 = .ok (.iload_n 2, 1) := by decide +kernel
theorem dX7_findShortestRing_118 : decode cX7_findShortestRing 118 = .ok (.iload_n 3, 1) := by decide +kernel
theorem dX7_findShortestRing_119 : decode cX7_findShortestRing 119 = .ok (.invokevirtual 62, 3) := by decide +kernel
theorem dX7_findShortestRing_122 : decode cX7_findShortestRing 122 = .ok (.ireturn, 1) := by decide +kernel
theorem dX8_init_0 : decode cX8_init 0 = .ok (.aload_n 0, 1) := by decide +kernel
theorem dX8_init_1 : decode cX8_init 1 = .ok (.invokespecial 1, 3) := by decide +kernel
theorem dX8_init_4 : decode cX8_init 4 = .ok (.aload_n 0, 1) := by decide +kernel
theorem dX8_init_5 : decode cX8_init 5 = .ok (.new 7, 3) := by decide +kernel
theorem dX8_init_8 : decode cX8_init 8 = .ok (.dup, 1) := by decide +kernel
theorem dX8_init_9 : decode cX8_init 9 = .ok (.invokespecial 9, 3) := by decide +kernel
theorem dX8_init_12 : decode cX8_init 12 = .ok (.putfield 10, 3) := by decide +kernel
theorem dX8_init_15 : decode cX8_init 15 = .ok (.aload_n 0, 1) := by decide +kernel
theorem dX8_init_16 : decode cX8_init 16 = .ok (.new 7, 3) := by decide +kernel
theorem dX8_init_19 : decode cX8_init 19 = .ok (.dup, 1) := by decide +kernel
theorem dX8_init_20 : decode cX8_init 20 = .ok (.invokespecial 9, 3) := by decide +kernel
theorem dX8_init_23 : decode cX8_init 23 = .ok (.putfield 16, 3) := by decide +kernel
theorem dX8_init_26 : decode cX8_init 26 = .ok (.aload_n 0, 1) := by decide +kernel
theorem dX8_init_27 : decode cX8_init 27 = .ok (.new 19, 3) := by decide +kernel
theorem dX8_init_30 : decode cX8_init 30 = .ok (.dup, 1) := by decide +kernel
theorem dX8_init_31 : decode cX8_init 31 = .ok (.invokespecial 21, 3) := by decide +kernel
theorem dX8_init_34 : decode cX8_init 34 = .ok (.putfield 22, 3) := by decide +kernel
theorem dX8_init_37 : decode cX8_init 37 = .ok (.aload_n 0, 1) := by decide +kernel
theorem dX8_init_38 : decode cX8_init 38 = .ok (.new 26, 3) := by decide +kernel
theorem dX8_init_41 : decode cX8_init 41 = .ok (.dup, 1) := by decide +kernel
theorem dX8_init_42 : decode cX8_init 42 = .ok (.invokespecial 28, 3) := by decide +kernel
theorem dX8_init_45 : decode cX8_init 45 = .ok (.putfield 29, 3) := by decide +kernel
theorem dX8_init_48 : decode cX8_init 48 = .ok (.aload_n 0, 1) := by decide +kernel
theorem dX8_init_49 : decode cX8_init 49 = .ok (.new 33, 3) := by decide +kernel
theorem dX8_init_52 : decode cX8_init 52 = .ok (.dup, 1) := by decide +kernel
theorem dX8_init_53 : decode cX8_init 53 = .ok (.invokespecial 35, 3) := by decide +kernel
theorem dX8_init_56 : decode cX8_init 56 = .ok (.putfield 36, 3) := by decide +kernel
theorem dX8_init_59 : decode cX8_init 59 = .ok (.aload_n 0, 1) := by decide +kernel
theorem dX8_init_60 : decode cX8_init 60 = .ok (.new 40, 3) := by decide +kernel
theorem dX8_init_63 : decode cX8_init 63 = .ok (.dup, 1) := by decide +kernel
theorem dX8_init_64 : decode cX8_init 64 = .ok (.invokespecial 42, 3) := by decide +kernel
theorem dX8_init_67 : decode cX8_init 67 = .ok (.putfield 43, 3) := by decide +kernel
theorem dX8_init_70 : decode cX8_init 70 = .ok (.aload_n 0, 1) := by decide +kernel
theorem dX8_init_71 : decode cX8_init 71 = .ok (.new 40, 3) := by decide +kernel
theorem dX8_init_74 : decode cX8_init 74 = .ok (.dup, 1) := by decide +kernel
theorem dX8_init_75 : decode cX8_init 75 = .ok (.invokespecial 42, 3) := by decide +kernel
theorem dX8_init_78 : decode cX8_init 78 = .ok (.putfield 47, 3) := by decide +kernel
theorem dX8_init_81 : decode cX8_init 81 = .ok (.aload_n 0, 1) := by decide +kernel
theorem dX8_init_82 : decode cX8_init 82 = .ok (.new 50, 3) := by decide +kernel
theorem dX8_init_85 : decode cX8_init 85 = .ok (.dup, 1) := by decide +kernel
theorem dX8_init_86 : decode cX8_init 86 = .ok (.invokespecial 52, 3) := by decide +kernel
theorem dX8_init_89 : decode cX8_init 89 = .ok (.putfield 53, 3) := by decide +kernel
theorem dX8_init_92 : decode cX8_init 92 = .ok (.aload_n 0, 1) := by decide +kernel
theorem dX8_init_93 : decode cX8_init 93 = .ok (.new 57, 3) := by decide +kernel
theorem dX8_init_96 : decode cX8_init 96 = .ok (.dup, 1) := by decide +kernel
theorem dX8_init_97 : decode cX8_init 97 = .ok (.invokespecial 59, 3) := by decide +kernel
theorem dX8_init_100 : decode cX8_init 100 = .ok (.putfield 60, 3) := by decide +kernel
theorem dX8_init_103 : decode cX8_init 103 = .ok (.aload_n 0, 1) := by decide +kernel
theorem dX8_init_104 : decode cX8_init 104 = .ok (.iconst 4, 1) := by decide +kernel
theorem dX8_init_105 : decode cX8_init 105 = .ok (.newarray .int, 2) := by decide +kernel
theorem dX8_init_107 : decode cX8_init 107 = .ok (.putfield 64, 3) := by decide +kernel
theorem dX8_init_110 : decode cX8_init 110 = .ok (.aload_n 0, 1) := by decide +kernel
theorem dX8_init_111 : decode cX8_init 111 = .ok (.iconst 0, 1) := by decide +kernel
theorem dX8_init_112 : decode cX8_init 112 = .ok (.putfield 68, 3) := by decide +kernel
theorem dX8_init_115 : decode cX8_init 115 = .ok (.aload_n 0, 1) := by decide +kernel
theorem dX8_init_116 : decode cX8_init 116 = .ok (.iconst 0, 1) := by decide +kernel
theorem dX8_init_117 : decode cX8_init 117 = .ok (.putfield 72, 3) := by decide +kernel
theorem dX8_init_120 : decode cX8_init 120 = .ok (.aload_n 0, 1) := by decide +kernel
theorem dX8_init_121 : decode cX8_init 121 = .ok (.iconst (-1), 1) := by decide +kernel
theorem dX8_init_122 : decode cX8_init 122 = .ok (.putfield 76, 3) := by decide +kernel
theorem dX8_init_125 : decode cX8_init 125 = .ok (.aload_n 0, 1) := by decide +kernel
theorem dX8_init_126 : decode cX8_init 126 = .ok (.iconst 0, 1) := by decide +kernel
theorem dX8_init_127 : decode cX8_init 127 = .ok (.putfield 79, 3) := by decide +kernel
theorem dX8_init_130 : decode cX8_init 130 = .ok (.iconst 0, 1) := by decide +kernel
theorem dX8_init_131 : decode cX8_init 131 = .ok (.istore_n 1, 1) := by decide +kernel
theorem dX8_init_132 : decode cX8_init 132 = .ok (.iload_n 1, 1) := by decide +kernel
theorem dX8_init_133 : decode cX8_init 133 = .ok (.iconst 4, 1) := by decide +kernel
theorem dX8_init_134 : decode cX8_init 134 = .ok (.if_icmp .ge 16, 3) := by decide +kernel
theorem dX8_init_137 : decode cX8_init 137 = .ok (.aload_n 0, 1) := by decide +kernel
theorem dX8_init_138 : decode cX8_init 138 = .ok (.getfield 64, 3) := by decide +kernel
theorem dX8_init_141 : decode cX8_init 141 = .ok (.iload_n 1, 1) := by decide +kernel
theorem dX8_init_142 : decode cX8_init 142 = .ok (.iconst 1, 1) := by decide +kernel
theorem dX8_init_143 : decode cX8_init 143 = .ok (.iastore, 1) := by decide +kernel
theorem dX8_init_144 : decode cX8_init 144 = .ok (.iinc 1 1, 3) := by decide +kernel
theorem dX8_init_147 : decode cX8_init 147 = .ok (.goto (-15), 3) := by decide +kernel
theorem dX8_init_150 : decode cX8_init 150 = .ok (.return_, 1) := by decide +kernel
theorem dX8_part_0 : decode cX8_part 0 = .ok (.aload_n 0, 1) := by decide +kernel
theorem dX8_part_1 : decode cX8_part 1 = .ok (.getfield 10, 3) := by decide +kernel
theorem dX8_part_4 : decode cX8_part 4 = .ok (.getfield 82, 3) := by decide +kernel
theorem dX8_part_7 : decode cX8_part 7 = .ok (.bipush 10, 2) := by decide +kernel
theorem dX8_part_9 : decode cX8_part 9 = .ok (.if_icmp .lt 6, 3) := by decide +kernel
theorem dX8_part_12 : decode cX8_part 12 = .ok (.bipush (-4), 2) := by decide +kernel
theorem dX8_part_14 : decode cX8_part 14 = .ok (.ireturn, 1) := by decide +kernel
theorem dX8_part_15 : decode cX8_part 15 = .ok (.aload_n 0, 1) := by decide +kernel
theorem dX8_part_16 : decode cX8_part 16 = .ok (.getfield 16, 3) := by decide +kernel
theorem dX8_part_19 : decode cX8_part 19 = .ok (.aload_n 0, 1) := by decide +kernel
theorem dX8_part_20 : decode cX8_part 20 = .ok (.getfield 10, 3) := by decide +kernel
theorem dX8_part_23 : decode cX8_part 23 = .ok (.invokevirtual 85, 3) := by decide +kernel
theorem dX8_part_26 : decode cX8_part 26 = .ok (.aload_n 0, 1) := by decide +kernel
theorem dX8_part_27 : decode cX8_part 27 = .ok (.getfield 10, 3) := by decide +kernel
theorem dX8_part_30 : decode cX8_part 30 = .ok (.invokevirtual 89, 3) := by decide +kernel
theorem dX8_part_33 : decode cX8_part 33 = .ok (.istore_n 1, 1) := by decide +kernel
theorem dX8_part_34 : decode cX8_part 34 = .ok (.aload_n 0, 1) := by decide +kernel
theorem dX8_part_35 : decode cX8_part 35 = .ok (.invokevirtual 93, 3) := by decide +kernel
theorem dX8_part_38 : decode cX8_part 38 = .ok (.iload_n 1, 1) := by decide +kernel
theorem dX8_part_39 : decode cX8_part 39 = .ok (.ireturn, 1) := by decide +kernel
theorem dX8_add_0 : decode cX8_add 0 = .ok (.iload_n 1, 1) := by decide +kernel
theorem dX8_add_1 : decode cX8_add 1 = .ok (.invokestatic 96, 3) := by decide +kernel
theorem dX8_add_4 : decode cX8_add 4 = .ok (.ifCond .eq 14, 3) := by decide +kernel
theorem dX8_add_7 : decode cX8_add 7 = .ok (.aload_n 0, 1) := by decide +kernel
theorem dX8_add_8 : decode cX8_add 8 = .ok (.getfield 10, 3) := by decide +kernel
theorem dX8_add_11 : decode cX8_add 11 = .ok (.iload_n 2, 1) := by decide +kernel
theorem dX8_add_12 : decode cX8_add 12 = .ok (.invokevirtual 100, 3) := by decide +kernel
theorem dX8_add_15 : decode cX8_add 15 = .ok (.ifCond .ne 5, 3) := by decide +kernel
theorem dX8_add_18 : decode cX8_add 18 = .ok (.iconst (-1), 1) := by decide +kernel
theorem dX8_add_19 : decode cX8_add 19 = .ok (.ireturn, 1) := by decide +kernel
theorem dX8_add_20 : decode cX8_add 20 = .ok (.aload_n 0, 1) := by decide +kernel
theorem dX8_add_21 : decode cX8_add 21 = .ok (.getfield 10, 3) := by decide +kernel
theorem dX8_add_24 : decode cX8_add 24 = .ok (.iload_n 1, 1) := by decide +kernel
theorem dX8_add_25 : decode cX8_add 25 = .ok (.invokevirtual 103, 3) := by decide +kernel
theorem dX8_add_28 : decode cX8_add 28 = .ok (.ifCond .eq 6, 3) := by decide +kernel
theorem dX8_add_31 : decode cX8_add 31 = .ok (.bipush (-4), 2) := by decide +kernel
theorem dX8_add_33 : decode cX8_add 33 = .ok (.ireturn, 1) := by decide +kernel
theorem dX8_add_34 : decode cX8_add 34 = .ok (.aload_n 0, 1) := by decide +kernel
theorem dX8_add_35 : decode cX8_add 35 = .ok (.getfield 16, 3) := by decide +kernel
theorem dX8_add_38 : decode cX8_add 38 = .ok (.aload_n 0, 1) := by decide +kernel
theorem dX8_add_39 : decode cX8_add 39 = .ok (.getfield 10, 3) := by decide +kernel
theorem dX8_add_42 : decode cX8_add 42 = .ok (.invokevirtual 85, 3) := by decide +kernel
theorem dX8_add_45 : decode cX8_add 45 = .ok (.aload_n 0, 1) := by decide +kernel
theorem dX8_add_46 : decode cX8_add 46 = .ok (.getfield 10, 3) := by decide +kernel
theorem dX8_add_49 : decode cX8_add 49 = .ok (.iload_n 1, 1) := by decide +kernel
theorem dX8_add_50 : decode cX8_add 50 = .ok (.iload_n 2, 1) := by decide +kernel
theorem dX8_add_51 : decode cX8_add 51 = .ok (.invokevirtual 106, 3) := by decide +kernel
theorem dX8_add_54 : decode cX8_add 54 = .ok (.istore_n 3, 1) := by decide +kernel
theorem dX8_add_55 : decode cX8_add 55 = .ok (.aload_n 0, 1) := by decide +kernel
theorem dX8_add_56 : decode cX8_add 56 = .ok (.invokevirtual 93, 3) := by decide +kernel
theorem dX8_add_59 : decode cX8_add 59 = .ok (.iload_n 3, 1) := by decide +kernel
theorem dX8_add_60 : decode cX8_add 60 = .ok (.ireturn, 1) := by decide +kernel
theorem dX8_where_0 : decode cX8_where 0 = .ok (.aload_n 0, 1) := by decide +kernel
theorem dX8_where_1 : decode cX8_where 1 = .ok (.getfield 10, 3) := by decide +kernel
theorem dX8_where_4 : decode cX8_where 4 = .ok (.iload_n 1, 1) := by decide +kernel
theorem dX8_where_5 : decode cX8_where 5 = .ok (.iload_n 2, 1) := by decide +kernel
theorem dX8_where_6 : decode cX8_where 6 = .ok (.invokevirtual 110, 3) := by decide +kernel
theorem dX8_where_9 : decode cX8_where 9 = .ok (.ifCond .eq 15, 3) := by decide +kernel
theorem dX8_where_12 : decode cX8_where 12 = .ok (.aload_n 0, 1) := by decide +kernel
theorem dX8_where_13 : decode cX8_where 13 = .ok (.getfield 10, 3) := by decide +kernel
theorem dX8_where_16 : decode cX8_where 16 = .ok (.iload_n 1, 1) := by decide +kernel
theorem dX8_where_17 : decode cX8_where 17 = .ok (.iload_n 2, 1) := by decide +kernel
theorem dX8_where_18 : decode cX8_where 18 = .ok (.invokevirtual 114, 3) := by decide +kernel
theorem dX8_where_21 : decode cX8_where 21 = .ok (.goto 4, 3) := by decide +kernel
theorem dX8_where_24 : decode cX8_where 24 = .ok (.iconst (-1), 1) := by decide +kernel
theorem dX8_where_25 : decode cX8_where 25 = .ok (.ireturn, 1) := by decide +kernel
theorem dX8_feed_0 : decode cX8_feed 0 = .ok (.iload_n 3, 1) := by decide +kernel
theorem dX8_feed_1 : decode cX8_feed 1 = .ok (.iconst 1, 1) := by decide +kernel
theorem dX8_feed_2 : decode cX8_feed 2 = .ok (.if_icmp .lt 9, 3) := by decide +kernel
theorem dX8_feed_5 : decode cX8_feed 5 = .ok (.iload_n 3, 1) := by decide +kernel
theorem dX8_feed_6 : decode cX8_feed 6 = .ok (.bipush 8, 2) := by decide +kernel
theorem dX8_feed_8 : decode cX8_feed 8 = .ok (.if_icmp .le 6, 3) := by decide +kernel
theorem dX8_feed_11 : decode cX8_feed 11 = .ok (.bipush (-2), 2) := by decide +kernel
theorem dX8_feed_13 : decode cX8_feed 13 = .ok (.ireturn, 1) := by decide +kernel
theorem dX8_feed_14 : decode cX8_feed 14 = .ok (.aload_n 0, 1) := by decide +kernel
theorem dX8_feed_15 : decode cX8_feed 15 = .ok (.getfield 29, 3) := by decide +kernel
theorem dX8_feed_18 : decode cX8_feed 18 = .ok (.lload_n 1, 1) := by decide +kernel
theorem dX8_feed_19 : decode cX8_feed 19 = .ok (.iload_n 3, 1) := by decide +kernel
theorem dX8_feed_20 : decode cX8_feed 20 = .ok (.invokevirtual 117, 3) := by decide +kernel
theorem dX8_feed_23 : decode cX8_feed 23 = .ok (.ifCond .eq 13, 3) := by decide +kernel
theorem dX8_feed_26 : decode cX8_feed 26 = .ok (.aload_n 0, 1) := by decide +kernel
theorem dX8_feed_27 : decode cX8_feed 27 = .ok (.getfield 29, 3) := by decide +kernel
theorem dX8_feed_30 : decode cX8_feed 30 = .ok (.getfield 121, 3) := by decide +kernel
theorem dX8_feed_33 : decode cX8_feed 33 = .ok (.goto 5, 3) := by decide +kernel
theorem dX8_feed_36 : decode cX8_feed 36 = .ok (.bipush (-4), 2) := by decide +kernel
theorem dX8_feed_38 : decode cX8_feed 38 = .ok (.ireturn, 1) := by decide +kernel
theorem dX8_body_0 : decode cX8_body 0 = .ok (.aload_n 0, 1) := by decide +kernel
theorem dX8_body_1 : decode cX8_body 1 = .ok (.getfield 10, 3) := by decide +kernel
theorem dX8_body_4 : decode cX8_body 4 = .ok (.iconst 0, 1) := by decide +kernel
theorem dX8_body_5 : decode cX8_body 5 = .ok (.iload_n 1, 1) := by decide +kernel
theorem dX8_body_6 : decode cX8_body 6 = .ok (.invokevirtual 110, 3) := by decide +kernel
theorem dX8_body_9 : decode cX8_body 9 = .ok (.ifCond .ne 5, 3) := by decide +kernel
theorem dX8_body_12 : decode cX8_body 12 = .ok (.iconst (-1), 1) := by decide +kernel
theorem dX8_body_13 : decode cX8_body 13 = .ok (.ireturn, 1) := by decide +kernel
theorem dX8_body_14 : decode cX8_body 14 = .ok (.aload_n 0, 1) := by decide +kernel
theorem dX8_body_15 : decode cX8_body 15 = .ok (.getfield 10, 3) := by decide +kernel
theorem dX8_body_18 : decode cX8_body 18 = .ok (.iload_n 1, 1) := by decide +kernel
theorem dX8_body_19 : decode cX8_body 19 = .ok (.invokevirtual 124, 3) := by decide +kernel
theorem dX8_body_22 : decode cX8_body 22 = .ok (.ifCond .eq 6, 3) := by decide +kernel
theorem dX8_body_25 : decode cX8_body 25 = .ok (.bipush (-3), 2) := by decide +kernel
theorem dX8_body_27 : decode cX8_body 27 = .ok (.ireturn, 1) := by decide +kernel
theorem dX8_body_28 : decode cX8_body 28 = .ok (.aload_n 0, 1) := by decide +kernel
theorem dX8_body_29 : decode cX8_body 29 = .ok (.getfield 29, 3) := by decide +kernel
theorem dX8_body_32 : decode cX8_body 32 = .ok (.invokevirtual 127, 3) := by decide +kernel
theorem dX8_body_35 : decode cX8_body 35 = .ok (.istore_n 2, 1) := by decide +kernel
theorem dX8_body_36 : decode cX8_body 36 = .ok (.aload_n 0, 1) := by decide +kernel
theorem dX8_body_37 : decode cX8_body 37 = .ok (.getfield 29, 3) := by decide +kernel
theorem dX8_body_40 : decode cX8_body 40 = .ok (.iconst 0, 1) := by decide +kernel
theorem dX8_body_41 : decode cX8_body 41 = .ok (.putfield 121, 3) := by decide +kernel
theorem dX8_body_44 : decode cX8_body 44 = .ok (.iload_n 2, 1) := by decide +kernel
theorem dX8_body_45 : decode cX8_body 45 = .ok (.iconst (-1), 1) := by decide +kernel
theorem dX8_body_46 : decode cX8_body 46 = .ok (.if_icmp .eq 8, 3) := by decide +kernel
theorem dX8_body_49 : decode cX8_body 49 = .ok (.bipush (-10), 2) := by decide +kernel
theorem dX8_body_51 : decode cX8_body 51 = .ok (.iload_n 2, 1) := by decide +kernel
theorem dX8_body_52 : decode cX8_body 52 = .ok (.isub, 1) := by decide +kernel
theorem dX8_body_53 : decode cX8_body 53 = .ok (.ireturn, 1) := by decide +kernel
theorem dX8_body_54 : decode cX8_body 54 = .ok (.aload_n 0, 1) := by decide +kernel
theorem dX8_body_55 : decode cX8_body 55 = .ok (.getfield 10, 3) := by decide +kernel
theorem dX8_body_58 : decode cX8_body 58 = .ok (.aload_n 0, 1) := by decide +kernel
theorem dX8_body_59 : decode cX8_body 59 = .ok (.getfield 29, 3) := by decide +kernel
theorem dX8_body_62 : decode cX8_body 62 = .ok (.invokevirtual 130, 3) := by decide +kernel
theorem dX8_body_65 : decode cX8_body 65 = .ok (.ifCond .ne 6, 3) := by decide +kernel
theorem dX8_body_68 : decode cX8_body 68 = .ok (.bipush (-2), 2) := by decide +kernel
theorem dX8_body_70 : decode cX8_body 70 = .ok (.ireturn, 1) := by decide +kernel
theorem dX8_body_71 : decode cX8_body 71 = .ok (.aload_n 0, 1) := by decide +kernel
theorem dX8_body_72 : decode cX8_body 72 = .ok (.getfield 16, 3) := by decide +kernel
theorem dX8_body_75 : decode cX8_body 75 = .ok (.aload_n 0, 1) := by decide +kernel
theorem dX8_body_76 : decode cX8_body 76 = .ok (.getfield 10, 3) := by decide +kernel
theorem dX8_body_79 : decode cX8_body 79 = .ok (.invokevirtual 85, 3) := by decide +kernel
theorem dX8_body_82 : decode cX8_body 82 = .ok (.aload_n 0, 1) := by decide +kernel
theorem dX8_body_83 : decode cX8_body 83 = .ok (.getfield 10, 3) := by decide +kernel
theorem dX8_body_86 : decode cX8_body 86 = .ok (.iload_n 1, 1) := by decide +kernel
theorem dX8_body_87 : decode cX8_body 87 = .ok (.aload_n 0, 1) := by decide +kernel
theorem dX8_body_88 : decode cX8_body 88 = .ok (.getfield 29, 3) := by decide +kernel
theorem dX8_body_91 : decode cX8_body 91 = .ok (.invokevirtual 134, 3) := by decide +kernel
theorem dX8_body_94 : decode cX8_body 94 = .ok (.aload_n 0, 1) := by decide +kernel
theorem dX8_body_95 : decode cX8_body 95 = .ok (.aload_n 0, 1) := by decide +kernel
theorem dX8_body_96 : decode cX8_body 96 = .ok (.getfield 29, 3) := by decide +kernel
theorem dX8_body_99 : decode cX8_body 99 = .ok (.getfield 138, 3) := by decide +kernel
theorem dX8_body_102 : decode cX8_body 102 = .ok (.iconst (-1), 1) := by decide +kernel
theorem dX8_body_103 : decode cX8_body 103 = .ok (.invokevirtual 141, 3) := by decide +kernel
theorem dX8_body_106 : decode cX8_body 106 = .ok (.ireturn, 1) := by decide +kernel
theorem dX8_act_0 : decode cX8_act 0 = .ok (.aload_n 0, 1) := by decide +kernel
theorem dX8_act_1 : decode cX8_act 1 = .ok (.getfield 10, 3) := by decide +kernel
theorem dX8_act_4 : decode cX8_act 4 = .ok (.iload_n 1, 1) := by decide +kernel
theorem dX8_act_5 : decode cX8_act 5 = .ok (.iload_n 2, 1) := by decide +kernel
theorem dX8_act_6 : decode cX8_act 6 = .ok (.invokevirtual 144, 3) := by decide +kernel
theorem dX8_act_9 : decode cX8_act 9 = .ok (.ifCond .ne 5, 3) := by decide +kernel
theorem dX8_act_12 : decode cX8_act 12 = .ok (.iconst (-1), 1) := by decide +kernel
theorem dX8_act_13 : decode cX8_act 13 = .ok (.ireturn, 1) := by decide +kernel
theorem dX8_act_14 : decode cX8_act 14 = .ok (.iload_n 3, 1) := by decide +kernel
theorem dX8_act_15 : decode cX8_act 15 = .ok (.lookupswitch 45 #[(0, 25), (1, 35)], 25) := by decide +kernel
theorem dX8_act_40 : decode cX8_act 40 = .ok (.aload_n 0, 1) := by decide +kernel
theorem dX8_act_41 : decode cX8_act 41 = .ok (.getfield 10, 3) := by decide +kernel
theorem dX8_act_44 : decode cX8_act 44 = .ok (.iload_n 1, 1) := by decide +kernel
theorem dX8_act_45 : decode cX8_act 45 = .ok (.iload_n 2, 1) := by decide +kernel
theorem dX8_act_46 : decode cX8_act 46 = .ok (.invokevirtual 147, 3) := by decide +kernel
theorem dX8_act_49 : decode cX8_act 49 = .ok (.ireturn, 1) := by decide +kernel
theorem dX8_act_50 : decode cX8_act 50 = .ok (.aload_n 0, 1) := by decide +kernel
theorem dX8_act_51 : decode cX8_act 51 = .ok (.getfield 10, 3) := by decide +kernel
theorem dX8_act_54 : decode cX8_act 54 = .ok (.iload_n 1, 1) := by decide +kernel
theorem dX8_act_55 : decode cX8_act 55 = .ok (.iload_n 2, 1) := by decide +kernel
theorem dX8_act_56 : decode cX8_act 56 = .ok (.invokevirtual 150, 3) := by decide +kernel
theorem dX8_act_59 : decode cX8_act 59 = .ok (.ireturn, 1) := by decide +kernel
theorem dX8_act_60 : decode cX8_act 60 = .ok (.iconst (-1), 1) := by decide +kernel
theorem dX8_act_61 : decode cX8_act 61 = .ok (.ireturn, 1) := by decide +kernel
theorem dX8_hear_0 : decode cX8_hear 0 = .ok (.aload_n 0, 1) := by decide +kernel
theorem dX8_hear_1 : decode cX8_hear 1 = .ok (.getfield 10, 3) := by decide +kernel
theorem dX8_hear_4 : decode cX8_hear 4 = .ok (.iconst 2, 1) := by decide +kernel
theorem dX8_hear_5 : decode cX8_hear 5 = .ok (.iload_n 1, 1) := by decide +kernel
theorem dX8_hear_6 : decode cX8_hear 6 = .ok (.invokevirtual 110, 3) := by decide +kernel
theorem dX8_hear_9 : decode cX8_hear 9 = .ok (.ifCond .eq 15, 3) := by decide +kernel
theorem dX8_hear_12 : decode cX8_hear 12 = .ok (.aload_n 0, 1) := by decide +kernel
theorem dX8_hear_13 : decode cX8_hear 13 = .ok (.getfield 10, 3) := by decide +kernel
theorem dX8_hear_16 : decode cX8_hear 16 = .ok (.iconst 0, 1) := by decide +kernel
theorem dX8_hear_17 : decode cX8_hear 17 = .ok (.iload_n 2, 1) := by decide +kernel
theorem dX8_hear_18 : decode cX8_hear 18 = .ok (.invokevirtual 110, 3) := by decide +kernel
theorem dX8_hear_21 : decode cX8_hear 21 = .ok (.ifCond .ne 5, 3) := by decide +kernel
theorem dX8_hear_24 : decode cX8_hear 24 = .ok (.iconst (-1), 1) := by decide +kernel
theorem dX8_hear_25 : decode cX8_hear 25 = .ok (.ireturn, 1) := by decide +kernel
theorem dX8_hear_26 : decode cX8_hear 26 = .ok (.aload_n 0, 1) := by decide +kernel
theorem dX8_hear_27 : decode cX8_hear 27 = .ok (.getfield 10, 3) := by decide +kernel
theorem dX8_hear_30 : decode cX8_hear 30 = .ok (.iload_n 1, 1) := by decide +kernel
theorem dX8_hear_31 : decode cX8_hear 31 = .ok (.iload_n 2, 1) := by decide +kernel
theorem dX8_hear_32 : decode cX8_hear 32 = .ok (.invokevirtual 153, 3) := by decide +kernel
theorem dX8_hear_35 : decode cX8_hear 35 = .ok (.ifCond .ne 14, 3) := by decide +kernel
theorem dX8_hear_38 : decode cX8_hear 38 = .ok (.aload_n 0, 1) := by decide +kernel
theorem dX8_hear_39 : decode cX8_hear 39 = .ok (.getfield 10, 3) := by decide +kernel
theorem dX8_hear_42 : decode cX8_hear 42 = .ok (.iload_n 2, 1) := by decide +kernel
theorem dX8_hear_43 : decode cX8_hear 43 = .ok (.invokevirtual 124, 3) := by decide +kernel
theorem dX8_hear_46 : decode cX8_hear 46 = .ok (.ifCond .eq 6, 3) := by decide +kernel
theorem dX8_hear_49 : decode cX8_hear 49 = .ok (.bipush (-3), 2) := by decide +kernel
theorem dX8_hear_51 : decode cX8_hear 51 = .ok (.ireturn, 1) := by decide +kernel
theorem dX8_hear_52 : decode cX8_hear 52 = .ok (.aload_n 0, 1) := by decide +kernel
theorem dX8_hear_53 : decode cX8_hear 53 = .ok (.getfield 10, 3) := by decide +kernel
theorem dX8_hear_56 : decode cX8_hear 56 = .ok (.getfield 156, 3) := by decide +kernel
theorem dX8_hear_59 : decode cX8_hear 59 = .ok (.iload_n 1, 1) := by decide +kernel
theorem dX8_hear_60 : decode cX8_hear 60 = .ok (.iaload, 1) := by decide +kernel
theorem dX8_hear_61 : decode cX8_hear 61 = .ok (.bipush 6, 2) := by decide +kernel
theorem dX8_hear_63 : decode cX8_hear 63 = .ok (.if_icmp .lt 6, 3) := by decide +kernel
theorem dX8_hear_66 : decode cX8_hear 66 = .ok (.bipush (-4), 2) := by decide +kernel
theorem dX8_hear_68 : decode cX8_hear 68 = .ok (.ireturn, 1) := by decide +kernel
theorem dX8_hear_69 : decode cX8_hear 69 = .ok (.aload_n 0, 1) := by decide +kernel
theorem dX8_hear_70 : decode cX8_hear 70 = .ok (.getfield 16, 3) := by decide +kernel
theorem dX8_hear_73 : decode cX8_hear 73 = .ok (.aload_n 0, 1) := by decide +kernel
theorem dX8_hear_74 : decode cX8_hear 74 = .ok (.getfield 10, 3) := by decide +kernel
theorem dX8_hear_77 : decode cX8_hear 77 = .ok (.invokevirtual 85, 3) := by decide +kernel
theorem dX8_hear_80 : decode cX8_hear 80 = .ok (.aload_n 0, 1) := by decide +kernel
theorem dX8_hear_81 : decode cX8_hear 81 = .ok (.getfield 10, 3) := by decide +kernel
theorem dX8_hear_84 : decode cX8_hear 84 = .ok (.iload_n 1, 1) := by decide +kernel
theorem dX8_hear_85 : decode cX8_hear 85 = .ok (.iload_n 2, 1) := by decide +kernel
theorem dX8_hear_86 : decode cX8_hear 86 = .ok (.invokevirtual 159, 3) := by decide +kernel
theorem dX8_hear_89 : decode cX8_hear 89 = .ok (.aload_n 0, 1) := by decide +kernel
theorem dX8_hear_90 : decode cX8_hear 90 = .ok (.aload_n 0, 1) := by decide +kernel
theorem dX8_hear_91 : decode cX8_hear 91 = .ok (.getfield 10, 3) := by decide +kernel
theorem dX8_hear_94 : decode cX8_hear 94 = .ok (.getfield 156, 3) := by decide +kernel
theorem dX8_hear_97 : decode cX8_hear 97 = .ok (.iload_n 1, 1) := by decide +kernel
theorem dX8_hear_98 : decode cX8_hear 98 = .ok (.iaload, 1) := by decide +kernel
theorem dX8_hear_99 : decode cX8_hear 99 = .ok (.iconst (-1), 1) := by decide +kernel
theorem dX8_hear_100 : decode cX8_hear 100 = .ok (.invokevirtual 141, 3) := by decide +kernel
theorem dX8_hear_103 : decode cX8_hear 103 = .ok (.ireturn, 1) := by decide +kernel
theorem dX8_run_0 : decode cX8_run 0 = .ok (.aload_n 0, 1) := by decide +kernel
theorem dX8_run_1 : decode cX8_run 1 = .ok (.getfield 10, 3) := by decide +kernel
theorem dX8_run_4 : decode cX8_run 4 = .ok (.iconst 0, 1) := by decide +kernel
theorem dX8_run_5 : decode cX8_run 5 = .ok (.iload_n 1, 1) := by decide +kernel
theorem dX8_run_6 : decode cX8_run 6 = .ok (.invokevirtual 110, 3) := by decide +kernel
theorem dX8_run_9 : decode cX8_run 9 = .ok (.ifCond .ne 5, 3) := by decide +kernel
theorem dX8_run_12 : decode cX8_run 12 = .ok (.iconst (-1), 1) := by decide +kernel
theorem dX8_run_13 : decode cX8_run 13 = .ok (.ireturn, 1) := by decide +kernel
theorem dX8_run_14 : decode cX8_run 14 = .ok (.iload_n 2, 1) := by decide +kernel
theorem dX8_run_15 : decode cX8_run 15 = .ok (.ifCond .lt 10, 3) := by decide +kernel
theorem dX8_run_18 : decode cX8_run 18 = .ok (.iload_n 2, 1) := by decide +kernel
theorem dX8_run_19 : decode cX8_run 19 = .ok (.sipush 9973, 3) := by decide +kernel
theorem dX8_run_22 : decode cX8_run 22 = .ok (.if_icmp .lt 6, 3) := by decide +kernel
theorem dX8_run_25 : decode cX8_run 25 = .ok (.bipush (-2), 2) := by decide +kernel
theorem dX8_run_27 : decode cX8_run 27 = .ok (.ireturn, 1) := by decide +kernel
theorem dX8_run_28 : decode cX8_run 28 = .ok (.aload_n 0, 1) := by decide +kernel
theorem dX8_run_29 : decode cX8_run 29 = .ok (.getfield 36, 3) := by decide +kernel
theorem dX8_run_32 : decode cX8_run 32 = .ok (.aload_n 0, 1) := by decide +kernel
theorem dX8_run_33 : decode cX8_run 33 = .ok (.getfield 10, 3) := by decide +kernel
theorem dX8_run_36 : decode cX8_run 36 = .ok (.iload_n 1, 1) := by decide +kernel
theorem dX8_run_37 : decode cX8_run 37 = .ok (.iload_n 2, 1) := by decide +kernel
theorem dX8_run_38 : decode cX8_run 38 = .ok (.invokevirtual 163, 3) := by decide +kernel
theorem dX8_run_41 : decode cX8_run 41 = .ok (.istore_n 3, 1) := by decide +kernel
theorem dX8_run_42 : decode cX8_run 42 = .ok (.iload_n 3, 1) := by decide +kernel
theorem dX8_run_43 : decode cX8_run 43 = .ok (.bipush (-6), 2) := by decide +kernel
theorem dX8_run_45 : decode cX8_run 45 = .ok (.if_icmp .eq 14, 3) := by decide +kernel
theorem dX8_run_48 : decode cX8_run 48 = .ok (.aload_n 0, 1) := by decide +kernel
theorem dX8_run_49 : decode cX8_run 49 = .ok (.aload_n 0, 1) := by decide +kernel
theorem dX8_run_50 : decode cX8_run 50 = .ok (.getfield 36, 3) := by decide +kernel
theorem dX8_run_53 : decode cX8_run 53 = .ok (.getfield 167, 3) := by decide +kernel
theorem dX8_run_56 : decode cX8_run 56 = .ok (.putfield 79, 3) := by decide +kernel
theorem dX8_run_59 : decode cX8_run 59 = .ok (.iload_n 3, 1) := by decide +kernel
theorem dX8_run_60 : decode cX8_run 60 = .ok (.ireturn, 1) := by decide +kernel
theorem dX8_done_0 : decode cX8_done 0 = .ok (.aload_n 0, 1) := by decide +kernel
theorem dX8_done_1 : decode cX8_done 1 = .ok (.getfield 79, 3) := by decide +kernel
theorem dX8_done_4 : decode cX8_done 4 = .ok (.ireturn, 1) := by decide +kernel
theorem dX8_price_0 : decode cX8_price 0 = .ok (.iload_n 1, 1) := by decide +kernel
theorem dX8_price_1 : decode cX8_price 1 = .ok (.ifCond .lt 8, 3) := by decide +kernel
theorem dX8_price_4 : decode cX8_price 4 = .ok (.iload_n 1, 1) := by decide +kernel
theorem dX8_price_5 : decode cX8_price 5 = .ok (.iconst 4, 1) := by decide +kernel
theorem dX8_price_6 : decode cX8_price 6 = .ok (.if_icmp .lt 5, 3) := by decide +kernel
theorem dX8_price_9 : decode cX8_price 9 = .ok (.iconst (-1), 1) := by decide +kernel
theorem dX8_price_10 : decode cX8_price 10 = .ok (.ireturn, 1) := by decide +kernel
theorem dX8_price_11 : decode cX8_price 11 = .ok (.iload_n 2, 1) := by decide +kernel
theorem dX8_price_12 : decode cX8_price 12 = .ok (.ifCond .lt 9, 3) := by decide +kernel
theorem dX8_price_15 : decode cX8_price 15 = .ok (.iload_n 2, 1) := by decide +kernel
theorem dX8_price_16 : decode cX8_price 16 = .ok (.bipush 99, 2) := by decide +kernel
theorem dX8_price_18 : decode cX8_price 18 = .ok (.if_icmp .le 6, 3) := by decide +kernel
theorem dX8_price_21 : decode cX8_price 21 = .ok (.bipush (-2), 2) := by decide +kernel
theorem dX8_price_23 : decode cX8_price 23 = .ok (.ireturn, 1) := by decide +kernel
theorem dX8_price_24 : decode cX8_price 24 = .ok (.aload_n 0, 1) := by decide +kernel
theorem dX8_price_25 : decode cX8_price 25 = .ok (.getfield 64, 3) := by decide +kernel
theorem dX8_price_28 : decode cX8_price 28 = .ok (.iload_n 1, 1) := by decide +kernel
theorem dX8_price_29 : decode cX8_price 29 = .ok (.iaload, 1) := by decide +kernel
theorem dX8_price_30 : decode cX8_price 30 = .ok (.istore_n 3, 1) := by decide +kernel
theorem dX8_price_31 : decode cX8_price 31 = .ok (.aload_n 0, 1) := by decide +kernel
theorem dX8_price_32 : decode cX8_price 32 = .ok (.getfield 64, 3) := by decide +kernel
theorem dX8_price_35 : decode cX8_price 35 = .ok (.iload_n 1, 1) := by decide +kernel
theorem dX8_price_36 : decode cX8_price 36 = .ok (.iload_n 2, 1) := by decide +kernel
theorem dX8_price_37 : decode cX8_price 37 = .ok (.iastore, 1) := by decide +kernel
theorem dX8_price_38 : decode cX8_price 38 = .ok (.iload_n 3, 1) := by decide +kernel
theorem dX8_price_39 : decode cX8_price 39 = .ok (.ireturn, 1) := by decide +kernel
theorem dX8_tie_0 : decode cX8_tie 0 = .ok (.aload_n 0, 1) := by decide +kernel
theorem dX8_tie_1 : decode cX8_tie 1 = .ok (.iload_n 1, 1) := by decide +kernel
theorem dX8_tie_2 : decode cX8_tie 2 = .ok (.iload_n 2, 1) := by decide +kernel
theorem dX8_tie_3 : decode cX8_tie 3 = .ok (.invokevirtual 168, 3) := by decide +kernel
theorem dX8_tie_6 : decode cX8_tie 6 = .ok (.ifCond .ne 5, 3) := by decide +kernel
theorem dX8_tie_9 : decode cX8_tie 9 = .ok (.iconst (-1), 1) := by decide +kernel
theorem dX8_tie_10 : decode cX8_tie 10 = .ok (.ireturn, 1) := by decide +kernel
theorem dX8_tie_11 : decode cX8_tie 11 = .ok (.aload_n 0, 1) := by decide +kernel
theorem dX8_tie_12 : decode cX8_tie 12 = .ok (.invokevirtual 171, 3) := by decide +kernel
theorem dX8_tie_15 : decode cX8_tie 15 = .ok (.iload_n 3, 1) := by decide +kernel
theorem dX8_tie_16 : decode cX8_tie 16 = .ok (.lookupswitch 56 #[(0, 28), (1, 42)], 28) := by decide +kernel
theorem dX8_tie_44 : decode cX8_tie 44 = .ok (.aload_n 0, 1) := by decide +kernel
theorem dX8_tie_45 : decode cX8_tie 45 = .ok (.getfield 43, 3) := by decide +kernel
theorem dX8_tie_48 : decode cX8_tie 48 = .ok (.getfield 174, 3) := by decide +kernel
theorem dX8_tie_51 : decode cX8_tie 51 = .ok (.iload_n 1, 1) := by decide +kernel
theorem dX8_tie_52 : decode cX8_tie 52 = .ok (.iload_n 2, 1) := by decide +kernel
theorem dX8_tie_53 : decode cX8_tie 53 = .ok (.invokestatic 177, 3) := by decide +kernel
theorem dX8_tie_56 : decode cX8_tie 56 = .ok (.iaload, 1) := by decide +kernel
theorem dX8_tie_57 : decode cX8_tie 57 = .ok (.ireturn, 1) := by decide +kernel
theorem dX8_tie_58 : decode cX8_tie 58 = .ok (.aload_n 0, 1) := by decide +kernel
theorem dX8_tie_59 : decode cX8_tie 59 = .ok (.getfield 43, 3) := by decide +kernel
theorem dX8_tie_62 : decode cX8_tie 62 = .ok (.getfield 180, 3) := by decide +kernel
theorem dX8_tie_65 : decode cX8_tie 65 = .ok (.iload_n 1, 1) := by decide +kernel
theorem dX8_tie_66 : decode cX8_tie 66 = .ok (.iload_n 2, 1) := by decide +kernel
theorem dX8_tie_67 : decode cX8_tie 67 = .ok (.invokestatic 177, 3) := by decide +kernel
theorem dX8_tie_70 : decode cX8_tie 70 = .ok (.iaload, 1) := by decide +kernel
theorem dX8_tie_71 : decode cX8_tie 71 = .ok (.ireturn, 1) := by decide +kernel
theorem dX8_tie_72 : decode cX8_tie 72 = .ok (.iconst (-1), 1) := by decide +kernel
theorem dX8_tie_73 : decode cX8_tie 73 = .ok (.ireturn, 1) := by decide +kernel
theorem dX8_allow_0 : decode cX8_allow 0 = .ok (.aload_n 0, 1) := by decide +kernel
theorem dX8_allow_1 : decode cX8_allow 1 = .ok (.iload_n 1, 1) := by decide +kernel
theorem dX8_allow_2 : decode cX8_allow 2 = .ok (.iload_n 2, 1) := by decide +kernel
theorem dX8_allow_3 : decode cX8_allow 3 = .ok (.invokevirtual 168, 3) := by decide +kernel
theorem dX8_allow_6 : decode cX8_allow 6 = .ok (.ifCond .ne 5, 3) := by decide +kernel
theorem dX8_allow_9 : decode cX8_allow 9 = .ok (.iconst (-1), 1) := by decide +kernel
theorem dX8_allow_10 : decode cX8_allow 10 = .ok (.ireturn, 1) := by decide +kernel
theorem dX8_allow_11 : decode cX8_allow 11 = .ok (.iload_n 3, 1) := by decide +kernel
theorem dX8_allow_12 : decode cX8_allow 12 = .ok (.ifCond .lt 10, 3) := by decide +kernel
theorem dX8_allow_15 : decode cX8_allow 15 = .ok (.iload_n 3, 1) := by decide +kernel
theorem dX8_allow_16 : decode cX8_allow 16 = .ok (.sipush 999, 3) := by decide +kernel
theorem dX8_allow_19 : decode cX8_allow 19 = .ok (.if_icmp .le 6, 3) := by decide +kernel
theorem dX8_allow_22 : decode cX8_allow 22 = .ok (.bipush (-2), 2) := by decide +kernel
theorem dX8_allow_24 : decode cX8_allow 24 = .ok (.ireturn, 1) := by decide +kernel
theorem dX8_allow_25 : decode cX8_allow 25 = .ok (.aload_n 0, 1) := by decide +kernel
theorem dX8_allow_26 : decode cX8_allow 26 = .ok (.getfield 10, 3) := by decide +kernel
theorem dX8_allow_29 : decode cX8_allow 29 = .ok (.getfield 183, 3) := by decide +kernel
theorem dX8_allow_32 : decode cX8_allow 32 = .ok (.iload_n 1, 1) := by decide +kernel
theorem dX8_allow_33 : decode cX8_allow 33 = .ok (.iload_n 2, 1) := by decide +kernel
theorem dX8_allow_34 : decode cX8_allow 34 = .ok (.invokestatic 177, 3) := by decide +kernel
theorem dX8_allow_37 : decode cX8_allow 37 = .ok (.iaload, 1) := by decide +kernel
theorem dX8_allow_38 : decode cX8_allow 38 = .ok (.istore 4, 2) := by decide +kernel
theorem dX8_allow_40 : decode cX8_allow 40 = .ok (.aload_n 0, 1) := by decide +kernel
theorem dX8_allow_41 : decode cX8_allow 41 = .ok (.getfield 10, 3) := by decide +kernel
theorem dX8_allow_44 : decode cX8_allow 44 = .ok (.getfield 183, 3) := by decide +kernel
theorem dX8_allow_47 : decode cX8_allow 47 = .ok (.iload_n 1, 1) := by decide +kernel
theorem dX8_allow_48 : decode cX8_allow 48 = .ok (.iload_n 2, 1) := by decide +kernel
theorem dX8_allow_49 : decode cX8_allow 49 = .ok (.invokestatic 177, 3) := by decide +kernel
theorem dX8_allow_52 : decode cX8_allow 52 = .ok (.iload_n 3, 1) := by decide +kernel
theorem dX8_allow_53 : decode cX8_allow 53 = .ok (.iastore, 1) := by decide +kernel
theorem dX8_allow_54 : decode cX8_allow 54 = .ok (.iload 4, 2) := by decide +kernel
theorem dX8_allow_56 : decode cX8_allow 56 = .ok (.ireturn, 1) := by decide +kernel
theorem dX8_day_0 : decode cX8_day 0 = .ok (.iload_n 1, 1) := by decide +kernel
theorem dX8_day_1 : decode cX8_day 1 = .ok (.aload_n 0, 1) := by decide +kernel
theorem dX8_day_2 : decode cX8_day 2 = .ok (.getfield 68, 3) := by decide +kernel
theorem dX8_day_5 : decode cX8_day 5 = .ok (.if_icmp .lt 10, 3) := by decide +kernel
theorem dX8_day_8 : decode cX8_day 8 = .ok (.iload_n 1, 1) := by decide +kernel
theorem dX8_day_9 : decode cX8_day 9 = .ok (.sipush 999, 3) := by decide +kernel
theorem dX8_day_12 : decode cX8_day 12 = .ok (.if_icmp .le 6, 3) := by decide +kernel
theorem dX8_day_15 : decode cX8_day 15 = .ok (.bipush (-2), 2) := by decide +kernel
theorem dX8_day_17 : decode cX8_day 17 = .ok (.ireturn, 1) := by decide +kernel
theorem dX8_day_18 : decode cX8_day 18 = .ok (.aload_n 0, 1) := by decide +kernel
theorem dX8_day_19 : decode cX8_day 19 = .ok (.getfield 68, 3) := by decide +kernel
theorem dX8_day_22 : decode cX8_day 22 = .ok (.istore_n 2, 1) := by decide +kernel
theorem dX8_day_23 : decode cX8_day 23 = .ok (.aload_n 0, 1) := by decide +kernel
theorem dX8_day_24 : decode cX8_day 24 = .ok (.iload_n 1, 1) := by decide +kernel
theorem dX8_day_25 : decode cX8_day 25 = .ok (.putfield 68, 3) := by decide +kernel
theorem dX8_day_28 : decode cX8_day 28 = .ok (.iload_n 2, 1) := by decide +kernel
theorem dX8_day_29 : decode cX8_day 29 = .ok (.ireturn, 1) := by decide +kernel
theorem dX8_group_0 : decode cX8_group 0 = .ok (.aload_n 0, 1) := by decide +kernel
theorem dX8_group_1 : decode cX8_group 1 = .ok (.getfield 10, 3) := by decide +kernel
theorem dX8_group_4 : decode cX8_group 4 = .ok (.iload_n 1, 1) := by decide +kernel
theorem dX8_group_5 : decode cX8_group 5 = .ok (.invokevirtual 100, 3) := by decide +kernel
theorem dX8_group_8 : decode cX8_group 8 = .ok (.ifCond .ne 5, 3) := by decide +kernel
theorem dX8_group_11 : decode cX8_group 11 = .ok (.iconst (-1), 1) := by decide +kernel
theorem dX8_group_12 : decode cX8_group 12 = .ok (.ireturn, 1) := by decide +kernel
theorem dX8_group_13 : decode cX8_group 13 = .ok (.aload_n 0, 1) := by decide +kernel
theorem dX8_group_14 : decode cX8_group 14 = .ok (.invokevirtual 171, 3) := by decide +kernel
theorem dX8_group_17 : decode cX8_group 17 = .ok (.aload_n 0, 1) := by decide +kernel
theorem dX8_group_18 : decode cX8_group 18 = .ok (.getfield 43, 3) := by decide +kernel
theorem dX8_group_21 : decode cX8_group 21 = .ok (.getfield 186, 3) := by decide +kernel
theorem dX8_group_24 : decode cX8_group 24 = .ok (.iload_n 1, 1) := by decide +kernel
theorem dX8_group_25 : decode cX8_group 25 = .ok (.invokevirtual 190, 3) := by decide +kernel
theorem dX8_group_28 : decode cX8_group 28 = .ok (.ireturn, 1) := by decide +kernel
theorem dX8_groups_0 : decode cX8_groups 0 = .ok (.aload_n 0, 1) := by decide +kernel
theorem dX8_groups_1 : decode cX8_groups 1 = .ok (.invokevirtual 171, 3) := by decide +kernel
theorem dX8_groups_4 : decode cX8_groups 4 = .ok (.aload_n 0, 1) := by decide +kernel
theorem dX8_groups_5 : decode cX8_groups 5 = .ok (.getfield 43, 3) := by decide +kernel
theorem dX8_groups_8 : decode cX8_groups 8 = .ok (.getfield 186, 3) := by decide +kernel
theorem dX8_groups_11 : decode cX8_groups 11 = .ok (.invokevirtual 196, 3) := by decide +kernel
theorem dX8_groups_14 : decode cX8_groups 14 = .ok (.ireturn, 1) := by decide +kernel
theorem dX8_ring_0 : decode cX8_ring 0 = .ok (.aload_n 0, 1) := by decide +kernel
theorem dX8_ring_1 : decode cX8_ring 1 = .ok (.iload_n 1, 1) := by decide +kernel
theorem dX8_ring_2 : decode cX8_ring 2 = .ok (.iload_n 2, 1) := by decide +kernel
theorem dX8_ring_3 : decode cX8_ring 3 = .ok (.invokevirtual 168, 3) := by decide +kernel
theorem dX8_ring_6 : decode cX8_ring 6 = .ok (.ifCond .ne 5, 3) := by decide +kernel
theorem dX8_ring_9 : decode cX8_ring 9 = .ok (.iconst (-1), 1) := by decide +kernel
theorem dX8_ring_10 : decode cX8_ring 10 = .ok (.ireturn, 1) := by decide +kernel
theorem dX8_ring_11 : decode cX8_ring 11 = .ok (.aload_n 0, 1) := by decide +kernel
theorem dX8_ring_12 : decode cX8_ring 12 = .ok (.invokevirtual 171, 3) := by decide +kernel
theorem dX8_ring_15 : decode cX8_ring 15 = .ok (.aload_n 0, 1) := by decide +kernel
theorem dX8_ring_16 : decode cX8_ring 16 = .ok (.getfield 43, 3) := by decide +kernel
theorem dX8_ring_19 : decode cX8_ring 19 = .ok (.getfield 186, 3) := by decide +kernel
theorem dX8_ring_22 : decode cX8_ring 22 = .ok (.iload_n 1, 1) := by decide +kernel
theorem dX8_ring_23 : decode cX8_ring 23 = .ok (.iload_n 2, 1) := by decide +kernel
theorem dX8_ring_24 : decode cX8_ring 24 = .ok (.invokevirtual 199, 3) := by decide +kernel
theorem dX8_ring_27 : decode cX8_ring 27 = .ok (.istore 5, 2) := by decide +kernel
theorem dX8_ring_29 : decode cX8_ring 29 = .ok (.iload 5, 2) := by decide +kernel
theorem dX8_ring_31 : decode cX8_ring 31 = .ok (.ifCond .ne 5, 3) := by decide +kernel
theorem dX8_ring_34 : decode cX8_ring 34 = .ok (.iconst (-1), 1) := by decide +kernel
theorem dX8_ring_35 : decode cX8_ring 35 = .ok (.ireturn, 1) := by decide +kernel
theorem dX8_ring_36 : decode cX8_ring 36 = .ok (.iload_n 3, 1) := by decide +kernel
theorem dX8_ring_37 : decode cX8_ring 37 = .ok (.lookupswitch 60 #[(0, 27), (1, 30)], 27) := by decide +kernel
theorem dX8_ring_64 : decode cX8_ring 64 = .ok (.iload 5, 2) := by decide +kernel
theorem dX8_ring_66 : decode cX8_ring 66 = .ok (.ireturn, 1) := by decide +kernel
theorem dX8_ring_67 : decode cX8_ring 67 = .ok (.iload 4, 2) := by decide +kernel
theorem dX8_ring_69 : decode cX8_ring 69 = .ok (.ifCond .lt 26, 3) := by decide +kernel
theorem dX8_ring_72 : decode cX8_ring 72 = .ok (.iload 4, 2) := by decide +kernel
theorem dX8_ring_74 : decode cX8_ring 74 = .ok (.iload 5, 2) := by decide +kernel
theorem dX8_ring_76 : decode cX8_ring 76 = .ok (.if_icmp .ge 19, 3) := by decide +kernel
theorem dX8_ring_79 : decode cX8_ring 79 = .ok (.aload_n 0, 1) := by decide +kernel
theorem dX8_ring_80 : decode cX8_ring 80 = .ok (.getfield 43, 3) := by decide +kernel
theorem dX8_ring_83 : decode cX8_ring 83 = .ok (.getfield 186, 3) := by decide +kernel
theorem dX8_ring_86 : decode cX8_ring 86 = .ok (.getfield 202, 3) := by decide +kernel
theorem dX8_ring_89 : decode cX8_ring 89 = .ok (.iload 4, 2) := by decide +kernel
theorem dX8_ring_91 : decode cX8_ring 91 = .ok (.iaload, 1) := by decide +kernel
theorem dX8_ring_92 : decode cX8_ring 92 = .ok (.goto 4, 3) := by decide +kernel
theorem dX8_ring_95 : decode cX8_ring 95 = .ok (.iconst (-1), 1) := by decide +kernel
theorem dX8_ring_96 : decode cX8_ring 96 = .ok (.ireturn, 1) := by decide +kernel
theorem dX8_ring_97 : decode cX8_ring 97 = .ok (.iconst (-1), 1) := by decide +kernel
theorem dX8_ring_98 : decode cX8_ring 98 = .ok (.ireturn, 1) := by decide +kernel
theorem dX8_choice_0 : decode cX8_choice 0 = .ok (.aload_n 0, 1) := by decide +kernel
theorem dX8_choice_1 : decode cX8_choice 1 = .ok (.invokevirtual 171, 3) := by decide +kernel
theorem dX8_choice_4 : decode cX8_choice 4 = .ok (.aload_n 0, 1) := by decide +kernel
theorem dX8_choice_5 : decode cX8_choice 5 = .ok (.getfield 53, 3) := by decide +kernel
theorem dX8_choice_8 : decode cX8_choice 8 = .ok (.aload_n 0, 1) := by decide +kernel
theorem dX8_choice_9 : decode cX8_choice 9 = .ok (.getfield 43, 3) := by decide +kernel
theorem dX8_choice_12 : decode cX8_choice 12 = .ok (.invokevirtual 205, 3) := by decide +kernel
theorem dX8_choice_15 : decode cX8_choice 15 = .ok (.ireturn, 1) := by decide +kernel
theorem dX8_chosen_0 : decode cX8_chosen 0 = .ok (.aload_n 0, 1) := by decide +kernel
theorem dX8_chosen_1 : decode cX8_chosen 1 = .ok (.invokevirtual 171, 3) := by decide +kernel
theorem dX8_chosen_4 : decode cX8_chosen 4 = .ok (.aload_n 0, 1) := by decide +kernel
theorem dX8_chosen_5 : decode cX8_chosen 5 = .ok (.getfield 53, 3) := by decide +kernel
theorem dX8_chosen_8 : decode cX8_chosen 8 = .ok (.aload_n 0, 1) := by decide +kernel
theorem dX8_chosen_9 : decode cX8_chosen 9 = .ok (.getfield 43, 3) := by decide +kernel
theorem dX8_chosen_12 : decode cX8_chosen 12 = .ok (.invokevirtual 205, 3) := by decide +kernel
theorem dX8_chosen_15 : decode cX8_chosen 15 = .ok (.pop, 1) := by decide +kernel
theorem dX8_chosen_16 : decode cX8_chosen 16 = .ok (.iload_n 1, 1) := by decide +kernel
theorem dX8_chosen_17 : decode cX8_chosen 17 = .ok (.lookupswitch 69 #[(0, 27), (1, 56)], 27) := by decide +kernel
theorem dX8_chosen_44 : decode cX8_chosen 44 = .ok (.iload_n 2, 1) := by decide +kernel
theorem dX8_chosen_45 : decode cX8_chosen 45 = .ok (.ifCond .lt 26, 3) := by decide +kernel
theorem dX8_chosen_48 : decode cX8_chosen 48 = .ok (.iload_n 2, 1) := by decide +kernel
theorem dX8_chosen_49 : decode cX8_chosen 49 = .ok (.aload_n 0, 1) := by decide +kernel
theorem dX8_chosen_50 : decode cX8_chosen 50 = .ok (.getfield 10, 3) := by decide +kernel
theorem dX8_chosen_53 : decode cX8_chosen 53 = .ok (.getfield 82, 3) := by decide +kernel
theorem dX8_chosen_56 : decode cX8_chosen 56 = .ok (.if_icmp .ge 15, 3) := by decide +kernel
theorem dX8_chosen_59 : decode cX8_chosen 59 = .ok (.aload_n 0, 1) := by decide +kernel
theorem dX8_chosen_60 : decode cX8_chosen 60 = .ok (.getfield 53, 3) := by decide +kernel
theorem dX8_chosen_63 : decode cX8_chosen 63 = .ok (.getfield 209, 3) := by decide +kernel
theorem dX8_chosen_66 : decode cX8_chosen 66 = .ok (.iload_n 2, 1) := by decide +kernel
theorem dX8_chosen_67 : decode cX8_chosen 67 = .ok (.iaload, 1) := by decide +kernel
theorem dX8_chosen_68 : decode cX8_chosen 68 = .ok (.goto 4, 3) := by decide +kernel
theorem dX8_chosen_71 : decode cX8_chosen 71 = .ok (.iconst (-1), 1) := by decide +kernel
theorem dX8_chosen_72 : decode cX8_chosen 72 = .ok (.ireturn, 1) := by decide +kernel
theorem dX8_chosen_73 : decode cX8_chosen 73 = .ok (.aload_n 0, 1) := by decide +kernel
theorem dX8_chosen_74 : decode cX8_chosen 74 = .ok (.getfield 53, 3) := by decide +kernel
theorem dX8_chosen_77 : decode cX8_chosen 77 = .ok (.aload_n 0, 1) := by decide +kernel
theorem dX8_chosen_78 : decode cX8_chosen 78 = .ok (.getfield 43, 3) := by decide +kernel
theorem dX8_chosen_81 : decode cX8_chosen 81 = .ok (.iload_n 2, 1) := by decide +kernel
theorem dX8_chosen_82 : decode cX8_chosen 82 = .ok (.invokevirtual 212, 3) := by decide +kernel
theorem dX8_chosen_85 : decode cX8_chosen 85 = .ok (.ireturn, 1) := by decide +kernel
theorem dX8_chosen_86 : decode cX8_chosen 86 = .ok (.iconst (-1), 1) := by decide +kernel
theorem dX8_chosen_87 : decode cX8_chosen 87 = .ok (.ireturn, 1) := by decide +kernel
theorem dX8_bound_0 : decode cX8_bound 0 = .ok (.aload_n 0, 1) := by decide +kernel
theorem dX8_bound_1 : decode cX8_bound 1 = .ok (.invokevirtual 171, 3) := by decide +kernel
theorem dX8_bound_4 : decode cX8_bound 4 = .ok (.aload_n 0, 1) := by decide +kernel
theorem dX8_bound_5 : decode cX8_bound 5 = .ok (.getfield 60, 3) := by decide +kernel
theorem dX8_bound_8 : decode cX8_bound 8 = .ok (.aload_n 0, 1) := by decide +kernel
theorem dX8_bound_9 : decode cX8_bound 9 = .ok (.getfield 43, 3) := by decide +kernel
theorem dX8_bound_12 : decode cX8_bound 12 = .ok (.invokevirtual 216, 3) := by decide +kernel
theorem dX8_bound_15 : decode cX8_bound 15 = .ok (.ireturn, 1) := by decide +kernel
theorem dX8_layer_0 : decode cX8_layer 0 = .ok (.aload_n 0, 1) := by decide +kernel
theorem dX8_layer_1 : decode cX8_layer 1 = .ok (.getfield 10, 3) := by decide +kernel
theorem dX8_layer_4 : decode cX8_layer 4 = .ok (.iload_n 1, 1) := by decide +kernel
theorem dX8_layer_5 : decode cX8_layer 5 = .ok (.invokevirtual 100, 3) := by decide +kernel
theorem dX8_layer_8 : decode cX8_layer 8 = .ok (.ifCond .ne 5, 3) := by decide +kernel
theorem dX8_layer_11 : decode cX8_layer 11 = .ok (.iconst (-1), 1) := by decide +kernel
theorem dX8_layer_12 : decode cX8_layer 12 = .ok (.ireturn, 1) := by decide +kernel
theorem dX8_layer_13 : decode cX8_layer 13 = .ok (.aload_n 0, 1) := by decide +kernel
theorem dX8_layer_14 : decode cX8_layer 14 = .ok (.invokevirtual 171, 3) := by decide +kernel
theorem dX8_layer_17 : decode cX8_layer 17 = .ok (.aload_n 0, 1) := by decide +kernel
theorem dX8_layer_18 : decode cX8_layer 18 = .ok (.getfield 43, 3) := by decide +kernel
theorem dX8_layer_21 : decode cX8_layer 21 = .ok (.getfield 186, 3) := by decide +kernel
theorem dX8_layer_24 : decode cX8_layer 24 = .ok (.invokevirtual 196, 3) := by decide +kernel
theorem dX8_layer_27 : decode cX8_layer 27 = .ok (.ifCond .le 8, 3) := by decide +kernel
theorem dX8_layer_30 : decode cX8_layer 30 = .ok (.bipush (-3), 2) := by decide +kernel
theorem dX8_layer_32 : decode cX8_layer 32 = .ok (.goto 14, 3) := by decide +kernel
theorem dX8_layer_35 : decode cX8_layer 35 = .ok (.aload_n 0, 1) := by decide +kernel
theorem dX8_layer_36 : decode cX8_layer 36 = .ok (.getfield 43, 3) := by decide +kernel
theorem dX8_layer_39 : decode cX8_layer 39 = .ok (.getfield 186, 3) := by decide +kernel
theorem dX8_layer_42 : decode cX8_layer 42 = .ok (.iload_n 1, 1) := by decide +kernel
theorem dX8_layer_43 : decode cX8_layer 43 = .ok (.invokevirtual 219, 3) := by decide +kernel
theorem dX8_layer_46 : decode cX8_layer 46 = .ok (.ireturn, 1) := by decide +kernel
theorem dX8_worth_0 : decode cX8_worth 0 = .ok (.aload_n 0, 1) := by decide +kernel
theorem dX8_worth_1 : decode cX8_worth 1 = .ok (.invokevirtual 171, 3) := by decide +kernel
theorem dX8_worth_4 : decode cX8_worth 4 = .ok (.aload_n 0, 1) := by decide +kernel
theorem dX8_worth_5 : decode cX8_worth 5 = .ok (.getfield 43, 3) := by decide +kernel
theorem dX8_worth_8 : decode cX8_worth 8 = .ok (.getfield 186, 3) := by decide +kernel
theorem dX8_worth_11 : decode cX8_worth 11 = .ok (.invokevirtual 222, 3) := by decide +kernel
theorem dX8_worth_14 : decode cX8_worth 14 = .ok (.ireturn, 1) := by decide +kernel
theorem dX8_breaks_0 : decode cX8_breaks 0 = .ok (.lload_n 1, 1) := by decide +kernel
theorem dX8_breaks_1 : decode cX8_breaks 1 = .ok (.lconst 0, 1) := by decide +kernel
theorem dX8_breaks_2 : decode cX8_breaks 2 = .ok (.lcmp, 1) := by decide +kernel
theorem dX8_breaks_3 : decode cX8_breaks 3 = .ok (.ifCond .ge 6, 3) := by decide +kernel
theorem dX8_breaks_6 : decode cX8_breaks 6 = .ok (.bipush (-2), 2) := by decide +kernel
theorem dX8_breaks_8 : decode cX8_breaks 8 = .ok (.ireturn, 1) := by decide +kernel
theorem dX8_breaks_9 : decode cX8_breaks 9 = .ok (.aload_n 0, 1) := by decide +kernel
theorem dX8_breaks_10 : decode cX8_breaks 10 = .ok (.getfield 43, 3) := by decide +kernel
theorem dX8_breaks_13 : decode cX8_breaks 13 = .ok (.getfield 225, 3) := by decide +kernel
theorem dX8_breaks_16 : decode cX8_breaks 16 = .ok (.astore_n 3, 1) := by decide +kernel
theorem dX8_breaks_17 : decode cX8_breaks 17 = .ok (.lload_n 1, 1) := by decide +kernel
theorem dX8_breaks_18 : decode cX8_breaks 18 = .ok (.lstore 4, 2) := by decide +kernel
theorem dX8_breaks_20 : decode cX8_breaks 20 = .ok (.iconst 0, 1) := by decide +kernel
theorem dX8_breaks_21 : decode cX8_breaks 21 = .ok (.istore 6, 2) := by decide +kernel
theorem dX8_breaks_23 : decode cX8_breaks 23 = .ok (.iload 6, 2) := by decide +kernel
theorem dX8_breaks_25 : decode cX8_breaks 25 = .ok (.aload_n 0, 1) := by decide +kernel
theorem dX8_breaks_26 : decode cX8_breaks 26 = .ok (.getfield 10, 3) := by decide +kernel
theorem dX8_breaks_29 : decode cX8_breaks 29 = .ok (.getfield 82, 3) := by decide +kernel
theorem dX8_breaks_32 : decode cX8_breaks 32 = .ok (.if_icmp .ge 28, 3) := by decide +kernel
theorem dX8_breaks_35 : decode cX8_breaks 35 = .ok (.aload_n 3, 1) := by decide +kernel
theorem dX8_breaks_36 : decode cX8_breaks 36 = .ok (.iload 6, 2) := by decide +kernel
theorem dX8_breaks_38 : decode cX8_breaks 38 = .ok (.lload 4, 2) := by decide +kernel
theorem dX8_breaks_40 : decode cX8_breaks 40 = .ok (.ldc2_w 228, 3) := by decide +kernel
theorem dX8_breaks_43 : decode cX8_breaks 43 = .ok (.lrem, 1) := by decide +kernel
theorem dX8_breaks_44 : decode cX8_breaks 44 = .ok (.l2i, 1) := by decide +kernel
theorem dX8_breaks_45 : decode cX8_breaks 45 = .ok (.iastore, 1) := by decide +kernel
theorem dX8_breaks_46 : decode cX8_breaks 46 = .ok (.lload 4, 2) := by decide +kernel
theorem dX8_breaks_48 : decode cX8_breaks 48 = .ok (.ldc2_w 228, 3) := by decide +kernel
theorem dX8_breaks_51 : decode cX8_breaks 51 = .ok (.ldiv, 1) := by decide +kernel
theorem dX8_breaks_52 : decode cX8_breaks 52 = .ok (.lstore 4, 2) := by decide +kernel
theorem dX8_breaks_54 : decode cX8_breaks 54 = .ok (.iinc 6 1, 3) := by decide +kernel
theorem dX8_breaks_57 : decode cX8_breaks 57 = .ok (.goto (-34), 3) := by decide +kernel
theorem dX8_breaks_60 : decode cX8_breaks 60 = .ok (.lload 4, 2) := by decide +kernel
theorem dX8_breaks_62 : decode cX8_breaks 62 = .ok (.lconst 0, 1) := by decide +kernel
theorem dX8_breaks_63 : decode cX8_breaks 63 = .ok (.lcmp, 1) := by decide +kernel
theorem dX8_breaks_64 : decode cX8_breaks 64 = .ok (.ifCond .eq 6, 3) := by decide +kernel
theorem dX8_breaks_67 : decode cX8_breaks 67 = .ok (.bipush (-2), 2) := by decide +kernel
theorem dX8_breaks_69 : decode cX8_breaks 69 = .ok (.ireturn, 1) := by decide +kernel
theorem dX8_breaks_70 : decode cX8_breaks 70 = .ok (.aload_n 0, 1) := by decide +kernel
theorem dX8_breaks_71 : decode cX8_breaks 71 = .ok (.invokevirtual 171, 3) := by decide +kernel
theorem dX8_breaks_74 : decode cX8_breaks 74 = .ok (.aload_n 0, 1) := by decide +kernel
theorem dX8_breaks_75 : decode cX8_breaks 75 = .ok (.getfield 43, 3) := by decide +kernel
theorem dX8_breaks_78 : decode cX8_breaks 78 = .ok (.invokevirtual 230, 3) := by decide +kernel
theorem dX8_breaks_81 : decode cX8_breaks 81 = .ok (.ireturn, 1) := by decide +kernel
theorem dX8_guard_0 : decode cX8_guard 0 = .ok (.iload_n 1, 1) := by decide +kernel
theorem dX8_guard_1 : decode cX8_guard 1 = .ok (.ifCond .eq 11, 3) := by decide +kernel
theorem dX8_guard_4 : decode cX8_guard 4 = .ok (.iload_n 1, 1) := by decide +kernel
theorem dX8_guard_5 : decode cX8_guard 5 = .ok (.iconst 1, 1) := by decide +kernel
theorem dX8_guard_6 : decode cX8_guard 6 = .ok (.if_icmp .eq 6, 3) := by decide +kernel
theorem dX8_guard_9 : decode cX8_guard 9 = .ok (.bipush (-2), 2) := by decide +kernel
theorem dX8_guard_11 : decode cX8_guard 11 = .ok (.ireturn, 1) := by decide +kernel
theorem dX8_guard_12 : decode cX8_guard 12 = .ok (.aload_n 0, 1) := by decide +kernel
theorem dX8_guard_13 : decode cX8_guard 13 = .ok (.getfield 72, 3) := by decide +kernel
theorem dX8_guard_16 : decode cX8_guard 16 = .ok (.ifCond .eq 7, 3) := by decide +kernel
theorem dX8_guard_19 : decode cX8_guard 19 = .ok (.iconst 1, 1) := by decide +kernel
theorem dX8_guard_20 : decode cX8_guard 20 = .ok (.goto 4, 3) := by decide +kernel
theorem dX8_guard_23 : decode cX8_guard 23 = .ok (.iconst 0, 1) := by decide +kernel
theorem dX8_guard_24 : decode cX8_guard 24 = .ok (.istore_n 2, 1) := by decide +kernel
theorem dX8_guard_25 : decode cX8_guard 25 = .ok (.aload_n 0, 1) := by decide +kernel
theorem dX8_guard_26 : decode cX8_guard 26 = .ok (.iload_n 1, 1) := by decide +kernel
theorem dX8_guard_27 : decode cX8_guard 27 = .ok (.iconst 1, 1) := by decide +kernel
theorem dX8_guard_28 : decode cX8_guard 28 = .ok (.if_icmp .ne 7, 3) := by decide +kernel
theorem dX8_guard_31 : decode cX8_guard 31 = .ok (.iconst 1, 1) := by decide +kernel
theorem dX8_guard_32 : decode cX8_guard 32 = .ok (.goto 4, 3) := by decide +kernel
theorem dX8_guard_35 : decode cX8_guard 35 = .ok (.iconst 0, 1) := by decide +kernel
theorem dX8_guard_36 : decode cX8_guard 36 = .ok (.putfield 72, 3) := by decide +kernel
theorem dX8_guard_39 : decode cX8_guard 39 = .ok (.iload_n 2, 1) := by decide +kernel
theorem dX8_guard_40 : decode cX8_guard 40 = .ok (.ireturn, 1) := by decide +kernel
theorem dX8_guarded_0 : decode cX8_guarded 0 = .ok (.aload_n 0, 1) := by decide +kernel
theorem dX8_guarded_1 : decode cX8_guarded 1 = .ok (.getfield 76, 3) := by decide +kernel
theorem dX8_guarded_4 : decode cX8_guarded 4 = .ok (.ireturn, 1) := by decide +kernel
theorem dX8_move_0 : decode cX8_move 0 = .ok (.aload_n 0, 1) := by decide +kernel
theorem dX8_move_1 : decode cX8_move 1 = .ok (.getfield 10, 3) := by decide +kernel
theorem dX8_move_4 : decode cX8_move 4 = .ok (.iload_n 1, 1) := by decide +kernel
theorem dX8_move_5 : decode cX8_move 5 = .ok (.iload_n 2, 1) := by decide +kernel
theorem dX8_move_6 : decode cX8_move 6 = .ok (.invokevirtual 110, 3) := by decide +kernel
theorem dX8_move_9 : decode cX8_move 9 = .ok (.ifCond .eq 14, 3) := by decide +kernel
theorem dX8_move_12 : decode cX8_move 12 = .ok (.aload_n 0, 1) := by decide +kernel
theorem dX8_move_13 : decode cX8_move 13 = .ok (.getfield 10, 3) := by decide +kernel
theorem dX8_move_16 : decode cX8_move 16 = .ok (.iload_n 3, 1) := by decide +kernel
theorem dX8_move_17 : decode cX8_move 17 = .ok (.invokevirtual 100, 3) := by decide +kernel
theorem dX8_move_20 : decode cX8_move 20 = .ok (.ifCond .ne 5, 3) := by decide +kernel
theorem dX8_move_23 : decode cX8_move 23 = .ok (.iconst (-1), 1) := by decide +kernel
theorem dX8_move_24 : decode cX8_move 24 = .ok (.ireturn, 1) := by decide +kernel
theorem dX8_move_25 : decode cX8_move 25 = .ok (.aload_n 0, 1) := by decide +kernel
theorem dX8_move_26 : decode cX8_move 26 = .ok (.getfield 10, 3) := by decide +kernel
theorem dX8_move_29 : decode cX8_move 29 = .ok (.iload_n 1, 1) := by decide +kernel
theorem dX8_move_30 : decode cX8_move 30 = .ok (.iload_n 2, 1) := by decide +kernel
theorem dX8_move_31 : decode cX8_move 31 = .ok (.invokevirtual 114, 3) := by decide +kernel
theorem dX8_move_34 : decode cX8_move 34 = .ok (.istore 4, 2) := by decide +kernel
theorem dX8_move_36 : decode cX8_move 36 = .ok (.iload 4, 2) := by decide +kernel
theorem dX8_move_38 : decode cX8_move 38 = .ok (.iload_n 3, 1) := by decide +kernel
theorem dX8_move_39 : decode cX8_move 39 = .ok (.if_icmp .eq 18, 3) := by decide +kernel
theorem dX8_move_42 : decode cX8_move 42 = .ok (.iload_n 1, 1) := by decide +kernel
theorem dX8_move_43 : decode cX8_move 43 = .ok (.ifCond .ne 17, 3) := by decide +kernel
theorem dX8_move_46 : decode cX8_move 46 = .ok (.aload_n 0, 1) := by decide +kernel
theorem dX8_move_47 : decode cX8_move 47 = .ok (.getfield 10, 3) := by decide +kernel
theorem dX8_move_50 : decode cX8_move 50 = .ok (.iload_n 2, 1) := by decide +kernel
theorem dX8_move_51 : decode cX8_move 51 = .ok (.invokevirtual 124, 3) := by decide +kernel
theorem dX8_move_54 : decode cX8_move 54 = .ok (.ifCond .eq 6, 3) := by decide +kernel
theorem dX8_move_57 : decode cX8_move 57 = .ok (.bipush (-3), 2) := by decide +kernel
theorem dX8_move_59 : decode cX8_move 59 = .ok (.ireturn, 1) := by decide +kernel
theorem dX8_move_60 : decode cX8_move 60 = .ok (.aload_n 0, 1) := by decide +kernel
theorem dX8_move_61 : decode cX8_move 61 = .ok (.getfield 16, 3) := by decide +kernel
theorem dX8_move_64 : decode cX8_move 64 = .ok (.aload_n 0, 1) := by decide +kernel
theorem dX8_move_65 : decode cX8_move 65 = .ok (.getfield 10, 3) := by decide +kernel
theorem dX8_move_68 : decode cX8_move 68 = .ok (.invokevirtual 85, 3) := by decide +kernel
theorem dX8_move_71 : decode cX8_move 71 = .ok (.aload_n 0, 1) := by decide +kernel
theorem dX8_move_72 : decode cX8_move 72 = .ok (.getfield 10, 3) := by decide +kernel
theorem dX8_move_75 : decode cX8_move 75 = .ok (.iload_n 1, 1) := by decide +kernel
theorem dX8_move_76 : decode cX8_move 76 = .ok (.iload_n 2, 1) := by decide +kernel
theorem dX8_move_77 : decode cX8_move 77 = .ok (.iload_n 3, 1) := by decide +kernel
theorem dX8_move_78 : decode cX8_move 78 = .ok (.invokevirtual 233, 3) := by decide +kernel
theorem dX8_move_81 : decode cX8_move 81 = .ok (.aload_n 0, 1) := by decide +kernel
theorem dX8_move_82 : decode cX8_move 82 = .ok (.iload 4, 2) := by decide +kernel
theorem dX8_move_84 : decode cX8_move 84 = .ok (.iconst (-1), 1) := by decide +kernel
theorem dX8_move_85 : decode cX8_move 85 = .ok (.invokevirtual 141, 3) := by decide +kernel
theorem dX8_move_88 : decode cX8_move 88 = .ok (.ireturn, 1) := by decide +kernel
theorem dX8_split_0 : decode cX8_split 0 = .ok (.aload_n 0, 1) := by decide +kernel
theorem dX8_split_1 : decode cX8_split 1 = .ok (.getfield 10, 3) := by decide +kernel
theorem dX8_split_4 : decode cX8_split 4 = .ok (.iload_n 1, 1) := by decide +kernel
theorem dX8_split_5 : decode cX8_split 5 = .ok (.invokevirtual 100, 3) := by decide +kernel
theorem dX8_split_8 : decode cX8_split 8 = .ok (.ifCond .ne 5, 3) := by decide +kernel
theorem dX8_split_11 : decode cX8_split 11 = .ok (.iconst (-1), 1) := by decide +kernel
theorem dX8_split_12 : decode cX8_split 12 = .ok (.ireturn, 1) := by decide +kernel
theorem dX8_split_13 : decode cX8_split 13 = .ok (.iload_n 2, 1) := by decide +kernel
theorem dX8_split_14 : decode cX8_split 14 = .ok (.ifCond .eq 14, 3) := by decide +kernel
theorem dX8_split_17 : decode cX8_split 17 = .ok (.aload_n 0, 1) := by decide +kernel
theorem dX8_split_18 : decode cX8_split 18 = .ok (.getfield 10, 3) := by decide +kernel
theorem dX8_split_21 : decode cX8_split 21 = .ok (.iload_n 2, 1) := by decide +kernel
theorem dX8_split_22 : decode cX8_split 22 = .ok (.invokevirtual 237, 3) := by decide +kernel
theorem dX8_split_25 : decode cX8_split 25 = .ok (.ifCond .ne 6, 3) := by decide +kernel
theorem dX8_split_28 : decode cX8_split 28 = .ok (.bipush (-2), 2) := by decide +kernel
theorem dX8_split_30 : decode cX8_split 30 = .ok (.ireturn, 1) := by decide +kernel
theorem dX8_split_31 : decode cX8_split 31 = .ok (.aload_n 0, 1) := by decide +kernel
theorem dX8_split_32 : decode cX8_split 32 = .ok (.getfield 10, 3) := by decide +kernel
theorem dX8_split_35 : decode cX8_split 35 = .ok (.iload_n 1, 1) := by decide +kernel
theorem dX8_split_36 : decode cX8_split 36 = .ok (.iload_n 2, 1) := by decide +kernel
theorem dX8_split_37 : decode cX8_split 37 = .ok (.invokevirtual 240, 3) := by decide +kernel
theorem dX8_split_40 : decode cX8_split 40 = .ok (.ifCond .ne 6, 3) := by decide +kernel
theorem dX8_split_43 : decode cX8_split 43 = .ok (.bipush (-3), 2) := by decide +kernel
theorem dX8_split_45 : decode cX8_split 45 = .ok (.ireturn, 1) := by decide +kernel
theorem dX8_split_46 : decode cX8_split 46 = .ok (.aload_n 0, 1) := by decide +kernel
theorem dX8_split_47 : decode cX8_split 47 = .ok (.getfield 10, 3) := by decide +kernel
theorem dX8_split_50 : decode cX8_split 50 = .ok (.getfield 82, 3) := by decide +kernel
theorem dX8_split_53 : decode cX8_split 53 = .ok (.bipush 10, 2) := by decide +kernel
theorem dX8_split_55 : decode cX8_split 55 = .ok (.if_icmp .lt 6, 3) := by decide +kernel
theorem dX8_split_58 : decode cX8_split 58 = .ok (.bipush (-4), 2) := by decide +kernel
theorem dX8_split_60 : decode cX8_split 60 = .ok (.ireturn, 1) := by decide +kernel
theorem dX8_split_61 : decode cX8_split 61 = .ok (.aload_n 0, 1) := by decide +kernel
theorem dX8_split_62 : decode cX8_split 62 = .ok (.getfield 16, 3) := by decide +kernel
theorem dX8_split_65 : decode cX8_split 65 = .ok (.aload_n 0, 1) := by decide +kernel
theorem dX8_split_66 : decode cX8_split 66 = .ok (.getfield 10, 3) := by decide +kernel
theorem dX8_split_69 : decode cX8_split 69 = .ok (.invokevirtual 85, 3) := by decide +kernel
theorem dX8_split_72 : decode cX8_split 72 = .ok (.aload_n 0, 1) := by decide +kernel
theorem dX8_split_73 : decode cX8_split 73 = .ok (.getfield 10, 3) := by decide +kernel
theorem dX8_split_76 : decode cX8_split 76 = .ok (.invokevirtual 89, 3) := by decide +kernel
theorem dX8_split_79 : decode cX8_split 79 = .ok (.istore_n 3, 1) := by decide +kernel
theorem dX8_split_80 : decode cX8_split 80 = .ok (.aload_n 0, 1) := by decide +kernel
theorem dX8_split_81 : decode cX8_split 81 = .ok (.getfield 10, 3) := by decide +kernel
theorem dX8_split_84 : decode cX8_split 84 = .ok (.iload_n 2, 1) := by decide +kernel
theorem dX8_split_85 : decode cX8_split 85 = .ok (.iload_n 3, 1) := by decide +kernel
theorem dX8_split_86 : decode cX8_split 86 = .ok (.invokevirtual 243, 3) := by decide +kernel
theorem dX8_split_89 : decode cX8_split 89 = .ok (.aload_n 0, 1) := by decide +kernel
theorem dX8_split_90 : decode cX8_split 90 = .ok (.iload_n 3, 1) := by decide +kernel
theorem dX8_split_91 : decode cX8_split 91 = .ok (.iconst (-1), 1) := by decide +kernel
theorem dX8_split_92 : decode cX8_split 92 = .ok (.invokevirtual 141, 3) := by decide +kernel
theorem dX8_split_95 : decode cX8_split 95 = .ok (.ireturn, 1) := by decide +kernel
theorem dX8_melt_0 : decode cX8_melt 0 = .ok (.aload_n 0, 1) := by decide +kernel
theorem dX8_melt_1 : decode cX8_melt 1 = .ok (.getfield 10, 3) := by decide +kernel
theorem dX8_melt_4 : decode cX8_melt 4 = .ok (.iload_n 1, 1) := by decide +kernel
theorem dX8_melt_5 : decode cX8_melt 5 = .ok (.invokevirtual 100, 3) := by decide +kernel
theorem dX8_melt_8 : decode cX8_melt 8 = .ok (.ifCond .eq 14, 3) := by decide +kernel
theorem dX8_melt_11 : decode cX8_melt 11 = .ok (.aload_n 0, 1) := by decide +kernel
theorem dX8_melt_12 : decode cX8_melt 12 = .ok (.getfield 10, 3) := by decide +kernel
theorem dX8_melt_15 : decode cX8_melt 15 = .ok (.iload_n 2, 1) := by decide +kernel
theorem dX8_melt_16 : decode cX8_melt 16 = .ok (.invokevirtual 100, 3) := by decide +kernel
theorem dX8_melt_19 : decode cX8_melt 19 = .ok (.ifCond .ne 5, 3) := by decide +kernel
theorem dX8_melt_22 : decode cX8_melt 22 = .ok (.iconst (-1), 1) := by decide +kernel
theorem dX8_melt_23 : decode cX8_melt 23 = .ok (.ireturn, 1) := by decide +kernel
theorem dX8_melt_24 : decode cX8_melt 24 = .ok (.iload_n 1, 1) := by decide +kernel
theorem dX8_melt_25 : decode cX8_melt 25 = .ok (.iload_n 2, 1) := by decide +kernel
theorem dX8_melt_26 : decode cX8_melt 26 = .ok (.if_icmp .ne 6, 3) := by decide +kernel
theorem dX8_melt_29 : decode cX8_melt 29 = .ok (.bipush (-2), 2) := by decide +kernel
theorem dX8_melt_31 : decode cX8_melt 31 = .ok (.ireturn, 1) := by decide +kernel
theorem dX8_melt_32 : decode cX8_melt 32 = .ok (.aload_n 0, 1) := by decide +kernel
theorem dX8_melt_33 : decode cX8_melt 33 = .ok (.getfield 16, 3) := by decide +kernel
theorem dX8_melt_36 : decode cX8_melt 36 = .ok (.aload_n 0, 1) := by decide +kernel
theorem dX8_melt_37 : decode cX8_melt 37 = .ok (.getfield 10, 3) := by decide +kernel
theorem dX8_melt_40 : decode cX8_melt 40 = .ok (.invokevirtual 85, 3) := by decide +kernel
theorem dX8_melt_43 : decode cX8_melt 43 = .ok (.aload_n 0, 1) := by decide +kernel
theorem dX8_melt_44 : decode cX8_melt 44 = .ok (.getfield 10, 3) := by decide +kernel
theorem dX8_melt_47 : decode cX8_melt 47 = .ok (.iload_n 1, 1) := by decide +kernel
theorem dX8_melt_48 : decode cX8_melt 48 = .ok (.iload_n 2, 1) := by decide +kernel
theorem dX8_melt_49 : decode cX8_melt 49 = .ok (.invokevirtual 246, 3) := by decide +kernel
theorem dX8_melt_52 : decode cX8_melt 52 = .ok (.aload_n 0, 1) := by decide +kernel
theorem dX8_melt_53 : decode cX8_melt 53 = .ok (.aload_n 0, 1) := by decide +kernel
theorem dX8_melt_54 : decode cX8_melt 54 = .ok (.getfield 10, 3) := by decide +kernel
theorem dX8_melt_57 : decode cX8_melt 57 = .ok (.getfield 82, 3) := by decide +kernel
theorem dX8_melt_60 : decode cX8_melt 60 = .ok (.iload_n 2, 1) := by decide +kernel
theorem dX8_melt_61 : decode cX8_melt 61 = .ok (.invokevirtual 141, 3) := by decide +kernel
theorem dX8_melt_64 : decode cX8_melt 64 = .ok (.ireturn, 1) := by decide +kernel
theorem dX8_turn_0 : decode cX8_turn 0 = .ok (.aload_n 0, 1) := by decide +kernel
theorem dX8_turn_1 : decode cX8_turn 1 = .ok (.getfield 10, 3) := by decide +kernel
theorem dX8_turn_4 : decode cX8_turn 4 = .ok (.iload_n 1, 1) := by decide +kernel
theorem dX8_turn_5 : decode cX8_turn 5 = .ok (.iload_n 2, 1) := by decide +kernel
theorem dX8_turn_6 : decode cX8_turn 6 = .ok (.invokevirtual 144, 3) := by decide +kernel
theorem dX8_turn_9 : decode cX8_turn 9 = .ok (.ifCond .ne 5, 3) := by decide +kernel
theorem dX8_turn_12 : decode cX8_turn 12 = .ok (.iconst (-1), 1) := by decide +kernel
theorem dX8_turn_13 : decode cX8_turn 13 = .ok (.ireturn, 1) := by decide +kernel
theorem dX8_turn_14 : decode cX8_turn 14 = .ok (.aload_n 0, 1) := by decide +kernel
theorem dX8_turn_15 : decode cX8_turn 15 = .ok (.getfield 10, 3) := by decide +kernel
theorem dX8_turn_18 : decode cX8_turn 18 = .ok (.iload_n 1, 1) := by decide +kernel
theorem dX8_turn_19 : decode cX8_turn 19 = .ok (.iload_n 2, 1) := by decide +kernel
theorem dX8_turn_20 : decode cX8_turn 20 = .ok (.invokevirtual 147, 3) := by decide +kernel
theorem dX8_turn_23 : decode cX8_turn 23 = .ok (.iconst 4, 1) := by decide +kernel
theorem dX8_turn_24 : decode cX8_turn 24 = .ok (.if_icmp .ne 15, 3) := by decide +kernel
theorem dX8_turn_27 : decode cX8_turn 27 = .ok (.aload_n 0, 1) := by decide +kernel
theorem dX8_turn_28 : decode cX8_turn 28 = .ok (.getfield 10, 3) := by decide +kernel
theorem dX8_turn_31 : decode cX8_turn 31 = .ok (.iload_n 1, 1) := by decide +kernel
theorem dX8_turn_32 : decode cX8_turn 32 = .ok (.iload_n 2, 1) := by decide +kernel
theorem dX8_turn_33 : decode cX8_turn 33 = .ok (.invokevirtual 249, 3) := by decide +kernel
theorem dX8_turn_36 : decode cX8_turn 36 = .ok (.ifCond .ne 6, 3) := by decide +kernel
theorem dX8_turn_39 : decode cX8_turn 39 = .ok (.bipush (-3), 2) := by decide +kernel
theorem dX8_turn_41 : decode cX8_turn 41 = .ok (.ireturn, 1) := by decide +kernel
theorem dX8_turn_42 : decode cX8_turn 42 = .ok (.aload_n 0, 1) := by decide +kernel
theorem dX8_turn_43 : decode cX8_turn 43 = .ok (.getfield 10, 3) := by decide +kernel
theorem dX8_turn_46 : decode cX8_turn 46 = .ok (.iconst 2, 1) := by decide +kernel
theorem dX8_turn_47 : decode cX8_turn 47 = .ok (.invokevirtual 103, 3) := by decide +kernel
theorem dX8_turn_50 : decode cX8_turn 50 = .ok (.ifCond .eq 6, 3) := by decide +kernel
theorem dX8_turn_53 : decode cX8_turn 53 = .ok (.bipush (-4), 2) := by decide +kernel
theorem dX8_turn_55 : decode cX8_turn 55 = .ok (.ireturn, 1) := by decide +kernel
theorem dX8_turn_56 : decode cX8_turn 56 = .ok (.aload_n 0, 1) := by decide +kernel
theorem dX8_turn_57 : decode cX8_turn 57 = .ok (.getfield 16, 3) := by decide +kernel
theorem dX8_turn_60 : decode cX8_turn 60 = .ok (.aload_n 0, 1) := by decide +kernel
theorem dX8_turn_61 : decode cX8_turn 61 = .ok (.getfield 10, 3) := by decide +kernel
theorem dX8_turn_64 : decode cX8_turn 64 = .ok (.invokevirtual 85, 3) := by decide +kernel
theorem dX8_turn_67 : decode cX8_turn 67 = .ok (.aload_n 0, 1) := by decide +kernel
theorem dX8_turn_68 : decode cX8_turn 68 = .ok (.aload_n 0, 1) := by decide +kernel
theorem dX8_turn_69 : decode cX8_turn 69 = .ok (.getfield 10, 3) := by decide +kernel
theorem dX8_turn_72 : decode cX8_turn 72 = .ok (.iload_n 1, 1) := by decide +kernel
theorem dX8_turn_73 : decode cX8_turn 73 = .ok (.iload_n 2, 1) := by decide +kernel
theorem dX8_turn_74 : decode cX8_turn 74 = .ok (.invokevirtual 252, 3) := by decide +kernel
theorem dX8_turn_77 : decode cX8_turn 77 = .ok (.iconst (-1), 1) := by decide +kernel
theorem dX8_turn_78 : decode cX8_turn 78 = .ok (.invokevirtual 141, 3) := by decide +kernel
theorem dX8_turn_81 : decode cX8_turn 81 = .ok (.ireturn, 1) := by decide +kernel
theorem dX8_face_0 : decode cX8_face 0 = .ok (.aload_n 0, 1) := by decide +kernel
theorem dX8_face_1 : decode cX8_face 1 = .ok (.getfield 10, 3) := by decide +kernel
theorem dX8_face_4 : decode cX8_face 4 = .ok (.iload_n 1, 1) := by decide +kernel
theorem dX8_face_5 : decode cX8_face 5 = .ok (.iload_n 2, 1) := by decide +kernel
theorem dX8_face_6 : decode cX8_face 6 = .ok (.invokevirtual 144, 3) := by decide +kernel
theorem dX8_face_9 : decode cX8_face 9 = .ok (.ifCond .ne 5, 3) := by decide +kernel
theorem dX8_face_12 : decode cX8_face 12 = .ok (.iconst (-1), 1) := by decide +kernel
theorem dX8_face_13 : decode cX8_face 13 = .ok (.ireturn, 1) := by decide +kernel
theorem dX8_face_14 : decode cX8_face 14 = .ok (.aload_n 0, 1) := by decide +kernel
theorem dX8_face_15 : decode cX8_face 15 = .ok (.getfield 10, 3) := by decide +kernel
theorem dX8_face_18 : decode cX8_face 18 = .ok (.iload_n 1, 1) := by decide +kernel
theorem dX8_face_19 : decode cX8_face 19 = .ok (.iload_n 2, 1) := by decide +kernel
theorem dX8_face_20 : decode cX8_face 20 = .ok (.invokevirtual 249, 3) := by decide +kernel
theorem dX8_face_23 : decode cX8_face 23 = .ok (.ifCond .ne 6, 3) := by decide +kernel
theorem dX8_face_26 : decode cX8_face 26 = .ok (.bipush (-3), 2) := by decide +kernel
theorem dX8_face_28 : decode cX8_face 28 = .ok (.ireturn, 1) := by decide +kernel
theorem dX8_face_29 : decode cX8_face 29 = .ok (.aload_n 0, 1) := by decide +kernel
theorem dX8_face_30 : decode cX8_face 30 = .ok (.getfield 10, 3) := by decide +kernel
theorem dX8_face_33 : decode cX8_face 33 = .ok (.getfield 82, 3) := by decide +kernel
theorem dX8_face_36 : decode cX8_face 36 = .ok (.bipush 10, 2) := by decide +kernel
theorem dX8_face_38 : decode cX8_face 38 = .ok (.if_icmp .ge 14, 3) := by decide +kernel
theorem dX8_face_41 : decode cX8_face 41 = .ok (.aload_n 0, 1) := by decide +kernel
theorem dX8_face_42 : decode cX8_face 42 = .ok (.getfield 10, 3) := by decide +kernel
theorem dX8_face_45 : decode cX8_face 45 = .ok (.iconst 0, 1) := by decide +kernel
theorem dX8_face_46 : decode cX8_face 46 = .ok (.invokevirtual 103, 3) := by decide +kernel
theorem dX8_face_49 : decode cX8_face 49 = .ok (.ifCond .eq 6, 3) := by decide +kernel
theorem dX8_face_52 : decode cX8_face 52 = .ok (.bipush (-4), 2) := by decide +kernel
theorem dX8_face_54 : decode cX8_face 54 = .ok (.ireturn, 1) := by decide +kernel
theorem dX8_face_55 : decode cX8_face 55 = .ok (.aload_n 0, 1) := by decide +kernel
theorem dX8_face_56 : decode cX8_face 56 = .ok (.getfield 16, 3) := by decide +kernel
theorem dX8_face_59 : decode cX8_face 59 = .ok (.aload_n 0, 1) := by decide +kernel
theorem dX8_face_60 : decode cX8_face 60 = .ok (.getfield 10, 3) := by decide +kernel
theorem dX8_face_63 : decode cX8_face 63 = .ok (.invokevirtual 85, 3) := by decide +kernel
theorem dX8_face_66 : decode cX8_face 66 = .ok (.aload_n 0, 1) := by decide +kernel
theorem dX8_face_67 : decode cX8_face 67 = .ok (.aload_n 0, 1) := by decide +kernel
theorem dX8_face_68 : decode cX8_face 68 = .ok (.getfield 10, 3) := by decide +kernel
theorem dX8_face_71 : decode cX8_face 71 = .ok (.iload_n 1, 1) := by decide +kernel
theorem dX8_face_72 : decode cX8_face 72 = .ok (.iload_n 2, 1) := by decide +kernel
theorem dX8_face_73 : decode cX8_face 73 = .ok (.invokevirtual 255, 3) := by decide +kernel
theorem dX8_face_76 : decode cX8_face 76 = .ok (.iconst (-1), 1) := by decide +kernel
theorem dX8_face_77 : decode cX8_face 77 = .ok (.invokevirtual 141, 3) := by decide +kernel
theorem dX8_face_80 : decode cX8_face 80 = .ok (.ireturn, 1) := by decide +kernel
theorem dX8_pull_0 : decode cX8_pull 0 = .ok (.aload_n 0, 1) := by decide +kernel
theorem dX8_pull_1 : decode cX8_pull 1 = .ok (.getfield 10, 3) := by decide +kernel
theorem dX8_pull_4 : decode cX8_pull 4 = .ok (.iconst 0, 1) := by decide +kernel
theorem dX8_pull_5 : decode cX8_pull 5 = .ok (.iload_n 1, 1) := by decide +kernel
theorem dX8_pull_6 : decode cX8_pull 6 = .ok (.invokevirtual 110, 3) := by decide +kernel
theorem dX8_pull_9 : decode cX8_pull 9 = .ok (.ifCond .ne 5, 3) := by decide +kernel
theorem dX8_pull_12 : decode cX8_pull 12 = .ok (.iconst (-1), 1) := by decide +kernel
theorem dX8_pull_13 : decode cX8_pull 13 = .ok (.ireturn, 1) := by decide +kernel
theorem dX8_pull_14 : decode cX8_pull 14 = .ok (.aload_n 0, 1) := by decide +kernel
theorem dX8_pull_15 : decode cX8_pull 15 = .ok (.getfield 10, 3) := by decide +kernel
theorem dX8_pull_18 : decode cX8_pull 18 = .ok (.iload_n 1, 1) := by decide +kernel
theorem dX8_pull_19 : decode cX8_pull 19 = .ok (.invokevirtual 124, 3) := by decide +kernel
theorem dX8_pull_22 : decode cX8_pull 22 = .ok (.ifCond .ne 6, 3) := by decide +kernel
theorem dX8_pull_25 : decode cX8_pull 25 = .ok (.bipush (-3), 2) := by decide +kernel
theorem dX8_pull_27 : decode cX8_pull 27 = .ok (.ireturn, 1) := by decide +kernel
theorem dX8_pull_28 : decode cX8_pull 28 = .ok (.aload_n 0, 1) := by decide +kernel
theorem dX8_pull_29 : decode cX8_pull 29 = .ok (.getfield 16, 3) := by decide +kernel
theorem dX8_pull_32 : decode cX8_pull 32 = .ok (.aload_n 0, 1) := by decide +kernel
theorem dX8_pull_33 : decode cX8_pull 33 = .ok (.getfield 10, 3) := by decide +kernel
theorem dX8_pull_36 : decode cX8_pull 36 = .ok (.invokevirtual 85, 3) := by decide +kernel
theorem dX8_pull_39 : decode cX8_pull 39 = .ok (.aload_n 0, 1) := by decide +kernel
theorem dX8_pull_40 : decode cX8_pull 40 = .ok (.aload_n 0, 1) := by decide +kernel
theorem dX8_pull_41 : decode cX8_pull 41 = .ok (.getfield 10, 3) := by decide +kernel
theorem dX8_pull_44 : decode cX8_pull 44 = .ok (.iload_n 1, 1) := by decide +kernel
theorem dX8_pull_45 : decode cX8_pull 45 = .ok (.invokevirtual 258, 3) := by decide +kernel
theorem dX8_pull_48 : decode cX8_pull 48 = .ok (.iconst (-1), 1) := by decide +kernel
theorem dX8_pull_49 : decode cX8_pull 49 = .ok (.invokevirtual 141, 3) := by decide +kernel
theorem dX8_pull_52 : decode cX8_pull 52 = .ok (.ireturn, 1) := by decide +kernel
theorem dX8_back_0 : decode cX8_back 0 = .ok (.aload_n 0, 1) := by decide +kernel
theorem dX8_back_1 : decode cX8_back 1 = .ok (.getfield 22, 3) := by decide +kernel
theorem dX8_back_4 : decode cX8_back 4 = .ok (.getfield 261, 3) := by decide +kernel
theorem dX8_back_7 : decode cX8_back 7 = .ok (.ifCond .ne 6, 3) := by decide +kernel
theorem dX8_back_10 : decode cX8_back 10 = .ok (.bipush (-3), 2) := by decide +kernel
theorem dX8_back_12 : decode cX8_back 12 = .ok (.ireturn, 1) := by decide +kernel
theorem dX8_back_13 : decode cX8_back 13 = .ok (.aload_n 0, 1) := by decide +kernel
theorem dX8_back_14 : decode cX8_back 14 = .ok (.aload_n 0, 1) := by decide +kernel
theorem dX8_back_15 : decode cX8_back 15 = .ok (.getfield 22, 3) := by decide +kernel
theorem dX8_back_18 : decode cX8_back 18 = .ok (.aload_n 0, 1) := by decide +kernel
theorem dX8_back_19 : decode cX8_back 19 = .ok (.getfield 10, 3) := by decide +kernel
theorem dX8_back_22 : decode cX8_back 22 = .ok (.invokevirtual 262, 3) := by decide +kernel
theorem dX8_back_25 : decode cX8_back 25 = .ok (.putfield 10, 3) := by decide +kernel
theorem dX8_back_28 : decode cX8_back 28 = .ok (.aload_n 0, 1) := by decide +kernel
theorem dX8_back_29 : decode cX8_back 29 = .ok (.getfield 22, 3) := by decide +kernel
theorem dX8_back_32 : decode cX8_back 32 = .ok (.getfield 261, 3) := by decide +kernel
theorem dX8_back_35 : decode cX8_back 35 = .ok (.ireturn, 1) := by decide +kernel
theorem dX8_count_0 : decode cX8_count 0 = .ok (.iload_n 1, 1) := by decide +kernel
theorem dX8_count_1 : decode cX8_count 1 = .ok (.tableswitch 142 0 9 #[55, 63, 73, 83, 93, 105, 113, 121, 129, 134], 55) := by decide +kernel
theorem dX8_count_56 : decode cX8_count 56 = .ok (.aload_n 0, 1) := by decide +kernel
theorem dX8_count_57 : decode cX8_count 57 = .ok (.getfield 10, 3) := by decide +kernel
theorem dX8_count_60 : decode cX8_count 60 = .ok (.getfield 82, 3) := by decide +kernel
theorem dX8_count_63 : decode cX8_count 63 = .ok (.ireturn, 1) := by decide +kernel
theorem dX8_count_64 : decode cX8_count 64 = .ok (.aload_n 0, 1) := by decide +kernel
theorem dX8_count_65 : decode cX8_count 65 = .ok (.getfield 10, 3) := by decide +kernel
theorem dX8_count_68 : decode cX8_count 68 = .ok (.getfield 266, 3) := by decide +kernel
theorem dX8_count_71 : decode cX8_count 71 = .ok (.iconst 0, 1) := by decide +kernel
theorem dX8_count_72 : decode cX8_count 72 = .ok (.iaload, 1) := by decide +kernel
theorem dX8_count_73 : decode cX8_count 73 = .ok (.ireturn, 1) := by decide +kernel
theorem dX8_count_74 : decode cX8_count 74 = .ok (.aload_n 0, 1) := by decide +kernel
theorem dX8_count_75 : decode cX8_count 75 = .ok (.getfield 10, 3) := by decide +kernel
theorem dX8_count_78 : decode cX8_count 78 = .ok (.getfield 266, 3) := by decide +kernel
theorem dX8_count_81 : decode cX8_count 81 = .ok (.iconst 1, 1) := by decide +kernel
theorem dX8_count_82 : decode cX8_count 82 = .ok (.iaload, 1) := by decide +kernel
theorem dX8_count_83 : decode cX8_count 83 = .ok (.ireturn, 1) := by decide +kernel
theorem dX8_count_84 : decode cX8_count 84 = .ok (.aload_n 0, 1) := by decide +kernel
theorem dX8_count_85 : decode cX8_count 85 = .ok (.getfield 10, 3) := by decide +kernel
theorem dX8_count_88 : decode cX8_count 88 = .ok (.getfield 266, 3) := by decide +kernel
theorem dX8_count_91 : decode cX8_count 91 = .ok (.iconst 2, 1) := by decide +kernel
theorem dX8_count_92 : decode cX8_count 92 = .ok (.iaload, 1) := by decide +kernel
theorem dX8_count_93 : decode cX8_count 93 = .ok (.ireturn, 1) := by decide +kernel
theorem dX8_count_94 : decode cX8_count 94 = .ok (.aload_n 0, 1) := by decide +kernel
theorem dX8_count_95 : decode cX8_count 95 = .ok (.invokevirtual 171, 3) := by decide +kernel
theorem dX8_count_98 : decode cX8_count 98 = .ok (.aload_n 0, 1) := by decide +kernel
theorem dX8_count_99 : decode cX8_count 99 = .ok (.getfield 43, 3) := by decide +kernel
theorem dX8_count_102 : decode cX8_count 102 = .ok (.invokevirtual 269, 3) := by decide +kernel
theorem dX8_count_105 : decode cX8_count 105 = .ok (.ireturn, 1) := by decide +kernel
theorem dX8_count_106 : decode cX8_count 106 = .ok (.aload_n 0, 1) := by decide +kernel
theorem dX8_count_107 : decode cX8_count 107 = .ok (.getfield 10, 3) := by decide +kernel
theorem dX8_count_110 : decode cX8_count 110 = .ok (.invokevirtual 272, 3) := by decide +kernel
theorem dX8_count_113 : decode cX8_count 113 = .ok (.ireturn, 1) := by decide +kernel
theorem dX8_count_114 : decode cX8_count 114 = .ok (.aload_n 0, 1) := by decide +kernel
theorem dX8_count_115 : decode cX8_count 115 = .ok (.getfield 10, 3) := by decide +kernel
theorem dX8_count_118 : decode cX8_count 118 = .ok (.invokevirtual 275, 3) := by decide +kernel
theorem dX8_count_121 : decode cX8_count 121 = .ok (.ireturn, 1) := by decide +kernel
theorem dX8_count_122 : decode cX8_count 122 = .ok (.aload_n 0, 1) := by decide +kernel
theorem dX8_count_123 : decode cX8_count 123 = .ok (.getfield 22, 3) := by decide +kernel
theorem dX8_count_126 : decode cX8_count 126 = .ok (.getfield 261, 3) := by decide +kernel
theorem dX8_count_129 : decode cX8_count 129 = .ok (.ireturn, 1) := by decide +kernel
theorem dX8_count_130 : decode cX8_count 130 = .ok (.aload_n 0, 1) := by decide +kernel
theorem dX8_count_131 : decode cX8_count 131 = .ok (.getfield 68, 3) := by decide +kernel
theorem dX8_count_134 : decode cX8_count 134 = .ok (.ireturn, 1) := by decide +kernel
theorem dX8_count_135 : decode cX8_count 135 = .ok (.aload_n 0, 1) := by decide +kernel
theorem dX8_count_136 : decode cX8_count 136 = .ok (.getfield 29, 3) := by decide +kernel
theorem dX8_count_139 : decode cX8_count 139 = .ok (.getfield 121, 3) := by decide +kernel
theorem dX8_count_142 : decode cX8_count 142 = .ok (.ireturn, 1) := by decide +kernel
theorem dX8_count_143 : decode cX8_count 143 = .ok (.iconst (-1), 1) := by decide +kernel
theorem dX8_count_144 : decode cX8_count 144 = .ok (.ireturn, 1) := by decide +kernel
theorem dX8_isKind_0 : decode cX8_isKind 0 = .ok (.iload_n 0, 1) := by decide +kernel
theorem dX8_isKind_1 : decode cX8_isKind 1 = .ok (.ifCond .lt 12, 3) := by decide +kernel
theorem dX8_isKind_4 : decode cX8_isKind 4 = .ok (.iload_n 0, 1) := by decide +kernel
theorem dX8_isKind_5 : decode cX8_isKind 5 = .ok (.iconst 3, 1) := by decide +kernel
theorem dX8_isKind_6 : decode cX8_isKind 6 = .ok (.if_icmp .ge 7, 3) := by decide +kernel
theorem dX8_isKind_9 : decode cX8_isKind 9 = .ok (.iconst 1, 1) := by decide +kernel
theorem dX8_isKind_10 : decode cX8_isKind 10 = .ok (.goto 4, 3) := by decide +kernel
theorem dX8_isKind_13 : decode cX8_isKind 13 = .ok (.iconst 0, 1) := by decide +kernel
theorem dX8_isKind_14 : decode cX8_isKind 14 = .ok (.ireturn, 1) := by decide +kernel
theorem dX8_pair_0 : decode cX8_pair 0 = .ok (.iload_n 0, 1) := by decide +kernel
theorem dX8_pair_1 : decode cX8_pair 1 = .ok (.bipush 10, 2) := by decide +kernel
theorem dX8_pair_3 : decode cX8_pair 3 = .ok (.imul, 1) := by decide +kernel
theorem dX8_pair_4 : decode cX8_pair 4 = .ok (.iload_n 1, 1) := by decide +kernel
theorem dX8_pair_5 : decode cX8_pair 5 = .ok (.iadd, 1) := by decide +kernel
theorem dX8_pair_6 : decode cX8_pair 6 = .ok (.ireturn, 1) := by decide +kernel
theorem dX8_isPair_0 : decode cX8_isPair 0 = .ok (.aload_n 0, 1) := by decide +kernel
theorem dX8_isPair_1 : decode cX8_isPair 1 = .ok (.getfield 10, 3) := by decide +kernel
theorem dX8_isPair_4 : decode cX8_isPair 4 = .ok (.iload_n 1, 1) := by decide +kernel
theorem dX8_isPair_5 : decode cX8_isPair 5 = .ok (.invokevirtual 100, 3) := by decide +kernel
theorem dX8_isPair_8 : decode cX8_isPair 8 = .ok (.ifCond .eq 23, 3) := by decide +kernel
theorem dX8_isPair_11 : decode cX8_isPair 11 = .ok (.aload_n 0, 1) := by decide +kernel
theorem dX8_isPair_12 : decode cX8_isPair 12 = .ok (.getfield 10, 3) := by decide +kernel
theorem dX8_isPair_15 : decode cX8_isPair 15 = .ok (.iload_n 2, 1) := by decide +kernel
theorem dX8_isPair_16 : decode cX8_isPair 16 = .ok (.invokevirtual 100, 3) := by decide +kernel
theorem dX8_isPair_19 : decode cX8_isPair 19 = .ok (.ifCond .eq 12, 3) := by decide +kernel
theorem dX8_isPair_22 : decode cX8_isPair 22 = .ok (.iload_n 1, 1) := by decide +kernel
theorem dX8_isPair_23 : decode cX8_isPair 23 = .ok (.iload_n 2, 1) := by decide +kernel
theorem dX8_isPair_24 : decode cX8_isPair 24 = .ok (.if_icmp .eq 7, 3) := by decide +kernel
theorem dX8_isPair_27 : decode cX8_isPair 27 = .ok (.iconst 1, 1) := by decide +kernel
theorem dX8_isPair_28 : decode cX8_isPair 28 = .ok (.goto 4, 3) := by decide +kernel
theorem dX8_isPair_31 : decode cX8_isPair 31 = .ok (.iconst 0, 1) := by decide +kernel
theorem dX8_isPair_32 : decode cX8_isPair 32 = .ok (.ireturn, 1) := by decide +kernel
theorem dX8_readTies_0 : decode cX8_readTies 0 = .ok (.aload_n 0, 1) := by decide +kernel
theorem dX8_readTies_1 : decode cX8_readTies 1 = .ok (.getfield 43, 3) := by decide +kernel
theorem dX8_readTies_4 : decode cX8_readTies 4 = .ok (.aload_n 0, 1) := by decide +kernel
theorem dX8_readTies_5 : decode cX8_readTies 5 = .ok (.getfield 10, 3) := by decide +kernel
theorem dX8_readTies_8 : decode cX8_readTies 8 = .ok (.aload_n 0, 1) := by decide +kernel
theorem dX8_readTies_9 : decode cX8_readTies 9 = .ok (.getfield 64, 3) := by decide +kernel
theorem dX8_readTies_12 : decode cX8_readTies 12 = .ok (.aload_n 0, 1) := by decide +kernel
theorem dX8_readTies_13 : decode cX8_readTies 13 = .ok (.getfield 68, 3) := by decide +kernel
theorem dX8_readTies_16 : decode cX8_readTies 16 = .ok (.invokevirtual 278, 3) := by decide +kernel
theorem dX8_readTies_19 : decode cX8_readTies 19 = .ok (.return_, 1) := by decide +kernel
theorem dX8_settle_0 : decode cX8_settle 0 = .ok (.aload_n 0, 1) := by decide +kernel
theorem dX8_settle_1 : decode cX8_settle 1 = .ok (.getfield 72, 3) := by decide +kernel
theorem dX8_settle_4 : decode cX8_settle 4 = .ok (.ifCond .eq 41, 3) := by decide +kernel
theorem dX8_settle_7 : decode cX8_settle 7 = .ok (.aload_n 0, 1) := by decide +kernel
theorem dX8_settle_8 : decode cX8_settle 8 = .ok (.iload_n 2, 1) := by decide +kernel
theorem dX8_settle_9 : decode cX8_settle 9 = .ok (.invokevirtual 282, 3) := by decide +kernel
theorem dX8_settle_12 : decode cX8_settle 12 = .ok (.ifCond .eq 33, 3) := by decide +kernel
theorem dX8_settle_15 : decode cX8_settle 15 = .ok (.aload_n 0, 1) := by decide +kernel
theorem dX8_settle_16 : decode cX8_settle 16 = .ok (.aload_n 0, 1) := by decide +kernel
theorem dX8_settle_17 : decode cX8_settle 17 = .ok (.iload_n 2, 1) := by decide +kernel
theorem dX8_settle_18 : decode cX8_settle 18 = .ok (.invokevirtual 285, 3) := by decide +kernel
theorem dX8_settle_21 : decode cX8_settle 21 = .ok (.putfield 76, 3) := by decide +kernel
theorem dX8_settle_24 : decode cX8_settle 24 = .ok (.aload_n 0, 1) := by decide +kernel
theorem dX8_settle_25 : decode cX8_settle 25 = .ok (.getfield 10, 3) := by decide +kernel
theorem dX8_settle_28 : decode cX8_settle 28 = .ok (.astore_n 3, 1) := by decide +kernel
theorem dX8_settle_29 : decode cX8_settle 29 = .ok (.aload_n 0, 1) := by decide +kernel
theorem dX8_settle_30 : decode cX8_settle 30 = .ok (.aload_n 0, 1) := by decide +kernel
theorem dX8_settle_31 : decode cX8_settle 31 = .ok (.getfield 16, 3) := by decide +kernel
theorem dX8_settle_34 : decode cX8_settle 34 = .ok (.putfield 10, 3) := by decide +kernel
theorem dX8_settle_37 : decode cX8_settle 37 = .ok (.aload_n 0, 1) := by decide +kernel
theorem dX8_settle_38 : decode cX8_settle 38 = .ok (.aload_n 3, 1) := by decide +kernel
theorem dX8_settle_39 : decode cX8_settle 39 = .ok (.putfield 16, 3) := by decide +kernel
theorem dX8_settle_42 : decode cX8_settle 42 = .ok (.bipush (-5), 2) := by decide +kernel
theorem dX8_settle_44 : decode cX8_settle 44 = .ok (.ireturn, 1) := by decide +kernel
theorem dX8_settle_45 : decode cX8_settle 45 = .ok (.aload_n 0, 1) := by decide +kernel
theorem dX8_settle_46 : decode cX8_settle 46 = .ok (.invokevirtual 93, 3) := by decide +kernel
theorem dX8_settle_49 : decode cX8_settle 49 = .ok (.iload_n 1, 1) := by decide +kernel
theorem dX8_settle_50 : decode cX8_settle 50 = .ok (.ireturn, 1) := by decide +kernel
theorem dX8_keepChange_0 : decode cX8_keepChange 0 = .ok (.aload_n 0, 1) := by decide +kernel
theorem dX8_keepChange_1 : decode cX8_keepChange 1 = .ok (.aload_n 0, 1) := by decide +kernel
theorem dX8_keepChange_2 : decode cX8_keepChange 2 = .ok (.getfield 22, 3) := by decide +kernel
theorem dX8_keepChange_5 : decode cX8_keepChange 5 = .ok (.aload_n 0, 1) := by decide +kernel
theorem dX8_keepChange_6 : decode cX8_keepChange 6 = .ok (.getfield 16, 3) := by decide +kernel
theorem dX8_keepChange_9 : decode cX8_keepChange 9 = .ok (.invokevirtual 288, 3) := by decide +kernel
theorem dX8_keepChange_12 : decode cX8_keepChange 12 = .ok (.putfield 16, 3) := by decide +kernel
theorem dX8_keepChange_15 : decode cX8_keepChange 15 = .ok (.return_, 1) := by decide +kernel
theorem dX8_isForbidden_0 : decode cX8_isForbidden 0 = .ok (.aload_n 0, 1) := by decide +kernel
theorem dX8_isForbidden_1 : decode cX8_isForbidden 1 = .ok (.getfield 47, 3) := by decide +kernel
theorem dX8_isForbidden_4 : decode cX8_isForbidden 4 = .ok (.aload_n 0, 1) := by decide +kernel
theorem dX8_isForbidden_5 : decode cX8_isForbidden 5 = .ok (.getfield 16, 3) := by decide +kernel
theorem dX8_isForbidden_8 : decode cX8_isForbidden 8 = .ok (.aload_n 0, 1) := by decide +kernel
theorem dX8_isForbidden_9 : decode cX8_isForbidden 9 = .ok (.getfield 64, 3) := by decide +kernel
theorem dX8_isForbidden_12 : decode cX8_isForbidden 12 = .ok (.aload_n 0, 1) := by decide +kernel
theorem dX8_isForbidden_13 : decode cX8_isForbidden 13 = .ok (.getfield 68, 3) := by decide +kernel
theorem dX8_isForbidden_16 : decode cX8_isForbidden 16 = .ok (.invokevirtual 278, 3) := by decide +kernel
theorem dX8_isForbidden_19 : decode cX8_isForbidden 19 = .ok (.aload_n 0, 1) := by decide +kernel
theorem dX8_isForbidden_20 : decode cX8_isForbidden 20 = .ok (.getfield 43, 3) := by decide +kernel
theorem dX8_isForbidden_23 : decode cX8_isForbidden 23 = .ok (.aload_n 0, 1) := by decide +kernel
theorem dX8_isForbidden_24 : decode cX8_isForbidden 24 = .ok (.getfield 10, 3) := by decide +kernel
theorem dX8_isForbidden_27 : decode cX8_isForbidden 27 = .ok (.aload_n 0, 1) := by decide +kernel
theorem dX8_isForbidden_28 : decode cX8_isForbidden 28 = .ok (.getfield 64, 3) := by decide +kernel
theorem dX8_isForbidden_31 : decode cX8_isForbidden 31 = .ok (.aload_n 0, 1) := by decide +kernel
theorem dX8_isForbidden_32 : decode cX8_isForbidden 32 = .ok (.getfield 68, 3) := by decide +kernel
theorem dX8_isForbidden_35 : decode cX8_isForbidden 35 = .ok (.invokevirtual 278, 3) := by decide +kernel
theorem dX8_isForbidden_38 : decode cX8_isForbidden 38 = .ok (.aload_n 0, 1) := by decide +kernel
theorem dX8_isForbidden_39 : decode cX8_isForbidden 39 = .ok (.iload_n 1, 1) := by decide +kernel
theorem dX8_isForbidden_40 : decode cX8_isForbidden 40 = .ok (.invokevirtual 291, 3) := by decide +kernel
theorem dX8_isForbidden_43 : decode cX8_isForbidden 43 = .ok (.ireturn, 1) := by decide +kernel
theorem dX8_joinsParts_0 : decode cX8_joinsParts 0 = .ok (.iconst 0, 1) := by decide +kernel
theorem dX8_joinsParts_1 : decode cX8_joinsParts 1 = .ok (.istore_n 2, 1) := by decide +kernel
theorem dX8_joinsParts_2 : decode cX8_joinsParts 2 = .ok (.iload_n 2, 1) := by decide +kernel
theorem dX8_joinsParts_3 : decode cX8_joinsParts 3 = .ok (.aload_n 0, 1) := by decide +kernel
theorem dX8_joinsParts_4 : decode cX8_joinsParts 4 = .ok (.getfield 10, 3) := by decide +kernel
theorem dX8_joinsParts_7 : decode cX8_joinsParts 7 = .ok (.getfield 82, 3) := by decide +kernel
theorem dX8_joinsParts_10 : decode cX8_joinsParts 10 = .ok (.if_icmp .ge 102, 3) := by decide +kernel
theorem dX8_joinsParts_13 : decode cX8_joinsParts 13 = .ok (.iload_n 2, 1) := by decide +kernel
theorem dX8_joinsParts_14 : decode cX8_joinsParts 14 = .ok (.iconst 1, 1) := by decide +kernel
theorem dX8_joinsParts_15 : decode cX8_joinsParts 15 = .ok (.iadd, 1) := by decide +kernel
theorem dX8_joinsParts_16 : decode cX8_joinsParts 16 = .ok (.istore_n 3, 1) := by decide +kernel
theorem dX8_joinsParts_17 : decode cX8_joinsParts 17 = .ok (.iload_n 3, 1) := by decide +kernel
theorem dX8_joinsParts_18 : decode cX8_joinsParts 18 = .ok (.aload_n 0, 1) := by decide +kernel
theorem dX8_joinsParts_19 : decode cX8_joinsParts 19 = .ok (.getfield 10, 3) := by decide +kernel
theorem dX8_joinsParts_22 : decode cX8_joinsParts 22 = .ok (.getfield 82, 3) := by decide +kernel
theorem dX8_joinsParts_25 : decode cX8_joinsParts 25 = .ok (.if_icmp .ge 81, 3) := by decide +kernel
theorem dX8_joinsParts_28 : decode cX8_joinsParts 28 = .ok (.iload_n 2, 1) := by decide +kernel
theorem dX8_joinsParts_29 : decode cX8_joinsParts 29 = .ok (.iload_n 1, 1) := by decide +kernel
theorem dX8_joinsParts_30 : decode cX8_joinsParts 30 = .ok (.invokestatic 294, 3) := by decide +kernel
theorem dX8_joinsParts_33 : decode cX8_joinsParts 33 = .ok (.istore 4, 2) := by decide +kernel
theorem dX8_joinsParts_35 : decode cX8_joinsParts 35 = .ok (.iload_n 3, 1) := by decide +kernel
theorem dX8_joinsParts_36 : decode cX8_joinsParts 36 = .ok (.iload_n 1, 1) := by decide +kernel
theorem dX8_joinsParts_37 : decode cX8_joinsParts 37 = .ok (.invokestatic 294, 3) := by decide +kernel
theorem dX8_joinsParts_40 : decode cX8_joinsParts 40 = .ok (.istore 5, 2) := by decide +kernel
theorem dX8_joinsParts_42 : decode cX8_joinsParts 42 = .ok (.aload_n 0, 1) := by decide +kernel
theorem dX8_joinsParts_43 : decode cX8_joinsParts 43 = .ok (.getfield 16, 3) := by decide +kernel
theorem dX8_joinsParts_46 : decode cX8_joinsParts 46 = .ok (.iload 4, 2) := by decide +kernel
theorem dX8_joinsParts_48 : decode cX8_joinsParts 48 = .ok (.invokevirtual 100, 3) := by decide +kernel
theorem dX8_joinsParts_51 : decode cX8_joinsParts 51 = .ok (.ifCond .eq 49, 3) := by decide +kernel
theorem dX8_joinsParts_54 : decode cX8_joinsParts 54 = .ok (.aload_n 0, 1) := by decide +kernel
theorem dX8_joinsParts_55 : decode cX8_joinsParts 55 = .ok (.getfield 16, 3) := by decide +kernel
theorem dX8_joinsParts_58 : decode cX8_joinsParts 58 = .ok (.iload 5, 2) := by decide +kernel
theorem dX8_joinsParts_60 : decode cX8_joinsParts 60 = .ok (.invokevirtual 100, 3) := by decide +kernel
theorem dX8_joinsParts_63 : decode cX8_joinsParts 63 = .ok (.ifCond .eq 37, 3) := by decide +kernel
theorem dX8_joinsParts_66 : decode cX8_joinsParts 66 = .ok (.aload_n 0, 1) := by decide +kernel
theorem dX8_joinsParts_67 : decode cX8_joinsParts 67 = .ok (.getfield 43, 3) := by decide +kernel
theorem dX8_joinsParts_70 : decode cX8_joinsParts 70 = .ok (.getfield 186, 3) := by decide +kernel
theorem dX8_joinsParts_73 : decode cX8_joinsParts 73 = .ok (.iload_n 2, 1) := by decide +kernel
theorem dX8_joinsParts_74 : decode cX8_joinsParts 74 = .ok (.iload_n 3, 1) := by decide +kernel
theorem dX8_joinsParts_75 : decode cX8_joinsParts 75 = .ok (.invokevirtual 297, 3) := by decide +kernel
theorem dX8_joinsParts_78 : decode cX8_joinsParts 78 = .ok (.ifCond .eq 22, 3) := by decide +kernel
theorem dX8_joinsParts_81 : decode cX8_joinsParts 81 = .ok (.aload_n 0, 1) := by decide +kernel
theorem dX8_joinsParts_82 : decode cX8_joinsParts 82 = .ok (.getfield 47, 3) := by decide +kernel
theorem dX8_joinsParts_85 : decode cX8_joinsParts 85 = .ok (.getfield 186, 3) := by decide +kernel
theorem dX8_joinsParts_88 : decode cX8_joinsParts 88 = .ok (.iload 4, 2) := by decide +kernel
theorem dX8_joinsParts_90 : decode cX8_joinsParts 90 = .ok (.iload 5, 2) := by decide +kernel
theorem dX8_joinsParts_92 : decode cX8_joinsParts 92 = .ok (.invokevirtual 297, 3) := by decide +kernel
theorem dX8_joinsParts_95 : decode cX8_joinsParts 95 = .ok (.ifCond .ne 5, 3) := by decide +kernel
theorem dX8_joinsParts_98 : decode cX8_joinsParts 98 = .ok (.iconst 1, 1) := by decide +kernel
theorem dX8_joinsParts_99 : decode cX8_joinsParts 99 = .ok (.ireturn, 1) := by decide +kernel
theorem dX8_joinsParts_100 : decode cX8_joinsParts 100 = .ok (.iinc 3 1, 3) := by decide +kernel
theorem dX8_joinsParts_103 : decode cX8_joinsParts 103 = .ok (.goto (-86), 3) := by decide +kernel
theorem dX8_joinsParts_106 : decode cX8_joinsParts 106 = .ok (.iinc 2 1, 3) := by decide +kernel
theorem dX8_joinsParts_109 : decode cX8_joinsParts 109 = .ok (.goto (-107), 3) := by decide +kernel
theorem dX8_joinsParts_112 : decode cX8_joinsParts 112 = .ok (.iconst 0, 1) := by decide +kernel
theorem dX8_joinsParts_113 : decode cX8_joinsParts 113 = .ok (.ireturn, 1) := by decide +kernel
theorem dX8_firstNewRingTie_0 : decode cX8_firstNewRingTie 0 = .ok (.iconst 0, 1) := by decide +kernel
theorem dX8_firstNewRingTie_1 : decode cX8_firstNewRingTie 1 = .ok (.istore_n 2, 1) := by decide +kernel
theorem dX8_firstNewRingTie_2 : decode cX8_firstNewRingTie 2 = .ok (.iload_n 2, 1) := by decide +kernel
theorem dX8_firstNewRingTie_3 : decode cX8_firstNewRingTie 3 = .ok (.aload_n 0, 1) := by decide +kernel
theorem dX8_firstNewRingTie_4 : decode cX8_firstNewRingTie 4 = .ok (.getfield 10, 3) := by decide +kernel
theorem dX8_firstNewRingTie_7 : decode cX8_firstNewRingTie 7 = .ok (.getfield 82, 3) := by decide +kernel
theorem dX8_firstNewRingTie_10 : decode cX8_firstNewRingTie 10 = .ok (.if_icmp .ge 67, 3) := by decide +kernel
theorem dX8_firstNewRingTie_13 : decode cX8_firstNewRingTie 13 = .ok (.iconst 0, 1) := by decide +kernel
theorem dX8_firstNewRingTie_14 : decode cX8_firstNewRingTie 14 = .ok (.istore_n 3, 1) := by decide +kernel
theorem dX8_firstNewRingTie_15 : decode cX8_firstNewRingTie 15 = .ok (.iload_n 3, 1) := by decide +kernel
theorem dX8_firstNewRingTie_16 : decode cX8_firstNewRingTie 16 = .ok (.aload_n 0, 1) := by decide +kernel
theorem dX8_firstNewRingTie_17 : decode cX8_firstNewRingTie 17 = .ok (.getfield 10, 3) := by decide +kernel
theorem dX8_firstNewRingTie_20 : decode cX8_firstNewRingTie 20 = .ok (.getfield 82, 3) := by decide +kernel
theorem dX8_firstNewRingTie_23 : decode cX8_firstNewRingTie 23 = .ok (.if_icmp .ge 48, 3) := by decide +kernel
theorem dX8_firstNewRingTie_26 : decode cX8_firstNewRingTie 26 = .ok (.aload_n 0, 1) := by decide +kernel
theorem dX8_firstNewRingTie_27 : decode cX8_firstNewRingTie 27 = .ok (.getfield 43, 3) := by decide +kernel
theorem dX8_firstNewRingTie_30 : decode cX8_firstNewRingTie 30 = .ok (.getfield 186, 3) := by decide +kernel
theorem dX8_firstNewRingTie_33 : decode cX8_firstNewRingTie 33 = .ok (.iload_n 2, 1) := by decide +kernel
theorem dX8_firstNewRingTie_34 : decode cX8_firstNewRingTie 34 = .ok (.iload_n 3, 1) := by decide +kernel
theorem dX8_firstNewRingTie_35 : decode cX8_firstNewRingTie 35 = .ok (.invokevirtual 300, 3) := by decide +kernel
theorem dX8_firstNewRingTie_38 : decode cX8_firstNewRingTie 38 = .ok (.ifCond .eq 27, 3) := by decide +kernel
theorem dX8_firstNewRingTie_41 : decode cX8_firstNewRingTie 41 = .ok (.aload_n 0, 1) := by decide +kernel
theorem dX8_firstNewRingTie_42 : decode cX8_firstNewRingTie 42 = .ok (.iload_n 2, 1) := by decide +kernel
theorem dX8_firstNewRingTie_43 : decode cX8_firstNewRingTie 43 = .ok (.iload_n 1, 1) := by decide +kernel
theorem dX8_firstNewRingTie_44 : decode cX8_firstNewRingTie 44 = .ok (.invokestatic 294, 3) := by decide +kernel
theorem dX8_firstNewRingTie_47 : decode cX8_firstNewRingTie 47 = .ok (.iload_n 3, 1) := by decide +kernel
theorem dX8_firstNewRingTie_48 : decode cX8_firstNewRingTie 48 = .ok (.iload_n 1, 1) := by decide +kernel
theorem dX8_firstNewRingTie_49 : decode cX8_firstNewRingTie 49 = .ok (.invokestatic 294, 3) := by decide +kernel
theorem dX8_firstNewRingTie_52 : decode cX8_firstNewRingTie 52 = .ok (.invokevirtual 303, 3) := by decide +kernel
theorem dX8_firstNewRingTie_55 : decode cX8_firstNewRingTie 55 = .ok (.ifCond .ne 10, 3) := by decide +kernel
theorem dX8_firstNewRingTie_58 : decode cX8_firstNewRingTie 58 = .ok (.bipush 10, 2) := by decide +kernel
theorem dX8_firstNewRingTie_60 : decode cX8_firstNewRingTie 60 = .ok (.iload_n 2, 1) := by decide +kernel
theorem dX8_firstNewRingTie_61 : decode cX8_firstNewRingTie 61 = .ok (.imul, 1) := by decide +kernel
theorem dX8_firstNewRingTie_62 : decode cX8_firstNewRingTie 62 = .ok (.iload_n 3, 1) := by decide +kernel
theorem dX8_firstNewRingTie_63 : decode cX8_firstNewRingTie 63 = .ok (.iadd, 1) := by decide +kernel
theorem dX8_firstNewRingTie_64 : decode cX8_firstNewRingTie 64 = .ok (.ireturn, 1) := by decide +kernel
theorem dX8_firstNewRingTie_65 : decode cX8_firstNewRingTie 65 = .ok (.iinc 3 1, 3) := by decide +kernel
theorem dX8_firstNewRingTie_68 : decode cX8_firstNewRingTie 68 = .ok (.goto (-53), 3) := by decide +kernel
theorem dX8_firstNewRingTie_71 : decode cX8_firstNewRingTie 71 = .ok (.iinc 2 1, 3) := by decide +kernel
theorem dX8_firstNewRingTie_74 : decode cX8_firstNewRingTie 74 = .ok (.goto (-72), 3) := by decide +kernel
theorem dX8_firstNewRingTie_77 : decode cX8_firstNewRingTie 77 = .ok (.iconst (-1), 1) := by decide +kernel
theorem dX8_firstNewRingTie_78 : decode cX8_firstNewRingTie 78 = .ok (.ireturn, 1) := by decide +kernel
theorem dX8_wasRingTie_0 : decode cX8_wasRingTie 0 = .ok (.aload_n 0, 1) := by decide +kernel
theorem dX8_wasRingTie_1 : decode cX8_wasRingTie 1 = .ok (.getfield 16, 3) := by decide +kernel
theorem dX8_wasRingTie_4 : decode cX8_wasRingTie 4 = .ok (.iload_n 1, 1) := by decide +kernel
theorem dX8_wasRingTie_5 : decode cX8_wasRingTie 5 = .ok (.invokevirtual 100, 3) := by decide +kernel
theorem dX8_wasRingTie_8 : decode cX8_wasRingTie 8 = .ok (.ifCond .eq 33, 3) := by decide +kernel
theorem dX8_wasRingTie_11 : decode cX8_wasRingTie 11 = .ok (.aload_n 0, 1) := by decide +kernel
theorem dX8_wasRingTie_12 : decode cX8_wasRingTie 12 = .ok (.getfield 16, 3) := by decide +kernel
theorem dX8_wasRingTie_15 : decode cX8_wasRingTie 15 = .ok (.iload_n 2, 1) := by decide +kernel
theorem dX8_wasRingTie_16 : decode cX8_wasRingTie 16 = .ok (.invokevirtual 100, 3) := by decide +kernel
theorem dX8_wasRingTie_19 : decode cX8_wasRingTie 19 = .ok (.ifCond .eq 22, 3) := by decide +kernel
theorem dX8_wasRingTie_22 : decode cX8_wasRingTie 22 = .ok (.aload_n 0, 1) := by decide +kernel
theorem dX8_wasRingTie_23 : decode cX8_wasRingTie 23 = .ok (.getfield 47, 3) := by decide +kernel
theorem dX8_wasRingTie_26 : decode cX8_wasRingTie 26 = .ok (.getfield 186, 3) := by decide +kernel
theorem dX8_wasRingTie_29 : decode cX8_wasRingTie 29 = .ok (.iload_n 1, 1) := by decide +kernel
theorem dX8_wasRingTie_30 : decode cX8_wasRingTie 30 = .ok (.iload_n 2, 1) := by decide +kernel
theorem dX8_wasRingTie_31 : decode cX8_wasRingTie 31 = .ok (.invokevirtual 300, 3) := by decide +kernel
theorem dX8_wasRingTie_34 : decode cX8_wasRingTie 34 = .ok (.ifCond .eq 7, 3) := by decide +kernel
theorem dX8_wasRingTie_37 : decode cX8_wasRingTie 37 = .ok (.iconst 1, 1) := by decide +kernel
theorem dX8_wasRingTie_38 : decode cX8_wasRingTie 38 = .ok (.goto 4, 3) := by decide +kernel
theorem dX8_wasRingTie_41 : decode cX8_wasRingTie 41 = .ok (.iconst 0, 1) := by decide +kernel
theorem dX8_wasRingTie_42 : decode cX8_wasRingTie 42 = .ok (.ireturn, 1) := by decide +kernel
theorem dX8_numberAhead_0 : decode cX8_numberAhead 0 = .ok (.iload_n 1, 1) := by decide +kernel
theorem dX8_numberAhead_1 : decode cX8_numberAhead 1 = .ok (.iconst (-1), 1) := by decide +kernel
theorem dX8_numberAhead_2 : decode cX8_numberAhead 2 = .ok (.if_icmp .eq 14, 3) := by decide +kernel
theorem dX8_numberAhead_5 : decode cX8_numberAhead 5 = .ok (.iload_n 0, 1) := by decide +kernel
theorem dX8_numberAhead_6 : decode cX8_numberAhead 6 = .ok (.iload_n 1, 1) := by decide +kernel
theorem dX8_numberAhead_7 : decode cX8_numberAhead 7 = .ok (.if_icmp .lt 9, 3) := by decide +kernel
theorem dX8_numberAhead_10 : decode cX8_numberAhead 10 = .ok (.iload_n 0, 1) := by decide +kernel
theorem dX8_numberAhead_11 : decode cX8_numberAhead 11 = .ok (.iconst 1, 1) := by decide +kernel
theorem dX8_numberAhead_12 : decode cX8_numberAhead 12 = .ok (.iadd, 1) := by decide +kernel
theorem dX8_numberAhead_13 : decode cX8_numberAhead 13 = .ok (.goto 4, 3) := by decide +kernel
theorem dX8_numberAhead_16 : decode cX8_numberAhead 16 = .ok (.iload_n 0, 1) := by decide +kernel
theorem dX8_numberAhead_17 : decode cX8_numberAhead 17 = .ok (.ireturn, 1) := by decide +kernel
theorem dX8_isIn_0 : decode cX8_isIn 0 = .ok (.iload_n 1, 1) := by decide +kernel
theorem dX8_isIn_1 : decode cX8_isIn 1 = .ok (.iload_n 0, 1) := by decide +kernel
theorem dX8_isIn_2 : decode cX8_isIn 2 = .ok (.ishr, 1) := by decide +kernel
theorem dX8_isIn_3 : decode cX8_isIn 3 = .ok (.iconst 1, 1) := by decide +kernel
theorem dX8_isIn_4 : decode cX8_isIn 4 = .ok (.iand, 1) := by decide +kernel
theorem dX8_isIn_5 : decode cX8_isIn 5 = .ok (.ifCond .eq 7, 3) := by decide +kernel
theorem dX8_isIn_8 : decode cX8_isIn 8 = .ok (.iconst 1, 1) := by decide +kernel
theorem dX8_isIn_9 : decode cX8_isIn 9 = .ok (.goto 4, 3) := by decide +kernel
theorem dX8_isIn_12 : decode cX8_isIn 12 = .ok (.iconst 0, 1) := by decide +kernel
theorem dX8_isIn_13 : decode cX8_isIn 13 = .ok (.ireturn, 1) := by decide +kernel
