theorem dX9_allow_48 : decode cX9_allow 48 = .ok (.istore 4, 2) := by decide +kernel
theorem dX9_allow_50 : decode cX9_allow 50 = .ok (.aload_n 0, 1) := by decide +kernel
theorem dX9_allow_51 : decode cX9_allow 51 = .ok (.getfield 46, 3) := by decide +kernel
theorem dX9_allow_54 : decode cX9_allow 54 = .ok (.bipush 10, 2) := by decide +kernel
theorem dX9_allow_56 : decode cX9_allow 56 = .ok (.iload_n 1, 1) := by decide +kernel
theorem dX9_allow_57 : decode cX9_allow 57 = .ok (.imul, 1) := by decide +kernel
theorem dX9_allow_58 : decode cX9_allow 58 = .ok (.iload_n 2, 1) := by decide +kernel
theorem dX9_allow_59 : decode cX9_allow 59 = .ok (.iadd, 1) := by decide +kernel
theorem dX9_allow_60 : decode cX9_allow 60 = .ok (.iload_n 3, 1) := by decide +kernel
theorem dX9_allow_61 : decode cX9_allow 61 = .ok (.iastore, 1) := by decide +kernel
theorem dX9_allow_62 : decode cX9_allow 62 = .ok (.iload 4, 2) := by decide +kernel
theorem dX9_allow_64 : decode cX9_allow 64 = .ok (.ireturn, 1) := by decide +kernel
theorem dX9_day_0 : decode cX9_day 0 = .ok (.iload_n 1, 1) := by decide +kernel
theorem dX9_day_1 : decode cX9_day 1 = .ok (.aload_n 0, 1) := by decide +kernel
theorem dX9_day_2 : decode cX9_day 2 = .ok (.getfield 217, 3) := by decide +kernel
theorem dX9_day_5 : decode cX9_day 5 = .ok (.sipush 999, 3) := by decide +kernel
theorem dX9_day_8 : decode cX9_day 8 = .ok (.invokestatic 117, 3) := by decide +kernel
theorem dX9_day_11 : decode cX9_day 11 = .ok (.ifCond .ne 6, 3) := by decide +kernel
theorem dX9_day_14 : decode cX9_day 14 = .ok (.bipush (-2), 2) := by decide +kernel
theorem dX9_day_16 : decode cX9_day 16 = .ok (.ireturn, 1) := by decide +kernel
theorem dX9_day_17 : decode cX9_day 17 = .ok (.aload_n 0, 1) := by decide +kernel
theorem dX9_day_18 : decode cX9_day 18 = .ok (.getfield 217, 3) := by decide +kernel
theorem dX9_day_21 : decode cX9_day 21 = .ok (.istore_n 2, 1) := by decide +kernel
theorem dX9_day_22 : decode cX9_day 22 = .ok (.aload_n 0, 1) := by decide +kernel
theorem dX9_day_23 : decode cX9_day 23 = .ok (.iload_n 1, 1) := by decide +kernel
theorem dX9_day_24 : decode cX9_day 24 = .ok (.putfield 217, 3) := by decide +kernel
theorem dX9_day_27 : decode cX9_day 27 = .ok (.iload_n 2, 1) := by decide +kernel
theorem dX9_day_28 : decode cX9_day 28 = .ok (.ireturn, 1) := by decide +kernel
theorem dX9_group_0 : decode cX9_group 0 = .ok (.aload_n 0, 1) := by decide +kernel
theorem dX9_group_1 : decode cX9_group 1 = .ok (.iload_n 1, 1) := by decide +kernel
theorem dX9_group_2 : decode cX9_group 2 = .ok (.invokevirtual 131, 3) := by decide +kernel
theorem dX9_group_5 : decode cX9_group 5 = .ok (.ifCond .ne 5, 3) := by decide +kernel
theorem dX9_group_8 : decode cX9_group 8 = .ok (.iconst (-1), 1) := by decide +kernel
theorem dX9_group_9 : decode cX9_group 9 = .ok (.ireturn, 1) := by decide +kernel
theorem dX9_group_10 : decode cX9_group 10 = .ok (.aload_n 0, 1) := by decide +kernel
theorem dX9_group_11 : decode cX9_group 11 = .ok (.invokevirtual 231, 3) := by decide +kernel
theorem dX9_group_14 : decode cX9_group 14 = .ok (.iconst 0, 1) := by decide +kernel
theorem dX9_group_15 : decode cX9_group 15 = .ok (.istore_n 2, 1) := by decide +kernel
theorem dX9_group_16 : decode cX9_group 16 = .ok (.aload_n 0, 1) := by decide +kernel
theorem dX9_group_17 : decode cX9_group 17 = .ok (.iload_n 1, 1) := by decide +kernel
theorem dX9_group_18 : decode cX9_group 18 = .ok (.iload_n 2, 1) := by decide +kernel
theorem dX9_group_19 : decode cX9_group 19 = .ok (.invokevirtual 234, 3) := by decide +kernel
theorem dX9_group_22 : decode cX9_group 22 = .ok (.ifCond .ne 9, 3) := by decide +kernel
theorem dX9_group_25 : decode cX9_group 25 = .ok (.iinc 2 1, 3) := by decide +kernel
theorem dX9_group_28 : decode cX9_group 28 = .ok (.goto (-12), 3) := by decide +kernel
theorem dX9_group_31 : decode cX9_group 31 = .ok (.iload_n 2, 1) := by decide +kernel
theorem dX9_group_32 : decode cX9_group 32 = .ok (.ireturn, 1) := by decide +kernel
theorem dX9_groups_0 : decode cX9_groups 0 = .ok (.aload_n 0, 1) := by decide +kernel
theorem dX9_groups_1 : decode cX9_groups 1 = .ok (.invokevirtual 231, 3) := by decide +kernel
theorem dX9_groups_4 : decode cX9_groups 4 = .ok (.iconst 0, 1) := by decide +kernel
theorem dX9_groups_5 : decode cX9_groups 5 = .ok (.istore_n 1, 1) := by decide +kernel
theorem dX9_groups_6 : decode cX9_groups 6 = .ok (.iconst 0, 1) := by decide +kernel
theorem dX9_groups_7 : decode cX9_groups 7 = .ok (.istore_n 2, 1) := by decide +kernel
theorem dX9_groups_8 : decode cX9_groups 8 = .ok (.iload_n 2, 1) := by decide +kernel
theorem dX9_groups_9 : decode cX9_groups 9 = .ok (.aload_n 0, 1) := by decide +kernel
theorem dX9_groups_10 : decode cX9_groups 10 = .ok (.getfield 7, 3) := by decide +kernel
theorem dX9_groups_13 : decode cX9_groups 13 = .ok (.iconst 0, 1) := by decide +kernel
theorem dX9_groups_14 : decode cX9_groups 14 = .ok (.iaload, 1) := by decide +kernel
theorem dX9_groups_15 : decode cX9_groups 15 = .ok (.if_icmp .ge 105, 3) := by decide +kernel
theorem dX9_groups_18 : decode cX9_groups 18 = .ok (.iconst 1, 1) := by decide +kernel
theorem dX9_groups_19 : decode cX9_groups 19 = .ok (.istore_n 3, 1) := by decide +kernel
theorem dX9_groups_20 : decode cX9_groups 20 = .ok (.iconst 0, 1) := by decide +kernel
theorem dX9_groups_21 : decode cX9_groups 21 = .ok (.istore 4, 2) := by decide +kernel
theorem dX9_groups_23 : decode cX9_groups 23 = .ok (.iconst 0, 1) := by decide +kernel
theorem dX9_groups_24 : decode cX9_groups 24 = .ok (.istore 5, 2) := by decide +kernel
theorem dX9_groups_26 : decode cX9_groups 26 = .ok (.iload 5, 2) := by decide +kernel
theorem dX9_groups_28 : decode cX9_groups 28 = .ok (.aload_n 0, 1) := by decide +kernel
theorem dX9_groups_29 : decode cX9_groups 29 = .ok (.getfield 7, 3) := by decide +kernel
theorem dX9_groups_32 : decode cX9_groups 32 = .ok (.iconst 0, 1) := by decide +kernel
theorem dX9_groups_33 : decode cX9_groups 33 = .ok (.iaload, 1) := by decide +kernel
theorem dX9_groups_34 : decode cX9_groups 34 = .ok (.if_icmp .ge 63, 3) := by decide +kernel
theorem dX9_groups_37 : decode cX9_groups 37 = .ok (.iload_n 3, 1) := by decide +kernel
theorem dX9_groups_38 : decode cX9_groups 38 = .ok (.ifCond .eq 23, 3) := by decide +kernel
theorem dX9_groups_41 : decode cX9_groups 41 = .ok (.iload 5, 2) := by decide +kernel
theorem dX9_groups_43 : decode cX9_groups 43 = .ok (.iload_n 2, 1) := by decide +kernel
theorem dX9_groups_44 : decode cX9_groups 44 = .ok (.if_icmp .ge 13, 3) := by decide +kernel
theorem dX9_groups_47 : decode cX9_groups 47 = .ok (.aload_n 0, 1) := by decide +kernel
theorem dX9_groups_48 : decode cX9_groups 48 = .ok (.iload_n 2, 1) := by decide +kernel
theorem dX9_groups_49 : decode cX9_groups 49 = .ok (.iload 5, 2) := by decide +kernel
theorem dX9_groups_51 : decode cX9_groups 51 = .ok (.invokevirtual 234, 3) := by decide +kernel
theorem dX9_groups_54 : decode cX9_groups 54 = .ok (.ifCond .ne 7, 3) := by decide +kernel
theorem dX9_groups_57 : decode cX9_groups 57 = .ok (.iconst 1, 1) := by decide +kernel
theorem dX9_groups_58 : decode cX9_groups 58 = .ok (.goto 4, 3) := by decide +kernel
theorem dX9_groups_61 : decode cX9_groups 61 = .ok (.iconst 0, 1) := by decide +kernel
theorem dX9_groups_62 : decode cX9_groups 62 = .ok (.istore_n 3, 1) := by decide +kernel
theorem dX9_groups_63 : decode cX9_groups 63 = .ok (.iload 4, 2) := by decide +kernel
theorem dX9_groups_65 : decode cX9_groups 65 = .ok (.ifCond .ne 19, 3) := by decide +kernel
theorem dX9_groups_68 : decode cX9_groups 68 = .ok (.iload 5, 2) := by decide +kernel
theorem dX9_groups_70 : decode cX9_groups 70 = .ok (.iload_n 2, 1) := by decide +kernel
theorem dX9_groups_71 : decode cX9_groups 71 = .ok (.if_icmp .eq 17, 3) := by decide +kernel
theorem dX9_groups_74 : decode cX9_groups 74 = .ok (.aload_n 0, 1) := by decide +kernel
theorem dX9_groups_75 : decode cX9_groups 75 = .ok (.iload_n 2, 1) := by decide +kernel
theorem dX9_groups_76 : decode cX9_groups 76 = .ok (.iload 5, 2) := by decide +kernel
theorem dX9_groups_78 : decode cX9_groups 78 = .ok (.invokevirtual 234, 3) := by decide +kernel
theorem dX9_groups_81 : decode cX9_groups 81 = .ok (.ifCond .eq 7, 3) := by decide +kernel
theorem dX9_groups_84 : decode cX9_groups 84 = .ok (.iconst 1, 1) := by decide +kernel
theorem dX9_groups_85 : decode cX9_groups 85 = .ok (.goto 4, 3) := by decide +kernel
theorem dX9_groups_88 : decode cX9_groups 88 = .ok (.iconst 0, 1) := by decide +kernel
theorem dX9_groups_89 : decode cX9_groups 89 = .ok (.istore 4, 2) := by decide +kernel
theorem dX9_groups_91 : decode cX9_groups 91 = .ok (.iinc 5 1, 3) := by decide +kernel
theorem dX9_groups_94 : decode cX9_groups 94 = .ok (.goto (-68), 3) := by decide +kernel
theorem dX9_groups_97 : decode cX9_groups 97 = .ok (.iload_n 1, 1) := by decide +kernel
theorem dX9_groups_98 : decode cX9_groups 98 = .ok (.iload_n 3, 1) := by decide +kernel
theorem dX9_groups_99 : decode cX9_groups 99 = .ok (.ifCond .eq 12, 3) := by decide +kernel
theorem dX9_groups_102 : decode cX9_groups 102 = .ok (.iload 4, 2) := by decide +kernel
theorem dX9_groups_104 : decode cX9_groups 104 = .ok (.ifCond .eq 7, 3) := by decide +kernel
theorem dX9_groups_107 : decode cX9_groups 107 = .ok (.iconst 1, 1) := by decide +kernel
theorem dX9_groups_108 : decode cX9_groups 108 = .ok (.goto 4, 3) := by decide +kernel
theorem dX9_groups_111 : decode cX9_groups 111 = .ok (.iconst 0, 1) := by decide +kernel
theorem dX9_groups_112 : decode cX9_groups 112 = .ok (.iadd, 1) := by decide +kernel
theorem dX9_groups_113 : decode cX9_groups 113 = .ok (.istore_n 1, 1) := by decide +kernel
theorem dX9_groups_114 : decode cX9_groups 114 = .ok (.iinc 2 1, 3) := by decide +kernel
theorem dX9_groups_117 : decode cX9_groups 117 = .ok (.goto (-109), 3) := by decide +kernel
theorem dX9_groups_120 : decode cX9_groups 120 = .ok (.iload_n 1, 1) := by decide +kernel
theorem dX9_groups_121 : decode cX9_groups 121 = .ok (.ireturn, 1) := by decide +kernel
theorem dX9_rings_0 : decode cX9_rings 0 = .ok (.aload_n 0, 1) := by decide +kernel
theorem dX9_rings_1 : decode cX9_rings 1 = .ok (.getfield 90, 3) := by decide +kernel
theorem dX9_rings_4 : decode cX9_rings 4 = .ok (.iconst 0, 1) := by decide +kernel
theorem dX9_rings_5 : decode cX9_rings 5 = .ok (.iload_n 1, 1) := by decide +kernel
theorem dX9_rings_6 : decode cX9_rings 6 = .ok (.iastore, 1) := by decide +kernel
theorem dX9_rings_7 : decode cX9_rings 7 = .ok (.aload_n 0, 1) := by decide +kernel
theorem dX9_rings_8 : decode cX9_rings 8 = .ok (.getfield 90, 3) := by decide +kernel
theorem dX9_rings_11 : decode cX9_rings 11 = .ok (.iconst 1, 1) := by decide +kernel
theorem dX9_rings_12 : decode cX9_rings 12 = .ok (.iload_n 2, 1) := by decide +kernel
theorem dX9_rings_13 : decode cX9_rings 13 = .ok (.iastore, 1) := by decide +kernel
theorem dX9_rings_14 : decode cX9_rings 14 = .ok (.aload_n 0, 1) := by decide +kernel
theorem dX9_rings_15 : decode cX9_rings 15 = .ok (.iconst 2, 1) := by decide +kernel
theorem dX9_rings_16 : decode cX9_rings 16 = .ok (.putfield 237, 3) := by decide +kernel
theorem dX9_rings_19 : decode cX9_rings 19 = .ok (.iload_n 2, 1) := by decide +kernel
theorem dX9_rings_20 : decode cX9_rings 20 = .ok (.istore 4, 2) := by decide +kernel
theorem dX9_rings_22 : decode cX9_rings 22 = .ok (.aload_n 0, 1) := by decide +kernel
theorem dX9_rings_23 : decode cX9_rings 23 = .ok (.getfield 87, 3) := by decide +kernel
theorem dX9_rings_26 : decode cX9_rings 26 = .ok (.bipush 10, 2) := by decide +kernel
theorem dX9_rings_28 : decode cX9_rings 28 = .ok (.iload 4, 2) := by decide +kernel
theorem dX9_rings_30 : decode cX9_rings 30 = .ok (.imul, 1) := by decide +kernel
theorem dX9_rings_31 : decode cX9_rings 31 = .ok (.iload_n 1, 1) := by decide +kernel
theorem dX9_rings_32 : decode cX9_rings 32 = .ok (.iadd, 1) := by decide +kernel
theorem dX9_rings_33 : decode cX9_rings 33 = .ok (.iaload, 1) := by decide +kernel
theorem dX9_rings_34 : decode cX9_rings 34 = .ok (.iconst 1, 1) := by decide +kernel
theorem dX9_rings_35 : decode cX9_rings 35 = .ok (.if_icmp .le 89, 3) := by decide +kernel
theorem dX9_rings_38 : decode cX9_rings 38 = .ok (.iconst 0, 1) := by decide +kernel
theorem dX9_rings_39 : decode cX9_rings 39 = .ok (.istore 5, 2) := by decide +kernel
theorem dX9_rings_41 : decode cX9_rings 41 = .ok (.iload 5, 2) := by decide +kernel
theorem dX9_rings_43 : decode cX9_rings 43 = .ok (.iload 4, 2) := by decide +kernel
theorem dX9_rings_45 : decode cX9_rings 45 = .ok (.if_icmp .eq 45, 3) := by decide +kernel
theorem dX9_rings_48 : decode cX9_rings 48 = .ok (.aload_n 3, 1) := by decide +kernel
theorem dX9_rings_49 : decode cX9_rings 49 = .ok (.bipush 10, 2) := by decide +kernel
theorem dX9_rings_51 : decode cX9_rings 51 = .ok (.iload 4, 2) := by decide +kernel
theorem dX9_rings_53 : decode cX9_rings 53 = .ok (.imul, 1) := by decide +kernel
theorem dX9_rings_54 : decode cX9_rings 54 = .ok (.iload 5, 2) := by decide +kernel
theorem dX9_rings_56 : decode cX9_rings 56 = .ok (.iadd, 1) := by decide +kernel
theorem dX9_rings_57 : decode cX9_rings 57 = .ok (.iaload, 1) := by decide +kernel
theorem dX9_rings_58 : decode cX9_rings 58 = .ok (.ifCond .eq 32, 3) := by decide +kernel
theorem dX9_rings_61 : decode cX9_rings 61 = .ok (.aload_n 0, 1) := by decide +kernel
theorem dX9_rings_62 : decode cX9_rings 62 = .ok (.getfield 87, 3) := by decide +kernel
theorem dX9_rings_65 : decode cX9_rings 65 = .ok (.bipush 10, 2) := by decide +kernel
theorem dX9_rings_67 : decode cX9_rings 67 = .ok (.iload 5, 2) := by decide +kernel
theorem dX9_rings_69 : decode cX9_rings 69 = .ok (.imul, 1) := by decide +kernel
theorem dX9_rings_70 : decode cX9_rings 70 = .ok (.iload_n 1, 1) := by decide +kernel
theorem dX9_rings_71 : decode cX9_rings 71 = .ok (.iadd, 1) := by decide +kernel
theorem dX9_rings_72 : decode cX9_rings 72 = .ok (.iaload, 1) := by decide +kernel
theorem dX9_rings_73 : decode cX9_rings 73 = .ok (.aload_n 0, 1) := by decide +kernel
theorem dX9_rings_74 : decode cX9_rings 74 = .ok (.getfield 87, 3) := by decide +kernel
theorem dX9_rings_77 : decode cX9_rings 77 = .ok (.bipush 10, 2) := by decide +kernel
theorem dX9_rings_79 : decode cX9_rings 79 = .ok (.iload 4, 2) := by decide +kernel
theorem dX9_rings_81 : decode cX9_rings 81 = .ok (.imul, 1) := by decide +kernel
theorem dX9_rings_82 : decode cX9_rings 82 = .ok (.iload_n 1, 1) := by decide +kernel
theorem dX9_rings_83 : decode cX9_rings 83 = .ok (.iadd, 1) := by decide +kernel
theorem dX9_rings_84 : decode cX9_rings 84 = .ok (.iaload, 1) := by decide +kernel
theorem dX9_rings_85 : decode cX9_rings 85 = .ok (.iconst 1, 1) := by decide +kernel
theorem dX9_rings_86 : decode cX9_rings 86 = .ok (.isub, 1) := by decide +kernel
theorem dX9_rings_87 : decode cX9_rings 87 = .ok (.if_icmp .eq 9, 3) := by decide +kernel
theorem dX9_rings_90 : decode cX9_rings 90 = .ok (.iinc 5 1, 3) := by decide +kernel
theorem dX9_rings_93 : decode cX9_rings 93 = .ok (.goto (-52), 3) := by decide +kernel
theorem dX9_rings_96 : decode cX9_rings 96 = .ok (.aload_n 0, 1) := by decide +kernel
theorem dX9_rings_97 : decode cX9_rings 97 = .ok (.getfield 90, 3) := by decide +kernel
theorem dX9_rings_100 : decode cX9_rings 100 = .ok (.aload_n 0, 1) := by decide +kernel
theorem dX9_rings_101 : decode cX9_rings 101 = .ok (.getfield 237, 3) := by decide +kernel
theorem dX9_rings_104 : decode cX9_rings 104 = .ok (.iload 5, 2) := by decide +kernel
theorem dX9_rings_106 : decode cX9_rings 106 = .ok (.iastore, 1) := by decide +kernel
theorem dX9_rings_107 : decode cX9_rings 107 = .ok (.aload_n 0, 1) := by decide +kernel
theorem dX9_rings_108 : decode cX9_rings 108 = .ok (.dup, 1) := by decide +kernel
theorem dX9_rings_109 : decode cX9_rings 109 = .ok (.getfield 237, 3) := by decide +kernel
theorem dX9_rings_112 : decode cX9_rings 112 = .ok (.iconst 1, 1) := by decide +kernel
theorem dX9_rings_113 : decode cX9_rings 113 = .ok (.iadd, 1) := by decide +kernel
theorem dX9_rings_114 : decode cX9_rings 114 = .ok (.putfield 237, 3) := by decide +kernel
theorem dX9_rings_117 : decode cX9_rings 117 = .ok (.iload 5, 2) := by decide +kernel
theorem dX9_rings_119 : decode cX9_rings 119 = .ok (.istore 4, 2) := by decide +kernel
theorem dX9_rings_121 : decode cX9_rings 121 = .ok (.goto (-99), 3) := by decide +kernel
theorem dX9_rings_124 : decode cX9_rings 124 = .ok (.return_, 1) := by decide +kernel
theorem dX9_ring_0 : decode cX9_ring 0 = .ok (.aload_n 0, 1) := by decide +kernel
theorem dX9_ring_1 : decode cX9_ring 1 = .ok (.iload_n 1, 1) := by decide +kernel
theorem dX9_ring_2 : decode cX9_ring 2 = .ok (.invokevirtual 131, 3) := by decide +kernel
theorem dX9_ring_5 : decode cX9_ring 5 = .ok (.ifCond .eq 25, 3) := by decide +kernel
theorem dX9_ring_8 : decode cX9_ring 8 = .ok (.aload_n 0, 1) := by decide +kernel
theorem dX9_ring_9 : decode cX9_ring 9 = .ok (.iload_n 2, 1) := by decide +kernel
theorem dX9_ring_10 : decode cX9_ring 10 = .ok (.invokevirtual 131, 3) := by decide +kernel
theorem dX9_ring_13 : decode cX9_ring 13 = .ok (.ifCond .eq 17, 3) := by decide +kernel
theorem dX9_ring_16 : decode cX9_ring 16 = .ok (.iload_n 1, 1) := by decide +kernel
theorem dX9_ring_17 : decode cX9_ring 17 = .ok (.iload_n 2, 1) := by decide +kernel
theorem dX9_ring_18 : decode cX9_ring 18 = .ok (.if_icmp .eq 12, 3) := by decide +kernel
theorem dX9_ring_21 : decode cX9_ring 21 = .ok (.iload_n 3, 1) := by decide +kernel
theorem dX9_ring_22 : decode cX9_ring 22 = .ok (.iconst 0, 1) := by decide +kernel
theorem dX9_ring_23 : decode cX9_ring 23 = .ok (.iconst 1, 1) := by decide +kernel
theorem dX9_ring_24 : decode cX9_ring 24 = .ok (.invokestatic 117, 3) := by decide +kernel
theorem dX9_ring_27 : decode cX9_ring 27 = .ok (.ifCond .ne 5, 3) := by decide +kernel
theorem dX9_ring_30 : decode cX9_ring 30 = .ok (.iconst (-1), 1) := by decide +kernel
theorem dX9_ring_31 : decode cX9_ring 31 = .ok (.ireturn, 1) := by decide +kernel
theorem dX9_ring_32 : decode cX9_ring 32 = .ok (.aload_n 0, 1) := by decide +kernel
theorem dX9_ring_33 : decode cX9_ring 33 = .ok (.invokevirtual 231, 3) := by decide +kernel
theorem dX9_ring_36 : decode cX9_ring 36 = .ok (.aload_n 0, 1) := by decide +kernel
theorem dX9_ring_37 : decode cX9_ring 37 = .ok (.getfield 81, 3) := by decide +kernel
theorem dX9_ring_40 : decode cX9_ring 40 = .ok (.bipush 10, 2) := by decide +kernel
theorem dX9_ring_42 : decode cX9_ring 42 = .ok (.iload_n 1, 1) := by decide +kernel
theorem dX9_ring_43 : decode cX9_ring 43 = .ok (.imul, 1) := by decide +kernel
theorem dX9_ring_44 : decode cX9_ring 44 = .ok (.iload_n 2, 1) := by decide +kernel
theorem dX9_ring_45 : decode cX9_ring 45 = .ok (.iadd, 1) := by decide +kernel
theorem dX9_ring_46 : decode cX9_ring 46 = .ok (.iaload, 1) := by decide +kernel
theorem dX9_ring_47 : decode cX9_ring 47 = .ok (.ifCond .eq 12, 3) := by decide +kernel
theorem dX9_ring_50 : decode cX9_ring 50 = .ok (.aload_n 0, 1) := by decide +kernel
theorem dX9_ring_51 : decode cX9_ring 51 = .ok (.iload_n 1, 1) := by decide +kernel
theorem dX9_ring_52 : decode cX9_ring 52 = .ok (.iload_n 2, 1) := by decide +kernel
theorem dX9_ring_53 : decode cX9_ring 53 = .ok (.invokevirtual 234, 3) := by decide +kernel
theorem dX9_ring_56 : decode cX9_ring 56 = .ok (.ifCond .ne 5, 3) := by decide +kernel
theorem dX9_ring_59 : decode cX9_ring 59 = .ok (.iconst (-1), 1) := by decide +kernel
theorem dX9_ring_60 : decode cX9_ring 60 = .ok (.ireturn, 1) := by decide +kernel
theorem dX9_ring_61 : decode cX9_ring 61 = .ok (.aload_n 0, 1) := by decide +kernel
theorem dX9_ring_62 : decode cX9_ring 62 = .ok (.iload_n 1, 1) := by decide +kernel
theorem dX9_ring_63 : decode cX9_ring 63 = .ok (.iload_n 2, 1) := by decide +kernel
theorem dX9_ring_64 : decode cX9_ring 64 = .ok (.aload_n 0, 1) := by decide +kernel
theorem dX9_ring_65 : decode cX9_ring 65 = .ok (.getfield 81, 3) := by decide +kernel
theorem dX9_ring_68 : decode cX9_ring 68 = .ok (.invokevirtual 240, 3) := by decide +kernel
theorem dX9_ring_71 : decode cX9_ring 71 = .ok (.iload_n 3, 1) := by decide +kernel
theorem dX9_ring_72 : decode cX9_ring 72 = .ok (.ifCond .ne 10, 3) := by decide +kernel
theorem dX9_ring_75 : decode cX9_ring 75 = .ok (.aload_n 0, 1) := by decide +kernel
theorem dX9_ring_76 : decode cX9_ring 76 = .ok (.getfield 237, 3) := by decide +kernel
theorem dX9_ring_79 : decode cX9_ring 79 = .ok (.goto 29, 3) := by decide +kernel
theorem dX9_ring_82 : decode cX9_ring 82 = .ok (.iload 4, 2) := by decide +kernel
theorem dX9_ring_84 : decode cX9_ring 84 = .ok (.iconst 0, 1) := by decide +kernel
theorem dX9_ring_85 : decode cX9_ring 85 = .ok (.aload_n 0, 1) := by decide +kernel
theorem dX9_ring_86 : decode cX9_ring 86 = .ok (.getfield 237, 3) := by decide +kernel
theorem dX9_ring_89 : decode cX9_ring 89 = .ok (.iconst 1, 1) := by decide +kernel
theorem dX9_ring_90 : decode cX9_ring 90 = .ok (.isub, 1) := by decide +kernel
theorem dX9_ring_91 : decode cX9_ring 91 = .ok (.invokestatic 117, 3) := by decide +kernel
theorem dX9_ring_94 : decode cX9_ring 94 = .ok (.ifCond .eq 13, 3) := by decide +kernel
theorem dX9_ring_97 : decode cX9_ring 97 = .ok (.aload_n 0, 1) := by decide +kernel
theorem dX9_ring_98 : decode cX9_ring 98 = .ok (.getfield 90, 3) := by decide +kernel
theorem dX9_ring_101 : decode cX9_ring 101 = .ok (.iload 4, 2) := by decide +kernel
theorem dX9_ring_103 : decode cX9_ring 103 = .ok (.iaload, 1) := by decide +kernel
theorem dX9_ring_104 : decode cX9_ring 104 = .ok (.goto 4, 3) := by decide +kernel
theorem dX9_ring_107 : decode cX9_ring 107 = .ok (.iconst (-1), 1) := by decide +kernel
theorem dX9_ring_108 : decode cX9_ring 108 = .ok (.ireturn, 1) := by decide +kernel
theorem dX9_costs_0 : decode cX9_costs 0 = .ok (.iconst 0, 1) := by decide +kernel
theorem dX9_costs_1 : decode cX9_costs 1 = .ok (.istore_n 3, 1) := by decide +kernel
theorem dX9_costs_2 : decode cX9_costs 2 = .ok (.iconst 0, 1) := by decide +kernel
theorem dX9_costs_3 : decode cX9_costs 3 = .ok (.istore 4, 2) := by decide +kernel
theorem dX9_costs_5 : decode cX9_costs 5 = .ok (.iload 4, 2) := by decide +kernel
theorem dX9_costs_7 : decode cX9_costs 7 = .ok (.aload_n 0, 1) := by decide +kernel
theorem dX9_costs_8 : decode cX9_costs 8 = .ok (.getfield 7, 3) := by decide +kernel
theorem dX9_costs_11 : decode cX9_costs 11 = .ok (.iconst 0, 1) := by decide +kernel
theorem dX9_costs_12 : decode cX9_costs 12 = .ok (.iaload, 1) := by decide +kernel
theorem dX9_costs_13 : decode cX9_costs 13 = .ok (.if_icmp .ge 38, 3) := by decide +kernel
theorem dX9_costs_16 : decode cX9_costs 16 = .ok (.iload_n 3, 1) := by decide +kernel
theorem dX9_costs_17 : decode cX9_costs 17 = .ok (.iload_n 2, 1) := by decide +kernel
theorem dX9_costs_18 : decode cX9_costs 18 = .ok (.iload 4, 2) := by decide +kernel
theorem dX9_costs_20 : decode cX9_costs 20 = .ok (.ishr, 1) := by decide +kernel
theorem dX9_costs_21 : decode cX9_costs 21 = .ok (.iconst 1, 1) := by decide +kernel
theorem dX9_costs_22 : decode cX9_costs 22 = .ok (.iand, 1) := by decide +kernel
theorem dX9_costs_23 : decode cX9_costs 23 = .ok (.iconst 1, 1) := by decide +kernel
theorem dX9_costs_24 : decode cX9_costs 24 = .ok (.if_icmp .ne 18, 3) := by decide +kernel
theorem dX9_costs_27 : decode cX9_costs 27 = .ok (.aload_n 0, 1) := by decide +kernel
theorem dX9_costs_28 : decode cX9_costs 28 = .ok (.getfield 84, 3) := by decide +kernel
theorem dX9_costs_31 : decode cX9_costs 31 = .ok (.bipush 10, 2) := by decide +kernel
theorem dX9_costs_33 : decode cX9_costs 33 = .ok (.iload_n 1, 1) := by decide +kernel
theorem dX9_costs_34 : decode cX9_costs 34 = .ok (.imul, 1) := by decide +kernel
theorem dX9_costs_35 : decode cX9_costs 35 = .ok (.iload 4, 2) := by decide +kernel
theorem dX9_costs_37 : decode cX9_costs 37 = .ok (.iadd, 1) := by decide +kernel
theorem dX9_costs_38 : decode cX9_costs 38 = .ok (.iaload, 1) := by decide +kernel
theorem dX9_costs_39 : decode cX9_costs 39 = .ok (.goto 4, 3) := by decide +kernel
theorem dX9_costs_42 : decode cX9_costs 42 = .ok (.iconst 0, 1) := by decide +kernel
theorem dX9_costs_43 : decode cX9_costs 43 = .ok (.iadd, 1) := by decide +kernel
theorem dX9_costs_44 : decode cX9_costs 44 = .ok (.istore_n 3, 1) := by decide +kernel
theorem dX9_costs_45 : decode cX9_costs 45 = .ok (.iinc 4 1, 3) := by decide +kernel
theorem dX9_costs_48 : decode cX9_costs 48 = .ok (.goto (-43), 3) := by decide +kernel
theorem dX9_costs_51 : decode cX9_costs 51 = .ok (.iload_n 3, 1) := by decide +kernel
theorem dX9_costs_52 : decode cX9_costs 52 = .ok (.ireturn, 1) := by decide +kernel
theorem dX9_chooses_0 : decode cX9_chooses 0 = .ok (.aload_n 0, 1) := by decide +kernel
theorem dX9_chooses_1 : decode cX9_chooses 1 = .ok (.invokevirtual 224, 3) := by decide +kernel
theorem dX9_chooses_4 : decode cX9_chooses 4 = .ok (.iconst 1, 1) := by decide +kernel
theorem dX9_chooses_5 : decode cX9_chooses 5 = .ok (.aload_n 0, 1) := by decide +kernel
theorem dX9_chooses_6 : decode cX9_chooses 6 = .ok (.getfield 7, 3) := by decide +kernel
theorem dX9_chooses_9 : decode cX9_chooses 9 = .ok (.iconst 0, 1) := by decide +kernel
theorem dX9_chooses_10 : decode cX9_chooses 10 = .ok (.iaload, 1) := by decide +kernel
theorem dX9_chooses_11 : decode cX9_chooses 11 = .ok (.ishl, 1) := by decide +kernel
theorem dX9_chooses_12 : decode cX9_chooses 12 = .ok (.iconst 1, 1) := by decide +kernel
theorem dX9_chooses_13 : decode cX9_chooses 13 = .ok (.isub, 1) := by decide +kernel
theorem dX9_chooses_14 : decode cX9_chooses 14 = .ok (.istore_n 1, 1) := by decide +kernel
theorem dX9_chooses_15 : decode cX9_chooses 15 = .ok (.iload_n 1, 1) := by decide +kernel
theorem dX9_chooses_16 : decode cX9_chooses 16 = .ok (.istore_n 2, 1) := by decide +kernel
theorem dX9_chooses_17 : decode cX9_chooses 17 = .ok (.iload_n 2, 1) := by decide +kernel
theorem dX9_chooses_18 : decode cX9_chooses 18 = .ok (.ifCond .lt 108, 3) := by decide +kernel
theorem dX9_chooses_21 : decode cX9_chooses 21 = .ok (.aload_n 0, 1) := by decide +kernel
theorem dX9_chooses_22 : decode cX9_chooses 22 = .ok (.getfield 93, 3) := by decide +kernel
theorem dX9_chooses_25 : decode cX9_chooses 25 = .ok (.iload_n 2, 1) := by decide +kernel
theorem dX9_chooses_26 : decode cX9_chooses 26 = .ok (.iload_n 2, 1) := by decide +kernel
theorem dX9_chooses_27 : decode cX9_chooses 27 = .ok (.iload_n 1, 1) := by decide +kernel
theorem dX9_chooses_28 : decode cX9_chooses 28 = .ok (.if_icmp .ne 7, 3) := by decide +kernel
theorem dX9_chooses_31 : decode cX9_chooses 31 = .ok (.iconst 0, 1) := by decide +kernel
theorem dX9_chooses_32 : decode cX9_chooses 32 = .ok (.goto 4, 3) := by decide +kernel
theorem dX9_chooses_35 : decode cX9_chooses 35 = .ok (.iconst (-1), 1) := by decide +kernel
theorem dX9_chooses_36 : decode cX9_chooses 36 = .ok (.iastore, 1) := by decide +kernel
theorem dX9_chooses_37 : decode cX9_chooses 37 = .ok (.iconst 0, 1) := by decide +kernel
theorem dX9_chooses_38 : decode cX9_chooses 38 = .ok (.istore_n 3, 1) := by decide +kernel
theorem dX9_chooses_39 : decode cX9_chooses 39 = .ok (.iload_n 3, 1) := by decide +kernel
theorem dX9_chooses_40 : decode cX9_chooses 40 = .ok (.aload_n 0, 1) := by decide +kernel
theorem dX9_chooses_41 : decode cX9_chooses 41 = .ok (.getfield 7, 3) := by decide +kernel
theorem dX9_chooses_44 : decode cX9_chooses 44 = .ok (.iconst 0, 1) := by decide +kernel
theorem dX9_chooses_45 : decode cX9_chooses 45 = .ok (.iaload, 1) := by decide +kernel
theorem dX9_chooses_46 : decode cX9_chooses 46 = .ok (.if_icmp .ge 74, 3) := by decide +kernel
theorem dX9_chooses_49 : decode cX9_chooses 49 = .ok (.iload_n 2, 1) := by decide +kernel
theorem dX9_chooses_50 : decode cX9_chooses 50 = .ok (.iload_n 3, 1) := by decide +kernel
theorem dX9_chooses_51 : decode cX9_chooses 51 = .ok (.ishr, 1) := by decide +kernel
theorem dX9_chooses_52 : decode cX9_chooses 52 = .ok (.iconst 1, 1) := by decide +kernel
theorem dX9_chooses_53 : decode cX9_chooses 53 = .ok (.iand, 1) := by decide +kernel
theorem dX9_chooses_54 : decode cX9_chooses 54 = .ok (.ifCond .ne 60, 3) := by decide +kernel
theorem dX9_chooses_57 : decode cX9_chooses 57 = .ok (.aload_n 0, 1) := by decide +kernel
theorem dX9_chooses_58 : decode cX9_chooses 58 = .ok (.iload_n 3, 1) := by decide +kernel
theorem dX9_chooses_59 : decode cX9_chooses 59 = .ok (.iload_n 2, 1) := by decide +kernel
theorem dX9_chooses_60 : decode cX9_chooses 60 = .ok (.invokevirtual 244, 3) := by decide +kernel
theorem dX9_chooses_63 : decode cX9_chooses 63 = .ok (.aload_n 0, 1) := by decide +kernel
theorem dX9_chooses_64 : decode cX9_chooses 64 = .ok (.getfield 93, 3) := by decide +kernel
theorem dX9_chooses_67 : decode cX9_chooses 67 = .ok (.iload_n 2, 1) := by decide +kernel
theorem dX9_chooses_68 : decode cX9_chooses 68 = .ok (.iconst 1, 1) := by decide +kernel
theorem dX9_chooses_69 : decode cX9_chooses 69 = .ok (.iload_n 3, 1) := by decide +kernel
theorem dX9_chooses_70 : decode cX9_chooses 70 = .ok (.ishl, 1) := by decide +kernel
theorem dX9_chooses_71 : decode cX9_chooses 71 = .ok (.ior, 1) := by decide +kernel
theorem dX9_chooses_72 : decode cX9_chooses 72 = .ok (.iaload, 1) := by decide +kernel
theorem dX9_chooses_73 : decode cX9_chooses 73 = .ok (.iadd, 1) := by decide +kernel
theorem dX9_chooses_74 : decode cX9_chooses 74 = .ok (.istore 4, 2) := by decide +kernel
theorem dX9_chooses_76 : decode cX9_chooses 76 = .ok (.aload_n 0, 1) := by decide +kernel
theorem dX9_chooses_77 : decode cX9_chooses 77 = .ok (.getfield 93, 3) := by decide +kernel
theorem dX9_chooses_80 : decode cX9_chooses 80 = .ok (.iload_n 2, 1) := by decide +kernel
theorem dX9_chooses_81 : decode cX9_chooses 81 = .ok (.aload_n 0, 1) := by decide +kernel
theorem dX9_chooses_82 : decode cX9_chooses 82 = .ok (.getfield 93, 3) := by decide +kernel
theorem dX9_chooses_85 : decode cX9_chooses 85 = .ok (.iload_n 2, 1) := by decide +kernel
theorem dX9_chooses_86 : decode cX9_chooses 86 = .ok (.iaload, 1) := by decide +kernel
theorem dX9_chooses_87 : decode cX9_chooses 87 = .ok (.iconst (-1), 1) := by decide +kernel
theorem dX9_chooses_88 : decode cX9_chooses 88 = .ok (.if_icmp .eq 14, 3) := by decide +kernel
theorem dX9_chooses_91 : decode cX9_chooses 91 = .ok (.iload 4, 2) := by decide +kernel
theorem dX9_chooses_93 : decode cX9_chooses 93 = .ok (.aload_n 0, 1) := by decide +kernel
theorem dX9_chooses_94 : decode cX9_chooses 94 = .ok (.getfield 93, 3) := by decide +kernel
theorem dX9_chooses_97 : decode cX9_chooses 97 = .ok (.iload_n 2, 1) := by decide +kernel
theorem dX9_chooses_98 : decode cX9_chooses 98 = .ok (.iaload, 1) := by decide +kernel
theorem dX9_chooses_99 : decode cX9_chooses 99 = .ok (.if_icmp .ge 8, 3) := by decide +kernel
theorem dX9_chooses_102 : decode cX9_chooses 102 = .ok (.iload 4, 2) := by decide +kernel
theorem dX9_chooses_104 : decode cX9_chooses 104 = .ok (.goto 9, 3) := by decide +kernel
theorem dX9_chooses_107 : decode cX9_chooses 107 = .ok (.aload_n 0, 1) := by decide +kernel
theorem dX9_chooses_108 : decode cX9_chooses 108 = .ok (.getfield 93, 3) := by decide +kernel
theorem dX9_chooses_111 : decode cX9_chooses 111 = .ok (.iload_n 2, 1) := by decide +kernel
theorem dX9_chooses_112 : decode cX9_chooses 112 = .ok (.iaload, 1) := by decide +kernel
theorem dX9_chooses_113 : decode cX9_chooses 113 = .ok (.iastore, 1) := by decide +kernel
theorem dX9_chooses_114 : decode cX9_chooses 114 = .ok (.iinc 3 1, 3) := by decide +kernel
theorem dX9_chooses_117 : decode cX9_chooses 117 = .ok (.goto (-78), 3) := by decide +kernel
theorem dX9_chooses_120 : decode cX9_chooses 120 = .ok (.iinc 2 (-1), 3) := by decide +kernel
theorem dX9_chooses_123 : decode cX9_chooses 123 = .ok (.goto (-106), 3) := by decide +kernel
theorem dX9_chooses_126 : decode cX9_chooses 126 = .ok (.iconst 0, 1) := by decide +kernel
theorem dX9_chooses_127 : decode cX9_chooses 127 = .ok (.istore_n 2, 1) := by decide +kernel
theorem dX9_chooses_128 : decode cX9_chooses 128 = .ok (.iconst 0, 1) := by decide +kernel
theorem dX9_chooses_129 : decode cX9_chooses 129 = .ok (.istore_n 3, 1) := by decide +kernel
theorem dX9_chooses_130 : decode cX9_chooses 130 = .ok (.iload_n 3, 1) := by decide +kernel
theorem dX9_chooses_131 : decode cX9_chooses 131 = .ok (.aload_n 0, 1) := by decide +kernel
theorem dX9_chooses_132 : decode cX9_chooses 132 = .ok (.getfield 7, 3) := by decide +kernel
theorem dX9_chooses_135 : decode cX9_chooses 135 = .ok (.iconst 0, 1) := by decide +kernel
theorem dX9_chooses_136 : decode cX9_chooses 136 = .ok (.iaload, 1) := by decide +kernel
theorem dX9_chooses_137 : decode cX9_chooses 137 = .ok (.if_icmp .ge 79, 3) := by decide +kernel
theorem dX9_chooses_140 : decode cX9_chooses 140 = .ok (.iconst 0, 1) := by decide +kernel
theorem dX9_chooses_141 : decode cX9_chooses 141 = .ok (.istore 4, 2) := by decide +kernel
theorem dX9_chooses_143 : decode cX9_chooses 143 = .ok (.iload_n 2, 1) := by decide +kernel
theorem dX9_chooses_144 : decode cX9_chooses 144 = .ok (.iload 4, 2) := by decide +kernel
theorem dX9_chooses_146 : decode cX9_chooses 146 = .ok (.ishr, 1) := by decide +kernel
theorem dX9_chooses_147 : decode cX9_chooses 147 = .ok (.iconst 1, 1) := by decide +kernel
theorem dX9_chooses_148 : decode cX9_chooses 148 = .ok (.iand, 1) := by decide +kernel
theorem dX9_chooses_149 : decode cX9_chooses 149 = .ok (.iconst 1, 1) := by decide +kernel
theorem dX9_chooses_150 : decode cX9_chooses 150 = .ok (.if_icmp .eq 31, 3) := by decide +kernel
theorem dX9_chooses_153 : decode cX9_chooses 153 = .ok (.aload_n 0, 1) := by decide +kernel
theorem dX9_chooses_154 : decode cX9_chooses 154 = .ok (.iload 4, 2) := by decide +kernel
theorem dX9_chooses_156 : decode cX9_chooses 156 = .ok (.iload_n 2, 1) := by decide +kernel
theorem dX9_chooses_157 : decode cX9_chooses 157 = .ok (.invokevirtual 244, 3) := by decide +kernel
theorem dX9_chooses_160 : decode cX9_chooses 160 = .ok (.aload_n 0, 1) := by decide +kernel
theorem dX9_chooses_161 : decode cX9_chooses 161 = .ok (.getfield 93, 3) := by decide +kernel
theorem dX9_chooses_164 : decode cX9_chooses 164 = .ok (.iload_n 2, 1) := by decide +kernel
theorem dX9_chooses_165 : decode cX9_chooses 165 = .ok (.iconst 1, 1) := by decide +kernel
theorem dX9_chooses_166 : decode cX9_chooses 166 = .ok (.iload 4, 2) := by decide +kernel
theorem dX9_chooses_168 : decode cX9_chooses 168 = .ok (.ishl, 1) := by decide +kernel
theorem dX9_chooses_169 : decode cX9_chooses 169 = .ok (.ior, 1) := by decide +kernel
theorem dX9_chooses_170 : decode cX9_chooses 170 = .ok (.iaload, 1) := by decide +kernel
theorem dX9_chooses_171 : decode cX9_chooses 171 = .ok (.iadd, 1) := by decide +kernel
theorem dX9_chooses_172 : decode cX9_chooses 172 = .ok (.aload_n 0, 1) := by decide +kernel
theorem dX9_chooses_173 : decode cX9_chooses 173 = .ok (.getfield 93, 3) := by decide +kernel
theorem dX9_chooses_176 : decode cX9_chooses 176 = .ok (.iload_n 2, 1) := by decide +kernel
theorem dX9_chooses_177 : decode cX9_chooses 177 = .ok (.iaload, 1) := by decide +kernel
theorem dX9_chooses_178 : decode cX9_chooses 178 = .ok (.if_icmp .eq 9, 3) := by decide +kernel
theorem dX9_chooses_181 : decode cX9_chooses 181 = .ok (.iinc 4 1, 3) := by decide +kernel
theorem dX9_chooses_184 : decode cX9_chooses 184 = .ok (.goto (-41), 3) := by decide +kernel
theorem dX9_chooses_187 : decode cX9_chooses 187 = .ok (.aload_n 0, 1) := by decide +kernel
theorem dX9_chooses_188 : decode cX9_chooses 188 = .ok (.getfield 96, 3) := by decide +kernel
theorem dX9_chooses_191 : decode cX9_chooses 191 = .ok (.iload_n 3, 1) := by decide +kernel
theorem dX9_chooses_192 : decode cX9_chooses 192 = .ok (.iload 4, 2) := by decide +kernel
theorem dX9_chooses_194 : decode cX9_chooses 194 = .ok (.iastore, 1) := by decide +kernel
theorem dX9_chooses_195 : decode cX9_chooses 195 = .ok (.aload_n 0, 1) := by decide +kernel
theorem dX9_chooses_196 : decode cX9_chooses 196 = .ok (.getfield 99, 3) := by decide +kernel
theorem dX9_chooses_199 : decode cX9_chooses 199 = .ok (.iload 4, 2) := by decide +kernel
theorem dX9_chooses_201 : decode cX9_chooses 201 = .ok (.iload_n 3, 1) := by decide +kernel
theorem dX9_chooses_202 : decode cX9_chooses 202 = .ok (.iastore, 1) := by decide +kernel
theorem dX9_chooses_203 : decode cX9_chooses 203 = .ok (.iload_n 2, 1) := by decide +kernel
theorem dX9_chooses_204 : decode cX9_chooses 204 = .ok (.iconst 1, 1) := by decide +kernel
theorem dX9_chooses_205 : decode cX9_chooses 205 = .ok (.iload 4, 2) := by decide +kernel
theorem dX9_chooses_207 : decode cX9_chooses 207 = .ok (.ishl, 1) := by decide +kernel
theorem dX9_chooses_208 : decode cX9_chooses 208 = .ok (.ior, 1) := by decide +kernel
theorem dX9_chooses_209 : decode cX9_chooses 209 = .ok (.istore_n 2, 1) := by decide +kernel
theorem dX9_chooses_210 : decode cX9_chooses 210 = .ok (.iinc 3 1, 3) := by decide +kernel
theorem dX9_chooses_213 : decode cX9_chooses 213 = .ok (.goto (-83), 3) := by decide +kernel
theorem dX9_chooses_216 : decode cX9_chooses 216 = .ok (.aload_n 0, 1) := by decide +kernel
theorem dX9_chooses_217 : decode cX9_chooses 217 = .ok (.getfield 93, 3) := by decide +kernel
theorem dX9_chooses_220 : decode cX9_chooses 220 = .ok (.iconst 0, 1) := by decide +kernel
theorem dX9_chooses_221 : decode cX9_chooses 221 = .ok (.iaload, 1) := by decide +kernel
theorem dX9_chooses_222 : decode cX9_chooses 222 = .ok (.ireturn, 1) := by decide +kernel
theorem dX9_choice_0 : decode cX9_choice 0 = .ok (.aload_n 0, 1) := by decide +kernel
theorem dX9_choice_1 : decode cX9_choice 1 = .ok (.invokevirtual 247, 3) := by decide +kernel
theorem dX9_choice_4 : decode cX9_choice 4 = .ok (.ireturn, 1) := by decide +kernel
theorem dX9_chosen_0 : decode cX9_chosen 0 = .ok (.iload_n 1, 1) := by decide +kernel
theorem dX9_chosen_1 : decode cX9_chosen 1 = .ok (.iconst 0, 1) := by decide +kernel
theorem dX9_chosen_2 : decode cX9_chosen 2 = .ok (.iconst 1, 1) := by decide +kernel
theorem dX9_chosen_3 : decode cX9_chosen 3 = .ok (.invokestatic 117, 3) := by decide +kernel
theorem dX9_chosen_6 : decode cX9_chosen 6 = .ok (.ifCond .eq 7, 3) := by decide +kernel
theorem dX9_chosen_9 : decode cX9_chosen 9 = .ok (.iload_n 2, 1) := by decide +kernel
theorem dX9_chosen_10 : decode cX9_chosen 10 = .ok (.ifCond .ge 5, 3) := by decide +kernel
theorem dX9_chosen_13 : decode cX9_chosen 13 = .ok (.iconst (-1), 1) := by decide +kernel
theorem dX9_chosen_14 : decode cX9_chosen 14 = .ok (.ireturn, 1) := by decide +kernel
theorem dX9_chosen_15 : decode cX9_chosen 15 = .ok (.aload_n 0, 1) := by decide +kernel
theorem dX9_chosen_16 : decode cX9_chosen 16 = .ok (.invokevirtual 247, 3) := by decide +kernel
theorem dX9_chosen_19 : decode cX9_chosen 19 = .ok (.istore_n 3, 1) := by decide +kernel
theorem dX9_chosen_20 : decode cX9_chosen 20 = .ok (.iload_n 1, 1) := by decide +kernel
theorem dX9_chosen_21 : decode cX9_chosen 21 = .ok (.ifCond .ne 24, 3) := by decide +kernel
theorem dX9_chosen_24 : decode cX9_chosen 24 = .ok (.iload_n 2, 1) := by decide +kernel
theorem dX9_chosen_25 : decode cX9_chosen 25 = .ok (.aload_n 0, 1) := by decide +kernel
theorem dX9_chosen_26 : decode cX9_chosen 26 = .ok (.getfield 7, 3) := by decide +kernel
theorem dX9_chosen_29 : decode cX9_chosen 29 = .ok (.iconst 0, 1) := by decide +kernel
theorem dX9_chosen_30 : decode cX9_chosen 30 = .ok (.iaload, 1) := by decide +kernel
theorem dX9_chosen_31 : decode cX9_chosen 31 = .ok (.if_icmp .ge 12, 3) := by decide +kernel
theorem dX9_chosen_34 : decode cX9_chosen 34 = .ok (.aload_n 0, 1) := by decide +kernel
theorem dX9_chosen_35 : decode cX9_chosen 35 = .ok (.getfield 96, 3) := by decide +kernel
theorem dX9_chosen_38 : decode cX9_chosen 38 = .ok (.iload_n 2, 1) := by decide +kernel
theorem dX9_chosen_39 : decode cX9_chosen 39 = .ok (.iaload, 1) := by decide +kernel
theorem dX9_chosen_40 : decode cX9_chosen 40 = .ok (.goto 4, 3) := by decide +kernel
theorem dX9_chosen_43 : decode cX9_chosen 43 = .ok (.iconst (-1), 1) := by decide +kernel
theorem dX9_chosen_44 : decode cX9_chosen 44 = .ok (.ireturn, 1) := by decide +kernel
theorem dX9_chosen_45 : decode cX9_chosen 45 = .ok (.iconst 0, 1) := by decide +kernel
theorem dX9_chosen_46 : decode cX9_chosen 46 = .ok (.istore 4, 2) := by decide +kernel
theorem dX9_chosen_48 : decode cX9_chosen 48 = .ok (.iconst 0, 1) := by decide +kernel
theorem dX9_chosen_49 : decode cX9_chosen 49 = .ok (.istore 5, 2) := by decide +kernel
theorem dX9_chosen_51 : decode cX9_chosen 51 = .ok (.iload 5, 2) := by decide +kernel
theorem dX9_chosen_53 : decode cX9_chosen 53 = .ok (.aload_n 0, 1) := by decide +kernel
theorem dX9_chosen_54 : decode cX9_chosen 54 = .ok (.getfield 7, 3) := by decide +kernel
theorem dX9_chosen_57 : decode cX9_chosen 57 = .ok (.iconst 0, 1) := by decide +kernel
theorem dX9_chosen_58 : decode cX9_chosen 58 = .ok (.iaload, 1) := by decide +kernel
theorem dX9_chosen_59 : decode cX9_chosen 59 = .ok (.if_icmp .ge 80, 3) := by decide +kernel
theorem dX9_chosen_62 : decode cX9_chosen 62 = .ok (.iconst 0, 1) := by decide +kernel
theorem dX9_chosen_63 : decode cX9_chosen 63 = .ok (.istore 6, 2) := by decide +kernel
theorem dX9_chosen_65 : decode cX9_chosen 65 = .ok (.iload 6, 2) := by decide +kernel
theorem dX9_chosen_67 : decode cX9_chosen 67 = .ok (.aload_n 0, 1) := by decide +kernel
theorem dX9_chosen_68 : decode cX9_chosen 68 = .ok (.getfield 7, 3) := by decide +kernel
theorem dX9_chosen_71 : decode cX9_chosen 71 = .ok (.iconst 0, 1) := by decide +kernel
theorem dX9_chosen_72 : decode cX9_chosen 72 = .ok (.iaload, 1) := by decide +kernel
theorem dX9_chosen_73 : decode cX9_chosen 73 = .ok (.if_icmp .ge 60, 3) := by decide +kernel
theorem dX9_chosen_76 : decode cX9_chosen 76 = .ok (.aload_n 0, 1) := by decide +kernel
theorem dX9_chosen_77 : decode cX9_chosen 77 = .ok (.getfield 81, 3) := by decide +kernel
theorem dX9_chosen_80 : decode cX9_chosen 80 = .ok (.bipush 10, 2) := by decide +kernel
theorem dX9_chosen_82 : decode cX9_chosen 82 = .ok (.iload 5, 2) := by decide +kernel
theorem dX9_chosen_84 : decode cX9_chosen 84 = .ok (.imul, 1) := by decide +kernel
theorem dX9_chosen_85 : decode cX9_chosen 85 = .ok (.iload 6, 2) := by decide +kernel
theorem dX9_chosen_87 : decode cX9_chosen 87 = .ok (.iadd, 1) := by decide +kernel
theorem dX9_chosen_88 : decode cX9_chosen 88 = .ok (.iaload, 1) := by decide +kernel
theorem dX9_chosen_89 : decode cX9_chosen 89 = .ok (.ifCond .le 38, 3) := by decide +kernel
theorem dX9_chosen_92 : decode cX9_chosen 92 = .ok (.aload_n 0, 1) := by decide +kernel
theorem dX9_chosen_93 : decode cX9_chosen 93 = .ok (.getfield 99, 3) := by decide +kernel
theorem dX9_chosen_96 : decode cX9_chosen 96 = .ok (.iload 6, 2) := by decide +kernel
theorem dX9_chosen_98 : decode cX9_chosen 98 = .ok (.iaload, 1) := by decide +kernel
theorem dX9_chosen_99 : decode cX9_chosen 99 = .ok (.aload_n 0, 1) := by decide +kernel
theorem dX9_chosen_100 : decode cX9_chosen 100 = .ok (.getfield 99, 3) := by decide +kernel
theorem dX9_chosen_103 : decode cX9_chosen 103 = .ok (.iload 5, 2) := by decide +kernel
theorem dX9_chosen_105 : decode cX9_chosen 105 = .ok (.iaload, 1) := by decide +kernel
theorem dX9_chosen_106 : decode cX9_chosen 106 = .ok (.if_icmp .ge 21, 3) := by decide +kernel
theorem dX9_chosen_109 : decode cX9_chosen 109 = .ok (.iload 4, 2) := by decide +kernel
theorem dX9_chosen_111 : decode cX9_chosen 111 = .ok (.iload_n 2, 1) := by decide +kernel
theorem dX9_chosen_112 : decode cX9_chosen 112 = .ok (.if_icmp .ne 12, 3) := by decide +kernel
theorem dX9_chosen_115 : decode cX9_chosen 115 = .ok (.bipush 10, 2) := by decide +kernel
theorem dX9_chosen_117 : decode cX9_chosen 117 = .ok (.iload 5, 2) := by decide +kernel
theorem dX9_chosen_119 : decode cX9_chosen 119 = .ok (.imul, 1) := by decide +kernel
theorem dX9_chosen_120 : decode cX9_chosen 120 = .ok (.iload 6, 2) := by decide +kernel
theorem dX9_chosen_122 : decode cX9_chosen 122 = .ok (.iadd, 1) := by decide +kernel
theorem dX9_chosen_123 : decode cX9_chosen 123 = .ok (.ireturn, 1) := by decide +kernel
theorem dX9_chosen_124 : decode cX9_chosen 124 = .ok (.iinc 4 1, 3) := by decide +kernel
theorem dX9_chosen_127 : decode cX9_chosen 127 = .ok (.iinc 6 1, 3) := by decide +kernel
theorem dX9_chosen_130 : decode cX9_chosen 130 = .ok (.goto (-65), 3) := by decide +kernel
theorem dX9_chosen_133 : decode cX9_chosen 133 = .ok (.iinc 5 1, 3) := by decide +kernel
theorem dX9_chosen_136 : decode cX9_chosen 136 = .ok (.goto (-85), 3) := by decide +kernel
theorem dX9_chosen_139 : decode cX9_chosen 139 = .ok (.iconst (-1), 1) := by decide +kernel
theorem dX9_chosen_140 : decode cX9_chosen 140 = .ok (.ireturn, 1) := by decide +kernel
theorem dX9_shortest_0 : decode cX9_shortest 0 = .ok (.aload_n 0, 1) := by decide +kernel
theorem dX9_shortest_1 : decode cX9_shortest 1 = .ok (.aload_n 0, 1) := by decide +kernel
theorem dX9_shortest_2 : decode cX9_shortest 2 = .ok (.getfield 102, 3) := by decide +kernel
theorem dX9_shortest_5 : decode cX9_shortest 5 = .ok (.invokevirtual 227, 3) := by decide +kernel
theorem dX9_shortest_8 : decode cX9_shortest 8 = .ok (.iconst 0, 1) := by decide +kernel
theorem dX9_shortest_9 : decode cX9_shortest 9 = .ok (.istore_n 1, 1) := by decide +kernel
theorem dX9_shortest_10 : decode cX9_shortest 10 = .ok (.iconst 0, 1) := by decide +kernel
theorem dX9_shortest_11 : decode cX9_shortest 11 = .ok (.istore_n 2, 1) := by decide +kernel
theorem dX9_shortest_12 : decode cX9_shortest 12 = .ok (.iload_n 2, 1) := by decide +kernel
theorem dX9_shortest_13 : decode cX9_shortest 13 = .ok (.aload_n 0, 1) := by decide +kernel
theorem dX9_shortest_14 : decode cX9_shortest 14 = .ok (.getfield 7, 3) := by decide +kernel
theorem dX9_shortest_17 : decode cX9_shortest 17 = .ok (.iconst 0, 1) := by decide +kernel
theorem dX9_shortest_18 : decode cX9_shortest 18 = .ok (.iaload, 1) := by decide +kernel
theorem dX9_shortest_19 : decode cX9_shortest 19 = .ok (.if_icmp .ge 122, 3) := by decide +kernel
theorem dX9_shortest_22 : decode cX9_shortest 22 = .ok (.iconst 0, 1) := by decide +kernel
theorem dX9_shortest_23 : decode cX9_shortest 23 = .ok (.istore_n 3, 1) := by decide +kernel
theorem dX9_shortest_24 : decode cX9_shortest 24 = .ok (.iload_n 3, 1) := by decide +kernel
theorem dX9_shortest_25 : decode cX9_shortest 25 = .ok (.aload_n 0, 1) := by decide +kernel
theorem dX9_shortest_26 : decode cX9_shortest 26 = .ok (.getfield 7, 3) := by decide +kernel
theorem dX9_shortest_29 : decode cX9_shortest 29 = .ok (.iconst 0, 1) := by decide +kernel
theorem dX9_shortest_30 : decode cX9_shortest 30 = .ok (.iaload, 1) := by decide +kernel
theorem dX9_shortest_31 : decode cX9_shortest 31 = .ok (.if_icmp .ge 104, 3) := by decide +kernel
theorem dX9_shortest_34 : decode cX9_shortest 34 = .ok (.iload_n 2, 1) := by decide +kernel
theorem dX9_shortest_35 : decode cX9_shortest 35 = .ok (.iload_n 3, 1) := by decide +kernel
theorem dX9_shortest_36 : decode cX9_shortest 36 = .ok (.if_icmp .eq 93, 3) := by decide +kernel
theorem dX9_shortest_39 : decode cX9_shortest 39 = .ok (.aload_n 0, 1) := by decide +kernel
theorem dX9_shortest_40 : decode cX9_shortest 40 = .ok (.getfield 102, 3) := by decide +kernel
theorem dX9_shortest_43 : decode cX9_shortest 43 = .ok (.bipush 10, 2) := by decide +kernel
theorem dX9_shortest_45 : decode cX9_shortest 45 = .ok (.iload_n 2, 1) := by decide +kernel
theorem dX9_shortest_46 : decode cX9_shortest 46 = .ok (.imul, 1) := by decide +kernel
theorem dX9_shortest_47 : decode cX9_shortest 47 = .ok (.iload_n 3, 1) := by decide +kernel
theorem dX9_shortest_48 : decode cX9_shortest 48 = .ok (.iadd, 1) := by decide +kernel
theorem dX9_shortest_49 : decode cX9_shortest 49 = .ok (.iaload, 1) := by decide +kernel
theorem dX9_shortest_50 : decode cX9_shortest 50 = .ok (.ifCond .le 79, 3) := by decide +kernel
theorem dX9_shortest_53 : decode cX9_shortest 53 = .ok (.aload_n 0, 1) := by decide +kernel
theorem dX9_shortest_54 : decode cX9_shortest 54 = .ok (.iload_n 2, 1) := by decide +kernel
theorem dX9_shortest_55 : decode cX9_shortest 55 = .ok (.iload_n 3, 1) := by decide +kernel
theorem dX9_shortest_56 : decode cX9_shortest 56 = .ok (.invokevirtual 234, 3) := by decide +kernel
theorem dX9_shortest_59 : decode cX9_shortest 59 = .ok (.ifCond .eq 70, 3) := by decide +kernel
theorem dX9_shortest_62 : decode cX9_shortest 62 = .ok (.iconst 1, 1) := by decide +kernel
theorem dX9_shortest_63 : decode cX9_shortest 63 = .ok (.aload_n 0, 1) := by decide +kernel
theorem dX9_shortest_64 : decode cX9_shortest 64 = .ok (.getfield 87, 3) := by decide +kernel
theorem dX9_shortest_67 : decode cX9_shortest 67 = .ok (.bipush 10, 2) := by decide +kernel
theorem dX9_shortest_69 : decode cX9_shortest 69 = .ok (.iload_n 3, 1) := by decide +kernel
theorem dX9_shortest_70 : decode cX9_shortest 70 = .ok (.imul, 1) := by decide +kernel
theorem dX9_shortest_71 : decode cX9_shortest 71 = .ok (.iload_n 2, 1) := by decide +kernel
theorem dX9_shortest_72 : decode cX9_shortest 72 = .ok (.iadd, 1) := by decide +kernel
theorem dX9_shortest_73 : decode cX9_shortest 73 = .ok (.iaload, 1) := by decide +kernel
theorem dX9_shortest_74 : decode cX9_shortest 74 = .ok (.iadd, 1) := by decide +kernel
theorem dX9_shortest_75 : decode cX9_shortest 75 = .ok (.istore 4, 2) := by decide +kernel
theorem dX9_shortest_77 : decode cX9_shortest 77 = .ok (.iload_n 1, 1) := by decide +kernel
theorem dX9_shortest_78 : decode cX9_shortest 78 = .ok (.ifCond .eq 9, 3) := by decide +kernel
theorem dX9_shortest_81 : decode cX9_shortest 81 = .ok (.iload 4, 2) := by decide +kernel
theorem dX9_shortest_83 : decode cX9_shortest 83 = .ok (.iload_n 1, 1) := by decide +kernel
theorem dX9_shortest_84 : decode cX9_shortest 84 = .ok (.if_icmp .ge 45, 3) := by decide +kernel
theorem dX9_shortest_87 : decode cX9_shortest 87 = .ok (.iload 4, 2) := by decide +kernel
theorem dX9_shortest_89 : decode cX9_shortest 89 = .ok (.istore_n 1, 1) := by decide +kernel
theorem dX9_shortest_90 : decode cX9_shortest 90 = .ok (.aload_n 0, 1) := by decide +kernel
theorem dX9_shortest_91 : decode cX9_shortest 91 = .ok (.iload_n 2, 1) := by decide +kernel
theorem dX9_shortest_92 : decode cX9_shortest 92 = .ok (.iload_n 3, 1) := by decide +kernel
theorem dX9_shortest_93 : decode cX9_shortest 93 = .ok (.aload_n 0, 1) := by decide +kernel
theorem dX9_shortest_94 : decode cX9_shortest 94 = .ok (.getfield 102, 3) := by decide +kernel
theorem dX9_shortest_97 : decode cX9_shortest 97 = .ok (.invokevirtual 240, 3) := by decide +kernel
theorem dX9_shortest_100 : decode cX9_shortest 100 = .ok (.iconst 0, 1) := by decide +kernel
theorem dX9_shortest_101 : decode cX9_shortest 101 = .ok (.istore 5, 2) := by decide +kernel
theorem dX9_shortest_103 : decode cX9_shortest 103 = .ok (.iload 5, 2) := by decide +kernel
theorem dX9_shortest_105 : decode cX9_shortest 105 = .ok (.iload_n 1, 1) := by decide +kernel
theorem dX9_shortest_106 : decode cX9_shortest 106 = .ok (.if_icmp .ge 23, 3) := by decide +kernel
theorem dX9_shortest_109 : decode cX9_shortest 109 = .ok (.aload_n 0, 1) := by decide +kernel
theorem dX9_shortest_110 : decode cX9_shortest 110 = .ok (.getfield 105, 3) := by decide +kernel
theorem dX9_shortest_113 : decode cX9_shortest 113 = .ok (.iload 5, 2) := by decide +kernel
theorem dX9_shortest_115 : decode cX9_shortest 115 = .ok (.aload_n 0, 1) := by decide +kernel
theorem dX9_shortest_116 : decode cX9_shortest 116 = .ok (.getfield 90, 3) := by decide +kernel
theorem dX9_shortest_119 : decode cX9_shortest 119 = .ok (.iload 5, 2) := by decide +kernel
theorem dX9_shortest_121 : decode cX9_shortest 121 = .ok (.iaload, 1) := by decide +kernel
theorem dX9_shortest_122 : decode cX9_shortest 122 = .ok (.iastore, 1) := by decide +kernel
theorem dX9_shortest_123 : decode cX9_shortest 123 = .ok (.iinc 5 1, 3) := by decide +kernel
theorem dX9_shortest_126 : decode cX9_shortest 126 = .ok (.goto (-23), 3) := by decide +kernel
theorem dX9_shortest_129 : decode cX9_shortest 129 = .ok (.iinc 3 1, 3) := by decide +kernel
theorem dX9_shortest_132 : decode cX9_shortest 132 = .ok (.goto (-108), 3) := by decide +kernel
theorem dX9_shortest_135 : decode cX9_shortest 135 = .ok (.iinc 2 1, 3) := by decide +kernel
theorem dX9_shortest_138 : decode cX9_shortest 138 = .ok (.goto (-126), 3) := by decide +kernel
theorem dX9_shortest_141 : decode cX9_shortest 141 = .ok (.iload_n 1, 1) := by decide +kernel
theorem dX9_shortest_142 : decode cX9_shortest 142 = .ok (.ireturn, 1) := by decide +kernel
theorem dX9_bound_0 : decode cX9_bound 0 = .ok (.aload_n 0, 1) := by decide +kernel
theorem dX9_bound_1 : decode cX9_bound 1 = .ok (.invokevirtual 224, 3) := by decide +kernel
theorem dX9_bound_4 : decode cX9_bound 4 = .ok (.iconst 0, 1) := by decide +kernel
theorem dX9_bound_5 : decode cX9_bound 5 = .ok (.istore_n 1, 1) := by decide +kernel
theorem dX9_bound_6 : decode cX9_bound 6 = .ok (.iload_n 1, 1) := by decide +kernel
theorem dX9_bound_7 : decode cX9_bound 7 = .ok (.bipush 100, 2) := by decide +kernel
theorem dX9_bound_9 : decode cX9_bound 9 = .ok (.if_icmp .ge 21, 3) := by decide +kernel
theorem dX9_bound_12 : decode cX9_bound 12 = .ok (.aload_n 0, 1) := by decide +kernel
theorem dX9_bound_13 : decode cX9_bound 13 = .ok (.getfield 102, 3) := by decide +kernel
theorem dX9_bound_16 : decode cX9_bound 16 = .ok (.iload_n 1, 1) := by decide +kernel
theorem dX9_bound_17 : decode cX9_bound 17 = .ok (.aload_n 0, 1) := by decide +kernel
theorem dX9_bound_18 : decode cX9_bound 18 = .ok (.getfield 84, 3) := by decide +kernel
theorem dX9_bound_21 : decode cX9_bound 21 = .ok (.iload_n 1, 1) := by decide +kernel
theorem dX9_bound_22 : decode cX9_bound 22 = .ok (.iaload, 1) := by decide +kernel
theorem dX9_bound_23 : decode cX9_bound 23 = .ok (.iastore, 1) := by decide +kernel
theorem dX9_bound_24 : decode cX9_bound 24 = .ok (.iinc 1 1, 3) := by decide +kernel
theorem dX9_bound_27 : decode cX9_bound 27 = .ok (.goto (-21), 3) := by decide +kernel
theorem dX9_bound_30 : decode cX9_bound 30 = .ok (.iconst 0, 1) := by decide +kernel
theorem dX9_bound_31 : decode cX9_bound 31 = .ok (.istore_n 1, 1) := by decide +kernel
theorem dX9_bound_32 : decode cX9_bound 32 = .ok (.aload_n 0, 1) := by decide +kernel
theorem dX9_bound_33 : decode cX9_bound 33 = .ok (.invokevirtual 251, 3) := by decide +kernel
theorem dX9_bound_36 : decode cX9_bound 36 = .ok (.istore_n 2, 1) := by decide +kernel
theorem dX9_bound_37 : decode cX9_bound 37 = .ok (.iload_n 2, 1) := by decide +kernel
theorem dX9_bound_38 : decode cX9_bound 38 = .ok (.ifCond .le 142, 3) := by decide +kernel
theorem dX9_bound_41 : decode cX9_bound 41 = .ok (.aload_n 0, 1) := by decide +kernel
theorem dX9_bound_42 : decode cX9_bound 42 = .ok (.getfield 102, 3) := by decide +kernel
theorem dX9_bound_45 : decode cX9_bound 45 = .ok (.bipush 10, 2) := by decide +kernel
theorem dX9_bound_47 : decode cX9_bound 47 = .ok (.aload_n 0, 1) := by decide +kernel
theorem dX9_bound_48 : decode cX9_bound 48 = .ok (.getfield 105, 3) := by decide +kernel
theorem dX9_bound_51 : decode cX9_bound 51 = .ok (.iload_n 2, 1) := by decide +kernel
theorem dX9_bound_52 : decode cX9_bound 52 = .ok (.iconst 1, 1) := by decide +kernel
theorem dX9_bound_53 : decode cX9_bound 53 = .ok (.isub, 1) := by decide +kernel
theorem dX9_bound_54 : decode cX9_bound 54 = .ok (.iaload, 1) := by decide +kernel
theorem dX9_bound_55 : decode cX9_bound 55 = .ok (.imul, 1) := by decide +kernel
theorem dX9_bound_56 : decode cX9_bound 56 = .ok (.aload_n 0, 1) := by decide +kernel
theorem dX9_bound_57 : decode cX9_bound 57 = .ok (.getfield 105, 3) := by decide +kernel
theorem dX9_bound_60 : decode cX9_bound 60 = .ok (.iconst 0, 1) := by decide +kernel
theorem dX9_bound_61 : decode cX9_bound 61 = .ok (.iaload, 1) := by decide +kernel
theorem dX9_bound_62 : decode cX9_bound 62 = .ok (.iadd, 1) := by decide +kernel
theorem dX9_bound_63 : decode cX9_bound 63 = .ok (.iaload, 1) := by decide +kernel
theorem dX9_bound_64 : decode cX9_bound 64 = .ok (.istore_n 3, 1) := by decide +kernel
theorem dX9_bound_65 : decode cX9_bound 65 = .ok (.iconst 0, 1) := by decide +kernel
theorem dX9_bound_66 : decode cX9_bound 66 = .ok (.istore 4, 2) := by decide +kernel
theorem dX9_bound_68 : decode cX9_bound 68 = .ok (.iload 4, 2) := by decide +kernel
theorem dX9_bound_70 : decode cX9_bound 70 = .ok (.iconst 1, 1) := by decide +kernel
theorem dX9_bound_71 : decode cX9_bound 71 = .ok (.iadd, 1) := by decide +kernel
theorem dX9_bound_72 : decode cX9_bound 72 = .ok (.iload_n 2, 1) := by decide +kernel
theorem dX9_bound_73 : decode cX9_bound 73 = .ok (.if_icmp .ge 49, 3) := by decide +kernel
theorem dX9_bound_76 : decode cX9_bound 76 = .ok (.aload_n 0, 1) := by decide +kernel
theorem dX9_bound_77 : decode cX9_bound 77 = .ok (.getfield 102, 3) := by decide +kernel
theorem dX9_bound_80 : decode cX9_bound 80 = .ok (.bipush 10, 2) := by decide +kernel
theorem dX9_bound_82 : decode cX9_bound 82 = .ok (.aload_n 0, 1) := by decide +kernel
theorem dX9_bound_83 : decode cX9_bound 83 = .ok (.getfield 105, 3) := by decide +kernel
theorem dX9_bound_86 : decode cX9_bound 86 = .ok (.iload 4, 2) := by decide +kernel
theorem dX9_bound_88 : decode cX9_bound 88 = .ok (.iaload, 1) := by decide +kernel
theorem dX9_bound_89 : decode cX9_bound 89 = .ok (.imul, 1) := by decide +kernel
theorem dX9_bound_90 : decode cX9_bound 90 = .ok (.aload_n 0, 1) := by decide +kernel
theorem dX9_bound_91 : decode cX9_bound 91 = .ok (.getfield 105, 3) := by decide +kernel
theorem dX9_bound_94 : decode cX9_bound 94 = .ok (.iload 4, 2) := by decide +kernel
theorem dX9_bound_96 : decode cX9_bound 96 = .ok (.iconst 1, 1) := by decide +kernel
theorem dX9_bound_97 : decode cX9_bound 97 = .ok (.iadd, 1) := by decide +kernel
theorem dX9_bound_98 : decode cX9_bound 98 = .ok (.iaload, 1) := by decide +kernel
theorem dX9_bound_99 : decode cX9_bound 99 = .ok (.iadd, 1) := by decide +kernel
theorem dX9_bound_100 : decode cX9_bound 100 = .ok (.iaload, 1) := by decide +kernel
theorem dX9_bound_101 : decode cX9_bound 101 = .ok (.istore 5, 2) := by decide +kernel
theorem dX9_bound_103 : decode cX9_bound 103 = .ok (.iload 5, 2) := by decide +kernel
theorem dX9_bound_105 : decode cX9_bound 105 = .ok (.iload_n 3, 1) := by decide +kernel
theorem dX9_bound_106 : decode cX9_bound 106 = .ok (.if_icmp .ge 8, 3) := by decide +kernel
theorem dX9_bound_109 : decode cX9_bound 109 = .ok (.iload 5, 2) := by decide +kernel
theorem dX9_bound_111 : decode cX9_bound 111 = .ok (.goto 4, 3) := by decide +kernel
theorem dX9_bound_114 : decode cX9_bound 114 = .ok (.iload_n 3, 1) := by decide +kernel
theorem dX9_bound_115 : decode cX9_bound 115 = .ok (.istore_n 3, 1) := by decide +kernel
theorem dX9_bound_116 : decode cX9_bound 116 = .ok (.iinc 4 1, 3) := by decide +kernel
theorem dX9_bound_119 : decode cX9_bound 119 = .ok (.goto (-51), 3) := by decide +kernel
theorem dX9_bound_122 : decode cX9_bound 122 = .ok (.iconst 0, 1) := by decide +kernel
theorem dX9_bound_123 : decode cX9_bound 123 = .ok (.istore 4, 2) := by decide +kernel
theorem dX9_bound_125 : decode cX9_bound 125 = .ok (.iload 4, 2) := by decide +kernel
theorem dX9_bound_127 : decode cX9_bound 127 = .ok (.iload_n 2, 1) := by decide +kernel
theorem dX9_bound_128 : decode cX9_bound 128 = .ok (.if_icmp .ge 40, 3) := by decide +kernel
theorem dX9_bound_131 : decode cX9_bound 131 = .ok (.aload_n 0, 1) := by decide +kernel
theorem dX9_bound_132 : decode cX9_bound 132 = .ok (.getfield 102, 3) := by decide +kernel
theorem dX9_bound_135 : decode cX9_bound 135 = .ok (.bipush 10, 2) := by decide +kernel
theorem dX9_bound_137 : decode cX9_bound 137 = .ok (.aload_n 0, 1) := by decide +kernel
theorem dX9_bound_138 : decode cX9_bound 138 = .ok (.getfield 105, 3) := by decide +kernel
theorem dX9_bound_141 : decode cX9_bound 141 = .ok (.iload 4, 2) := by decide +kernel
theorem dX9_bound_143 : decode cX9_bound 143 = .ok (.iaload, 1) := by decide +kernel
theorem dX9_bound_144 : decode cX9_bound 144 = .ok (.imul, 1) := by decide +kernel
theorem dX9_bound_145 : decode cX9_bound 145 = .ok (.aload_n 0, 1) := by decide +kernel
theorem dX9_bound_146 : decode cX9_bound 146 = .ok (.getfield 105, 3) := by decide +kernel
theorem dX9_bound_149 : decode cX9_bound 149 = .ok (.iload 4, 2) := by decide +kernel
theorem dX9_bound_151 : decode cX9_bound 151 = .ok (.iconst 1, 1) := by decide +kernel
theorem dX9_bound_152 : decode cX9_bound 152 = .ok (.iadd, 1) := by decide +kernel
theorem dX9_bound_153 : decode cX9_bound 153 = .ok (.iload_n 2, 1) := by decide +kernel
theorem dX9_bound_154 : decode cX9_bound 154 = .ok (.irem, 1) := by decide +kernel
theorem dX9_bound_155 : decode cX9_bound 155 = .ok (.iaload, 1) := by decide +kernel
theorem dX9_bound_156 : decode cX9_bound 156 = .ok (.iadd, 1) := by decide +kernel
theorem dX9_bound_157 : decode cX9_bound 157 = .ok (.dup2, 1) := by decide +kernel
theorem dX9_bound_158 : decode cX9_bound 158 = .ok (.iaload, 1) := by decide +kernel
theorem dX9_bound_159 : decode cX9_bound 159 = .ok (.iload_n 3, 1) := by decide +kernel
theorem dX9_bound_160 : decode cX9_bound 160 = .ok (.isub, 1) := by decide +kernel
theorem dX9_bound_161 : decode cX9_bound 161 = .ok (.iastore, 1) := by decide +kernel
theorem dX9_bound_162 : decode cX9_bound 162 = .ok (.iinc 4 1, 3) := by decide +kernel
theorem dX9_bound_165 : decode cX9_bound 165 = .ok (.goto (-40), 3) := by decide +kernel
theorem dX9_bound_168 : decode cX9_bound 168 = .ok (.iload_n 1, 1) := by decide +kernel
theorem dX9_bound_169 : decode cX9_bound 169 = .ok (.iload_n 3, 1) := by decide +kernel
theorem dX9_bound_170 : decode cX9_bound 170 = .ok (.iadd, 1) := by decide +kernel
theorem dX9_bound_171 : decode cX9_bound 171 = .ok (.istore_n 1, 1) := by decide +kernel
theorem dX9_bound_172 : decode cX9_bound 172 = .ok (.aload_n 0, 1) := by decide +kernel
theorem dX9_bound_173 : decode cX9_bound 173 = .ok (.invokevirtual 251, 3) := by decide +kernel
theorem dX9_bound_176 : decode cX9_bound 176 = .ok (.istore_n 2, 1) := by decide +kernel
theorem dX9_bound_177 : decode cX9_bound 177 = .ok (.goto (-140), 3) := by decide +kernel
theorem dX9_bound_180 : decode cX9_bound 180 = .ok (.iload_n 1, 1) := by decide +kernel
theorem dX9_bound_181 : decode cX9_bound 181 = .ok (.ireturn, 1) := by decide +kernel
theorem dX9_hasGroup_0 : decode cX9_hasGroup 0 = .ok (.iconst 0, 1) := by decide +kernel
theorem dX9_hasGroup_1 : decode cX9_hasGroup 1 = .ok (.istore_n 1, 1) := by decide +kernel
theorem dX9_hasGroup_2 : decode cX9_hasGroup 2 = .ok (.iconst 0, 1) := by decide +kernel
theorem dX9_hasGroup_3 : decode cX9_hasGroup 3 = .ok (.istore_n 2, 1) := by decide +kernel
theorem dX9_hasGroup_4 : decode cX9_hasGroup 4 = .ok (.iload_n 2, 1) := by decide +kernel
theorem dX9_hasGroup_5 : decode cX9_hasGroup 5 = .ok (.aload_n 0, 1) := by decide +kernel
theorem dX9_hasGroup_6 : decode cX9_hasGroup 6 = .ok (.getfield 7, 3) := by decide +kernel
theorem dX9_hasGroup_9 : decode cX9_hasGroup 9 = .ok (.iconst 0, 1) := by decide +kernel
theorem dX9_hasGroup_10 : decode cX9_hasGroup 10 = .ok (.iaload, 1) := by decide +kernel
theorem dX9_hasGroup_11 : decode cX9_hasGroup 11 = .ok (.if_icmp .ge 41, 3) := by decide +kernel
theorem dX9_hasGroup_14 : decode cX9_hasGroup 14 = .ok (.iconst 0, 1) := by decide +kernel
theorem dX9_hasGroup_15 : decode cX9_hasGroup 15 = .ok (.istore_n 3, 1) := by decide +kernel
theorem dX9_hasGroup_16 : decode cX9_hasGroup 16 = .ok (.iload_n 3, 1) := by decide +kernel
theorem dX9_hasGroup_17 : decode cX9_hasGroup 17 = .ok (.iload_n 2, 1) := by decide +kernel
theorem dX9_hasGroup_18 : decode cX9_hasGroup 18 = .ok (.if_icmp .ge 28, 3) := by decide +kernel
theorem dX9_hasGroup_21 : decode cX9_hasGroup 21 = .ok (.iload_n 1, 1) := by decide +kernel
theorem dX9_hasGroup_22 : decode cX9_hasGroup 22 = .ok (.ifCond .ne 12, 3) := by decide +kernel
theorem dX9_hasGroup_25 : decode cX9_hasGroup 25 = .ok (.aload_n 0, 1) := by decide +kernel
theorem dX9_hasGroup_26 : decode cX9_hasGroup 26 = .ok (.iload_n 2, 1) := by decide +kernel
theorem dX9_hasGroup_27 : decode cX9_hasGroup 27 = .ok (.iload_n 3, 1) := by decide +kernel
theorem dX9_hasGroup_28 : decode cX9_hasGroup 28 = .ok (.invokevirtual 234, 3) := by decide +kernel
theorem dX9_hasGroup_31 : decode cX9_hasGroup 31 = .ok (.ifCond .eq 7, 3) := by decide +kernel
theorem dX9_hasGroup_34 : decode cX9_hasGroup 34 = .ok (.iconst 1, 1) := by decide +kernel
theorem dX9_hasGroup_35 : decode cX9_hasGroup 35 = .ok (.goto 4, 3) := by decide +kernel
theorem dX9_hasGroup_38 : decode cX9_hasGroup 38 = .ok (.iconst 0, 1) := by decide +kernel
theorem dX9_hasGroup_39 : decode cX9_hasGroup 39 = .ok (.istore_n 1, 1) := by decide +kernel
theorem dX9_hasGroup_40 : decode cX9_hasGroup 40 = .ok (.iinc 3 1, 3) := by decide +kernel
theorem dX9_hasGroup_43 : decode cX9_hasGroup 43 = .ok (.goto (-27), 3) := by decide +kernel
theorem dX9_hasGroup_46 : decode cX9_hasGroup 46 = .ok (.iinc 2 1, 3) := by decide +kernel
theorem dX9_hasGroup_49 : decode cX9_hasGroup 49 = .ok (.goto (-45), 3) := by decide +kernel
theorem dX9_hasGroup_52 : decode cX9_hasGroup 52 = .ok (.iload_n 1, 1) := by decide +kernel
theorem dX9_hasGroup_53 : decode cX9_hasGroup 53 = .ok (.ireturn, 1) := by decide +kernel
theorem dX9_layer_0 : decode cX9_layer 0 = .ok (.aload_n 0, 1) := by decide +kernel
theorem dX9_layer_1 : decode cX9_layer 1 = .ok (.iload_n 1, 1) := by decide +kernel
theorem dX9_layer_2 : decode cX9_layer 2 = .ok (.invokevirtual 131, 3) := by decide +kernel
theorem dX9_layer_5 : decode cX9_layer 5 = .ok (.ifCond .ne 5, 3) := by decide +kernel
theorem dX9_layer_8 : decode cX9_layer 8 = .ok (.iconst (-1), 1) := by decide +kernel
theorem dX9_layer_9 : decode cX9_layer 9 = .ok (.ireturn, 1) := by decide +kernel
theorem dX9_layer_10 : decode cX9_layer 10 = .ok (.aload_n 0, 1) := by decide +kernel
theorem dX9_layer_11 : decode cX9_layer 11 = .ok (.invokevirtual 231, 3) := by decide +kernel
theorem dX9_layer_14 : decode cX9_layer 14 = .ok (.aload_n 0, 1) := by decide +kernel
theorem dX9_layer_15 : decode cX9_layer 15 = .ok (.invokevirtual 254, 3) := by decide +kernel
theorem dX9_layer_18 : decode cX9_layer 18 = .ok (.ifCond .eq 6, 3) := by decide +kernel
theorem dX9_layer_21 : decode cX9_layer 21 = .ok (.bipush (-3), 2) := by decide +kernel
theorem dX9_layer_23 : decode cX9_layer 23 = .ok (.ireturn, 1) := by decide +kernel
theorem dX9_layer_24 : decode cX9_layer 24 = .ok (.iconst 0, 1) := by decide +kernel
theorem dX9_layer_25 : decode cX9_layer 25 = .ok (.istore_n 2, 1) := by decide +kernel
theorem dX9_layer_26 : decode cX9_layer 26 = .ok (.iload_n 2, 1) := by decide +kernel
theorem dX9_layer_27 : decode cX9_layer 27 = .ok (.bipush 10, 2) := by decide +kernel
theorem dX9_layer_29 : decode cX9_layer 29 = .ok (.if_icmp .ge 16, 3) := by decide +kernel
theorem dX9_layer_32 : decode cX9_layer 32 = .ok (.aload_n 0, 1) := by decide +kernel
theorem dX9_layer_33 : decode cX9_layer 33 = .ok (.getfield 108, 3) := by decide +kernel
theorem dX9_layer_36 : decode cX9_layer 36 = .ok (.iload_n 2, 1) := by decide +kernel
theorem dX9_layer_37 : decode cX9_layer 37 = .ok (.iconst 0, 1) := by decide +kernel
theorem dX9_layer_38 : decode cX9_layer 38 = .ok (.iastore, 1) := by decide +kernel
theorem dX9_layer_39 : decode cX9_layer 39 = .ok (.iinc 2 1, 3) := by decide +kernel
theorem dX9_layer_42 : decode cX9_layer 42 = .ok (.goto (-16), 3) := by decide +kernel
theorem dX9_layer_45 : decode cX9_layer 45 = .ok (.iconst 0, 1) := by decide +kernel
theorem dX9_layer_46 : decode cX9_layer 46 = .ok (.istore_n 2, 1) := by decide +kernel
theorem dX9_layer_47 : decode cX9_layer 47 = .ok (.iload_n 2, 1) := by decide +kernel
theorem dX9_layer_48 : decode cX9_layer 48 = .ok (.bipush 10, 2) := by decide +kernel
theorem dX9_layer_50 : decode cX9_layer 50 = .ok (.if_icmp .ge 114, 3) := by decide +kernel
theorem dX9_layer_53 : decode cX9_layer 53 = .ok (.iconst 0, 1) := by decide +kernel
theorem dX9_layer_54 : decode cX9_layer 54 = .ok (.istore_n 3, 1) := by decide +kernel
theorem dX9_layer_55 : decode cX9_layer 55 = .ok (.iload_n 3, 1) := by decide +kernel
theorem dX9_layer_56 : decode cX9_layer 56 = .ok (.aload_n 0, 1) := by decide +kernel
theorem dX9_layer_57 : decode cX9_layer 57 = .ok (.getfield 7, 3) := by decide +kernel
theorem dX9_layer_60 : decode cX9_layer 60 = .ok (.iconst 0, 1) := by decide +kernel
theorem dX9_layer_61 : decode cX9_layer 61 = .ok (.iaload, 1) := by decide +kernel
theorem dX9_layer_62 : decode cX9_layer 62 = .ok (.if_icmp .ge 96, 3) := by decide +kernel
theorem dX9_layer_65 : decode cX9_layer 65 = .ok (.iconst 0, 1) := by decide +kernel
theorem dX9_layer_66 : decode cX9_layer 66 = .ok (.istore 4, 2) := by decide +kernel
theorem dX9_layer_68 : decode cX9_layer 68 = .ok (.iload 4, 2) := by decide +kernel
theorem dX9_layer_70 : decode cX9_layer 70 = .ok (.aload_n 0, 1) := by decide +kernel
theorem dX9_layer_71 : decode cX9_layer 71 = .ok (.getfield 7, 3) := by decide +kernel
theorem dX9_layer_74 : decode cX9_layer 74 = .ok (.iconst 0, 1) := by decide +kernel
theorem dX9_layer_75 : decode cX9_layer 75 = .ok (.iaload, 1) := by decide +kernel
theorem dX9_layer_76 : decode cX9_layer 76 = .ok (.if_icmp .ge 76, 3) := by decide +kernel
theorem dX9_layer_79 : decode cX9_layer 79 = .ok (.aload_n 0, 1) := by decide +kernel
theorem dX9_layer_80 : decode cX9_layer 80 = .ok (.getfield 81, 3) := by decide +kernel
theorem dX9_layer_83 : decode cX9_layer 83 = .ok (.bipush 10, 2) := by decide +kernel
theorem dX9_layer_85 : decode cX9_layer 85 = .ok (.iload_n 3, 1) := by decide +kernel
theorem dX9_layer_86 : decode cX9_layer 86 = .ok (.imul, 1) := by decide +kernel
theorem dX9_layer_87 : decode cX9_layer 87 = .ok (.iload 4, 2) := by decide +kernel
theorem dX9_layer_89 : decode cX9_layer 89 = .ok (.iadd, 1) := by decide +kernel
theorem dX9_layer_90 : decode cX9_layer 90 = .ok (.iaload, 1) := by decide +kernel
theorem dX9_layer_91 : decode cX9_layer 91 = .ok (.ifCond .le 23, 3) := by decide +kernel
theorem dX9_layer_94 : decode cX9_layer 94 = .ok (.aload_n 0, 1) := by decide +kernel
theorem dX9_layer_95 : decode cX9_layer 95 = .ok (.getfield 108, 3) := by decide +kernel
theorem dX9_layer_98 : decode cX9_layer 98 = .ok (.iload_n 3, 1) := by decide +kernel
theorem dX9_layer_99 : decode cX9_layer 99 = .ok (.iaload, 1) := by decide +kernel
theorem dX9_layer_100 : decode cX9_layer 100 = .ok (.aload_n 0, 1) := by decide +kernel
theorem dX9_layer_101 : decode cX9_layer 101 = .ok (.getfield 108, 3) := by decide +kernel
theorem dX9_layer_104 : decode cX9_layer 104 = .ok (.iload 4, 2) := by decide +kernel
theorem dX9_layer_106 : decode cX9_layer 106 = .ok (.iaload, 1) := by decide +kernel
theorem dX9_layer_107 : decode cX9_layer 107 = .ok (.if_icmp .gt 7, 3) := by decide +kernel
theorem dX9_layer_110 : decode cX9_layer 110 = .ok (.iconst 1, 1) := by decide +kernel
theorem dX9_layer_111 : decode cX9_layer 111 = .ok (.goto 4, 3) := by decide +kernel
theorem dX9_layer_114 : decode cX9_layer 114 = .ok (.iconst 0, 1) := by decide +kernel
theorem dX9_layer_115 : decode cX9_layer 115 = .ok (.istore 5, 2) := by decide +kernel
theorem dX9_layer_117 : decode cX9_layer 117 = .ok (.aload_n 0, 1) := by decide +kernel
theorem dX9_layer_118 : decode cX9_layer 118 = .ok (.getfield 108, 3) := by decide +kernel
theorem dX9_layer_121 : decode cX9_layer 121 = .ok (.iload_n 3, 1) := by decide +kernel
theorem dX9_layer_122 : decode cX9_layer 122 = .ok (.iload 5, 2) := by decide +kernel
theorem dX9_layer_124 : decode cX9_layer 124 = .ok (.ifCond .eq 15, 3) := by decide +kernel
theorem dX9_layer_127 : decode cX9_layer 127 = .ok (.aload_n 0, 1) := by decide +kernel
theorem dX9_layer_128 : decode cX9_layer 128 = .ok (.getfield 108, 3) := by decide +kernel
theorem dX9_layer_131 : decode cX9_layer 131 = .ok (.iload 4, 2) := by decide +kernel
theorem dX9_layer_133 : decode cX9_layer 133 = .ok (.iaload, 1) := by decide +kernel
theorem dX9_layer_134 : decode cX9_layer 134 = .ok (.iconst 1, 1) := by decide +kernel
theorem dX9_layer_135 : decode cX9_layer 135 = .ok (.iadd, 1) := by decide +kernel
theorem dX9_layer_136 : decode cX9_layer 136 = .ok (.goto 9, 3) := by decide +kernel
theorem dX9_layer_139 : decode cX9_layer 139 = .ok (.aload_n 0, 1) := by decide +kernel
theorem dX9_layer_140 : decode cX9_layer 140 = .ok (.getfield 108, 3) := by decide +kernel
theorem dX9_layer_143 : decode cX9_layer 143 = .ok (.iload_n 3, 1) := by decide +kernel
theorem dX9_layer_144 : decode cX9_layer 144 = .ok (.iaload, 1) := by decide +kernel
theorem dX9_layer_145 : decode cX9_layer 145 = .ok (.iastore, 1) := by decide +kernel
theorem dX9_layer_146 : decode cX9_layer 146 = .ok (.iinc 4 1, 3) := by decide +kernel
theorem dX9_layer_149 : decode cX9_layer 149 = .ok (.goto (-81), 3) := by decide +kernel
theorem dX9_layer_152 : decode cX9_layer 152 = .ok (.iinc 3 1, 3) := by decide +kernel
theorem dX9_layer_155 : decode cX9_layer 155 = .ok (.goto (-100), 3) := by decide +kernel
theorem dX9_layer_158 : decode cX9_layer 158 = .ok (.iinc 2 1, 3) := by decide +kernel
theorem dX9_layer_161 : decode cX9_layer 161 = .ok (.goto (-114), 3) := by decide +kernel
theorem dX9_layer_164 : decode cX9_layer 164 = .ok (.aload_n 0, 1) := by decide +kernel
theorem dX9_layer_165 : decode cX9_layer 165 = .ok (.getfield 108, 3) := by decide +kernel
theorem dX9_layer_168 : decode cX9_layer 168 = .ok (.iload_n 1, 1) := by decide +kernel
theorem dX9_layer_169 : decode cX9_layer 169 = .ok (.iaload, 1) := by decide +kernel
theorem dX9_layer_170 : decode cX9_layer 170 = .ok (.ireturn, 1) := by decide +kernel
theorem dX9_worth_0 : decode cX9_worth 0 = .ok (.aload_n 0, 1) := by decide +kernel
theorem dX9_worth_1 : decode cX9_worth 1 = .ok (.invokevirtual 231, 3) := by decide +kernel
theorem dX9_worth_4 : decode cX9_worth 4 = .ok (.iconst 0, 1) := by decide +kernel
theorem dX9_worth_5 : decode cX9_worth 5 = .ok (.istore_n 1, 1) := by decide +kernel
theorem dX9_worth_6 : decode cX9_worth 6 = .ok (.iconst 0, 1) := by decide +kernel
theorem dX9_worth_7 : decode cX9_worth 7 = .ok (.istore_n 2, 1) := by decide +kernel
theorem dX9_worth_8 : decode cX9_worth 8 = .ok (.iload_n 2, 1) := by decide +kernel
theorem dX9_worth_9 : decode cX9_worth 9 = .ok (.aload_n 0, 1) := by decide +kernel
theorem dX9_worth_10 : decode cX9_worth 10 = .ok (.getfield 7, 3) := by decide +kernel
theorem dX9_worth_13 : decode cX9_worth 13 = .ok (.iconst 0, 1) := by decide +kernel
theorem dX9_worth_14 : decode cX9_worth 14 = .ok (.iaload, 1) := by decide +kernel
theorem dX9_worth_15 : decode cX9_worth 15 = .ok (.if_icmp .ge 60, 3) := by decide +kernel
theorem dX9_worth_18 : decode cX9_worth 18 = .ok (.iconst 0, 1) := by decide +kernel
theorem dX9_worth_19 : decode cX9_worth 19 = .ok (.istore_n 3, 1) := by decide +kernel
theorem dX9_worth_20 : decode cX9_worth 20 = .ok (.iload_n 3, 1) := by decide +kernel
theorem dX9_worth_21 : decode cX9_worth 21 = .ok (.iload_n 2, 1) := by decide +kernel
theorem dX9_worth_22 : decode cX9_worth 22 = .ok (.if_icmp .ge 47, 3) := by decide +kernel
theorem dX9_worth_25 : decode cX9_worth 25 = .ok (.iload_n 1, 1) := by decide +kernel
theorem dX9_worth_26 : decode cX9_worth 26 = .ok (.aload_n 0, 1) := by decide +kernel
theorem dX9_worth_27 : decode cX9_worth 27 = .ok (.getfield 87, 3) := by decide +kernel
theorem dX9_worth_30 : decode cX9_worth 30 = .ok (.bipush 10, 2) := by decide +kernel
theorem dX9_worth_32 : decode cX9_worth 32 = .ok (.iload_n 2, 1) := by decide +kernel
theorem dX9_worth_33 : decode cX9_worth 33 = .ok (.imul, 1) := by decide +kernel
theorem dX9_worth_34 : decode cX9_worth 34 = .ok (.iload_n 3, 1) := by decide +kernel
theorem dX9_worth_35 : decode cX9_worth 35 = .ok (.iadd, 1) := by decide +kernel
theorem dX9_worth_36 : decode cX9_worth 36 = .ok (.iaload, 1) := by decide +kernel
theorem dX9_worth_37 : decode cX9_worth 37 = .ok (.iconst (-1), 1) := by decide +kernel
theorem dX9_worth_38 : decode cX9_worth 38 = .ok (.if_icmp .ne 22, 3) := by decide +kernel
theorem dX9_worth_41 : decode cX9_worth 41 = .ok (.aload_n 0, 1) := by decide +kernel
theorem dX9_worth_42 : decode cX9_worth 42 = .ok (.getfield 87, 3) := by decide +kernel
theorem dX9_worth_45 : decode cX9_worth 45 = .ok (.bipush 10, 2) := by decide +kernel
theorem dX9_worth_47 : decode cX9_worth 47 = .ok (.iload_n 3, 1) := by decide +kernel
theorem dX9_worth_48 : decode cX9_worth 48 = .ok (.imul, 1) := by decide +kernel
theorem dX9_worth_49 : decode cX9_worth 49 = .ok (.iload_n 2, 1) := by decide +kernel
theorem dX9_worth_50 : decode cX9_worth 50 = .ok (.iadd, 1) := by decide +kernel
theorem dX9_worth_51 : decode cX9_worth 51 = .ok (.iaload, 1) := by decide +kernel
theorem dX9_worth_52 : decode cX9_worth 52 = .ok (.iconst (-1), 1) := by decide +kernel
theorem dX9_worth_53 : decode cX9_worth 53 = .ok (.if_icmp .ne 7, 3) := by decide +kernel
theorem dX9_worth_56 : decode cX9_worth 56 = .ok (.iconst 1, 1) := by decide +kernel
theorem dX9_worth_57 : decode cX9_worth 57 = .ok (.goto 4, 3) := by decide +kernel
theorem dX9_worth_60 : decode cX9_worth 60 = .ok (.iconst 0, 1) := by decide +kernel
theorem dX9_worth_61 : decode cX9_worth 61 = .ok (.iadd, 1) := by decide +kernel
theorem dX9_worth_62 : decode cX9_worth 62 = .ok (.istore_n 1, 1) := by decide +kernel
theorem dX9_worth_63 : decode cX9_worth 63 = .ok (.iinc 3 1, 3) := by decide +kernel
theorem dX9_worth_66 : decode cX9_worth 66 = .ok (.goto (-46), 3) := by decide +kernel
theorem dX9_worth_69 : decode cX9_worth 69 = .ok (.iinc 2 1, 3) := by decide +kernel
theorem dX9_worth_72 : decode cX9_worth 72 = .ok (.goto (-64), 3) := by decide +kernel
theorem dX9_worth_75 : decode cX9_worth 75 = .ok (.iload_n 1, 1) := by decide +kernel
theorem dX9_worth_76 : decode cX9_worth 76 = .ok (.ireturn, 1) := by decide +kernel
theorem dX9_breaks_0 : decode cX9_breaks 0 = .ok (.lload_n 1, 1) := by decide +kernel
theorem dX9_breaks_1 : decode cX9_breaks 1 = .ok (.lconst 0, 1) := by decide +kernel
theorem dX9_breaks_2 : decode cX9_breaks 2 = .ok (.lcmp, 1) := by decide +kernel
theorem dX9_breaks_3 : decode cX9_breaks 3 = .ok (.ifCond .ge 6, 3) := by decide +kernel
theorem dX9_breaks_6 : decode cX9_breaks 6 = .ok (.bipush (-2), 2) := by decide +kernel
theorem dX9_breaks_8 : decode cX9_breaks 8 = .ok (.ireturn, 1) := by decide +kernel
theorem dX9_breaks_9 : decode cX9_breaks 9 = .ok (.lload_n 1, 1) := by decide +kernel
theorem dX9_breaks_10 : decode cX9_breaks 10 = .ok (.lstore_n 3, 1) := by decide +kernel
theorem dX9_breaks_11 : decode cX9_breaks 11 = .ok (.iconst 0, 1) := by decide +kernel
theorem dX9_breaks_12 : decode cX9_breaks 12 = .ok (.istore 5, 2) := by decide +kernel
theorem dX9_breaks_14 : decode cX9_breaks 14 = .ok (.iload 5, 2) := by decide +kernel
theorem dX9_breaks_16 : decode cX9_breaks 16 = .ok (.aload_n 0, 1) := by decide +kernel
theorem dX9_breaks_17 : decode cX9_breaks 17 = .ok (.getfield 7, 3) := by decide +kernel
theorem dX9_breaks_20 : decode cX9_breaks 20 = .ok (.iconst 0, 1) := by decide +kernel
theorem dX9_breaks_21 : decode cX9_breaks 21 = .ok (.iaload, 1) := by decide +kernel
theorem dX9_breaks_22 : decode cX9_breaks 22 = .ok (.if_icmp .ge 28, 3) := by decide +kernel
theorem dX9_breaks_25 : decode cX9_breaks 25 = .ok (.aload_n 0, 1) := by decide +kernel
theorem dX9_breaks_26 : decode cX9_breaks 26 = .ok (.getfield 108, 3) := by decide +kernel
theorem dX9_breaks_29 : decode cX9_breaks 29 = .ok (.iload 5, 2) := by decide +kernel
theorem dX9_breaks_31 : decode cX9_breaks 31 = .ok (.lload_n 3, 1) := by decide +kernel
theorem dX9_breaks_32 : decode cX9_breaks 32 = .ok (.ldc2_w 257, 3) := by decide +kernel
theorem dX9_breaks_35 : decode cX9_breaks 35 = .ok (.lrem, 1) := by decide +kernel
theorem dX9_breaks_36 : decode cX9_breaks 36 = .ok (.l2i, 1) := by decide +kernel
theorem dX9_breaks_37 : decode cX9_breaks 37 = .ok (.iastore, 1) := by decide +kernel
theorem dX9_breaks_38 : decode cX9_breaks 38 = .ok (.lload_n 3, 1) := by decide +kernel
theorem dX9_breaks_39 : decode cX9_breaks 39 = .ok (.ldc2_w 257, 3) := by decide +kernel
theorem dX9_breaks_42 : decode cX9_breaks 42 = .ok (.ldiv, 1) := by decide +kernel
theorem dX9_breaks_43 : decode cX9_breaks 43 = .ok (.lstore_n 3, 1) := by decide +kernel
theorem dX9_breaks_44 : decode cX9_breaks 44 = .ok (.iinc 5 1, 3) := by decide +kernel
theorem dX9_breaks_47 : decode cX9_breaks 47 = .ok (.goto (-33), 3) := by decide +kernel
theorem dX9_breaks_50 : decode cX9_breaks 50 = .ok (.lload_n 3, 1) := by decide +kernel
theorem dX9_breaks_51 : decode cX9_breaks 51 = .ok (.lconst 0, 1) := by decide +kernel
theorem dX9_breaks_52 : decode cX9_breaks 52 = .ok (.lcmp, 1) := by decide +kernel
theorem dX9_breaks_53 : decode cX9_breaks 53 = .ok (.ifCond .eq 6, 3) := by decide +kernel
theorem dX9_breaks_56 : decode cX9_breaks 56 = .ok (.bipush (-2), 2) := by decide +kernel
theorem dX9_breaks_58 : decode cX9_breaks 58 = .ok (.ireturn, 1) := by decide +kernel
theorem dX9_breaks_59 : decode cX9_breaks 59 = .ok (.aload_n 0, 1) := by decide +kernel
theorem dX9_breaks_60 : decode cX9_breaks 60 = .ok (.invokevirtual 224, 3) := by decide +kernel
theorem dX9_breaks_63 : decode cX9_breaks 63 = .ok (.iconst 0, 1) := by decide +kernel
theorem dX9_breaks_64 : decode cX9_breaks 64 = .ok (.istore 5, 2) := by decide +kernel
theorem dX9_breaks_66 : decode cX9_breaks 66 = .ok (.iconst 0, 1) := by decide +kernel
theorem dX9_breaks_67 : decode cX9_breaks 67 = .ok (.istore 6, 2) := by decide +kernel
theorem dX9_breaks_69 : decode cX9_breaks 69 = .ok (.iload 6, 2) := by decide +kernel
theorem dX9_breaks_71 : decode cX9_breaks 71 = .ok (.aload_n 0, 1) := by decide +kernel
theorem dX9_breaks_72 : decode cX9_breaks 72 = .ok (.getfield 7, 3) := by decide +kernel
theorem dX9_breaks_75 : decode cX9_breaks 75 = .ok (.iconst 0, 1) := by decide +kernel
theorem dX9_breaks_76 : decode cX9_breaks 76 = .ok (.iaload, 1) := by decide +kernel
theorem dX9_breaks_77 : decode cX9_breaks 77 = .ok (.if_icmp .ge 72, 3) := by decide +kernel
theorem dX9_breaks_80 : decode cX9_breaks 80 = .ok (.iconst 0, 1) := by decide +kernel
theorem dX9_breaks_81 : decode cX9_breaks 81 = .ok (.istore 7, 2) := by decide +kernel
theorem dX9_breaks_83 : decode cX9_breaks 83 = .ok (.iload 7, 2) := by decide +kernel
theorem dX9_breaks_85 : decode cX9_breaks 85 = .ok (.aload_n 0, 1) := by decide +kernel
theorem dX9_breaks_86 : decode cX9_breaks 86 = .ok (.getfield 7, 3) := by decide +kernel
theorem dX9_breaks_89 : decode cX9_breaks 89 = .ok (.iconst 0, 1) := by decide +kernel
theorem dX9_breaks_90 : decode cX9_breaks 90 = .ok (.iaload, 1) := by decide +kernel
theorem dX9_breaks_91 : decode cX9_breaks 91 = .ok (.if_icmp .ge 52, 3) := by decide +kernel
theorem dX9_breaks_94 : decode cX9_breaks 94 = .ok (.iload 5, 2) := by decide +kernel
theorem dX9_breaks_96 : decode cX9_breaks 96 = .ok (.aload_n 0, 1) := by decide +kernel
theorem dX9_breaks_97 : decode cX9_breaks 97 = .ok (.getfield 81, 3) := by decide +kernel
theorem dX9_breaks_100 : decode cX9_breaks 100 = .ok (.bipush 10, 2) := by decide +kernel
theorem dX9_breaks_102 : decode cX9_breaks 102 = .ok (.iload 6, 2) := by decide +kernel
theorem dX9_breaks_104 : decode cX9_breaks 104 = .ok (.imul, 1) := by decide +kernel
theorem dX9_breaks_105 : decode cX9_breaks 105 = .ok (.iload 7, 2) := by decide +kernel
theorem dX9_breaks_107 : decode cX9_breaks 107 = .ok (.iadd, 1) := by decide +kernel
theorem dX9_breaks_108 : decode cX9_breaks 108 = .ok (.iaload, 1) := by decide +kernel
theorem dX9_breaks_109 : decode cX9_breaks 109 = .ok (.ifCond .le 24, 3) := by decide +kernel
theorem dX9_breaks_112 : decode cX9_breaks 112 = .ok (.aload_n 0, 1) := by decide +kernel
theorem dX9_breaks_113 : decode cX9_breaks 113 = .ok (.getfield 108, 3) := by decide +kernel
theorem dX9_breaks_116 : decode cX9_breaks 116 = .ok (.iload 6, 2) := by decide +kernel
theorem dX9_breaks_118 : decode cX9_breaks 118 = .ok (.iaload, 1) := by decide +kernel
theorem dX9_breaks_119 : decode cX9_breaks 119 = .ok (.aload_n 0, 1) := by decide +kernel
theorem dX9_breaks_120 : decode cX9_breaks 120 = .ok (.getfield 108, 3) := by decide +kernel
theorem dX9_breaks_123 : decode cX9_breaks 123 = .ok (.iload 7, 2) := by decide +kernel
theorem dX9_breaks_125 : decode cX9_breaks 125 = .ok (.iaload, 1) := by decide +kernel
theorem dX9_breaks_126 : decode cX9_breaks 126 = .ok (.if_icmp .gt 7, 3) := by decide +kernel
theorem dX9_breaks_129 : decode cX9_breaks 129 = .ok (.iconst 1, 1) := by decide +kernel
theorem dX9_breaks_130 : decode cX9_breaks 130 = .ok (.goto 4, 3) := by decide +kernel
theorem dX9_breaks_133 : decode cX9_breaks 133 = .ok (.iconst 0, 1) := by decide +kernel
theorem dX9_breaks_134 : decode cX9_breaks 134 = .ok (.iadd, 1) := by decide +kernel
theorem dX9_breaks_135 : decode cX9_breaks 135 = .ok (.istore 5, 2) := by decide +kernel
theorem dX9_breaks_137 : decode cX9_breaks 137 = .ok (.iinc 7 1, 3) := by decide +kernel
theorem dX9_breaks_140 : decode cX9_breaks 140 = .ok (.goto (-57), 3) := by decide +kernel
theorem dX9_breaks_143 : decode cX9_breaks 143 = .ok (.iinc 6 1, 3) := by decide +kernel
theorem dX9_breaks_146 : decode cX9_breaks 146 = .ok (.goto (-77), 3) := by decide +kernel
theorem dX9_breaks_149 : decode cX9_breaks 149 = .ok (.iload 5, 2) := by decide +kernel
theorem dX9_breaks_151 : decode cX9_breaks 151 = .ok (.ireturn, 1) := by decide +kernel
theorem dX9_guard_0 : decode cX9_guard 0 = .ok (.iload_n 1, 1) := by decide +kernel
theorem dX9_guard_1 : decode cX9_guard 1 = .ok (.iconst 0, 1) := by decide +kernel
theorem dX9_guard_2 : decode cX9_guard 2 = .ok (.iconst 1, 1) := by decide +kernel
theorem dX9_guard_3 : decode cX9_guard 3 = .ok (.invokestatic 117, 3) := by decide +kernel
theorem dX9_guard_6 : decode cX9_guard 6 = .ok (.ifCond .ne 6, 3) := by decide +kernel
theorem dX9_guard_9 : decode cX9_guard 9 = .ok (.bipush (-2), 2) := by decide +kernel
theorem dX9_guard_11 : decode cX9_guard 11 = .ok (.ireturn, 1) := by decide +kernel
theorem dX9_guard_12 : decode cX9_guard 12 = .ok (.aload_n 0, 1) := by decide +kernel
theorem dX9_guard_13 : decode cX9_guard 13 = .ok (.getfield 259, 3) := by decide +kernel
theorem dX9_guard_16 : decode cX9_guard 16 = .ok (.ifCond .eq 7, 3) := by decide +kernel
theorem dX9_guard_19 : decode cX9_guard 19 = .ok (.iconst 1, 1) := by decide +kernel
theorem dX9_guard_20 : decode cX9_guard 20 = .ok (.goto 4, 3) := by decide +kernel
theorem dX9_guard_23 : decode cX9_guard 23 = .ok (.iconst 0, 1) := by decide +kernel
theorem dX9_guard_24 : decode cX9_guard 24 = .ok (.istore_n 2, 1) := by decide +kernel
theorem dX9_guard_25 : decode cX9_guard 25 = .ok (.aload_n 0, 1) := by decide +kernel
theorem dX9_guard_26 : decode cX9_guard 26 = .ok (.iload_n 1, 1) := by decide +kernel
theorem dX9_guard_27 : decode cX9_guard 27 = .ok (.iconst 1, 1) := by decide +kernel
theorem dX9_guard_28 : decode cX9_guard 28 = .ok (.if_icmp .ne 7, 3) := by decide +kernel
theorem dX9_guard_31 : decode cX9_guard 31 = .ok (.iconst 1, 1) := by decide +kernel
theorem dX9_guard_32 : decode cX9_guard 32 = .ok (.goto 4, 3) := by decide +kernel
theorem dX9_guard_35 : decode cX9_guard 35 = .ok (.iconst 0, 1) := by decide +kernel
theorem dX9_guard_36 : decode cX9_guard 36 = .ok (.putfield 259, 3) := by decide +kernel
theorem dX9_guard_39 : decode cX9_guard 39 = .ok (.iload_n 2, 1) := by decide +kernel
theorem dX9_guard_40 : decode cX9_guard 40 = .ok (.ireturn, 1) := by decide +kernel
theorem dX9_guarded_0 : decode cX9_guarded 0 = .ok (.aload_n 0, 1) := by decide +kernel
theorem dX9_guarded_1 : decode cX9_guarded 1 = .ok (.getfield 59, 3) := by decide +kernel
theorem dX9_guarded_4 : decode cX9_guarded 4 = .ok (.ireturn, 1) := by decide +kernel
theorem dX9_begins_0 : decode cX9_begins 0 = .ok (.aload_n 0, 1) := by decide +kernel
theorem dX9_begins_1 : decode cX9_begins 1 = .ok (.iconst 0, 1) := by decide +kernel
theorem dX9_begins_2 : decode cX9_begins 2 = .ok (.bipush 21, 2) := by decide +kernel
theorem dX9_begins_4 : decode cX9_begins 4 = .ok (.invokevirtual 124, 3) := by decide +kernel
theorem dX9_begins_7 : decode cX9_begins 7 = .ok (.aload_n 0, 1) := by decide +kernel
theorem dX9_begins_8 : decode cX9_begins 8 = .ok (.invokevirtual 231, 3) := by decide +kernel
theorem dX9_begins_11 : decode cX9_begins 11 = .ok (.aload_n 0, 1) := by decide +kernel
theorem dX9_begins_12 : decode cX9_begins 12 = .ok (.aload_n 0, 1) := by decide +kernel
theorem dX9_begins_13 : decode cX9_begins 13 = .ok (.getfield 7, 3) := by decide +kernel
theorem dX9_begins_16 : decode cX9_begins 16 = .ok (.iconst 0, 1) := by decide +kernel
theorem dX9_begins_17 : decode cX9_begins 17 = .ok (.iaload, 1) := by decide +kernel
theorem dX9_begins_18 : decode cX9_begins 18 = .ok (.putfield 262, 3) := by decide +kernel
theorem dX9_begins_21 : decode cX9_begins 21 = .ok (.iconst 0, 1) := by decide +kernel
theorem dX9_begins_22 : decode cX9_begins 22 = .ok (.istore_n 1, 1) := by decide +kernel
theorem dX9_begins_23 : decode cX9_begins 23 = .ok (.iload_n 1, 1) := by decide +kernel
theorem dX9_begins_24 : decode cX9_begins 24 = .ok (.bipush 100, 2) := by decide +kernel
theorem dX9_begins_26 : decode cX9_begins 26 = .ok (.if_icmp .ge 77, 3) := by decide +kernel
theorem dX9_begins_29 : decode cX9_begins 29 = .ok (.aload_n 0, 1) := by decide +kernel
theorem dX9_begins_30 : decode cX9_begins 30 = .ok (.getfield 114, 3) := by decide +kernel
theorem dX9_begins_33 : decode cX9_begins 33 = .ok (.iload_n 1, 1) := by decide +kernel
theorem dX9_begins_34 : decode cX9_begins 34 = .ok (.aload_n 0, 1) := by decide +kernel
theorem dX9_begins_35 : decode cX9_begins 35 = .ok (.getfield 81, 3) := by decide +kernel
theorem dX9_begins_38 : decode cX9_begins 38 = .ok (.iload_n 1, 1) := by decide +kernel
theorem dX9_begins_39 : decode cX9_begins 39 = .ok (.iaload, 1) := by decide +kernel
theorem dX9_begins_40 : decode cX9_begins 40 = .ok (.ifCond .le 7, 3) := by decide +kernel
theorem dX9_begins_43 : decode cX9_begins 43 = .ok (.iconst 1, 1) := by decide +kernel
theorem dX9_begins_44 : decode cX9_begins 44 = .ok (.goto 4, 3) := by decide +kernel
theorem dX9_begins_47 : decode cX9_begins 47 = .ok (.iconst 0, 1) := by decide +kernel
theorem dX9_begins_48 : decode cX9_begins 48 = .ok (.bastore, 1) := by decide +kernel
theorem dX9_begins_49 : decode cX9_begins 49 = .ok (.aload_n 0, 1) := by decide +kernel
theorem dX9_begins_50 : decode cX9_begins 50 = .ok (.getfield 111, 3) := by decide +kernel
theorem dX9_begins_53 : decode cX9_begins 53 = .ok (.iload_n 1, 1) := by decide +kernel
theorem dX9_begins_54 : decode cX9_begins 54 = .ok (.iload_n 1, 1) := by decide +kernel
theorem dX9_begins_55 : decode cX9_begins 55 = .ok (.bipush 10, 2) := by decide +kernel
theorem dX9_begins_57 : decode cX9_begins 57 = .ok (.idiv, 1) := by decide +kernel
theorem dX9_begins_58 : decode cX9_begins 58 = .ok (.aload_n 0, 1) := by decide +kernel
theorem dX9_begins_59 : decode cX9_begins 59 = .ok (.getfield 262, 3) := by decide +kernel
theorem dX9_begins_62 : decode cX9_begins 62 = .ok (.if_icmp .ge 33, 3) := by decide +kernel
theorem dX9_begins_65 : decode cX9_begins 65 = .ok (.iload_n 1, 1) := by decide +kernel
theorem dX9_begins_66 : decode cX9_begins 66 = .ok (.bipush 10, 2) := by decide +kernel
theorem dX9_begins_68 : decode cX9_begins 68 = .ok (.irem, 1) := by decide +kernel
theorem dX9_begins_69 : decode cX9_begins 69 = .ok (.aload_n 0, 1) := by decide +kernel
theorem dX9_begins_70 : decode cX9_begins 70 = .ok (.getfield 262, 3) := by decide +kernel
theorem dX9_begins_73 : decode cX9_begins 73 = .ok (.if_icmp .ge 22, 3) := by decide +kernel
theorem dX9_begins_76 : decode cX9_begins 76 = .ok (.aload_n 0, 1) := by decide +kernel
theorem dX9_begins_77 : decode cX9_begins 77 = .ok (.iload_n 1, 1) := by decide +kernel
theorem dX9_begins_78 : decode cX9_begins 78 = .ok (.bipush 10, 2) := by decide +kernel
theorem dX9_begins_80 : decode cX9_begins 80 = .ok (.idiv, 1) := by decide +kernel
theorem dX9_begins_81 : decode cX9_begins 81 = .ok (.iload_n 1, 1) := by decide +kernel
theorem dX9_begins_82 : decode cX9_begins 82 = .ok (.bipush 10, 2) := by decide +kernel
theorem dX9_begins_84 : decode cX9_begins 84 = .ok (.irem, 1) := by decide +kernel
theorem dX9_begins_85 : decode cX9_begins 85 = .ok (.invokevirtual 234, 3) := by decide +kernel
theorem dX9_begins_88 : decode cX9_begins 88 = .ok (.ifCond .eq 7, 3) := by decide +kernel
theorem dX9_begins_91 : decode cX9_begins 91 = .ok (.iconst 1, 1) := by decide +kernel
theorem dX9_begins_92 : decode cX9_begins 92 = .ok (.goto 4, 3) := by decide +kernel
theorem dX9_begins_95 : decode cX9_begins 95 = .ok (.iconst 0, 1) := by decide +kernel
theorem dX9_begins_96 : decode cX9_begins 96 = .ok (.bastore, 1) := by decide +kernel
theorem dX9_begins_97 : decode cX9_begins 97 = .ok (.iinc 1 1, 3) := by decide +kernel
theorem dX9_begins_100 : decode cX9_begins 100 = .ok (.goto (-77), 3) := by decide +kernel
theorem dX9_begins_103 : decode cX9_begins 103 = .ok (.return_, 1) := by decide +kernel
theorem dX9_numberAhead_0 : decode cX9_numberAhead 0 = .ok (.iload_n 2, 1) := by decide +kernel
theorem dX9_numberAhead_1 : decode cX9_numberAhead 1 = .ok (.iconst (-1), 1) := by decide +kernel
theorem dX9_numberAhead_2 : decode cX9_numberAhead 2 = .ok (.if_icmp .eq 14, 3) := by decide +kernel
theorem dX9_numberAhead_5 : decode cX9_numberAhead 5 = .ok (.iload_n 1, 1) := by decide +kernel
theorem dX9_numberAhead_6 : decode cX9_numberAhead 6 = .ok (.iload_n 2, 1) := by decide +kernel
theorem dX9_numberAhead_7 : decode cX9_numberAhead 7 = .ok (.if_icmp .lt 9, 3) := by decide +kernel
theorem dX9_numberAhead_10 : decode cX9_numberAhead 10 = .ok (.iload_n 1, 1) := by decide +kernel
theorem dX9_numberAhead_11 : decode cX9_numberAhead 11 = .ok (.iconst 1, 1) := by decide +kernel
theorem dX9_numberAhead_12 : decode cX9_numberAhead 12 = .ok (.iadd, 1) := by decide +kernel
theorem dX9_numberAhead_13 : decode cX9_numberAhead 13 = .ok (.goto 4, 3) := by decide +kernel
theorem dX9_numberAhead_16 : decode cX9_numberAhead 16 = .ok (.iload_n 1, 1) := by decide +kernel
theorem dX9_numberAhead_17 : decode cX9_numberAhead 17 = .ok (.istore_n 3, 1) := by decide +kernel
theorem dX9_numberAhead_18 : decode cX9_numberAhead 18 = .ok (.iload_n 3, 1) := by decide +kernel
theorem dX9_numberAhead_19 : decode cX9_numberAhead 19 = .ok (.aload_n 0, 1) := by decide +kernel
theorem dX9_numberAhead_20 : decode cX9_numberAhead 20 = .ok (.getfield 262, 3) := by decide +kernel
theorem dX9_numberAhead_23 : decode cX9_numberAhead 23 = .ok (.if_icmp .ge 7, 3) := by decide +kernel
theorem dX9_numberAhead_26 : decode cX9_numberAhead 26 = .ok (.iload_n 3, 1) := by decide +kernel
theorem dX9_numberAhead_27 : decode cX9_numberAhead 27 = .ok (.goto 4, 3) := by decide +kernel
theorem dX9_numberAhead_30 : decode cX9_numberAhead 30 = .ok (.iconst (-1), 1) := by decide +kernel
theorem dX9_numberAhead_31 : decode cX9_numberAhead 31 = .ok (.ireturn, 1) := by decide +kernel
theorem dX9_ends_0 : decode cX9_ends 0 = .ok (.aload_n 0, 1) := by decide +kernel
theorem dX9_ends_1 : decode cX9_ends 1 = .ok (.getfield 259, 3) := by decide +kernel
theorem dX9_ends_4 : decode cX9_ends 4 = .ok (.ifCond .eq 129, 3) := by decide +kernel
theorem dX9_ends_7 : decode cX9_ends 7 = .ok (.aload_n 0, 1) := by decide +kernel
theorem dX9_ends_8 : decode cX9_ends 8 = .ok (.invokevirtual 231, 3) := by decide +kernel
theorem dX9_ends_11 : decode cX9_ends 11 = .ok (.iconst 0, 1) := by decide +kernel
theorem dX9_ends_12 : decode cX9_ends 12 = .ok (.istore_n 2, 1) := by decide +kernel
theorem dX9_ends_13 : decode cX9_ends 13 = .ok (.iconst 0, 1) := by decide +kernel
theorem dX9_ends_14 : decode cX9_ends 14 = .ok (.istore_n 3, 1) := by decide +kernel
theorem dX9_ends_15 : decode cX9_ends 15 = .ok (.iload_n 3, 1) := by decide +kernel
theorem dX9_ends_16 : decode cX9_ends 16 = .ok (.aload_n 0, 1) := by decide +kernel
theorem dX9_ends_17 : decode cX9_ends 17 = .ok (.getfield 7, 3) := by decide +kernel
theorem dX9_ends_20 : decode cX9_ends 20 = .ok (.iconst 0, 1) := by decide +kernel
theorem dX9_ends_21 : decode cX9_ends 21 = .ok (.iaload, 1) := by decide +kernel
theorem dX9_ends_22 : decode cX9_ends 22 = .ok (.if_icmp .ge 89, 3) := by decide +kernel
theorem dX9_ends_25 : decode cX9_ends 25 = .ok (.iconst 0, 1) := by decide +kernel
theorem dX9_ends_26 : decode cX9_ends 26 = .ok (.istore 4, 2) := by decide +kernel
theorem dX9_ends_28 : decode cX9_ends 28 = .ok (.iload 4, 2) := by decide +kernel
theorem dX9_ends_30 : decode cX9_ends 30 = .ok (.iload_n 3, 1) := by decide +kernel
theorem dX9_ends_31 : decode cX9_ends 31 = .ok (.if_icmp .ge 74, 3) := by decide +kernel
theorem dX9_ends_34 : decode cX9_ends 34 = .ok (.aload_n 0, 1) := by decide +kernel
theorem dX9_ends_35 : decode cX9_ends 35 = .ok (.iload_n 3, 1) := by decide +kernel
theorem dX9_ends_36 : decode cX9_ends 36 = .ok (.iload_n 1, 1) := by decide +kernel
theorem dX9_ends_37 : decode cX9_ends 37 = .ok (.invokevirtual 265, 3) := by decide +kernel
theorem dX9_ends_40 : decode cX9_ends 40 = .ok (.istore 5, 2) := by decide +kernel
theorem dX9_ends_42 : decode cX9_ends 42 = .ok (.aload_n 0, 1) := by decide +kernel
theorem dX9_ends_43 : decode cX9_ends 43 = .ok (.iload 4, 2) := by decide +kernel
theorem dX9_ends_45 : decode cX9_ends 45 = .ok (.iload_n 1, 1) := by decide +kernel
theorem dX9_ends_46 : decode cX9_ends 46 = .ok (.invokevirtual 265, 3) := by decide +kernel
theorem dX9_ends_49 : decode cX9_ends 49 = .ok (.istore 6, 2) := by decide +kernel
theorem dX9_ends_51 : decode cX9_ends 51 = .ok (.iload_n 2, 1) := by decide +kernel
theorem dX9_ends_52 : decode cX9_ends 52 = .ok (.ifCond .ne 41, 3) := by decide +kernel
theorem dX9_ends_55 : decode cX9_ends 55 = .ok (.aload_n 0, 1) := by decide +kernel
theorem dX9_ends_56 : decode cX9_ends 56 = .ok (.iload_n 3, 1) := by decide +kernel
theorem dX9_ends_57 : decode cX9_ends 57 = .ok (.iload 4, 2) := by decide +kernel
theorem dX9_ends_59 : decode cX9_ends 59 = .ok (.invokevirtual 234, 3) := by decide +kernel
theorem dX9_ends_62 : decode cX9_ends 62 = .ok (.ifCond .eq 35, 3) := by decide +kernel
theorem dX9_ends_65 : decode cX9_ends 65 = .ok (.iload 5, 2) := by decide +kernel
theorem dX9_ends_67 : decode cX9_ends 67 = .ok (.iconst (-1), 1) := by decide +kernel
theorem dX9_ends_68 : decode cX9_ends 68 = .ok (.if_icmp .eq 29, 3) := by decide +kernel
theorem dX9_ends_71 : decode cX9_ends 71 = .ok (.iload 6, 2) := by decide +kernel
theorem dX9_ends_73 : decode cX9_ends 73 = .ok (.iconst (-1), 1) := by decide +kernel
theorem dX9_ends_74 : decode cX9_ends 74 = .ok (.if_icmp .eq 23, 3) := by decide +kernel
theorem dX9_ends_77 : decode cX9_ends 77 = .ok (.aload_n 0, 1) := by decide +kernel
theorem dX9_ends_78 : decode cX9_ends 78 = .ok (.getfield 111, 3) := by decide +kernel
theorem dX9_ends_81 : decode cX9_ends 81 = .ok (.bipush 10, 2) := by decide +kernel
theorem dX9_ends_83 : decode cX9_ends 83 = .ok (.iload 5, 2) := by decide +kernel
theorem dX9_ends_85 : decode cX9_ends 85 = .ok (.imul, 1) := by decide +kernel
theorem dX9_ends_86 : decode cX9_ends 86 = .ok (.iload 6, 2) := by decide +kernel
theorem dX9_ends_88 : decode cX9_ends 88 = .ok (.iadd, 1) := by decide +kernel
theorem dX9_ends_89 : decode cX9_ends 89 = .ok (.baload, 1) := by decide +kernel
theorem dX9_ends_90 : decode cX9_ends 90 = .ok (.ifCond .ne 7, 3) := by decide +kernel
theorem dX9_ends_93 : decode cX9_ends 93 = .ok (.iconst 1, 1) := by decide +kernel
theorem dX9_ends_94 : decode cX9_ends 94 = .ok (.goto 4, 3) := by decide +kernel
theorem dX9_ends_97 : decode cX9_ends 97 = .ok (.iconst 0, 1) := by decide +kernel
theorem dX9_ends_98 : decode cX9_ends 98 = .ok (.istore_n 2, 1) := by decide +kernel
theorem dX9_ends_99 : decode cX9_ends 99 = .ok (.iinc 4 1, 3) := by decide +kernel
theorem dX9_ends_102 : decode cX9_ends 102 = .ok (.goto (-74), 3) := by decide +kernel
theorem dX9_ends_105 : decode cX9_ends 105 = .ok (.iinc 3 1, 3) := by decide +kernel
theorem dX9_ends_108 : decode cX9_ends 108 = .ok (.goto (-93), 3) := by decide +kernel
theorem dX9_ends_111 : decode cX9_ends 111 = .ok (.iload_n 2, 1) := by decide +kernel
theorem dX9_ends_112 : decode cX9_ends 112 = .ok (.ifCond .eq 21, 3) := by decide +kernel
theorem dX9_ends_115 : decode cX9_ends 115 = .ok (.aload_n 0, 1) := by decide +kernel
theorem dX9_ends_116 : decode cX9_ends 116 = .ok (.aload_n 0, 1) := by decide +kernel
theorem dX9_ends_117 : decode cX9_ends 117 = .ok (.iload_n 1, 1) := by decide +kernel
theorem dX9_ends_118 : decode cX9_ends 118 = .ok (.invokevirtual 268, 3) := by decide +kernel
theorem dX9_ends_121 : decode cX9_ends 121 = .ok (.putfield 59, 3) := by decide +kernel
theorem dX9_ends_124 : decode cX9_ends 124 = .ok (.aload_n 0, 1) := by decide +kernel
theorem dX9_ends_125 : decode cX9_ends 125 = .ok (.bipush 21, 2) := by decide +kernel
theorem dX9_ends_127 : decode cX9_ends 127 = .ok (.iconst 0, 1) := by decide +kernel
theorem dX9_ends_128 : decode cX9_ends 128 = .ok (.invokevirtual 124, 3) := by decide +kernel
theorem dX9_ends_131 : decode cX9_ends 131 = .ok (.iconst 0, 1) := by decide +kernel
theorem dX9_ends_132 : decode cX9_ends 132 = .ok (.ireturn, 1) := by decide +kernel
theorem dX9_ends_133 : decode cX9_ends 133 = .ok (.aload_n 0, 1) := by decide +kernel
theorem dX9_ends_134 : decode cX9_ends 134 = .ok (.invokevirtual 128, 3) := by decide +kernel
theorem dX9_ends_137 : decode cX9_ends 137 = .ok (.iconst 1, 1) := by decide +kernel
theorem dX9_ends_138 : decode cX9_ends 138 = .ok (.ireturn, 1) := by decide +kernel
theorem dX9_firstTie_0 : decode cX9_firstTie 0 = .ok (.iconst 0, 1) := by decide +kernel
theorem dX9_firstTie_1 : decode cX9_firstTie 1 = .ok (.istore_n 2, 1) := by decide +kernel
theorem dX9_firstTie_2 : decode cX9_firstTie 2 = .ok (.iload_n 2, 1) := by decide +kernel
theorem dX9_firstTie_3 : decode cX9_firstTie 3 = .ok (.bipush 100, 2) := by decide +kernel
theorem dX9_firstTie_5 : decode cX9_firstTie 5 = .ok (.if_icmp .ge 123, 3) := by decide +kernel
theorem dX9_firstTie_8 : decode cX9_firstTie 8 = .ok (.iload_n 2, 1) := by decide +kernel
theorem dX9_firstTie_9 : decode cX9_firstTie 9 = .ok (.bipush 10, 2) := by decide +kernel
theorem dX9_firstTie_11 : decode cX9_firstTie 11 = .ok (.idiv, 1) := by decide +kernel
theorem dX9_firstTie_12 : decode cX9_firstTie 12 = .ok (.istore_n 3, 1) := by decide +kernel
theorem dX9_firstTie_13 : decode cX9_firstTie 13 = .ok (.iload_n 2, 1) := by decide +kernel
theorem dX9_firstTie_14 : decode cX9_firstTie 14 = .ok (.bipush 10, 2) := by decide +kernel
theorem dX9_firstTie_16 : decode cX9_firstTie 16 = .ok (.irem, 1) := by decide +kernel
theorem dX9_firstTie_17 : decode cX9_firstTie 17 = .ok (.istore 4, 2) := by decide +kernel
theorem dX9_firstTie_19 : decode cX9_firstTie 19 = .ok (.iload_n 3, 1) := by decide +kernel
theorem dX9_firstTie_20 : decode cX9_firstTie 20 = .ok (.aload_n 0, 1) := by decide +kernel
theorem dX9_firstTie_21 : decode cX9_firstTie 21 = .ok (.getfield 7, 3) := by decide +kernel
theorem dX9_firstTie_24 : decode cX9_firstTie 24 = .ok (.iconst 0, 1) := by decide +kernel
theorem dX9_firstTie_25 : decode cX9_firstTie 25 = .ok (.iaload, 1) := by decide +kernel
theorem dX9_firstTie_26 : decode cX9_firstTie 26 = .ok (.if_icmp .ge 96, 3) := by decide +kernel
theorem dX9_firstTie_29 : decode cX9_firstTie 29 = .ok (.iload 4, 2) := by decide +kernel
theorem dX9_firstTie_31 : decode cX9_firstTie 31 = .ok (.aload_n 0, 1) := by decide +kernel
theorem dX9_firstTie_32 : decode cX9_firstTie 32 = .ok (.getfield 7, 3) := by decide +kernel
theorem dX9_firstTie_35 : decode cX9_firstTie 35 = .ok (.iconst 0, 1) := by decide +kernel
theorem dX9_firstTie_36 : decode cX9_firstTie 36 = .ok (.iaload, 1) := by decide +kernel
theorem dX9_firstTie_37 : decode cX9_firstTie 37 = .ok (.if_icmp .ge 85, 3) := by decide +kernel
theorem dX9_firstTie_40 : decode cX9_firstTie 40 = .ok (.aload_n 0, 1) := by decide +kernel
theorem dX9_firstTie_41 : decode cX9_firstTie 41 = .ok (.getfield 81, 3) := by decide +kernel
theorem dX9_firstTie_44 : decode cX9_firstTie 44 = .ok (.iload_n 2, 1) := by decide +kernel
theorem dX9_firstTie_45 : decode cX9_firstTie 45 = .ok (.iaload, 1) := by decide +kernel
theorem dX9_firstTie_46 : decode cX9_firstTie 46 = .ok (.ifCond .le 76, 3) := by decide +kernel
theorem dX9_firstTie_49 : decode cX9_firstTie 49 = .ok (.aload_n 0, 1) := by decide +kernel
theorem dX9_firstTie_50 : decode cX9_firstTie 50 = .ok (.iload_n 3, 1) := by decide +kernel
theorem dX9_firstTie_51 : decode cX9_firstTie 51 = .ok (.iload 4, 2) := by decide +kernel
theorem dX9_firstTie_53 : decode cX9_firstTie 53 = .ok (.invokevirtual 234, 3) := by decide +kernel
theorem dX9_firstTie_56 : decode cX9_firstTie 56 = .ok (.ifCond .eq 66, 3) := by decide +kernel
theorem dX9_firstTie_59 : decode cX9_firstTie 59 = .ok (.aload_n 0, 1) := by decide +kernel
theorem dX9_firstTie_60 : decode cX9_firstTie 60 = .ok (.iload_n 3, 1) := by decide +kernel
theorem dX9_firstTie_61 : decode cX9_firstTie 61 = .ok (.iload_n 1, 1) := by decide +kernel
theorem dX9_firstTie_62 : decode cX9_firstTie 62 = .ok (.invokevirtual 265, 3) := by decide +kernel
theorem dX9_firstTie_65 : decode cX9_firstTie 65 = .ok (.istore 5, 2) := by decide +kernel
theorem dX9_firstTie_67 : decode cX9_firstTie 67 = .ok (.aload_n 0, 1) := by decide +kernel
theorem dX9_firstTie_68 : decode cX9_firstTie 68 = .ok (.iload 4, 2) := by decide +kernel
theorem dX9_firstTie_70 : decode cX9_firstTie 70 = .ok (.iload_n 1, 1) := by decide +kernel
theorem dX9_firstTie_71 : decode cX9_firstTie 71 = .ok (.invokevirtual 265, 3) := by decide +kernel
theorem dX9_firstTie_74 : decode cX9_firstTie 74 = .ok (.istore 6, 2) := by decide +kernel
theorem dX9_firstTie_76 : decode cX9_firstTie 76 = .ok (.iload 5, 2) := by decide +kernel
theorem dX9_firstTie_78 : decode cX9_firstTie 78 = .ok (.iconst (-1), 1) := by decide +kernel
theorem dX9_firstTie_79 : decode cX9_firstTie 79 = .ok (.if_icmp .eq 41, 3) := by decide +kernel
theorem dX9_firstTie_82 : decode cX9_firstTie 82 = .ok (.iload 6, 2) := by decide +kernel
theorem dX9_firstTie_84 : decode cX9_firstTie 84 = .ok (.iconst (-1), 1) := by decide +kernel
theorem dX9_firstTie_85 : decode cX9_firstTie 85 = .ok (.if_icmp .eq 35, 3) := by decide +kernel
theorem dX9_firstTie_88 : decode cX9_firstTie 88 = .ok (.aload_n 0, 1) := by decide +kernel
theorem dX9_firstTie_89 : decode cX9_firstTie 89 = .ok (.getfield 114, 3) := by decide +kernel
theorem dX9_firstTie_92 : decode cX9_firstTie 92 = .ok (.bipush 10, 2) := by decide +kernel
theorem dX9_firstTie_94 : decode cX9_firstTie 94 = .ok (.iload 5, 2) := by decide +kernel
theorem dX9_firstTie_96 : decode cX9_firstTie 96 = .ok (.imul, 1) := by decide +kernel
theorem dX9_firstTie_97 : decode cX9_firstTie 97 = .ok (.iload 6, 2) := by decide +kernel
theorem dX9_firstTie_99 : decode cX9_firstTie 99 = .ok (.iadd, 1) := by decide +kernel
theorem dX9_firstTie_100 : decode cX9_firstTie 100 = .ok (.baload, 1) := by decide +kernel
theorem dX9_firstTie_101 : decode cX9_firstTie 101 = .ok (.ifCond .eq 19, 3) := by decide +kernel
theorem dX9_firstTie_104 : decode cX9_firstTie 104 = .ok (.aload_n 0, 1) := by decide +kernel
theorem dX9_firstTie_105 : decode cX9_firstTie 105 = .ok (.getfield 111, 3) := by decide +kernel
theorem dX9_firstTie_108 : decode cX9_firstTie 108 = .ok (.bipush 10, 2) := by decide +kernel
theorem dX9_firstTie_110 : decode cX9_firstTie 110 = .ok (.iload 5, 2) := by decide +kernel
theorem dX9_firstTie_112 : decode cX9_firstTie 112 = .ok (.imul, 1) := by decide +kernel
theorem dX9_firstTie_113 : decode cX9_firstTie 113 = .ok (.iload 6, 2) := by decide +kernel
theorem dX9_firstTie_115 : decode cX9_firstTie 115 = .ok (.iadd, 1) := by decide +kernel
theorem dX9_firstTie_116 : decode cX9_firstTie 116 = .ok (.baload, 1) := by decide +kernel
theorem dX9_firstTie_117 : decode cX9_firstTie 117 = .ok (.ifCond .ne 5, 3) := by decide +kernel
theorem dX9_firstTie_120 : decode cX9_firstTie 120 = .ok (.iload_n 2, 1) := by decide +kernel
theorem dX9_firstTie_121 : decode cX9_firstTie 121 = .ok (.ireturn, 1) := by decide +kernel
theorem dX9_firstTie_122 : decode cX9_firstTie 122 = .ok (.iinc 2 1, 3) := by decide +kernel
theorem dX9_firstTie_125 : decode cX9_firstTie 125 = .ok (.goto (-123), 3) := by decide +kernel
theorem dX9_firstTie_128 : decode cX9_firstTie 128 = .ok (.iconst (-1), 1) := by decide +kernel
theorem dX9_firstTie_129 : decode cX9_firstTie 129 = .ok (.ireturn, 1) := by decide +kernel
theorem dX9_puts_0 : decode cX9_puts 0 = .ok (.iload_n 1, 1) := by decide +kernel
theorem dX9_puts_1 : decode cX9_puts 1 = .ok (.ifCond .ne 13, 3) := by decide +kernel
theorem dX9_puts_4 : decode cX9_puts 4 = .ok (.aload_n 0, 1) := by decide +kernel
theorem dX9_puts_5 : decode cX9_puts 5 = .ok (.getfield 22, 3) := by decide +kernel
theorem dX9_puts_8 : decode cX9_puts 8 = .ok (.iload_n 2, 1) := by decide +kernel
theorem dX9_puts_9 : decode cX9_puts 9 = .ok (.iload_n 3, 1) := by decide +kernel
theorem dX9_puts_10 : decode cX9_puts 10 = .ok (.iastore, 1) := by decide +kernel
theorem dX9_puts_11 : decode cX9_puts 11 = .ok (.goto 25, 3) := by decide +kernel
theorem dX9_puts_14 : decode cX9_puts 14 = .ok (.iload_n 1, 1) := by decide +kernel
theorem dX9_puts_15 : decode cX9_puts 15 = .ok (.iconst 1, 1) := by decide +kernel
theorem dX9_puts_16 : decode cX9_puts 16 = .ok (.if_icmp .ne 13, 3) := by decide +kernel
theorem dX9_puts_19 : decode cX9_puts 19 = .ok (.aload_n 0, 1) := by decide +kernel
theorem dX9_puts_20 : decode cX9_puts 20 = .ok (.getfield 34, 3) := by decide +kernel
theorem dX9_puts_23 : decode cX9_puts 23 = .ok (.iload_n 2, 1) := by decide +kernel
theorem dX9_puts_24 : decode cX9_puts 24 = .ok (.iload_n 3, 1) := by decide +kernel
theorem dX9_puts_25 : decode cX9_puts 25 = .ok (.iastore, 1) := by decide +kernel
theorem dX9_puts_26 : decode cX9_puts 26 = .ok (.goto 10, 3) := by decide +kernel
theorem dX9_puts_29 : decode cX9_puts 29 = .ok (.aload_n 0, 1) := by decide +kernel
theorem dX9_puts_30 : decode cX9_puts 30 = .ok (.getfield 37, 3) := by decide +kernel
theorem dX9_puts_33 : decode cX9_puts 33 = .ok (.iload_n 2, 1) := by decide +kernel
theorem dX9_puts_34 : decode cX9_puts 34 = .ok (.iload_n 3, 1) := by decide +kernel
theorem dX9_puts_35 : decode cX9_puts 35 = .ok (.iastore, 1) := by decide +kernel
theorem dX9_puts_36 : decode cX9_puts 36 = .ok (.return_, 1) := by decide +kernel
theorem dX9_move_0 : decode cX9_move 0 = .ok (.aload_n 0, 1) := by decide +kernel
theorem dX9_move_1 : decode cX9_move 1 = .ok (.iload_n 1, 1) := by decide +kernel
theorem dX9_move_2 : decode cX9_move 2 = .ok (.iload_n 2, 1) := by decide +kernel
theorem dX9_move_3 : decode cX9_move 3 = .ok (.invokevirtual 138, 3) := by decide +kernel
theorem dX9_move_6 : decode cX9_move 6 = .ok (.ifCond .eq 11, 3) := by decide +kernel
theorem dX9_move_9 : decode cX9_move 9 = .ok (.aload_n 0, 1) := by decide +kernel
theorem dX9_move_10 : decode cX9_move 10 = .ok (.iload_n 3, 1) := by decide +kernel
theorem dX9_move_11 : decode cX9_move 11 = .ok (.invokevirtual 131, 3) := by decide +kernel
theorem dX9_move_14 : decode cX9_move 14 = .ok (.ifCond .ne 5, 3) := by decide +kernel
theorem dX9_move_17 : decode cX9_move 17 = .ok (.iconst (-1), 1) := by decide +kernel
theorem dX9_move_18 : decode cX9_move 18 = .ok (.ireturn, 1) := by decide +kernel
theorem dX9_move_19 : decode cX9_move 19 = .ok (.aload_n 0, 1) := by decide +kernel
theorem dX9_move_20 : decode cX9_move 20 = .ok (.iload_n 1, 1) := by decide +kernel
theorem dX9_move_21 : decode cX9_move 21 = .ok (.iload_n 2, 1) := by decide +kernel
theorem dX9_move_22 : decode cX9_move 22 = .ok (.invokevirtual 142, 3) := by decide +kernel
theorem dX9_move_25 : decode cX9_move 25 = .ok (.istore 4, 2) := by decide +kernel
theorem dX9_move_27 : decode cX9_move 27 = .ok (.iload 4, 2) := by decide +kernel
theorem dX9_move_29 : decode cX9_move 29 = .ok (.iload_n 3, 1) := by decide +kernel
theorem dX9_move_30 : decode cX9_move 30 = .ok (.if_icmp .eq 16, 3) := by decide +kernel
theorem dX9_move_33 : decode cX9_move 33 = .ok (.iload_n 1, 1) := by decide +kernel
theorem dX9_move_34 : decode cX9_move 34 = .ok (.ifCond .ne 15, 3) := by decide +kernel
theorem dX9_move_37 : decode cX9_move 37 = .ok (.aload_n 0, 1) := by decide +kernel
theorem dX9_move_38 : decode cX9_move 38 = .ok (.getfield 49, 3) := by decide +kernel
theorem dX9_move_41 : decode cX9_move 41 = .ok (.iload_n 2, 1) := by decide +kernel
theorem dX9_move_42 : decode cX9_move 42 = .ok (.baload, 1) := by decide +kernel
theorem dX9_move_43 : decode cX9_move 43 = .ok (.ifCond .eq 6, 3) := by decide +kernel
theorem dX9_move_46 : decode cX9_move 46 = .ok (.bipush (-3), 2) := by decide +kernel
theorem dX9_move_48 : decode cX9_move 48 = .ok (.ireturn, 1) := by decide +kernel
theorem dX9_move_49 : decode cX9_move 49 = .ok (.aload_n 0, 1) := by decide +kernel
theorem dX9_move_50 : decode cX9_move 50 = .ok (.invokevirtual 182, 3) := by decide +kernel
theorem dX9_move_53 : decode cX9_move 53 = .ok (.aload_n 0, 1) := by decide +kernel
theorem dX9_move_54 : decode cX9_move 54 = .ok (.iload_n 1, 1) := by decide +kernel
theorem dX9_move_55 : decode cX9_move 55 = .ok (.iload_n 2, 1) := by decide +kernel
theorem dX9_move_56 : decode cX9_move 56 = .ok (.iload_n 3, 1) := by decide +kernel
theorem dX9_move_57 : decode cX9_move 57 = .ok (.invokevirtual 271, 3) := by decide +kernel
theorem dX9_move_60 : decode cX9_move 60 = .ok (.aload_n 0, 1) := by decide +kernel
theorem dX9_move_61 : decode cX9_move 61 = .ok (.iconst (-1), 1) := by decide +kernel
theorem dX9_move_62 : decode cX9_move 62 = .ok (.invokevirtual 185, 3) := by decide +kernel
theorem dX9_move_65 : decode cX9_move 65 = .ok (.ifCond .eq 8, 3) := by decide +kernel
theorem dX9_move_68 : decode cX9_move 68 = .ok (.iload 4, 2) := by decide +kernel
theorem dX9_move_70 : decode cX9_move 70 = .ok (.goto 5, 3) := by decide +kernel
theorem dX9_move_73 : decode cX9_move 73 = .ok (.bipush (-5), 2) := by decide +kernel
theorem dX9_move_75 : decode cX9_move 75 = .ok (.ireturn, 1) := by decide +kernel
theorem dX9_split_0 : decode cX9_split 0 = .ok (.aload_n 0, 1) := by decide +kernel
theorem dX9_split_1 : decode cX9_split 1 = .ok (.iload_n 1, 1) := by decide +kernel
theorem dX9_split_2 : decode cX9_split 2 = .ok (.invokevirtual 131, 3) := by decide +kernel
theorem dX9_split_5 : decode cX9_split 5 = .ok (.ifCond .ne 5, 3) := by decide +kernel
theorem dX9_split_8 : decode cX9_split 8 = .ok (.iconst (-1), 1) := by decide +kernel
theorem dX9_split_9 : decode cX9_split 9 = .ok (.ireturn, 1) := by decide +kernel
theorem dX9_split_10 : decode cX9_split 10 = .ok (.iload_n 2, 1) := by decide +kernel
theorem dX9_split_11 : decode cX9_split 11 = .ok (.ifCond .le 15, 3) := by decide +kernel
theorem dX9_split_14 : decode cX9_split 14 = .ok (.iload_n 2, 1) := by decide +kernel
theorem dX9_split_15 : decode cX9_split 15 = .ok (.iconst 1, 1) := by decide +kernel
theorem dX9_split_16 : decode cX9_split 16 = .ok (.aload_n 0, 1) := by decide +kernel
theorem dX9_split_17 : decode cX9_split 17 = .ok (.getfield 13, 3) := by decide +kernel
theorem dX9_split_20 : decode cX9_split 20 = .ok (.iconst 0, 1) := by decide +kernel
theorem dX9_split_21 : decode cX9_split 21 = .ok (.iaload, 1) := by decide +kernel
theorem dX9_split_22 : decode cX9_split 22 = .ok (.ishl, 1) := by decide +kernel
theorem dX9_split_23 : decode cX9_split 23 = .ok (.if_icmp .lt 6, 3) := by decide +kernel
theorem dX9_split_26 : decode cX9_split 26 = .ok (.bipush (-2), 2) := by decide +kernel
theorem dX9_split_28 : decode cX9_split 28 = .ok (.ireturn, 1) := by decide +kernel
theorem dX9_split_29 : decode cX9_split 29 = .ok (.iconst 0, 1) := by decide +kernel
theorem dX9_split_30 : decode cX9_split 30 = .ok (.istore_n 3, 1) := by decide +kernel
theorem dX9_split_31 : decode cX9_split 31 = .ok (.iconst 0, 1) := by decide +kernel
theorem dX9_split_32 : decode cX9_split 32 = .ok (.istore 4, 2) := by decide +kernel
theorem dX9_split_34 : decode cX9_split 34 = .ok (.iload 4, 2) := by decide +kernel
theorem dX9_split_36 : decode cX9_split 36 = .ok (.aload_n 0, 1) := by decide +kernel
theorem dX9_split_37 : decode cX9_split 37 = .ok (.getfield 13, 3) := by decide +kernel
theorem dX9_split_40 : decode cX9_split 40 = .ok (.iconst 0, 1) := by decide +kernel
theorem dX9_split_41 : decode cX9_split 41 = .ok (.iaload, 1) := by decide +kernel
theorem dX9_split_42 : decode cX9_split 42 = .ok (.if_icmp .ge 63, 3) := by decide +kernel
theorem dX9_split_45 : decode cX9_split 45 = .ok (.iload_n 2, 1) := by decide +kernel
theorem dX9_split_46 : decode cX9_split 46 = .ok (.iload 4, 2) := by decide +kernel
theorem dX9_split_48 : decode cX9_split 48 = .ok (.ishr, 1) := by decide +kernel
theorem dX9_split_49 : decode cX9_split 49 = .ok (.iconst 1, 1) := by decide +kernel
theorem dX9_split_50 : decode cX9_split 50 = .ok (.iand, 1) := by decide +kernel
theorem dX9_split_51 : decode cX9_split 51 = .ok (.iconst 1, 1) := by decide +kernel
theorem dX9_split_52 : decode cX9_split 52 = .ok (.if_icmp .ne 16, 3) := by decide +kernel
theorem dX9_split_55 : decode cX9_split 55 = .ok (.aload_n 0, 1) := by decide +kernel
theorem dX9_split_56 : decode cX9_split 56 = .ok (.getfield 49, 3) := by decide +kernel
theorem dX9_split_59 : decode cX9_split 59 = .ok (.iload 4, 2) := by decide +kernel
theorem dX9_split_61 : decode cX9_split 61 = .ok (.baload, 1) := by decide +kernel
theorem dX9_split_62 : decode cX9_split 62 = .ok (.ifCond .eq 6, 3) := by decide +kernel
theorem dX9_split_65 : decode cX9_split 65 = .ok (.bipush (-2), 2) := by decide +kernel
theorem dX9_split_67 : decode cX9_split 67 = .ok (.ireturn, 1) := by decide +kernel
theorem dX9_split_68 : decode cX9_split 68 = .ok (.iload_n 3, 1) := by decide +kernel
theorem dX9_split_69 : decode cX9_split 69 = .ok (.ifCond .ne 24, 3) := by decide +kernel
theorem dX9_split_72 : decode cX9_split 72 = .ok (.iload_n 2, 1) := by decide +kernel
theorem dX9_split_73 : decode cX9_split 73 = .ok (.iload 4, 2) := by decide +kernel
theorem dX9_split_75 : decode cX9_split 75 = .ok (.ishr, 1) := by decide +kernel
theorem dX9_split_76 : decode cX9_split 76 = .ok (.iconst 1, 1) := by decide +kernel
theorem dX9_split_77 : decode cX9_split 77 = .ok (.iand, 1) := by decide +kernel
theorem dX9_split_78 : decode cX9_split 78 = .ok (.iconst 1, 1) := by decide +kernel
theorem dX9_split_79 : decode cX9_split 79 = .ok (.if_icmp .ne 18, 3) := by decide +kernel
theorem dX9_split_82 : decode cX9_split 82 = .ok (.aload_n 0, 1) := by decide +kernel
theorem dX9_split_83 : decode cX9_split 83 = .ok (.getfield 22, 3) := by decide +kernel
theorem dX9_split_86 : decode cX9_split 86 = .ok (.iload 4, 2) := by decide +kernel
theorem dX9_split_88 : decode cX9_split 88 = .ok (.iaload, 1) := by decide +kernel
theorem dX9_split_89 : decode cX9_split 89 = .ok (.iload_n 1, 1) := by decide +kernel
theorem dX9_split_90 : decode cX9_split 90 = .ok (.if_icmp .eq 7, 3) := by decide +kernel
theorem dX9_split_93 : decode cX9_split 93 = .ok (.iconst 1, 1) := by decide +kernel
theorem dX9_split_94 : decode cX9_split 94 = .ok (.goto 4, 3) := by decide +kernel
theorem dX9_split_97 : decode cX9_split 97 = .ok (.iconst 0, 1) := by decide +kernel
theorem dX9_split_98 : decode cX9_split 98 = .ok (.istore_n 3, 1) := by decide +kernel
theorem dX9_split_99 : decode cX9_split 99 = .ok (.iinc 4 1, 3) := by decide +kernel
theorem dX9_split_102 : decode cX9_split 102 = .ok (.goto (-68), 3) := by decide +kernel
theorem dX9_split_105 : decode cX9_split 105 = .ok (.iload_n 3, 1) := by decide +kernel
theorem dX9_split_106 : decode cX9_split 106 = .ok (.ifCond .eq 6, 3) := by decide +kernel
theorem dX9_split_109 : decode cX9_split 109 = .ok (.bipush (-3), 2) := by decide +kernel
theorem dX9_split_111 : decode cX9_split 111 = .ok (.ireturn, 1) := by decide +kernel
theorem dX9_split_112 : decode cX9_split 112 = .ok (.aload_n 0, 1) := by decide +kernel
theorem dX9_split_113 : decode cX9_split 113 = .ok (.getfield 7, 3) := by decide +kernel
theorem dX9_split_116 : decode cX9_split 116 = .ok (.iconst 0, 1) := by decide +kernel
theorem dX9_split_117 : decode cX9_split 117 = .ok (.iaload, 1) := by decide +kernel
theorem dX9_split_118 : decode cX9_split 118 = .ok (.bipush 10, 2) := by decide +kernel
theorem dX9_split_120 : decode cX9_split 120 = .ok (.if_icmp .ne 6, 3) := by decide +kernel
theorem dX9_split_123 : decode cX9_split 123 = .ok (.bipush (-4), 2) := by decide +kernel
theorem dX9_split_125 : decode cX9_split 125 = .ok (.ireturn, 1) := by decide +kernel
theorem dX9_split_126 : decode cX9_split 126 = .ok (.aload_n 0, 1) := by decide +kernel
theorem dX9_split_127 : decode cX9_split 127 = .ok (.invokevirtual 182, 3) := by decide +kernel
theorem dX9_split_130 : decode cX9_split 130 = .ok (.iconst 0, 1) := by decide +kernel
theorem dX9_split_131 : decode cX9_split 131 = .ok (.istore 4, 2) := by decide +kernel
theorem dX9_split_133 : decode cX9_split 133 = .ok (.iload 4, 2) := by decide +kernel
theorem dX9_split_135 : decode cX9_split 135 = .ok (.aload_n 0, 1) := by decide +kernel
theorem dX9_split_136 : decode cX9_split 136 = .ok (.getfield 13, 3) := by decide +kernel
theorem dX9_split_139 : decode cX9_split 139 = .ok (.iconst 0, 1) := by decide +kernel
theorem dX9_split_140 : decode cX9_split 140 = .ok (.iaload, 1) := by decide +kernel
theorem dX9_split_141 : decode cX9_split 141 = .ok (.if_icmp .ge 42, 3) := by decide +kernel
theorem dX9_split_144 : decode cX9_split 144 = .ok (.aload_n 0, 1) := by decide +kernel
theorem dX9_split_145 : decode cX9_split 145 = .ok (.getfield 22, 3) := by decide +kernel
theorem dX9_split_148 : decode cX9_split 148 = .ok (.iload 4, 2) := by decide +kernel
theorem dX9_split_150 : decode cX9_split 150 = .ok (.iload_n 2, 1) := by decide +kernel
theorem dX9_split_151 : decode cX9_split 151 = .ok (.iload 4, 2) := by decide +kernel
theorem dX9_split_153 : decode cX9_split 153 = .ok (.ishr, 1) := by decide +kernel
theorem dX9_split_154 : decode cX9_split 154 = .ok (.iconst 1, 1) := by decide +kernel
theorem dX9_split_155 : decode cX9_split 155 = .ok (.iand, 1) := by decide +kernel
theorem dX9_split_156 : decode cX9_split 156 = .ok (.iconst 1, 1) := by decide +kernel
theorem dX9_split_157 : decode cX9_split 157 = .ok (.if_icmp .ne 12, 3) := by decide +kernel
theorem dX9_split_160 : decode cX9_split 160 = .ok (.aload_n 0, 1) := by decide +kernel
theorem dX9_split_161 : decode cX9_split 161 = .ok (.getfield 7, 3) := by decide +kernel
theorem dX9_split_164 : decode cX9_split 164 = .ok (.iconst 0, 1) := by decide +kernel
theorem dX9_split_165 : decode cX9_split 165 = .ok (.iaload, 1) := by decide +kernel
theorem dX9_split_166 : decode cX9_split 166 = .ok (.goto 10, 3) := by decide +kernel
theorem dX9_split_169 : decode cX9_split 169 = .ok (.aload_n 0, 1) := by decide +kernel
theorem dX9_split_170 : decode cX9_split 170 = .ok (.getfield 22, 3) := by decide +kernel
theorem dX9_split_173 : decode cX9_split 173 = .ok (.iload 4, 2) := by decide +kernel
theorem dX9_split_175 : decode cX9_split 175 = .ok (.iaload, 1) := by decide +kernel
theorem dX9_split_176 : decode cX9_split 176 = .ok (.iastore, 1) := by decide +kernel
theorem dX9_split_177 : decode cX9_split 177 = .ok (.iinc 4 1, 3) := by decide +kernel
theorem dX9_split_180 : decode cX9_split 180 = .ok (.goto (-47), 3) := by decide +kernel
theorem dX9_split_183 : decode cX9_split 183 = .ok (.aload_n 0, 1) := by decide +kernel
theorem dX9_split_184 : decode cX9_split 184 = .ok (.invokevirtual 274, 3) := by decide +kernel
theorem dX9_split_187 : decode cX9_split 187 = .ok (.aload_n 0, 1) := by decide +kernel
theorem dX9_split_188 : decode cX9_split 188 = .ok (.iconst (-1), 1) := by decide +kernel
theorem dX9_split_189 : decode cX9_split 189 = .ok (.invokevirtual 185, 3) := by decide +kernel
theorem dX9_split_192 : decode cX9_split 192 = .ok (.ifCond .eq 14, 3) := by decide +kernel
theorem dX9_split_195 : decode cX9_split 195 = .ok (.aload_n 0, 1) := by decide +kernel
theorem dX9_split_196 : decode cX9_split 196 = .ok (.getfield 7, 3) := by decide +kernel
theorem dX9_split_199 : decode cX9_split 199 = .ok (.iconst 0, 1) := by decide +kernel
theorem dX9_split_200 : decode cX9_split 200 = .ok (.iaload, 1) := by decide +kernel
theorem dX9_split_201 : decode cX9_split 201 = .ok (.iconst 1, 1) := by decide +kernel
theorem dX9_split_202 : decode cX9_split 202 = .ok (.isub, 1) := by decide +kernel
theorem dX9_split_203 : decode cX9_split 203 = .ok (.goto 5, 3) := by decide +kernel
theorem dX9_split_206 : decode cX9_split 206 = .ok (.bipush (-5), 2) := by decide +kernel
theorem dX9_split_208 : decode cX9_split 208 = .ok (.ireturn, 1) := by decide +kernel
theorem dX9_opens_0 : decode cX9_opens 0 = .ok (.iconst 0, 1) := by decide +kernel
theorem dX9_opens_1 : decode cX9_opens 1 = .ok (.istore_n 1, 1) := by decide +kernel
theorem dX9_opens_2 : decode cX9_opens 2 = .ok (.iload_n 1, 1) := by decide +kernel
theorem dX9_opens_3 : decode cX9_opens 3 = .ok (.bipush 10, 2) := by decide +kernel
theorem dX9_opens_5 : decode cX9_opens 5 = .ok (.if_icmp .ge 43, 3) := by decide +kernel
theorem dX9_opens_8 : decode cX9_opens 8 = .ok (.aload_n 0, 1) := by decide +kernel
theorem dX9_opens_9 : decode cX9_opens 9 = .ok (.getfield 46, 3) := by decide +kernel
theorem dX9_opens_12 : decode cX9_opens 12 = .ok (.bipush 10, 2) := by decide +kernel
theorem dX9_opens_14 : decode cX9_opens 14 = .ok (.aload_n 0, 1) := by decide +kernel
theorem dX9_opens_15 : decode cX9_opens 15 = .ok (.getfield 7, 3) := by decide +kernel
theorem dX9_opens_18 : decode cX9_opens 18 = .ok (.iconst 0, 1) := by decide +kernel
theorem dX9_opens_19 : decode cX9_opens 19 = .ok (.iaload, 1) := by decide +kernel
theorem dX9_opens_20 : decode cX9_opens 20 = .ok (.imul, 1) := by decide +kernel
theorem dX9_opens_21 : decode cX9_opens 21 = .ok (.iload_n 1, 1) := by decide +kernel
theorem dX9_opens_22 : decode cX9_opens 22 = .ok (.iadd, 1) := by decide +kernel
theorem dX9_opens_23 : decode cX9_opens 23 = .ok (.iconst 0, 1) := by decide +kernel
theorem dX9_opens_24 : decode cX9_opens 24 = .ok (.iastore, 1) := by decide +kernel
theorem dX9_opens_25 : decode cX9_opens 25 = .ok (.aload_n 0, 1) := by decide +kernel
theorem dX9_opens_26 : decode cX9_opens 26 = .ok (.getfield 46, 3) := by decide +kernel
theorem dX9_opens_29 : decode cX9_opens 29 = .ok (.bipush 10, 2) := by decide +kernel
theorem dX9_opens_31 : decode cX9_opens 31 = .ok (.iload_n 1, 1) := by decide +kernel
theorem dX9_opens_32 : decode cX9_opens 32 = .ok (.imul, 1) := by decide +kernel
theorem dX9_opens_33 : decode cX9_opens 33 = .ok (.aload_n 0, 1) := by decide +kernel
theorem dX9_opens_34 : decode cX9_opens 34 = .ok (.getfield 7, 3) := by decide +kernel
theorem dX9_opens_37 : decode cX9_opens 37 = .ok (.iconst 0, 1) := by decide +kernel
theorem dX9_opens_38 : decode cX9_opens 38 = .ok (.iaload, 1) := by decide +kernel
theorem dX9_opens_39 : decode cX9_opens 39 = .ok (.iadd, 1) := by decide +kernel
theorem dX9_opens_40 : decode cX9_opens 40 = .ok (.iconst 0, 1) := by decide +kernel
theorem dX9_opens_41 : decode cX9_opens 41 = .ok (.iastore, 1) := by decide +kernel
theorem dX9_opens_42 : decode cX9_opens 42 = .ok (.iinc 1 1, 3) := by decide +kernel
theorem dX9_opens_45 : decode cX9_opens 45 = .ok (.goto (-43), 3) := by decide +kernel
theorem dX9_opens_48 : decode cX9_opens 48 = .ok (.aload_n 0, 1) := by decide +kernel
theorem dX9_opens_49 : decode cX9_opens 49 = .ok (.getfield 7, 3) := by decide +kernel
theorem dX9_opens_52 : decode cX9_opens 52 = .ok (.iconst 0, 1) := by decide +kernel
theorem dX9_opens_53 : decode cX9_opens 53 = .ok (.dup2, 1) := by decide +kernel
theorem dX9_opens_54 : decode cX9_opens 54 = .ok (.iaload, 1) := by decide +kernel
theorem dX9_opens_55 : decode cX9_opens 55 = .ok (.iconst 1, 1) := by decide +kernel
theorem dX9_opens_56 : decode cX9_opens 56 = .ok (.iadd, 1) := by decide +kernel
theorem dX9_opens_57 : decode cX9_opens 57 = .ok (.iastore, 1) := by decide +kernel
theorem dX9_opens_58 : decode cX9_opens 58 = .ok (.return_, 1) := by decide +kernel
theorem dX9_behind_0 : decode cX9_behind 0 = .ok (.iload_n 0, 1) := by decide +kernel
theorem dX9_behind_1 : decode cX9_behind 1 = .ok (.iload_n 2, 1) := by decide +kernel
theorem dX9_behind_2 : decode cX9_behind 2 = .ok (.if_icmp .ne 7, 3) := by decide +kernel
theorem dX9_behind_5 : decode cX9_behind 5 = .ok (.iload_n 1, 1) := by decide +kernel
theorem dX9_behind_6 : decode cX9_behind 6 = .ok (.goto 4, 3) := by decide +kernel
theorem dX9_behind_9 : decode cX9_behind 9 = .ok (.iload_n 0, 1) := by decide +kernel
theorem dX9_behind_10 : decode cX9_behind 10 = .ok (.istore_n 3, 1) := by decide +kernel
theorem dX9_behind_11 : decode cX9_behind 11 = .ok (.iload_n 3, 1) := by decide +kernel
theorem dX9_behind_12 : decode cX9_behind 12 = .ok (.iload_n 2, 1) := by decide +kernel
theorem dX9_behind_13 : decode cX9_behind 13 = .ok (.if_icmp .le 9, 3) := by decide +kernel
theorem dX9_behind_16 : decode cX9_behind 16 = .ok (.iload_n 3, 1) := by decide +kernel
theorem dX9_behind_17 : decode cX9_behind 17 = .ok (.iconst 1, 1) := by decide +kernel
theorem dX9_behind_18 : decode cX9_behind 18 = .ok (.isub, 1) := by decide +kernel
theorem dX9_behind_19 : decode cX9_behind 19 = .ok (.goto 4, 3) := by decide +kernel
theorem dX9_behind_22 : decode cX9_behind 22 = .ok (.iload_n 3, 1) := by decide +kernel
theorem dX9_behind_23 : decode cX9_behind 23 = .ok (.ireturn, 1) := by decide +kernel
theorem dX9_melt_0 : decode cX9_melt 0 = .ok (.aload_n 0, 1) := by decide +kernel
theorem dX9_melt_1 : decode cX9_melt 1 = .ok (.iload_n 1, 1) := by decide +kernel
theorem dX9_melt_2 : decode cX9_melt 2 = .ok (.invokevirtual 131, 3) := by decide +kernel
theorem dX9_melt_5 : decode cX9_melt 5 = .ok (.ifCond .eq 11, 3) := by decide +kernel
theorem dX9_melt_8 : decode cX9_melt 8 = .ok (.aload_n 0, 1) := by decide +kernel
theorem dX9_melt_9 : decode cX9_melt 9 = .ok (.iload_n 2, 1) := by decide +kernel
theorem dX9_melt_10 : decode cX9_melt 10 = .ok (.invokevirtual 131, 3) := by decide +kernel
theorem dX9_melt_13 : decode cX9_melt 13 = .ok (.ifCond .ne 5, 3) := by decide +kernel
theorem dX9_melt_16 : decode cX9_melt 16 = .ok (.iconst (-1), 1) := by decide +kernel
theorem dX9_melt_17 : decode cX9_melt 17 = .ok (.ireturn, 1) := by decide +kernel
theorem dX9_melt_18 : decode cX9_melt 18 = .ok (.iload_n 1, 1) := by decide +kernel
theorem dX9_melt_19 : decode cX9_melt 19 = .ok (.iload_n 2, 1) := by decide +kernel
theorem dX9_melt_20 : decode cX9_melt 20 = .ok (.if_icmp .ne 6, 3) := by decide +kernel
theorem dX9_melt_23 : decode cX9_melt 23 = .ok (.bipush (-2), 2) := by decide +kernel
theorem dX9_melt_25 : decode cX9_melt 25 = .ok (.ireturn, 1) := by decide +kernel
theorem dX9_melt_26 : decode cX9_melt 26 = .ok (.aload_n 0, 1) := by decide +kernel
theorem dX9_melt_27 : decode cX9_melt 27 = .ok (.invokevirtual 182, 3) := by decide +kernel
theorem dX9_melt_30 : decode cX9_melt 30 = .ok (.iconst 0, 1) := by decide +kernel
theorem dX9_melt_31 : decode cX9_melt 31 = .ok (.istore_n 3, 1) := by decide +kernel
theorem dX9_melt_32 : decode cX9_melt 32 = .ok (.iload_n 3, 1) := by decide +kernel
theorem dX9_melt_33 : decode cX9_melt 33 = .ok (.aload_n 0, 1) := by decide +kernel
theorem dX9_melt_34 : decode cX9_melt 34 = .ok (.getfield 13, 3) := by decide +kernel
theorem dX9_melt_37 : decode cX9_melt 37 = .ok (.iconst 0, 1) := by decide +kernel
theorem dX9_melt_38 : decode cX9_melt 38 = .ok (.iaload, 1) := by decide +kernel
theorem dX9_melt_39 : decode cX9_melt 39 = .ok (.if_icmp .ge 26, 3) := by decide +kernel
theorem dX9_melt_42 : decode cX9_melt 42 = .ok (.aload_n 0, 1) := by decide +kernel
theorem dX9_melt_43 : decode cX9_melt 43 = .ok (.getfield 22, 3) := by decide +kernel
theorem dX9_melt_46 : decode cX9_melt 46 = .ok (.iload_n 3, 1) := by decide +kernel
theorem dX9_melt_47 : decode cX9_melt 47 = .ok (.aload_n 0, 1) := by decide +kernel
theorem dX9_melt_48 : decode cX9_melt 48 = .ok (.getfield 22, 3) := by decide +kernel
theorem dX9_melt_51 : decode cX9_melt 51 = .ok (.iload_n 3, 1) := by decide +kernel
theorem dX9_melt_52 : decode cX9_melt 52 = .ok (.iaload, 1) := by decide +kernel
theorem dX9_melt_53 : decode cX9_melt 53 = .ok (.iload_n 1, 1) := by decide +kernel
theorem dX9_melt_54 : decode cX9_melt 54 = .ok (.iload_n 2, 1) := by decide +kernel
theorem dX9_melt_55 : decode cX9_melt 55 = .ok (.invokestatic 277, 3) := by decide +kernel
theorem dX9_melt_58 : decode cX9_melt 58 = .ok (.iastore, 1) := by decide +kernel
theorem dX9_melt_59 : decode cX9_melt 59 = .ok (.iinc 3 1, 3) := by decide +kernel
theorem dX9_melt_62 : decode cX9_melt 62 = .ok (.goto (-30), 3) := by decide +kernel
theorem dX9_melt_65 : decode cX9_melt 65 = .ok (.iconst 0, 1) := by decide +kernel
theorem dX9_melt_66 : decode cX9_melt 66 = .ok (.istore_n 3, 1) := by decide +kernel
theorem dX9_melt_67 : decode cX9_melt 67 = .ok (.iload_n 3, 1) := by decide +kernel
theorem dX9_melt_68 : decode cX9_melt 68 = .ok (.aload_n 0, 1) := by decide +kernel
theorem dX9_melt_69 : decode cX9_melt 69 = .ok (.getfield 16, 3) := by decide +kernel
theorem dX9_melt_72 : decode cX9_melt 72 = .ok (.iconst 0, 1) := by decide +kernel
theorem dX9_melt_73 : decode cX9_melt 73 = .ok (.iaload, 1) := by decide +kernel
theorem dX9_melt_74 : decode cX9_melt 74 = .ok (.if_icmp .ge 26, 3) := by decide +kernel
theorem dX9_melt_77 : decode cX9_melt 77 = .ok (.aload_n 0, 1) := by decide +kernel
theorem dX9_melt_78 : decode cX9_melt 78 = .ok (.getfield 34, 3) := by decide +kernel
theorem dX9_melt_81 : decode cX9_melt 81 = .ok (.iload_n 3, 1) := by decide +kernel
theorem dX9_melt_82 : decode cX9_melt 82 = .ok (.aload_n 0, 1) := by decide +kernel
theorem dX9_melt_83 : decode cX9_melt 83 = .ok (.getfield 34, 3) := by decide +kernel
theorem dX9_melt_86 : decode cX9_melt 86 = .ok (.iload_n 3, 1) := by decide +kernel
theorem dX9_melt_87 : decode cX9_melt 87 = .ok (.iaload, 1) := by decide +kernel
theorem dX9_melt_88 : decode cX9_melt 88 = .ok (.iload_n 1, 1) := by decide +kernel
theorem dX9_melt_89 : decode cX9_melt 89 = .ok (.iload_n 2, 1) := by decide +kernel
theorem dX9_melt_90 : decode cX9_melt 90 = .ok (.invokestatic 277, 3) := by decide +kernel
theorem dX9_melt_93 : decode cX9_melt 93 = .ok (.iastore, 1) := by decide +kernel
theorem dX9_melt_94 : decode cX9_melt 94 = .ok (.iinc 3 1, 3) := by decide +kernel
theorem dX9_melt_97 : decode cX9_melt 97 = .ok (.goto (-30), 3) := by decide +kernel
theorem dX9_melt_100 : decode cX9_melt 100 = .ok (.iconst 0, 1) := by decide +kernel
theorem dX9_melt_101 : decode cX9_melt 101 = .ok (.istore_n 3, 1) := by decide +kernel
theorem dX9_melt_102 : decode cX9_melt 102 = .ok (.iload_n 3, 1) := by decide +kernel
theorem dX9_melt_103 : decode cX9_melt 103 = .ok (.aload_n 0, 1) := by decide +kernel
theorem dX9_melt_104 : decode cX9_melt 104 = .ok (.getfield 19, 3) := by decide +kernel
theorem dX9_melt_107 : decode cX9_melt 107 = .ok (.iconst 0, 1) := by decide +kernel
theorem dX9_melt_108 : decode cX9_melt 108 = .ok (.iaload, 1) := by decide +kernel
theorem dX9_melt_109 : decode cX9_melt 109 = .ok (.if_icmp .ge 26, 3) := by decide +kernel
theorem dX9_melt_112 : decode cX9_melt 112 = .ok (.aload_n 0, 1) := by decide +kernel
theorem dX9_melt_113 : decode cX9_melt 113 = .ok (.getfield 37, 3) := by decide +kernel
theorem dX9_melt_116 : decode cX9_melt 116 = .ok (.iload_n 3, 1) := by decide +kernel
theorem dX9_melt_117 : decode cX9_melt 117 = .ok (.aload_n 0, 1) := by decide +kernel
theorem dX9_melt_118 : decode cX9_melt 118 = .ok (.getfield 37, 3) := by decide +kernel
theorem dX9_melt_121 : decode cX9_melt 121 = .ok (.iload_n 3, 1) := by decide +kernel
theorem dX9_melt_122 : decode cX9_melt 122 = .ok (.iaload, 1) := by decide +kernel
theorem dX9_melt_123 : decode cX9_melt 123 = .ok (.iload_n 1, 1) := by decide +kernel
theorem dX9_melt_124 : decode cX9_melt 124 = .ok (.iload_n 2, 1) := by decide +kernel
theorem dX9_melt_125 : decode cX9_melt 125 = .ok (.invokestatic 277, 3) := by decide +kernel
theorem dX9_melt_128 : decode cX9_melt 128 = .ok (.iastore, 1) := by decide +kernel
theorem dX9_melt_129 : decode cX9_melt 129 = .ok (.iinc 3 1, 3) := by decide +kernel
theorem dX9_melt_132 : decode cX9_melt 132 = .ok (.goto (-30), 3) := by decide +kernel
theorem dX9_melt_135 : decode cX9_melt 135 = .ok (.iconst 0, 1) := by decide +kernel
theorem dX9_melt_136 : decode cX9_melt 136 = .ok (.istore_n 3, 1) := by decide +kernel
theorem dX9_melt_137 : decode cX9_melt 137 = .ok (.iload_n 3, 1) := by decide +kernel
theorem dX9_melt_138 : decode cX9_melt 138 = .ok (.bipush 10, 2) := by decide +kernel
theorem dX9_melt_140 : decode cX9_melt 140 = .ok (.if_icmp .ge 103, 3) := by decide +kernel
theorem dX9_melt_143 : decode cX9_melt 143 = .ok (.iconst 0, 1) := by decide +kernel
theorem dX9_melt_144 : decode cX9_melt 144 = .ok (.istore 4, 2) := by decide +kernel
theorem dX9_melt_146 : decode cX9_melt 146 = .ok (.iload 4, 2) := by decide +kernel
theorem dX9_melt_148 : decode cX9_melt 148 = .ok (.bipush 10, 2) := by decide +kernel
theorem dX9_melt_150 : decode cX9_melt 150 = .ok (.if_icmp .ge 87, 3) := by decide +kernel
theorem dX9_melt_153 : decode cX9_melt 153 = .ok (.iload_n 3, 1) := by decide +kernel
theorem dX9_melt_154 : decode cX9_melt 154 = .ok (.iload_n 2, 1) := by decide +kernel
theorem dX9_melt_155 : decode cX9_melt 155 = .ok (.if_icmp .lt 9, 3) := by decide +kernel
theorem dX9_melt_158 : decode cX9_melt 158 = .ok (.iload_n 3, 1) := by decide +kernel
theorem dX9_melt_159 : decode cX9_melt 159 = .ok (.iconst 1, 1) := by decide +kernel
theorem dX9_melt_160 : decode cX9_melt 160 = .ok (.iadd, 1) := by decide +kernel
theorem dX9_melt_161 : decode cX9_melt 161 = .ok (.goto 4, 3) := by decide +kernel
theorem dX9_melt_164 : decode cX9_melt 164 = .ok (.iload_n 3, 1) := by decide +kernel
theorem dX9_melt_165 : decode cX9_melt 165 = .ok (.istore 5, 2) := by decide +kernel
theorem dX9_melt_167 : decode cX9_melt 167 = .ok (.iload 4, 2) := by decide +kernel
theorem dX9_melt_169 : decode cX9_melt 169 = .ok (.iload_n 2, 1) := by decide +kernel
theorem dX9_melt_170 : decode cX9_melt 170 = .ok (.if_icmp .lt 10, 3) := by decide +kernel
theorem dX9_melt_173 : decode cX9_melt 173 = .ok (.iload 4, 2) := by decide +kernel
theorem dX9_melt_175 : decode cX9_melt 175 = .ok (.iconst 1, 1) := by decide +kernel
theorem dX9_melt_176 : decode cX9_melt 176 = .ok (.iadd, 1) := by decide +kernel
theorem dX9_melt_177 : decode cX9_melt 177 = .ok (.goto 5, 3) := by decide +kernel
theorem dX9_melt_180 : decode cX9_melt 180 = .ok (.iload 4, 2) := by decide +kernel
theorem dX9_melt_182 : decode cX9_melt 182 = .ok (.istore 6, 2) := by decide +kernel
theorem dX9_melt_184 : decode cX9_melt 184 = .ok (.aload_n 0, 1) := by decide +kernel
theorem dX9_melt_185 : decode cX9_melt 185 = .ok (.getfield 46, 3) := by decide +kernel
theorem dX9_melt_188 : decode cX9_melt 188 = .ok (.bipush 10, 2) := by decide +kernel
theorem dX9_melt_190 : decode cX9_melt 190 = .ok (.iload_n 3, 1) := by decide +kernel
theorem dX9_melt_191 : decode cX9_melt 191 = .ok (.imul, 1) := by decide +kernel
theorem dX9_melt_192 : decode cX9_melt 192 = .ok (.iload 4, 2) := by decide +kernel
theorem dX9_melt_194 : decode cX9_melt 194 = .ok (.iadd, 1) := by decide +kernel
theorem dX9_melt_195 : decode cX9_melt 195 = .ok (.iload 5, 2) := by decide +kernel
theorem dX9_melt_197 : decode cX9_melt 197 = .ok (.bipush 10, 2) := by decide +kernel
theorem dX9_melt_199 : decode cX9_melt 199 = .ok (.if_icmp .ge 30, 3) := by decide +kernel
theorem dX9_melt_202 : decode cX9_melt 202 = .ok (.iload 6, 2) := by decide +kernel
theorem dX9_melt_204 : decode cX9_melt 204 = .ok (.bipush 10, 2) := by decide +kernel
theorem dX9_melt_206 : decode cX9_melt 206 = .ok (.if_icmp .ge 23, 3) := by decide +kernel
theorem dX9_melt_209 : decode cX9_melt 209 = .ok (.aload_n 0, 1) := by decide +kernel
theorem dX9_melt_210 : decode cX9_melt 210 = .ok (.getfield 46, 3) := by decide +kernel
theorem dX9_melt_213 : decode cX9_melt 213 = .ok (.sipush 2100, 3) := by decide +kernel
theorem dX9_melt_216 : decode cX9_melt 216 = .ok (.bipush 10, 2) := by decide +kernel
theorem dX9_melt_218 : decode cX9_melt 218 = .ok (.iload 5, 2) := by decide +kernel
theorem dX9_melt_220 : decode cX9_melt 220 = .ok (.imul, 1) := by decide +kernel
theorem dX9_melt_221 : decode cX9_melt 221 = .ok (.iadd, 1) := by decide +kernel
theorem dX9_melt_222 : decode cX9_melt 222 = .ok (.iload 6, 2) := by decide +kernel
theorem dX9_melt_224 : decode cX9_melt 224 = .ok (.iadd, 1) := by decide +kernel
theorem dX9_melt_225 : decode cX9_melt 225 = .ok (.iaload, 1) := by decide +kernel
theorem dX9_melt_226 : decode cX9_melt 226 = .ok (.goto 4, 3) := by decide +kernel
theorem dX9_melt_229 : decode cX9_melt 229 = .ok (.iconst 0, 1) := by decide +kernel
theorem dX9_melt_230 : decode cX9_melt 230 = .ok (.iastore, 1) := by decide +kernel
theorem dX9_melt_231 : decode cX9_melt 231 = .ok (.iinc 4 1, 3) := by decide +kernel
theorem dX9_melt_234 : decode cX9_melt 234 = .ok (.goto (-88), 3) := by decide +kernel
theorem dX9_melt_237 : decode cX9_melt 237 = .ok (.iinc 3 1, 3) := by decide +kernel
theorem dX9_melt_240 : decode cX9_melt 240 = .ok (.goto (-103), 3) := by decide +kernel
theorem dX9_melt_243 : decode cX9_melt 243 = .ok (.aload_n 0, 1) := by decide +kernel
theorem dX9_melt_244 : decode cX9_melt 244 = .ok (.getfield 7, 3) := by decide +kernel
theorem dX9_melt_247 : decode cX9_melt 247 = .ok (.iconst 0, 1) := by decide +kernel
theorem dX9_melt_248 : decode cX9_melt 248 = .ok (.dup2, 1) := by decide +kernel
theorem dX9_melt_249 : decode cX9_melt 249 = .ok (.iaload, 1) := by decide +kernel
theorem dX9_melt_250 : decode cX9_melt 250 = .ok (.iconst 1, 1) := by decide +kernel
theorem dX9_melt_251 : decode cX9_melt 251 = .ok (.isub, 1) := by decide +kernel
theorem dX9_melt_252 : decode cX9_melt 252 = .ok (.iastore, 1) := by decide +kernel
theorem dX9_melt_253 : decode cX9_melt 253 = .ok (.aload_n 0, 1) := by decide +kernel
theorem dX9_melt_254 : decode cX9_melt 254 = .ok (.iload_n 2, 1) := by decide +kernel
theorem dX9_melt_255 : decode cX9_melt 255 = .ok (.invokevirtual 185, 3) := by decide +kernel
theorem dX9_melt_258 : decode cX9_melt 258 = .ok (.ifCond .eq 12, 3) := by decide +kernel
theorem dX9_melt_261 : decode cX9_melt 261 = .ok (.aload_n 0, 1) := by decide +kernel
theorem dX9_melt_262 : decode cX9_melt 262 = .ok (.getfield 7, 3) := by decide +kernel
theorem dX9_melt_265 : decode cX9_melt 265 = .ok (.iconst 0, 1) := by decide +kernel
theorem dX9_melt_266 : decode cX9_melt 266 = .ok (.iaload, 1) := by decide +kernel
theorem dX9_melt_267 : decode cX9_melt 267 = .ok (.goto 5, 3) := by decide +kernel
theorem dX9_melt_270 : decode cX9_melt 270 = .ok (.bipush (-5), 2) := by decide +kernel
theorem dX9_melt_272 : decode cX9_melt 272 = .ok (.ireturn, 1) := by decide +kernel
theorem dX9_isAct_0 : decode cX9_isAct 0 = .ok (.aload_n 0, 1) := by decide +kernel
theorem dX9_isAct_1 : decode cX9_isAct 1 = .ok (.iload_n 1, 1) := by decide +kernel
theorem dX9_isAct_2 : decode cX9_isAct 2 = .ok (.invokevirtual 172, 3) := by decide +kernel
theorem dX9_isAct_5 : decode cX9_isAct 5 = .ok (.ifCond .eq 23, 3) := by decide +kernel
theorem dX9_isAct_8 : decode cX9_isAct 8 = .ok (.iload_n 2, 1) := by decide +kernel
theorem dX9_isAct_9 : decode cX9_isAct 9 = .ok (.iconst 0, 1) := by decide +kernel
theorem dX9_isAct_10 : decode cX9_isAct 10 = .ok (.aload_n 0, 1) := by decide +kernel
theorem dX9_isAct_11 : decode cX9_isAct 11 = .ok (.getfield 25, 3) := by decide +kernel
theorem dX9_isAct_14 : decode cX9_isAct 14 = .ok (.iload_n 1, 1) := by decide +kernel
theorem dX9_isAct_15 : decode cX9_isAct 15 = .ok (.iaload, 1) := by decide +kernel
theorem dX9_isAct_16 : decode cX9_isAct 16 = .ok (.iconst 1, 1) := by decide +kernel
theorem dX9_isAct_17 : decode cX9_isAct 17 = .ok (.isub, 1) := by decide +kernel
theorem dX9_isAct_18 : decode cX9_isAct 18 = .ok (.invokestatic 117, 3) := by decide +kernel
theorem dX9_isAct_21 : decode cX9_isAct 21 = .ok (.ifCond .eq 7, 3) := by decide +kernel
theorem dX9_isAct_24 : decode cX9_isAct 24 = .ok (.iconst 1, 1) := by decide +kernel
theorem dX9_isAct_25 : decode cX9_isAct 25 = .ok (.goto 4, 3) := by decide +kernel
theorem dX9_isAct_28 : decode cX9_isAct 28 = .ok (.iconst 0, 1) := by decide +kernel
theorem dX9_isAct_29 : decode cX9_isAct 29 = .ok (.ireturn, 1) := by decide +kernel
theorem dX9_turn_0 : decode cX9_turn 0 = .ok (.aload_n 0, 1) := by decide +kernel
theorem dX9_turn_1 : decode cX9_turn 1 = .ok (.iload_n 1, 1) := by decide +kernel
theorem dX9_turn_2 : decode cX9_turn 2 = .ok (.iload_n 2, 1) := by decide +kernel
theorem dX9_turn_3 : decode cX9_turn 3 = .ok (.invokevirtual 281, 3) := by decide +kernel
theorem dX9_turn_6 : decode cX9_turn 6 = .ok (.ifCond .ne 5, 3) := by decide +kernel
theorem dX9_turn_9 : decode cX9_turn 9 = .ok (.iconst (-1), 1) := by decide +kernel
theorem dX9_turn_10 : decode cX9_turn 10 = .ok (.ireturn, 1) := by decide +kernel
theorem dX9_turn_11 : decode cX9_turn 11 = .ok (.bipush 10, 2) := by decide +kernel
theorem dX9_turn_13 : decode cX9_turn 13 = .ok (.iload_n 1, 1) := by decide +kernel
theorem dX9_turn_14 : decode cX9_turn 14 = .ok (.imul, 1) := by decide +kernel
theorem dX9_turn_15 : decode cX9_turn 15 = .ok (.iload_n 2, 1) := by decide +kernel
theorem dX9_turn_16 : decode cX9_turn 16 = .ok (.iadd, 1) := by decide +kernel
theorem dX9_turn_17 : decode cX9_turn 17 = .ok (.istore_n 3, 1) := by decide +kernel
theorem dX9_turn_18 : decode cX9_turn 18 = .ok (.aload_n 0, 1) := by decide +kernel
theorem dX9_turn_19 : decode cX9_turn 19 = .ok (.getfield 49, 3) := by decide +kernel
theorem dX9_turn_22 : decode cX9_turn 22 = .ok (.iload_n 1, 1) := by decide +kernel
theorem dX9_turn_23 : decode cX9_turn 23 = .ok (.baload, 1) := by decide +kernel
theorem dX9_turn_24 : decode cX9_turn 24 = .ok (.ifCond .ne 27, 3) := by decide +kernel
theorem dX9_turn_27 : decode cX9_turn 27 = .ok (.aload_n 0, 1) := by decide +kernel
theorem dX9_turn_28 : decode cX9_turn 28 = .ok (.getfield 28, 3) := by decide +kernel
theorem dX9_turn_31 : decode cX9_turn 31 = .ok (.iload_n 3, 1) := by decide +kernel
theorem dX9_turn_32 : decode cX9_turn 32 = .ok (.iaload, 1) := by decide +kernel
theorem dX9_turn_33 : decode cX9_turn 33 = .ok (.iconst 4, 1) := by decide +kernel
theorem dX9_turn_34 : decode cX9_turn 34 = .ok (.if_icmp .ne 17, 3) := by decide +kernel
theorem dX9_turn_37 : decode cX9_turn 37 = .ok (.aload_n 0, 1) := by decide +kernel
theorem dX9_turn_38 : decode cX9_turn 38 = .ok (.getfield 49, 3) := by decide +kernel
theorem dX9_turn_41 : decode cX9_turn 41 = .ok (.aload_n 0, 1) := by decide +kernel
theorem dX9_turn_42 : decode cX9_turn 42 = .ok (.getfield 31, 3) := by decide +kernel
theorem dX9_turn_45 : decode cX9_turn 45 = .ok (.iload_n 3, 1) := by decide +kernel
theorem dX9_turn_46 : decode cX9_turn 46 = .ok (.iaload, 1) := by decide +kernel
theorem dX9_turn_47 : decode cX9_turn 47 = .ok (.baload, 1) := by decide +kernel
theorem dX9_turn_48 : decode cX9_turn 48 = .ok (.ifCond .eq 6, 3) := by decide +kernel
theorem dX9_turn_51 : decode cX9_turn 51 = .ok (.bipush (-3), 2) := by decide +kernel
theorem dX9_turn_53 : decode cX9_turn 53 = .ok (.ireturn, 1) := by decide +kernel
theorem dX9_turn_54 : decode cX9_turn 54 = .ok (.aload_n 0, 1) := by decide +kernel
theorem dX9_turn_55 : decode cX9_turn 55 = .ok (.getfield 19, 3) := by decide +kernel
theorem dX9_turn_58 : decode cX9_turn 58 = .ok (.iconst 0, 1) := by decide +kernel
theorem dX9_turn_59 : decode cX9_turn 59 = .ok (.iaload, 1) := by decide +kernel
theorem dX9_turn_60 : decode cX9_turn 60 = .ok (.bipush 8, 2) := by decide +kernel
theorem dX9_turn_62 : decode cX9_turn 62 = .ok (.if_icmp .ne 6, 3) := by decide +kernel
theorem dX9_turn_65 : decode cX9_turn 65 = .ok (.bipush (-4), 2) := by decide +kernel
theorem dX9_turn_67 : decode cX9_turn 67 = .ok (.ireturn, 1) := by decide +kernel
theorem dX9_turn_68 : decode cX9_turn 68 = .ok (.aload_n 0, 1) := by decide +kernel
theorem dX9_turn_69 : decode cX9_turn 69 = .ok (.invokevirtual 182, 3) := by decide +kernel
theorem dX9_turn_72 : decode cX9_turn 72 = .ok (.aload_n 0, 1) := by decide +kernel
theorem dX9_turn_73 : decode cX9_turn 73 = .ok (.getfield 31, 3) := by decide +kernel
theorem dX9_turn_76 : decode cX9_turn 76 = .ok (.iload_n 3, 1) := by decide +kernel
theorem dX9_turn_77 : decode cX9_turn 77 = .ok (.iaload, 1) := by decide +kernel
theorem dX9_turn_78 : decode cX9_turn 78 = .ok (.istore 4, 2) := by decide +kernel
theorem dX9_turn_80 : decode cX9_turn 80 = .ok (.aload_n 0, 1) := by decide +kernel
theorem dX9_turn_81 : decode cX9_turn 81 = .ok (.iconst 2, 1) := by decide +kernel
theorem dX9_turn_82 : decode cX9_turn 82 = .ok (.aload_n 0, 1) := by decide +kernel
theorem dX9_turn_83 : decode cX9_turn 83 = .ok (.getfield 22, 3) := by decide +kernel
theorem dX9_turn_86 : decode cX9_turn 86 = .ok (.iload 4, 2) := by decide +kernel
theorem dX9_turn_88 : decode cX9_turn 88 = .ok (.iaload, 1) := by decide +kernel
theorem dX9_turn_89 : decode cX9_turn 89 = .ok (.invokevirtual 135, 3) := by decide +kernel
theorem dX9_turn_92 : decode cX9_turn 92 = .ok (.aload_n 0, 1) := by decide +kernel
theorem dX9_turn_93 : decode cX9_turn 93 = .ok (.getfield 19, 3) := by decide +kernel
theorem dX9_turn_96 : decode cX9_turn 96 = .ok (.iconst 0, 1) := by decide +kernel
theorem dX9_turn_97 : decode cX9_turn 97 = .ok (.iaload, 1) := by decide +kernel
theorem dX9_turn_98 : decode cX9_turn 98 = .ok (.iconst 1, 1) := by decide +kernel
theorem dX9_turn_99 : decode cX9_turn 99 = .ok (.isub, 1) := by decide +kernel
theorem dX9_turn_100 : decode cX9_turn 100 = .ok (.istore 5, 2) := by decide +kernel
theorem dX9_turn_102 : decode cX9_turn 102 = .ok (.aload_n 0, 1) := by decide +kernel
theorem dX9_turn_103 : decode cX9_turn 103 = .ok (.getfield 43, 3) := by decide +kernel
theorem dX9_turn_106 : decode cX9_turn 106 = .ok (.bipush 6, 2) := by decide +kernel
theorem dX9_turn_108 : decode cX9_turn 108 = .ok (.iload 5, 2) := by decide +kernel
theorem dX9_turn_110 : decode cX9_turn 110 = .ok (.imul, 1) := by decide +kernel
theorem dX9_turn_111 : decode cX9_turn 111 = .ok (.iload 4, 2) := by decide +kernel
theorem dX9_turn_113 : decode cX9_turn 113 = .ok (.iastore, 1) := by decide +kernel
theorem dX9_turn_114 : decode cX9_turn 114 = .ok (.aload_n 0, 1) := by decide +kernel
theorem dX9_turn_115 : decode cX9_turn 115 = .ok (.getfield 40, 3) := by decide +kernel
theorem dX9_turn_118 : decode cX9_turn 118 = .ok (.iload 5, 2) := by decide +kernel
theorem dX9_turn_120 : decode cX9_turn 120 = .ok (.iconst 1, 1) := by decide +kernel
theorem dX9_turn_121 : decode cX9_turn 121 = .ok (.iastore, 1) := by decide +kernel
theorem dX9_turn_122 : decode cX9_turn 122 = .ok (.aload_n 0, 1) := by decide +kernel
theorem dX9_turn_123 : decode cX9_turn 123 = .ok (.getfield 28, 3) := by decide +kernel
theorem dX9_turn_126 : decode cX9_turn 126 = .ok (.iload_n 3, 1) := by decide +kernel
theorem dX9_turn_127 : decode cX9_turn 127 = .ok (.bipush 6, 2) := by decide +kernel
theorem dX9_turn_129 : decode cX9_turn 129 = .ok (.iastore, 1) := by decide +kernel
theorem dX9_turn_130 : decode cX9_turn 130 = .ok (.aload_n 0, 1) := by decide +kernel
theorem dX9_turn_131 : decode cX9_turn 131 = .ok (.getfield 31, 3) := by decide +kernel
theorem dX9_turn_134 : decode cX9_turn 134 = .ok (.iload_n 3, 1) := by decide +kernel
theorem dX9_turn_135 : decode cX9_turn 135 = .ok (.iload 5, 2) := by decide +kernel
theorem dX9_turn_137 : decode cX9_turn 137 = .ok (.iastore, 1) := by decide +kernel
theorem dX9_turn_138 : decode cX9_turn 138 = .ok (.aload_n 0, 1) := by decide +kernel
theorem dX9_turn_139 : decode cX9_turn 139 = .ok (.iconst (-1), 1) := by decide +kernel
theorem dX9_turn_140 : decode cX9_turn 140 = .ok (.invokevirtual 185, 3) := by decide +kernel
theorem dX9_turn_143 : decode cX9_turn 143 = .ok (.ifCond .eq 8, 3) := by decide +kernel
theorem dX9_turn_146 : decode cX9_turn 146 = .ok (.iload 5, 2) := by decide +kernel
theorem dX9_turn_148 : decode cX9_turn 148 = .ok (.goto 5, 3) := by decide +kernel
theorem dX9_turn_151 : decode cX9_turn 151 = .ok (.bipush (-5), 2) := by decide +kernel
theorem dX9_turn_153 : decode cX9_turn 153 = .ok (.ireturn, 1) := by decide +kernel
theorem dX9_face_0 : decode cX9_face 0 = .ok (.aload_n 0, 1) := by decide +kernel
theorem dX9_face_1 : decode cX9_face 1 = .ok (.iload_n 1, 1) := by decide +kernel
theorem dX9_face_2 : decode cX9_face 2 = .ok (.iload_n 2, 1) := by decide +kernel
theorem dX9_face_3 : decode cX9_face 3 = .ok (.invokevirtual 281, 3) := by decide +kernel
theorem dX9_face_6 : decode cX9_face 6 = .ok (.ifCond .ne 5, 3) := by decide +kernel
theorem dX9_face_9 : decode cX9_face 9 = .ok (.iconst (-1), 1) := by decide +kernel
theorem dX9_face_10 : decode cX9_face 10 = .ok (.ireturn, 1) := by decide +kernel
theorem dX9_face_11 : decode cX9_face 11 = .ok (.bipush 10, 2) := by decide +kernel
theorem dX9_face_13 : decode cX9_face 13 = .ok (.iload_n 1, 1) := by decide +kernel
theorem dX9_face_14 : decode cX9_face 14 = .ok (.imul, 1) := by decide +kernel
theorem dX9_face_15 : decode cX9_face 15 = .ok (.iload_n 2, 1) := by decide +kernel
theorem dX9_face_16 : decode cX9_face 16 = .ok (.iadd, 1) := by decide +kernel
theorem dX9_face_17 : decode cX9_face 17 = .ok (.istore_n 3, 1) := by decide +kernel
theorem dX9_face_18 : decode cX9_face 18 = .ok (.aload_n 0, 1) := by decide +kernel
theorem dX9_face_19 : decode cX9_face 19 = .ok (.getfield 49, 3) := by decide +kernel
theorem dX9_face_22 : decode cX9_face 22 = .ok (.iload_n 1, 1) := by decide +kernel
theorem dX9_face_23 : decode cX9_face 23 = .ok (.baload, 1) := by decide +kernel
theorem dX9_face_24 : decode cX9_face 24 = .ok (.ifCond .ne 37, 3) := by decide +kernel
theorem dX9_face_27 : decode cX9_face 27 = .ok (.aload_n 0, 1) := by decide +kernel
theorem dX9_face_28 : decode cX9_face 28 = .ok (.getfield 28, 3) := by decide +kernel
theorem dX9_face_31 : decode cX9_face 31 = .ok (.iload_n 3, 1) := by decide +kernel
theorem dX9_face_32 : decode cX9_face 32 = .ok (.iaload, 1) := by decide +kernel
theorem dX9_face_33 : decode cX9_face 33 = .ok (.iconst 4, 1) := by decide +kernel
theorem dX9_face_34 : decode cX9_face 34 = .ok (.if_icmp .eq 13, 3) := by decide +kernel
theorem dX9_face_37 : decode cX9_face 37 = .ok (.aload_n 0, 1) := by decide +kernel
theorem dX9_face_38 : decode cX9_face 38 = .ok (.getfield 28, 3) := by decide +kernel
theorem dX9_face_41 : decode cX9_face 41 = .ok (.iload_n 3, 1) := by decide +kernel
theorem dX9_face_42 : decode cX9_face 42 = .ok (.iaload, 1) := by decide +kernel
theorem dX9_face_43 : decode cX9_face 43 = .ok (.iconst 5, 1) := by decide +kernel
theorem dX9_face_44 : decode cX9_face 44 = .ok (.if_icmp .ne 17, 3) := by decide +kernel
theorem dX9_face_47 : decode cX9_face 47 = .ok (.aload_n 0, 1) := by decide +kernel
theorem dX9_face_48 : decode cX9_face 48 = .ok (.getfield 49, 3) := by decide +kernel
theorem dX9_face_51 : decode cX9_face 51 = .ok (.aload_n 0, 1) := by decide +kernel
theorem dX9_face_52 : decode cX9_face 52 = .ok (.getfield 31, 3) := by decide +kernel
theorem dX9_face_55 : decode cX9_face 55 = .ok (.iload_n 3, 1) := by decide +kernel
theorem dX9_face_56 : decode cX9_face 56 = .ok (.iaload, 1) := by decide +kernel
theorem dX9_face_57 : decode cX9_face 57 = .ok (.baload, 1) := by decide +kernel
theorem dX9_face_58 : decode cX9_face 58 = .ok (.ifCond .eq 6, 3) := by decide +kernel
theorem dX9_face_61 : decode cX9_face 61 = .ok (.bipush (-3), 2) := by decide +kernel
theorem dX9_face_63 : decode cX9_face 63 = .ok (.ireturn, 1) := by decide +kernel
theorem dX9_face_64 : decode cX9_face 64 = .ok (.aload_n 0, 1) := by decide +kernel
theorem dX9_face_65 : decode cX9_face 65 = .ok (.getfield 7, 3) := by decide +kernel
theorem dX9_face_68 : decode cX9_face 68 = .ok (.iconst 0, 1) := by decide +kernel
theorem dX9_face_69 : decode cX9_face 69 = .ok (.iaload, 1) := by decide +kernel
theorem dX9_face_70 : decode cX9_face 70 = .ok (.bipush 10, 2) := by decide +kernel
theorem dX9_face_72 : decode cX9_face 72 = .ok (.if_icmp .eq 14, 3) := by decide +kernel
theorem dX9_face_75 : decode cX9_face 75 = .ok (.aload_n 0, 1) := by decide +kernel
theorem dX9_face_76 : decode cX9_face 76 = .ok (.getfield 13, 3) := by decide +kernel
theorem dX9_face_79 : decode cX9_face 79 = .ok (.iconst 0, 1) := by decide +kernel
theorem dX9_face_80 : decode cX9_face 80 = .ok (.iaload, 1) := by decide +kernel
theorem dX9_face_81 : decode cX9_face 81 = .ok (.bipush 20, 2) := by decide +kernel
theorem dX9_face_83 : decode cX9_face 83 = .ok (.if_icmp .ne 6, 3) := by decide +kernel
theorem dX9_face_86 : decode cX9_face 86 = .ok (.bipush (-4), 2) := by decide +kernel
theorem dX9_face_88 : decode cX9_face 88 = .ok (.ireturn, 1) := by decide +kernel
theorem dX9_face_89 : decode cX9_face 89 = .ok (.aload_n 0, 1) := by decide +kernel
theorem dX9_face_90 : decode cX9_face 90 = .ok (.invokevirtual 182, 3) := by decide +kernel
theorem dX9_face_93 : decode cX9_face 93 = .ok (.aload_n 0, 1) := by decide +kernel
theorem dX9_face_94 : decode cX9_face 94 = .ok (.getfield 13, 3) := by decide +kernel
theorem dX9_face_97 : decode cX9_face 97 = .ok (.iconst 0, 1) := by decide +kernel
theorem dX9_face_98 : decode cX9_face 98 = .ok (.iaload, 1) := by decide +kernel
theorem dX9_face_99 : decode cX9_face 99 = .ok (.istore 4, 2) := by decide +kernel
theorem dX9_face_101 : decode cX9_face 101 = .ok (.aload_n 0, 1) := by decide +kernel
theorem dX9_face_102 : decode cX9_face 102 = .ok (.iconst 0, 1) := by decide +kernel
theorem dX9_face_103 : decode cX9_face 103 = .ok (.aload_n 0, 1) := by decide +kernel
theorem dX9_face_104 : decode cX9_face 104 = .ok (.getfield 7, 3) := by decide +kernel
theorem dX9_face_107 : decode cX9_face 107 = .ok (.iconst 0, 1) := by decide +kernel
theorem dX9_face_108 : decode cX9_face 108 = .ok (.iaload, 1) := by decide +kernel
theorem dX9_face_109 : decode cX9_face 109 = .ok (.invokevirtual 135, 3) := by decide +kernel
theorem dX9_face_112 : decode cX9_face 112 = .ok (.aload_n 0, 1) := by decide +kernel
theorem dX9_face_113 : decode cX9_face 113 = .ok (.invokevirtual 274, 3) := by decide +kernel
theorem dX9_face_116 : decode cX9_face 116 = .ok (.aload_n 0, 1) := by decide +kernel
theorem dX9_face_117 : decode cX9_face 117 = .ok (.getfield 49, 3) := by decide +kernel
theorem dX9_face_120 : decode cX9_face 120 = .ok (.iload 4, 2) := by decide +kernel
theorem dX9_face_122 : decode cX9_face 122 = .ok (.iconst 1, 1) := by decide +kernel
theorem dX9_face_123 : decode cX9_face 123 = .ok (.bastore, 1) := by decide +kernel
theorem dX9_face_124 : decode cX9_face 124 = .ok (.aload_n 0, 1) := by decide +kernel
theorem dX9_face_125 : decode cX9_face 125 = .ok (.getfield 25, 3) := by decide +kernel
theorem dX9_face_128 : decode cX9_face 128 = .ok (.iload 4, 2) := by decide +kernel
theorem dX9_face_130 : decode cX9_face 130 = .ok (.iconst 1, 1) := by decide +kernel
theorem dX9_face_131 : decode cX9_face 131 = .ok (.iastore, 1) := by decide +kernel
theorem dX9_face_132 : decode cX9_face 132 = .ok (.aload_n 0, 1) := by decide +kernel
theorem dX9_face_133 : decode cX9_face 133 = .ok (.getfield 28, 3) := by decide +kernel
theorem dX9_face_136 : decode cX9_face 136 = .ok (.bipush 10, 2) := by decide +kernel
theorem dX9_face_138 : decode cX9_face 138 = .ok (.iload 4, 2) := by decide +kernel
theorem dX9_face_140 : decode cX9_face 140 = .ok (.imul, 1) := by decide +kernel
theorem dX9_face_141 : decode cX9_face 141 = .ok (.iconst 4, 1) := by decide +kernel
theorem dX9_face_142 : decode cX9_face 142 = .ok (.iastore, 1) := by decide +kernel
theorem dX9_face_143 : decode cX9_face 143 = .ok (.aload_n 0, 1) := by decide +kernel
theorem dX9_face_144 : decode cX9_face 144 = .ok (.getfield 31, 3) := by decide +kernel
theorem dX9_face_147 : decode cX9_face 147 = .ok (.bipush 10, 2) := by decide +kernel
theorem dX9_face_149 : decode cX9_face 149 = .ok (.iload 4, 2) := by decide +kernel
theorem dX9_face_151 : decode cX9_face 151 = .ok (.imul, 1) := by decide +kernel
theorem dX9_face_152 : decode cX9_face 152 = .ok (.aload_n 0, 1) := by decide +kernel
theorem dX9_face_153 : decode cX9_face 153 = .ok (.getfield 31, 3) := by decide +kernel
theorem dX9_face_156 : decode cX9_face 156 = .ok (.iload_n 3, 1) := by decide +kernel
theorem dX9_face_157 : decode cX9_face 157 = .ok (.iaload, 1) := by decide +kernel
theorem dX9_face_158 : decode cX9_face 158 = .ok (.iastore, 1) := by decide +kernel
theorem dX9_face_159 : decode cX9_face 159 = .ok (.aload_n 0, 1) := by decide +kernel
theorem dX9_face_160 : decode cX9_face 160 = .ok (.getfield 31, 3) := by decide +kernel
theorem dX9_face_163 : decode cX9_face 163 = .ok (.iload_n 3, 1) := by decide +kernel
theorem dX9_face_164 : decode cX9_face 164 = .ok (.iload 4, 2) := by decide +kernel
theorem dX9_face_166 : decode cX9_face 166 = .ok (.iastore, 1) := by decide +kernel
theorem dX9_face_167 : decode cX9_face 167 = .ok (.aload_n 0, 1) := by decide +kernel
theorem dX9_face_168 : decode cX9_face 168 = .ok (.iconst (-1), 1) := by decide +kernel
theorem dX9_face_169 : decode cX9_face 169 = .ok (.invokevirtual 185, 3) := by decide +kernel
theorem dX9_face_172 : decode cX9_face 172 = .ok (.ifCond .eq 8, 3) := by decide +kernel
theorem dX9_face_175 : decode cX9_face 175 = .ok (.iload 4, 2) := by decide +kernel
theorem dX9_face_177 : decode cX9_face 177 = .ok (.goto 5, 3) := by decide +kernel
theorem dX9_face_180 : decode cX9_face 180 = .ok (.bipush (-5), 2) := by decide +kernel
theorem dX9_face_182 : decode cX9_face 182 = .ok (.ireturn, 1) := by decide +kernel
theorem dX9_pull_0 : decode cX9_pull 0 = .ok (.aload_n 0, 1) := by decide +kernel
theorem dX9_pull_1 : decode cX9_pull 1 = .ok (.iload_n 1, 1) := by decide +kernel
theorem dX9_pull_2 : decode cX9_pull 2 = .ok (.invokevirtual 172, 3) := by decide +kernel
theorem dX9_pull_5 : decode cX9_pull 5 = .ok (.ifCond .ne 5, 3) := by decide +kernel
theorem dX9_pull_8 : decode cX9_pull 8 = .ok (.iconst (-1), 1) := by decide +kernel
theorem dX9_pull_9 : decode cX9_pull 9 = .ok (.ireturn, 1) := by decide +kernel
theorem dX9_pull_10 : decode cX9_pull 10 = .ok (.aload_n 0, 1) := by decide +kernel
theorem dX9_pull_11 : decode cX9_pull 11 = .ok (.getfield 49, 3) := by decide +kernel
theorem dX9_pull_14 : decode cX9_pull 14 = .ok (.iload_n 1, 1) := by decide +kernel
theorem dX9_pull_15 : decode cX9_pull 15 = .ok (.baload, 1) := by decide +kernel
theorem dX9_pull_16 : decode cX9_pull 16 = .ok (.ifCond .ne 6, 3) := by decide +kernel
theorem dX9_pull_19 : decode cX9_pull 19 = .ok (.bipush (-3), 2) := by decide +kernel
theorem dX9_pull_21 : decode cX9_pull 21 = .ok (.ireturn, 1) := by decide +kernel
theorem dX9_pull_22 : decode cX9_pull 22 = .ok (.aload_n 0, 1) := by decide +kernel
theorem dX9_pull_23 : decode cX9_pull 23 = .ok (.invokevirtual 182, 3) := by decide +kernel
theorem dX9_pull_26 : decode cX9_pull 26 = .ok (.aload_n 0, 1) := by decide +kernel
theorem dX9_pull_27 : decode cX9_pull 27 = .ok (.getfield 31, 3) := by decide +kernel
theorem dX9_pull_30 : decode cX9_pull 30 = .ok (.bipush 10, 2) := by decide +kernel
theorem dX9_pull_32 : decode cX9_pull 32 = .ok (.iload_n 1, 1) := by decide +kernel
theorem dX9_pull_33 : decode cX9_pull 33 = .ok (.imul, 1) := by decide +kernel
theorem dX9_pull_34 : decode cX9_pull 34 = .ok (.iaload, 1) := by decide +kernel
theorem dX9_pull_35 : decode cX9_pull 35 = .ok (.istore_n 2, 1) := by decide +kernel
theorem dX9_pull_36 : decode cX9_pull 36 = .ok (.iconst 0, 1) := by decide +kernel
theorem dX9_pull_37 : decode cX9_pull 37 = .ok (.istore_n 3, 1) := by decide +kernel
theorem dX9_pull_38 : decode cX9_pull 38 = .ok (.iconst 0, 1) := by decide +kernel
theorem dX9_pull_39 : decode cX9_pull 39 = .ok (.istore 4, 2) := by decide +kernel
theorem dX9_pull_41 : decode cX9_pull 41 = .ok (.iload 4, 2) := by decide +kernel
theorem dX9_pull_43 : decode cX9_pull 43 = .ok (.aload_n 0, 1) := by decide +kernel
theorem dX9_pull_44 : decode cX9_pull 44 = .ok (.getfield 13, 3) := by decide +kernel
theorem dX9_pull_47 : decode cX9_pull 47 = .ok (.iconst 0, 1) := by decide +kernel
theorem dX9_pull_48 : decode cX9_pull 48 = .ok (.iaload, 1) := by decide +kernel
theorem dX9_pull_49 : decode cX9_pull 49 = .ok (.if_icmp .ge 84, 3) := by decide +kernel
theorem dX9_pull_52 : decode cX9_pull 52 = .ok (.bipush 10, 2) := by decide +kernel
theorem dX9_pull_54 : decode cX9_pull 54 = .ok (.iload 4, 2) := by decide +kernel
theorem dX9_pull_56 : decode cX9_pull 56 = .ok (.imul, 1) := by decide +kernel
theorem dX9_pull_57 : decode cX9_pull 57 = .ok (.istore 5, 2) := by decide +kernel
theorem dX9_pull_59 : decode cX9_pull 59 = .ok (.iload 5, 2) := by decide +kernel
theorem dX9_pull_61 : decode cX9_pull 61 = .ok (.bipush 10, 2) := by decide +kernel
theorem dX9_pull_63 : decode cX9_pull 63 = .ok (.iload 4, 2) := by decide +kernel
theorem dX9_pull_65 : decode cX9_pull 65 = .ok (.imul, 1) := by decide +kernel
theorem dX9_pull_66 : decode cX9_pull 66 = .ok (.aload_n 0, 1) := by decide +kernel
theorem dX9_pull_67 : decode cX9_pull 67 = .ok (.getfield 25, 3) := by decide +kernel
theorem dX9_pull_70 : decode cX9_pull 70 = .ok (.iload 4, 2) := by decide +kernel
theorem dX9_pull_72 : decode cX9_pull 72 = .ok (.iaload, 1) := by decide +kernel
theorem dX9_pull_73 : decode cX9_pull 73 = .ok (.iadd, 1) := by decide +kernel
theorem dX9_pull_74 : decode cX9_pull 74 = .ok (.if_icmp .ge 53, 3) := by decide +kernel
theorem dX9_pull_77 : decode cX9_pull 77 = .ok (.aload_n 0, 1) := by decide +kernel
theorem dX9_pull_78 : decode cX9_pull 78 = .ok (.getfield 28, 3) := by decide +kernel
theorem dX9_pull_81 : decode cX9_pull 81 = .ok (.iload 5, 2) := by decide +kernel
theorem dX9_pull_83 : decode cX9_pull 83 = .ok (.iaload, 1) := by decide +kernel
theorem dX9_pull_84 : decode cX9_pull 84 = .ok (.iconst 4, 1) := by decide +kernel
theorem dX9_pull_85 : decode cX9_pull 85 = .ok (.if_icmp .eq 14, 3) := by decide +kernel
theorem dX9_pull_88 : decode cX9_pull 88 = .ok (.aload_n 0, 1) := by decide +kernel
theorem dX9_pull_89 : decode cX9_pull 89 = .ok (.getfield 28, 3) := by decide +kernel
theorem dX9_pull_92 : decode cX9_pull 92 = .ok (.iload 5, 2) := by decide +kernel
theorem dX9_pull_94 : decode cX9_pull 94 = .ok (.iaload, 1) := by decide +kernel
theorem dX9_pull_95 : decode cX9_pull 95 = .ok (.iconst 5, 1) := by decide +kernel
theorem dX9_pull_96 : decode cX9_pull 96 = .ok (.if_icmp .ne 25, 3) := by decide +kernel
theorem dX9_pull_99 : decode cX9_pull 99 = .ok (.aload_n 0, 1) := by decide +kernel
theorem dX9_pull_100 : decode cX9_pull 100 = .ok (.getfield 31, 3) := by decide +kernel
theorem dX9_pull_103 : decode cX9_pull 103 = .ok (.iload 5, 2) := by decide +kernel
theorem dX9_pull_105 : decode cX9_pull 105 = .ok (.iaload, 1) := by decide +kernel
theorem dX9_pull_106 : decode cX9_pull 106 = .ok (.iload_n 1, 1) := by decide +kernel
theorem dX9_pull_107 : decode cX9_pull 107 = .ok (.if_icmp .ne 14, 3) := by decide +kernel
theorem dX9_pull_110 : decode cX9_pull 110 = .ok (.aload_n 0, 1) := by decide +kernel
theorem dX9_pull_111 : decode cX9_pull 111 = .ok (.getfield 31, 3) := by decide +kernel
theorem dX9_pull_114 : decode cX9_pull 114 = .ok (.iload 5, 2) := by decide +kernel
theorem dX9_pull_116 : decode cX9_pull 116 = .ok (.iload_n 2, 1) := by decide +kernel
theorem dX9_pull_117 : decode cX9_pull 117 = .ok (.iastore, 1) := by decide +kernel
theorem dX9_pull_118 : decode cX9_pull 118 = .ok (.iinc 3 1, 3) := by decide +kernel
theorem dX9_pull_121 : decode cX9_pull 121 = .ok (.iinc 5 1, 3) := by decide +kernel
theorem dX9_pull_124 : decode cX9_pull 124 = .ok (.goto (-65), 3) := by decide +kernel
theorem dX9_pull_127 : decode cX9_pull 127 = .ok (.iinc 4 1, 3) := by decide +kernel
theorem dX9_pull_130 : decode cX9_pull 130 = .ok (.goto (-89), 3) := by decide +kernel
theorem dX9_pull_133 : decode cX9_pull 133 = .ok (.aload_n 0, 1) := by decide +kernel
theorem dX9_pull_134 : decode cX9_pull 134 = .ok (.getfield 25, 3) := by decide +kernel
theorem dX9_pull_137 : decode cX9_pull 137 = .ok (.iload_n 1, 1) := by decide +kernel
theorem dX9_pull_138 : decode cX9_pull 138 = .ok (.iconst 0, 1) := by decide +kernel
theorem dX9_pull_139 : decode cX9_pull 139 = .ok (.iastore, 1) := by decide +kernel
theorem dX9_pull_140 : decode cX9_pull 140 = .ok (.aload_n 0, 1) := by decide +kernel
theorem dX9_pull_141 : decode cX9_pull 141 = .ok (.getfield 49, 3) := by decide +kernel
theorem dX9_pull_144 : decode cX9_pull 144 = .ok (.iload_n 1, 1) := by decide +kernel
theorem dX9_pull_145 : decode cX9_pull 145 = .ok (.iconst 0, 1) := by decide +kernel
theorem dX9_pull_146 : decode cX9_pull 146 = .ok (.bastore, 1) := by decide +kernel
theorem dX9_pull_147 : decode cX9_pull 147 = .ok (.aload_n 0, 1) := by decide +kernel
theorem dX9_pull_148 : decode cX9_pull 148 = .ok (.iconst (-1), 1) := by decide +kernel
theorem dX9_pull_149 : decode cX9_pull 149 = .ok (.invokevirtual 185, 3) := by decide +kernel
theorem dX9_pull_152 : decode cX9_pull 152 = .ok (.ifCond .eq 7, 3) := by decide +kernel
theorem dX9_pull_155 : decode cX9_pull 155 = .ok (.iload_n 3, 1) := by decide +kernel
theorem dX9_pull_156 : decode cX9_pull 156 = .ok (.goto 5, 3) := by decide +kernel
theorem dX9_pull_159 : decode cX9_pull 159 = .ok (.bipush (-5), 2) := by decide +kernel
theorem dX9_pull_161 : decode cX9_pull 161 = .ok (.ireturn, 1) := by decide +kernel
theorem dX9_back_0 : decode cX9_back 0 = .ok (.aload_n 0, 1) := by decide +kernel
theorem dX9_back_1 : decode cX9_back 1 = .ok (.getfield 121, 3) := by decide +kernel
theorem dX9_back_4 : decode cX9_back 4 = .ok (.ifCond .ne 6, 3) := by decide +kernel
theorem dX9_back_7 : decode cX9_back 7 = .ok (.bipush (-3), 2) := by decide +kernel
theorem dX9_back_9 : decode cX9_back 9 = .ok (.ireturn, 1) := by decide +kernel
theorem dX9_back_10 : decode cX9_back 10 = .ok (.aload_n 0, 1) := by decide +kernel
theorem dX9_back_11 : decode cX9_back 11 = .ok (.aload_n 0, 1) := by decide +kernel
theorem dX9_back_12 : decode cX9_back 12 = .ok (.getfield 121, 3) := by decide +kernel
theorem dX9_back_15 : decode cX9_back 15 = .ok (.iconst 0, 1) := by decide +kernel
theorem dX9_back_16 : decode cX9_back 16 = .ok (.invokevirtual 124, 3) := by decide +kernel
theorem dX9_back_19 : decode cX9_back 19 = .ok (.aload_n 0, 1) := by decide +kernel
theorem dX9_back_20 : decode cX9_back 20 = .ok (.dup, 1) := by decide +kernel
theorem dX9_back_21 : decode cX9_back 21 = .ok (.getfield 121, 3) := by decide +kernel
theorem dX9_back_24 : decode cX9_back 24 = .ok (.iconst 1, 1) := by decide +kernel
theorem dX9_back_25 : decode cX9_back 25 = .ok (.isub, 1) := by decide +kernel
theorem dX9_back_26 : decode cX9_back 26 = .ok (.putfield 121, 3) := by decide +kernel
theorem dX9_back_29 : decode cX9_back 29 = .ok (.aload_n 0, 1) := by decide +kernel
theorem dX9_back_30 : decode cX9_back 30 = .ok (.getfield 121, 3) := by decide +kernel
theorem dX9_back_33 : decode cX9_back 33 = .ok (.ireturn, 1) := by decide +kernel
theorem dX9_count_0 : decode cX9_count 0 = .ok (.iconst 0, 1) := by decide +kernel
theorem dX9_count_1 : decode cX9_count 1 = .ok (.istore_n 2, 1) := by decide +kernel
theorem dX9_count_2 : decode cX9_count 2 = .ok (.iload_n 1, 1) := by decide +kernel
theorem dX9_count_3 : decode cX9_count 3 = .ok (.tableswitch 199 0 9 #[53, 60, 67, 74, 81, 118, 147, 184, 189, 194], 53) := by decide +kernel
theorem dX9_count_56 : decode cX9_count 56 = .ok (.aload_n 0, 1) := by decide +kernel
theorem dX9_count_57 : decode cX9_count 57 = .ok (.getfield 7, 3) := by decide +kernel
theorem dX9_count_60 : decode cX9_count 60 = .ok (.iconst 0, 1) := by decide +kernel
theorem dX9_count_61 : decode cX9_count 61 = .ok (.iaload, 1) := by decide +kernel
theorem dX9_count_62 : decode cX9_count 62 = .ok (.ireturn, 1) := by decide +kernel
theorem dX9_count_63 : decode cX9_count 63 = .ok (.aload_n 0, 1) := by decide +kernel
theorem dX9_count_64 : decode cX9_count 64 = .ok (.getfield 13, 3) := by decide +kernel
theorem dX9_count_67 : decode cX9_count 67 = .ok (.iconst 0, 1) := by decide +kernel
theorem dX9_count_68 : decode cX9_count 68 = .ok (.iaload, 1) := by decide +kernel
theorem dX9_count_69 : decode cX9_count 69 = .ok (.ireturn, 1) := by decide +kernel
theorem dX9_count_70 : decode cX9_count 70 = .ok (.aload_n 0, 1) := by decide +kernel
theorem dX9_count_71 : decode cX9_count 71 = .ok (.getfield 16, 3) := by decide +kernel
theorem dX9_count_74 : decode cX9_count 74 = .ok (.iconst 0, 1) := by decide +kernel
theorem dX9_count_75 : decode cX9_count 75 = .ok (.iaload, 1) := by decide +kernel
theorem dX9_count_76 : decode cX9_count 76 = .ok (.ireturn, 1) := by decide +kernel
theorem dX9_count_77 : decode cX9_count 77 = .ok (.aload_n 0, 1) := by decide +kernel
theorem dX9_count_78 : decode cX9_count 78 = .ok (.getfield 19, 3) := by decide +kernel
theorem dX9_count_81 : decode cX9_count 81 = .ok (.iconst 0, 1) := by decide +kernel
theorem dX9_count_82 : decode cX9_count 82 = .ok (.iaload, 1) := by decide +kernel
theorem dX9_count_83 : decode cX9_count 83 = .ok (.ireturn, 1) := by decide +kernel
theorem dX9_count_84 : decode cX9_count 84 = .ok (.aload_n 0, 1) := by decide +kernel
theorem dX9_count_85 : decode cX9_count 85 = .ok (.invokevirtual 224, 3) := by decide +kernel
theorem dX9_count_88 : decode cX9_count 88 = .ok (.iconst 0, 1) := by decide +kernel
theorem dX9_count_89 : decode cX9_count 89 = .ok (.istore_n 3, 1) := by decide +kernel
theorem dX9_count_90 : decode cX9_count 90 = .ok (.iload_n 3, 1) := by decide +kernel
theorem dX9_count_91 : decode cX9_count 91 = .ok (.bipush 100, 2) := by decide +kernel
theorem dX9_count_93 : decode cX9_count 93 = .ok (.if_icmp .ge 26, 3) := by decide +kernel
theorem dX9_count_96 : decode cX9_count 96 = .ok (.iload_n 2, 1) := by decide +kernel
theorem dX9_count_97 : decode cX9_count 97 = .ok (.aload_n 0, 1) := by decide +kernel
theorem dX9_count_98 : decode cX9_count 98 = .ok (.getfield 81, 3) := by decide +kernel
theorem dX9_count_101 : decode cX9_count 101 = .ok (.iload_n 3, 1) := by decide +kernel
theorem dX9_count_102 : decode cX9_count 102 = .ok (.iaload, 1) := by decide +kernel
theorem dX9_count_103 : decode cX9_count 103 = .ok (.ifCond .le 7, 3) := by decide +kernel
theorem dX9_count_106 : decode cX9_count 106 = .ok (.iconst 1, 1) := by decide +kernel
theorem dX9_count_107 : decode cX9_count 107 = .ok (.goto 4, 3) := by decide +kernel
theorem dX9_count_110 : decode cX9_count 110 = .ok (.iconst 0, 1) := by decide +kernel
theorem dX9_count_111 : decode cX9_count 111 = .ok (.iadd, 1) := by decide +kernel
theorem dX9_count_112 : decode cX9_count 112 = .ok (.istore_n 2, 1) := by decide +kernel
theorem dX9_count_113 : decode cX9_count 113 = .ok (.iinc 3 1, 3) := by decide +kernel
theorem dX9_count_116 : decode cX9_count 116 = .ok (.goto (-26), 3) := by decide +kernel
theorem dX9_count_119 : decode cX9_count 119 = .ok (.iload_n 2, 1) := by decide +kernel
theorem dX9_count_120 : decode cX9_count 120 = .ok (.ireturn, 1) := by decide +kernel
theorem dX9_count_121 : decode cX9_count 121 = .ok (.iconst 0, 1) := by decide +kernel
theorem dX9_count_122 : decode cX9_count 122 = .ok (.istore_n 3, 1) := by decide +kernel
theorem dX9_count_123 : decode cX9_count 123 = .ok (.iload_n 3, 1) := by decide +kernel
theorem dX9_count_124 : decode cX9_count 124 = .ok (.aload_n 0, 1) := by decide +kernel
theorem dX9_count_125 : decode cX9_count 125 = .ok (.getfield 13, 3) := by decide +kernel
theorem dX9_count_128 : decode cX9_count 128 = .ok (.iconst 0, 1) := by decide +kernel
theorem dX9_count_129 : decode cX9_count 129 = .ok (.iaload, 1) := by decide +kernel
theorem dX9_count_130 : decode cX9_count 130 = .ok (.if_icmp .ge 18, 3) := by decide +kernel
theorem dX9_count_133 : decode cX9_count 133 = .ok (.iload_n 2, 1) := by decide +kernel
theorem dX9_count_134 : decode cX9_count 134 = .ok (.aload_n 0, 1) := by decide +kernel
theorem dX9_count_135 : decode cX9_count 135 = .ok (.getfield 25, 3) := by decide +kernel
theorem dX9_count_138 : decode cX9_count 138 = .ok (.iload_n 3, 1) := by decide +kernel
theorem dX9_count_139 : decode cX9_count 139 = .ok (.iaload, 1) := by decide +kernel
theorem dX9_count_140 : decode cX9_count 140 = .ok (.iadd, 1) := by decide +kernel
theorem dX9_count_141 : decode cX9_count 141 = .ok (.istore_n 2, 1) := by decide +kernel
theorem dX9_count_142 : decode cX9_count 142 = .ok (.iinc 3 1, 3) := by decide +kernel
theorem dX9_count_145 : decode cX9_count 145 = .ok (.goto (-22), 3) := by decide +kernel
theorem dX9_count_148 : decode cX9_count 148 = .ok (.iload_n 2, 1) := by decide +kernel
theorem dX9_count_149 : decode cX9_count 149 = .ok (.ireturn, 1) := by decide +kernel
theorem dX9_count_150 : decode cX9_count 150 = .ok (.iconst 0, 1) := by decide +kernel
theorem dX9_count_151 : decode cX9_count 151 = .ok (.istore_n 3, 1) := by decide +kernel
theorem dX9_count_152 : decode cX9_count 152 = .ok (.iload_n 3, 1) := by decide +kernel
theorem dX9_count_153 : decode cX9_count 153 = .ok (.aload_n 0, 1) := by decide +kernel
theorem dX9_count_154 : decode cX9_count 154 = .ok (.getfield 13, 3) := by decide +kernel
theorem dX9_count_157 : decode cX9_count 157 = .ok (.iconst 0, 1) := by decide +kernel
theorem dX9_count_158 : decode cX9_count 158 = .ok (.iaload, 1) := by decide +kernel
theorem dX9_count_159 : decode cX9_count 159 = .ok (.if_icmp .ge 26, 3) := by decide +kernel
theorem dX9_count_162 : decode cX9_count 162 = .ok (.iload_n 2, 1) := by decide +kernel
theorem dX9_count_163 : decode cX9_count 163 = .ok (.aload_n 0, 1) := by decide +kernel
theorem dX9_count_164 : decode cX9_count 164 = .ok (.getfield 49, 3) := by decide +kernel
theorem dX9_count_167 : decode cX9_count 167 = .ok (.iload_n 3, 1) := by decide +kernel
theorem dX9_count_168 : decode cX9_count 168 = .ok (.baload, 1) := by decide +kernel
theorem dX9_count_169 : decode cX9_count 169 = .ok (.ifCond .eq 7, 3) := by decide +kernel
theorem dX9_count_172 : decode cX9_count 172 = .ok (.iconst 1, 1) := by decide +kernel
theorem dX9_count_173 : decode cX9_count 173 = .ok (.goto 4, 3) := by decide +kernel
theorem dX9_count_176 : decode cX9_count 176 = .ok (.iconst 0, 1) := by decide +kernel
theorem dX9_count_177 : decode cX9_count 177 = .ok (.iadd, 1) := by decide +kernel
theorem dX9_count_178 : decode cX9_count 178 = .ok (.istore_n 2, 1) := by decide +kernel
theorem dX9_count_179 : decode cX9_count 179 = .ok (.iinc 3 1, 3) := by decide +kernel
theorem dX9_count_182 : decode cX9_count 182 = .ok (.goto (-30), 3) := by decide +kernel
theorem dX9_count_185 : decode cX9_count 185 = .ok (.iload_n 2, 1) := by decide +kernel
theorem dX9_count_186 : decode cX9_count 186 = .ok (.ireturn, 1) := by decide +kernel
theorem dX9_count_187 : decode cX9_count 187 = .ok (.aload_n 0, 1) := by decide +kernel
theorem dX9_count_188 : decode cX9_count 188 = .ok (.getfield 121, 3) := by decide +kernel
theorem dX9_count_191 : decode cX9_count 191 = .ok (.ireturn, 1) := by decide +kernel
theorem dX9_count_192 : decode cX9_count 192 = .ok (.aload_n 0, 1) := by decide +kernel
theorem dX9_count_193 : decode cX9_count 193 = .ok (.getfield 217, 3) := by decide +kernel
theorem dX9_count_196 : decode cX9_count 196 = .ok (.ireturn, 1) := by decide +kernel
theorem dX9_count_197 : decode cX9_count 197 = .ok (.aload_n 0, 1) := by decide +kernel
theorem dX9_count_198 : decode cX9_count 198 = .ok (.getfield 146, 3) := by decide +kernel
theorem dX9_count_201 : decode cX9_count 201 = .ok (.ireturn, 1) := by decide +kernel
theorem dX9_count_202 : decode cX9_count 202 = .ok (.iconst (-1), 1) := by decide +kernel
theorem dX9_count_203 : decode cX9_count 203 = .ok (.ireturn, 1) := by decide +kernel
