theorem dX7_nextOf_90 : decode cX7_nextOf 90 = .ok (.iconst 1, 1) := by decide +kernel
theorem dX7_nextOf_91 : decode cX7_nextOf 91 = .ok (.iload 5, 2) := by decide +kernel
theorem dX7_nextOf_93 : decode cX7_nextOf 93 = .ok (.ishl, 1) := by decide +kernel
theorem dX7_nextOf_94 : decode cX7_nextOf 94 = .ok (.goto 4, 3) := by decide +kernel
theorem dX7_nextOf_97 : decode cX7_nextOf 97 = .ok (.iconst 0, 1) := by decide +kernel
theorem dX7_nextOf_98 : decode cX7_nextOf 98 = .ok (.ior, 1) := by decide +kernel
theorem dX7_nextOf_99 : decode cX7_nextOf 99 = .ok (.istore 4, 2) := by decide +kernel
theorem dX7_nextOf_101 : decode cX7_nextOf 101 = .ok (.iinc 5 1, 3) := by decide +kernel
theorem dX7_nextOf_104 : decode cX7_nextOf 104 = .ok (.goto (-47), 3) := by decide +kernel
theorem dX7_nextOf_107 : decode cX7_nextOf 107 = .ok (.iload 4, 2) := by decide +kernel
theorem dX7_nextOf_109 : decode cX7_nextOf 109 = .ok (.ireturn, 1) := by decide +kernel
theorem dX7_rowOf_0 : decode cX7_rowOf 0 = .ok (.iconst 0, 1) := by decide +kernel
theorem dX7_rowOf_1 : decode cX7_rowOf 1 = .ok (.istore_n 2, 1) := by decide +kernel
theorem dX7_rowOf_2 : decode cX7_rowOf 2 = .ok (.iconst 0, 1) := by decide +kernel
theorem dX7_rowOf_3 : decode cX7_rowOf 3 = .ok (.istore_n 3, 1) := by decide +kernel
theorem dX7_rowOf_4 : decode cX7_rowOf 4 = .ok (.iload_n 3, 1) := by decide +kernel
theorem dX7_rowOf_5 : decode cX7_rowOf 5 = .ok (.aload_n 0, 1) := by decide +kernel
theorem dX7_rowOf_6 : decode cX7_rowOf 6 = .ok (.getfield 91, 3) := by decide +kernel
theorem dX7_rowOf_9 : decode cX7_rowOf 9 = .ok (.if_icmp .ge 33, 3) := by decide +kernel
theorem dX7_rowOf_12 : decode cX7_rowOf 12 = .ok (.iload_n 2, 1) := by decide +kernel
theorem dX7_rowOf_13 : decode cX7_rowOf 13 = .ok (.iload_n 1, 1) := by decide +kernel
theorem dX7_rowOf_14 : decode cX7_rowOf 14 = .ok (.iload_n 3, 1) := by decide +kernel
theorem dX7_rowOf_15 : decode cX7_rowOf 15 = .ok (.ishr, 1) := by decide +kernel
theorem dX7_rowOf_16 : decode cX7_rowOf 16 = .ok (.iconst 1, 1) := by decide +kernel
theorem dX7_rowOf_17 : decode cX7_rowOf 17 = .ok (.iand, 1) := by decide +kernel
theorem dX7_rowOf_18 : decode cX7_rowOf 18 = .ok (.iconst 1, 1) := by decide +kernel
theorem dX7_rowOf_19 : decode cX7_rowOf 19 = .ok (.if_icmp .ne 14, 3) := by decide +kernel
theorem dX7_rowOf_22 : decode cX7_rowOf 22 = .ok (.iconst 1, 1) := by decide +kernel
theorem dX7_rowOf_23 : decode cX7_rowOf 23 = .ok (.aload_n 0, 1) := by decide +kernel
theorem dX7_rowOf_24 : decode cX7_rowOf 24 = .ok (.getfield 49, 3) := by decide +kernel
theorem dX7_rowOf_27 : decode cX7_rowOf 27 = .ok (.iload_n 3, 1) := by decide +kernel
theorem dX7_rowOf_28 : decode cX7_rowOf 28 = .ok (.iaload, 1) := by decide +kernel
theorem dX7_rowOf_29 : decode cX7_rowOf 29 = .ok (.ishl, 1) := by decide +kernel
theorem dX7_rowOf_30 : decode cX7_rowOf 30 = .ok (.goto 4, 3) := by decide +kernel
theorem dX7_rowOf_33 : decode cX7_rowOf 33 = .ok (.iconst 0, 1) := by decide +kernel
theorem dX7_rowOf_34 : decode cX7_rowOf 34 = .ok (.ior, 1) := by decide +kernel
theorem dX7_rowOf_35 : decode cX7_rowOf 35 = .ok (.istore_n 2, 1) := by decide +kernel
theorem dX7_rowOf_36 : decode cX7_rowOf 36 = .ok (.iinc 3 1, 3) := by decide +kernel
theorem dX7_rowOf_39 : decode cX7_rowOf 39 = .ok (.goto (-35), 3) := by decide +kernel
theorem dX7_rowOf_42 : decode cX7_rowOf 42 = .ok (.iload_n 2, 1) := by decide +kernel
theorem dX7_rowOf_43 : decode cX7_rowOf 43 = .ok (.ireturn, 1) := by decide +kernel
theorem dX7_layLabels_0 : decode cX7_layLabels 0 = .ok (.iload_n 1, 1) := by decide +kernel
theorem dX7_layLabels_1 : decode cX7_layLabels 1 = .ok (.istore_n 2, 1) := by decide +kernel
theorem dX7_layLabels_2 : decode cX7_layLabels 2 = .ok (.iconst 0, 1) := by decide +kernel
theorem dX7_layLabels_3 : decode cX7_layLabels 3 = .ok (.istore_n 3, 1) := by decide +kernel
theorem dX7_layLabels_4 : decode cX7_layLabels 4 = .ok (.iload_n 3, 1) := by decide +kernel
theorem dX7_layLabels_5 : decode cX7_layLabels 5 = .ok (.bipush 10, 2) := by decide +kernel
theorem dX7_layLabels_7 : decode cX7_layLabels 7 = .ok (.if_icmp .ge 16, 3) := by decide +kernel
theorem dX7_layLabels_10 : decode cX7_layLabels 10 = .ok (.aload_n 0, 1) := by decide +kernel
theorem dX7_layLabels_11 : decode cX7_layLabels 11 = .ok (.getfield 49, 3) := by decide +kernel
theorem dX7_layLabels_14 : decode cX7_layLabels 14 = .ok (.iload_n 3, 1) := by decide +kernel
theorem dX7_layLabels_15 : decode cX7_layLabels 15 = .ok (.iconst 0, 1) := by decide +kernel
theorem dX7_layLabels_16 : decode cX7_layLabels 16 = .ok (.iastore, 1) := by decide +kernel
theorem dX7_layLabels_17 : decode cX7_layLabels 17 = .ok (.iinc 3 1, 3) := by decide +kernel
theorem dX7_layLabels_20 : decode cX7_layLabels 20 = .ok (.goto (-16), 3) := by decide +kernel
theorem dX7_layLabels_23 : decode cX7_layLabels 23 = .ok (.iconst 1, 1) := by decide +kernel
theorem dX7_layLabels_24 : decode cX7_layLabels 24 = .ok (.istore_n 3, 1) := by decide +kernel
theorem dX7_layLabels_25 : decode cX7_layLabels 25 = .ok (.iload_n 2, 1) := by decide +kernel
theorem dX7_layLabels_26 : decode cX7_layLabels 26 = .ok (.ifCond .eq 107, 3) := by decide +kernel
theorem dX7_layLabels_29 : decode cX7_layLabels 29 = .ok (.bipush (-3), 2) := by decide +kernel
theorem dX7_layLabels_31 : decode cX7_layLabels 31 = .ok (.istore 4, 2) := by decide +kernel
theorem dX7_layLabels_33 : decode cX7_layLabels 33 = .ok (.iconst 0, 1) := by decide +kernel
theorem dX7_layLabels_34 : decode cX7_layLabels 34 = .ok (.istore 5, 2) := by decide +kernel
theorem dX7_layLabels_36 : decode cX7_layLabels 36 = .ok (.iconst 0, 1) := by decide +kernel
theorem dX7_layLabels_37 : decode cX7_layLabels 37 = .ok (.istore 6, 2) := by decide +kernel
theorem dX7_layLabels_39 : decode cX7_layLabels 39 = .ok (.iload 6, 2) := by decide +kernel
theorem dX7_layLabels_41 : decode cX7_layLabels 41 = .ok (.aload_n 0, 1) := by decide +kernel
theorem dX7_layLabels_42 : decode cX7_layLabels 42 = .ok (.getfield 91, 3) := by decide +kernel
theorem dX7_layLabels_45 : decode cX7_layLabels 45 = .ok (.if_icmp .ge 65, 3) := by decide +kernel
theorem dX7_layLabels_48 : decode cX7_layLabels 48 = .ok (.aload_n 0, 1) := by decide +kernel
theorem dX7_layLabels_49 : decode cX7_layLabels 49 = .ok (.iload 6, 2) := by decide +kernel
theorem dX7_layLabels_51 : decode cX7_layLabels 51 = .ok (.iload_n 1, 1) := by decide +kernel
theorem dX7_layLabels_52 : decode cX7_layLabels 52 = .ok (.invokevirtual 136, 3) := by decide +kernel
theorem dX7_layLabels_55 : decode cX7_layLabels 55 = .ok (.istore 7, 2) := by decide +kernel
theorem dX7_layLabels_57 : decode cX7_layLabels 57 = .ok (.iload_n 2, 1) := by decide +kernel
theorem dX7_layLabels_58 : decode cX7_layLabels 58 = .ok (.iload 6, 2) := by decide +kernel
theorem dX7_layLabels_60 : decode cX7_layLabels 60 = .ok (.ishr, 1) := by decide +kernel
theorem dX7_layLabels_61 : decode cX7_layLabels 61 = .ok (.iconst 1, 1) := by decide +kernel
theorem dX7_layLabels_62 : decode cX7_layLabels 62 = .ok (.iand, 1) := by decide +kernel
theorem dX7_layLabels_63 : decode cX7_layLabels 63 = .ok (.iconst 1, 1) := by decide +kernel
theorem dX7_layLabels_64 : decode cX7_layLabels 64 = .ok (.if_icmp .ne 40, 3) := by decide +kernel
theorem dX7_layLabels_67 : decode cX7_layLabels 67 = .ok (.iload 7, 2) := by decide +kernel
theorem dX7_layLabels_69 : decode cX7_layLabels 69 = .ok (.iload_n 2, 1) := by decide +kernel
theorem dX7_layLabels_70 : decode cX7_layLabels 70 = .ok (.iand, 1) := by decide +kernel
theorem dX7_layLabels_71 : decode cX7_layLabels 71 = .ok (.ifCond .ne 33, 3) := by decide +kernel
theorem dX7_layLabels_74 : decode cX7_layLabels 74 = .ok (.aload_n 0, 1) := by decide +kernel
theorem dX7_layLabels_75 : decode cX7_layLabels 75 = .ok (.iload 7, 2) := by decide +kernel
theorem dX7_layLabels_77 : decode cX7_layLabels 77 = .ok (.invokevirtual 139, 3) := by decide +kernel
theorem dX7_layLabels_80 : decode cX7_layLabels 80 = .ok (.istore 8, 2) := by decide +kernel
theorem dX7_layLabels_82 : decode cX7_layLabels 82 = .ok (.iload 4, 2) := by decide +kernel
theorem dX7_layLabels_84 : decode cX7_layLabels 84 = .ok (.bipush (-3), 2) := by decide +kernel
theorem dX7_layLabels_86 : decode cX7_layLabels 86 = .ok (.if_icmp .eq 10, 3) := by decide +kernel
theorem dX7_layLabels_89 : decode cX7_layLabels 89 = .ok (.iload 8, 2) := by decide +kernel
theorem dX7_layLabels_91 : decode cX7_layLabels 91 = .ok (.iload 5, 2) := by decide +kernel
theorem dX7_layLabels_93 : decode cX7_layLabels 93 = .ok (.if_icmp .ge 11, 3) := by decide +kernel
theorem dX7_layLabels_96 : decode cX7_layLabels 96 = .ok (.iload 6, 2) := by decide +kernel
theorem dX7_layLabels_98 : decode cX7_layLabels 98 = .ok (.istore 4, 2) := by decide +kernel
theorem dX7_layLabels_100 : decode cX7_layLabels 100 = .ok (.iload 8, 2) := by decide +kernel
theorem dX7_layLabels_102 : decode cX7_layLabels 102 = .ok (.istore 5, 2) := by decide +kernel
theorem dX7_layLabels_104 : decode cX7_layLabels 104 = .ok (.iinc 6 1, 3) := by decide +kernel
theorem dX7_layLabels_107 : decode cX7_layLabels 107 = .ok (.goto (-68), 3) := by decide +kernel
theorem dX7_layLabels_110 : decode cX7_layLabels 110 = .ok (.aload_n 0, 1) := by decide +kernel
theorem dX7_layLabels_111 : decode cX7_layLabels 111 = .ok (.getfield 49, 3) := by decide +kernel
theorem dX7_layLabels_114 : decode cX7_layLabels 114 = .ok (.iload 4, 2) := by decide +kernel
theorem dX7_layLabels_116 : decode cX7_layLabels 116 = .ok (.iload_n 3, 1) := by decide +kernel
theorem dX7_layLabels_117 : decode cX7_layLabels 117 = .ok (.iastore, 1) := by decide +kernel
theorem dX7_layLabels_118 : decode cX7_layLabels 118 = .ok (.iload_n 2, 1) := by decide +kernel
theorem dX7_layLabels_119 : decode cX7_layLabels 119 = .ok (.iconst 1, 1) := by decide +kernel
theorem dX7_layLabels_120 : decode cX7_layLabels 120 = .ok (.iload 4, 2) := by decide +kernel
theorem dX7_layLabels_122 : decode cX7_layLabels 122 = .ok (.ishl, 1) := by decide +kernel
theorem dX7_layLabels_123 : decode cX7_layLabels 123 = .ok (.iconst (-1), 1) := by decide +kernel
theorem dX7_layLabels_124 : decode cX7_layLabels 124 = .ok (.ixor, 1) := by decide +kernel
theorem dX7_layLabels_125 : decode cX7_layLabels 125 = .ok (.iand, 1) := by decide +kernel
theorem dX7_layLabels_126 : decode cX7_layLabels 126 = .ok (.istore_n 2, 1) := by decide +kernel
theorem dX7_layLabels_127 : decode cX7_layLabels 127 = .ok (.iinc 3 1, 3) := by decide +kernel
theorem dX7_layLabels_130 : decode cX7_layLabels 130 = .ok (.goto (-105), 3) := by decide +kernel
theorem dX7_layLabels_133 : decode cX7_layLabels 133 = .ok (.return_, 1) := by decide +kernel
theorem dX7_greatest_0 : decode cX7_greatest 0 = .ok (.bipush (-3), 2) := by decide +kernel
theorem dX7_greatest_2 : decode cX7_greatest 2 = .ok (.istore_n 3, 1) := by decide +kernel
theorem dX7_greatest_3 : decode cX7_greatest 3 = .ok (.iconst 0, 1) := by decide +kernel
theorem dX7_greatest_4 : decode cX7_greatest 4 = .ok (.istore 4, 2) := by decide +kernel
theorem dX7_greatest_6 : decode cX7_greatest 6 = .ok (.iload 4, 2) := by decide +kernel
theorem dX7_greatest_8 : decode cX7_greatest 8 = .ok (.aload_n 0, 1) := by decide +kernel
theorem dX7_greatest_9 : decode cX7_greatest 9 = .ok (.getfield 91, 3) := by decide +kernel
theorem dX7_greatest_12 : decode cX7_greatest 12 = .ok (.if_icmp .ge 56, 3) := by decide +kernel
theorem dX7_greatest_15 : decode cX7_greatest 15 = .ok (.iload_n 1, 1) := by decide +kernel
theorem dX7_greatest_16 : decode cX7_greatest 16 = .ok (.iload 4, 2) := by decide +kernel
theorem dX7_greatest_18 : decode cX7_greatest 18 = .ok (.ishr, 1) := by decide +kernel
theorem dX7_greatest_19 : decode cX7_greatest 19 = .ok (.iconst 1, 1) := by decide +kernel
theorem dX7_greatest_20 : decode cX7_greatest 20 = .ok (.iand, 1) := by decide +kernel
theorem dX7_greatest_21 : decode cX7_greatest 21 = .ok (.iconst 1, 1) := by decide +kernel
theorem dX7_greatest_22 : decode cX7_greatest 22 = .ok (.if_icmp .ne 40, 3) := by decide +kernel
theorem dX7_greatest_25 : decode cX7_greatest 25 = .ok (.aload_n 0, 1) := by decide +kernel
theorem dX7_greatest_26 : decode cX7_greatest 26 = .ok (.getfield 43, 3) := by decide +kernel
theorem dX7_greatest_29 : decode cX7_greatest 29 = .ok (.iload 4, 2) := by decide +kernel
theorem dX7_greatest_31 : decode cX7_greatest 31 = .ok (.iaload, 1) := by decide +kernel
theorem dX7_greatest_32 : decode cX7_greatest 32 = .ok (.iload_n 2, 1) := by decide +kernel
theorem dX7_greatest_33 : decode cX7_greatest 33 = .ok (.iand, 1) := by decide +kernel
theorem dX7_greatest_34 : decode cX7_greatest 34 = .ok (.ifCond .ne 28, 3) := by decide +kernel
theorem dX7_greatest_37 : decode cX7_greatest 37 = .ok (.iload_n 3, 1) := by decide +kernel
theorem dX7_greatest_38 : decode cX7_greatest 38 = .ok (.bipush (-3), 2) := by decide +kernel
theorem dX7_greatest_40 : decode cX7_greatest 40 = .ok (.if_icmp .eq 19, 3) := by decide +kernel
theorem dX7_greatest_43 : decode cX7_greatest 43 = .ok (.aload_n 0, 1) := by decide +kernel
theorem dX7_greatest_44 : decode cX7_greatest 44 = .ok (.getfield 49, 3) := by decide +kernel
theorem dX7_greatest_47 : decode cX7_greatest 47 = .ok (.iload 4, 2) := by decide +kernel
theorem dX7_greatest_49 : decode cX7_greatest 49 = .ok (.iaload, 1) := by decide +kernel
theorem dX7_greatest_50 : decode cX7_greatest 50 = .ok (.aload_n 0, 1) := by decide +kernel
theorem dX7_greatest_51 : decode cX7_greatest 51 = .ok (.getfield 49, 3) := by decide +kernel
theorem dX7_greatest_54 : decode cX7_greatest 54 = .ok (.iload_n 3, 1) := by decide +kernel
theorem dX7_greatest_55 : decode cX7_greatest 55 = .ok (.iaload, 1) := by decide +kernel
theorem dX7_greatest_56 : decode cX7_greatest 56 = .ok (.if_icmp .le 6, 3) := by decide +kernel
theorem dX7_greatest_59 : decode cX7_greatest 59 = .ok (.iload 4, 2) := by decide +kernel
theorem dX7_greatest_61 : decode cX7_greatest 61 = .ok (.istore_n 3, 1) := by decide +kernel
theorem dX7_greatest_62 : decode cX7_greatest 62 = .ok (.iinc 4 1, 3) := by decide +kernel
theorem dX7_greatest_65 : decode cX7_greatest 65 = .ok (.goto (-59), 3) := by decide +kernel
theorem dX7_greatest_68 : decode cX7_greatest 68 = .ok (.iload_n 3, 1) := by decide +kernel
theorem dX7_greatest_69 : decode cX7_greatest 69 = .ok (.ireturn, 1) := by decide +kernel
theorem dX7_layDay_0 : decode cX7_layDay 0 = .ok (.aload_n 0, 1) := by decide +kernel
theorem dX7_layDay_1 : decode cX7_layDay 1 = .ok (.invokevirtual 115, 3) := by decide +kernel
theorem dX7_layDay_4 : decode cX7_layDay 4 = .ok (.aload_n 0, 1) := by decide +kernel
theorem dX7_layDay_5 : decode cX7_layDay 5 = .ok (.iload_n 1, 1) := by decide +kernel
theorem dX7_layDay_6 : decode cX7_layDay 6 = .ok (.invokevirtual 142, 3) := by decide +kernel
theorem dX7_layDay_9 : decode cX7_layDay 9 = .ok (.iload_n 1, 1) := by decide +kernel
theorem dX7_layDay_10 : decode cX7_layDay 10 = .ok (.istore_n 2, 1) := by decide +kernel
theorem dX7_layDay_11 : decode cX7_layDay 11 = .ok (.aload_n 0, 1) := by decide +kernel
theorem dX7_layDay_12 : decode cX7_layDay 12 = .ok (.iconst 0, 1) := by decide +kernel
theorem dX7_layDay_13 : decode cX7_layDay 13 = .ok (.putfield 146, 3) := by decide +kernel
theorem dX7_layDay_16 : decode cX7_layDay 16 = .ok (.iconst 0, 1) := by decide +kernel
theorem dX7_layDay_17 : decode cX7_layDay 17 = .ok (.istore_n 3, 1) := by decide +kernel
theorem dX7_layDay_18 : decode cX7_layDay 18 = .ok (.iload_n 3, 1) := by decide +kernel
theorem dX7_layDay_19 : decode cX7_layDay 19 = .ok (.bipush 10, 2) := by decide +kernel
theorem dX7_layDay_21 : decode cX7_layDay 21 = .ok (.if_icmp .ge 16, 3) := by decide +kernel
theorem dX7_layDay_24 : decode cX7_layDay 24 = .ok (.aload_n 0, 1) := by decide +kernel
theorem dX7_layDay_25 : decode cX7_layDay 25 = .ok (.getfield 52, 3) := by decide +kernel
theorem dX7_layDay_28 : decode cX7_layDay 28 = .ok (.iload_n 3, 1) := by decide +kernel
theorem dX7_layDay_29 : decode cX7_layDay 29 = .ok (.iconst 0, 1) := by decide +kernel
theorem dX7_layDay_30 : decode cX7_layDay 30 = .ok (.iastore, 1) := by decide +kernel
theorem dX7_layDay_31 : decode cX7_layDay 31 = .ok (.iinc 3 1, 3) := by decide +kernel
theorem dX7_layDay_34 : decode cX7_layDay 34 = .ok (.goto (-16), 3) := by decide +kernel
theorem dX7_layDay_37 : decode cX7_layDay 37 = .ok (.iload_n 2, 1) := by decide +kernel
theorem dX7_layDay_38 : decode cX7_layDay 38 = .ok (.ifCond .eq 110, 3) := by decide +kernel
theorem dX7_layDay_41 : decode cX7_layDay 41 = .ok (.aload_n 0, 1) := by decide +kernel
theorem dX7_layDay_42 : decode cX7_layDay 42 = .ok (.dup, 1) := by decide +kernel
theorem dX7_layDay_43 : decode cX7_layDay 43 = .ok (.getfield 146, 3) := by decide +kernel
theorem dX7_layDay_46 : decode cX7_layDay 46 = .ok (.iconst 1, 1) := by decide +kernel
theorem dX7_layDay_47 : decode cX7_layDay 47 = .ok (.iadd, 1) := by decide +kernel
theorem dX7_layDay_48 : decode cX7_layDay 48 = .ok (.putfield 146, 3) := by decide +kernel
theorem dX7_layDay_51 : decode cX7_layDay 51 = .ok (.aload_n 0, 1) := by decide +kernel
theorem dX7_layDay_52 : decode cX7_layDay 52 = .ok (.iload_n 2, 1) := by decide +kernel
theorem dX7_layDay_53 : decode cX7_layDay 53 = .ok (.iload_n 2, 1) := by decide +kernel
theorem dX7_layDay_54 : decode cX7_layDay 54 = .ok (.invokevirtual 149, 3) := by decide +kernel
theorem dX7_layDay_57 : decode cX7_layDay 57 = .ok (.istore_n 3, 1) := by decide +kernel
theorem dX7_layDay_58 : decode cX7_layDay 58 = .ok (.aload_n 0, 1) := by decide +kernel
theorem dX7_layDay_59 : decode cX7_layDay 59 = .ok (.iload_n 2, 1) := by decide +kernel
theorem dX7_layDay_60 : decode cX7_layDay 60 = .ok (.iconst 1, 1) := by decide +kernel
theorem dX7_layDay_61 : decode cX7_layDay 61 = .ok (.iload_n 3, 1) := by decide +kernel
theorem dX7_layDay_62 : decode cX7_layDay 62 = .ok (.ishl, 1) := by decide +kernel
theorem dX7_layDay_63 : decode cX7_layDay 63 = .ok (.iconst (-1), 1) := by decide +kernel
theorem dX7_layDay_64 : decode cX7_layDay 64 = .ok (.ixor, 1) := by decide +kernel
theorem dX7_layDay_65 : decode cX7_layDay 65 = .ok (.iand, 1) := by decide +kernel
theorem dX7_layDay_66 : decode cX7_layDay 66 = .ok (.iload_n 2, 1) := by decide +kernel
theorem dX7_layDay_67 : decode cX7_layDay 67 = .ok (.invokevirtual 149, 3) := by decide +kernel
theorem dX7_layDay_70 : decode cX7_layDay 70 = .ok (.istore 4, 2) := by decide +kernel
theorem dX7_layDay_72 : decode cX7_layDay 72 = .ok (.aload_n 0, 1) := by decide +kernel
theorem dX7_layDay_73 : decode cX7_layDay 73 = .ok (.getfield 52, 3) := by decide +kernel
theorem dX7_layDay_76 : decode cX7_layDay 76 = .ok (.iload_n 3, 1) := by decide +kernel
theorem dX7_layDay_77 : decode cX7_layDay 77 = .ok (.aload_n 0, 1) := by decide +kernel
theorem dX7_layDay_78 : decode cX7_layDay 78 = .ok (.getfield 146, 3) := by decide +kernel
theorem dX7_layDay_81 : decode cX7_layDay 81 = .ok (.iastore, 1) := by decide +kernel
theorem dX7_layDay_82 : decode cX7_layDay 82 = .ok (.iload 4, 2) := by decide +kernel
theorem dX7_layDay_84 : decode cX7_layDay 84 = .ok (.bipush (-3), 2) := by decide +kernel
theorem dX7_layDay_86 : decode cX7_layDay 86 = .ok (.if_icmp .eq 14, 3) := by decide +kernel
theorem dX7_layDay_89 : decode cX7_layDay 89 = .ok (.aload_n 0, 1) := by decide +kernel
theorem dX7_layDay_90 : decode cX7_layDay 90 = .ok (.getfield 52, 3) := by decide +kernel
theorem dX7_layDay_93 : decode cX7_layDay 93 = .ok (.iload 4, 2) := by decide +kernel
theorem dX7_layDay_95 : decode cX7_layDay 95 = .ok (.aload_n 0, 1) := by decide +kernel
theorem dX7_layDay_96 : decode cX7_layDay 96 = .ok (.getfield 146, 3) := by decide +kernel
theorem dX7_layDay_99 : decode cX7_layDay 99 = .ok (.iastore, 1) := by decide +kernel
theorem dX7_layDay_100 : decode cX7_layDay 100 = .ok (.iconst 0, 1) := by decide +kernel
theorem dX7_layDay_101 : decode cX7_layDay 101 = .ok (.istore 5, 2) := by decide +kernel
theorem dX7_layDay_103 : decode cX7_layDay 103 = .ok (.iload 5, 2) := by decide +kernel
theorem dX7_layDay_105 : decode cX7_layDay 105 = .ok (.aload_n 0, 1) := by decide +kernel
theorem dX7_layDay_106 : decode cX7_layDay 106 = .ok (.getfield 91, 3) := by decide +kernel
theorem dX7_layDay_109 : decode cX7_layDay 109 = .ok (.if_icmp .ge 36, 3) := by decide +kernel
theorem dX7_layDay_112 : decode cX7_layDay 112 = .ok (.iload_n 2, 1) := by decide +kernel
theorem dX7_layDay_113 : decode cX7_layDay 113 = .ok (.aload_n 0, 1) := by decide +kernel
theorem dX7_layDay_114 : decode cX7_layDay 114 = .ok (.getfield 52, 3) := by decide +kernel
theorem dX7_layDay_117 : decode cX7_layDay 117 = .ok (.iload 5, 2) := by decide +kernel
theorem dX7_layDay_119 : decode cX7_layDay 119 = .ok (.iaload, 1) := by decide +kernel
theorem dX7_layDay_120 : decode cX7_layDay 120 = .ok (.aload_n 0, 1) := by decide +kernel
theorem dX7_layDay_121 : decode cX7_layDay 121 = .ok (.getfield 146, 3) := by decide +kernel
theorem dX7_layDay_124 : decode cX7_layDay 124 = .ok (.if_icmp .ne 12, 3) := by decide +kernel
theorem dX7_layDay_127 : decode cX7_layDay 127 = .ok (.iconst 1, 1) := by decide +kernel
theorem dX7_layDay_128 : decode cX7_layDay 128 = .ok (.iload 5, 2) := by decide +kernel
theorem dX7_layDay_130 : decode cX7_layDay 130 = .ok (.ishl, 1) := by decide +kernel
theorem dX7_layDay_131 : decode cX7_layDay 131 = .ok (.iconst (-1), 1) := by decide +kernel
theorem dX7_layDay_132 : decode cX7_layDay 132 = .ok (.ixor, 1) := by decide +kernel
theorem dX7_layDay_133 : decode cX7_layDay 133 = .ok (.goto 4, 3) := by decide +kernel
theorem dX7_layDay_136 : decode cX7_layDay 136 = .ok (.iconst (-1), 1) := by decide +kernel
theorem dX7_layDay_137 : decode cX7_layDay 137 = .ok (.iand, 1) := by decide +kernel
theorem dX7_layDay_138 : decode cX7_layDay 138 = .ok (.istore_n 2, 1) := by decide +kernel
theorem dX7_layDay_139 : decode cX7_layDay 139 = .ok (.iinc 5 1, 3) := by decide +kernel
theorem dX7_layDay_142 : decode cX7_layDay 142 = .ok (.goto (-39), 3) := by decide +kernel
theorem dX7_layDay_145 : decode cX7_layDay 145 = .ok (.goto (-108), 3) := by decide +kernel
theorem dX7_layDay_148 : decode cX7_layDay 148 = .ok (.return_, 1) := by decide +kernel
theorem dX7_all_0 : decode cX7_all 0 = .ok (.iconst 1, 1) := by decide +kernel
theorem dX7_all_1 : decode cX7_all 1 = .ok (.aload_n 0, 1) := by decide +kernel
theorem dX7_all_2 : decode cX7_all 2 = .ok (.getfield 91, 3) := by decide +kernel
theorem dX7_all_5 : decode cX7_all 5 = .ok (.ishl, 1) := by decide +kernel
theorem dX7_all_6 : decode cX7_all 6 = .ok (.iconst 1, 1) := by decide +kernel
theorem dX7_all_7 : decode cX7_all 7 = .ok (.isub, 1) := by decide +kernel
theorem dX7_all_8 : decode cX7_all 8 = .ok (.ireturn, 1) := by decide +kernel
theorem dX7_depthOf_0 : decode cX7_depthOf 0 = .ok (.iconst 0, 1) := by decide +kernel
theorem dX7_depthOf_1 : decode cX7_depthOf 1 = .ok (.istore_n 3, 1) := by decide +kernel
theorem dX7_depthOf_2 : decode cX7_depthOf 2 = .ok (.iconst 0, 1) := by decide +kernel
theorem dX7_depthOf_3 : decode cX7_depthOf 3 = .ok (.istore 4, 2) := by decide +kernel
theorem dX7_depthOf_5 : decode cX7_depthOf 5 = .ok (.iload 4, 2) := by decide +kernel
theorem dX7_depthOf_7 : decode cX7_depthOf 7 = .ok (.aload_n 0, 1) := by decide +kernel
theorem dX7_depthOf_8 : decode cX7_depthOf 8 = .ok (.getfield 91, 3) := by decide +kernel
theorem dX7_depthOf_11 : decode cX7_depthOf 11 = .ok (.if_icmp .ge 36, 3) := by decide +kernel
theorem dX7_depthOf_14 : decode cX7_depthOf 14 = .ok (.aload_n 0, 1) := by decide +kernel
theorem dX7_depthOf_15 : decode cX7_depthOf 15 = .ok (.iload 4, 2) := by decide +kernel
theorem dX7_depthOf_17 : decode cX7_depthOf 17 = .ok (.iload_n 1, 1) := by decide +kernel
theorem dX7_depthOf_18 : decode cX7_depthOf 18 = .ok (.invokevirtual 118, 3) := by decide +kernel
theorem dX7_depthOf_21 : decode cX7_depthOf 21 = .ok (.ifCond .eq 18, 3) := by decide +kernel
theorem dX7_depthOf_24 : decode cX7_depthOf 24 = .ok (.aload_n 2, 1) := by decide +kernel
theorem dX7_depthOf_25 : decode cX7_depthOf 25 = .ok (.iload 4, 2) := by decide +kernel
theorem dX7_depthOf_27 : decode cX7_depthOf 27 = .ok (.iaload, 1) := by decide +kernel
theorem dX7_depthOf_28 : decode cX7_depthOf 28 = .ok (.iload_n 3, 1) := by decide +kernel
theorem dX7_depthOf_29 : decode cX7_depthOf 29 = .ok (.if_icmp .le 10, 3) := by decide +kernel
theorem dX7_depthOf_32 : decode cX7_depthOf 32 = .ok (.aload_n 2, 1) := by decide +kernel
theorem dX7_depthOf_33 : decode cX7_depthOf 33 = .ok (.iload 4, 2) := by decide +kernel
theorem dX7_depthOf_35 : decode cX7_depthOf 35 = .ok (.iaload, 1) := by decide +kernel
theorem dX7_depthOf_36 : decode cX7_depthOf 36 = .ok (.goto 4, 3) := by decide +kernel
theorem dX7_depthOf_39 : decode cX7_depthOf 39 = .ok (.iload_n 3, 1) := by decide +kernel
theorem dX7_depthOf_40 : decode cX7_depthOf 40 = .ok (.istore_n 3, 1) := by decide +kernel
theorem dX7_depthOf_41 : decode cX7_depthOf 41 = .ok (.iinc 4 1, 3) := by decide +kernel
theorem dX7_depthOf_44 : decode cX7_depthOf 44 = .ok (.goto (-39), 3) := by decide +kernel
theorem dX7_depthOf_47 : decode cX7_depthOf 47 = .ok (.iload_n 3, 1) := by decide +kernel
theorem dX7_depthOf_48 : decode cX7_depthOf 48 = .ok (.iconst 1, 1) := by decide +kernel
theorem dX7_depthOf_49 : decode cX7_depthOf 49 = .ok (.iadd, 1) := by decide +kernel
theorem dX7_depthOf_50 : decode cX7_depthOf 50 = .ok (.ireturn, 1) := by decide +kernel
theorem dX7_layDepths_0 : decode cX7_layDepths 0 = .ok (.aload_n 0, 1) := by decide +kernel
theorem dX7_layDepths_1 : decode cX7_layDepths 1 = .ok (.invokevirtual 115, 3) := by decide +kernel
theorem dX7_layDepths_4 : decode cX7_layDepths 4 = .ok (.iconst 0, 1) := by decide +kernel
theorem dX7_layDepths_5 : decode cX7_layDepths 5 = .ok (.istore_n 1, 1) := by decide +kernel
theorem dX7_layDepths_6 : decode cX7_layDepths 6 = .ok (.iload_n 1, 1) := by decide +kernel
theorem dX7_layDepths_7 : decode cX7_layDepths 7 = .ok (.bipush 10, 2) := by decide +kernel
theorem dX7_layDepths_9 : decode cX7_layDepths 9 = .ok (.if_icmp .ge 16, 3) := by decide +kernel
theorem dX7_layDepths_12 : decode cX7_layDepths 12 = .ok (.aload_n 0, 1) := by decide +kernel
theorem dX7_layDepths_13 : decode cX7_layDepths 13 = .ok (.getfield 55, 3) := by decide +kernel
theorem dX7_layDepths_16 : decode cX7_layDepths 16 = .ok (.iload_n 1, 1) := by decide +kernel
theorem dX7_layDepths_17 : decode cX7_layDepths 17 = .ok (.iconst 1, 1) := by decide +kernel
theorem dX7_layDepths_18 : decode cX7_layDepths 18 = .ok (.iastore, 1) := by decide +kernel
theorem dX7_layDepths_19 : decode cX7_layDepths 19 = .ok (.iinc 1 1, 3) := by decide +kernel
theorem dX7_layDepths_22 : decode cX7_layDepths 22 = .ok (.goto (-16), 3) := by decide +kernel
theorem dX7_layDepths_25 : decode cX7_layDepths 25 = .ok (.iconst 0, 1) := by decide +kernel
theorem dX7_layDepths_26 : decode cX7_layDepths 26 = .ok (.istore_n 1, 1) := by decide +kernel
theorem dX7_layDepths_27 : decode cX7_layDepths 27 = .ok (.iload_n 1, 1) := by decide +kernel
theorem dX7_layDepths_28 : decode cX7_layDepths 28 = .ok (.aload_n 0, 1) := by decide +kernel
theorem dX7_layDepths_29 : decode cX7_layDepths 29 = .ok (.getfield 91, 3) := by decide +kernel
theorem dX7_layDepths_32 : decode cX7_layDepths 32 = .ok (.if_icmp .ge 40, 3) := by decide +kernel
theorem dX7_layDepths_35 : decode cX7_layDepths 35 = .ok (.iconst 0, 1) := by decide +kernel
theorem dX7_layDepths_36 : decode cX7_layDepths 36 = .ok (.istore_n 2, 1) := by decide +kernel
theorem dX7_layDepths_37 : decode cX7_layDepths 37 = .ok (.iload_n 2, 1) := by decide +kernel
theorem dX7_layDepths_38 : decode cX7_layDepths 38 = .ok (.aload_n 0, 1) := by decide +kernel
theorem dX7_layDepths_39 : decode cX7_layDepths 39 = .ok (.getfield 91, 3) := by decide +kernel
theorem dX7_layDepths_42 : decode cX7_layDepths 42 = .ok (.if_icmp .ge 24, 3) := by decide +kernel
theorem dX7_layDepths_45 : decode cX7_layDepths 45 = .ok (.aload_n 0, 1) := by decide +kernel
theorem dX7_layDepths_46 : decode cX7_layDepths 46 = .ok (.getfield 55, 3) := by decide +kernel
theorem dX7_layDepths_49 : decode cX7_layDepths 49 = .ok (.iload_n 2, 1) := by decide +kernel
theorem dX7_layDepths_50 : decode cX7_layDepths 50 = .ok (.aload_n 0, 1) := by decide +kernel
theorem dX7_layDepths_51 : decode cX7_layDepths 51 = .ok (.iload_n 2, 1) := by decide +kernel
theorem dX7_layDepths_52 : decode cX7_layDepths 52 = .ok (.aload_n 0, 1) := by decide +kernel
theorem dX7_layDepths_53 : decode cX7_layDepths 53 = .ok (.getfield 55, 3) := by decide +kernel
theorem dX7_layDepths_56 : decode cX7_layDepths 56 = .ok (.invokevirtual 152, 3) := by decide +kernel
theorem dX7_layDepths_59 : decode cX7_layDepths 59 = .ok (.iastore, 1) := by decide +kernel
theorem dX7_layDepths_60 : decode cX7_layDepths 60 = .ok (.iinc 2 1, 3) := by decide +kernel
theorem dX7_layDepths_63 : decode cX7_layDepths 63 = .ok (.goto (-26), 3) := by decide +kernel
theorem dX7_layDepths_66 : decode cX7_layDepths 66 = .ok (.iinc 1 1, 3) := by decide +kernel
theorem dX7_layDepths_69 : decode cX7_layDepths 69 = .ok (.goto (-42), 3) := by decide +kernel
theorem dX7_layDepths_72 : decode cX7_layDepths 72 = .ok (.return_, 1) := by decide +kernel
theorem dX7_behindOf_0 : decode cX7_behindOf 0 = .ok (.iconst 0, 1) := by decide +kernel
theorem dX7_behindOf_1 : decode cX7_behindOf 1 = .ok (.istore_n 2, 1) := by decide +kernel
theorem dX7_behindOf_2 : decode cX7_behindOf 2 = .ok (.iconst 0, 1) := by decide +kernel
theorem dX7_behindOf_3 : decode cX7_behindOf 3 = .ok (.istore_n 3, 1) := by decide +kernel
theorem dX7_behindOf_4 : decode cX7_behindOf 4 = .ok (.iload_n 3, 1) := by decide +kernel
theorem dX7_behindOf_5 : decode cX7_behindOf 5 = .ok (.aload_n 0, 1) := by decide +kernel
theorem dX7_behindOf_6 : decode cX7_behindOf 6 = .ok (.getfield 91, 3) := by decide +kernel
theorem dX7_behindOf_9 : decode cX7_behindOf 9 = .ok (.if_icmp .ge 28, 3) := by decide +kernel
theorem dX7_behindOf_12 : decode cX7_behindOf 12 = .ok (.iload_n 2, 1) := by decide +kernel
theorem dX7_behindOf_13 : decode cX7_behindOf 13 = .ok (.aload_n 0, 1) := by decide +kernel
theorem dX7_behindOf_14 : decode cX7_behindOf 14 = .ok (.iload_n 3, 1) := by decide +kernel
theorem dX7_behindOf_15 : decode cX7_behindOf 15 = .ok (.iload_n 1, 1) := by decide +kernel
theorem dX7_behindOf_16 : decode cX7_behindOf 16 = .ok (.invokevirtual 118, 3) := by decide +kernel
theorem dX7_behindOf_19 : decode cX7_behindOf 19 = .ok (.ifCond .eq 9, 3) := by decide +kernel
theorem dX7_behindOf_22 : decode cX7_behindOf 22 = .ok (.iconst 1, 1) := by decide +kernel
theorem dX7_behindOf_23 : decode cX7_behindOf 23 = .ok (.iload_n 3, 1) := by decide +kernel
theorem dX7_behindOf_24 : decode cX7_behindOf 24 = .ok (.ishl, 1) := by decide +kernel
theorem dX7_behindOf_25 : decode cX7_behindOf 25 = .ok (.goto 4, 3) := by decide +kernel
theorem dX7_behindOf_28 : decode cX7_behindOf 28 = .ok (.iconst 0, 1) := by decide +kernel
theorem dX7_behindOf_29 : decode cX7_behindOf 29 = .ok (.ior, 1) := by decide +kernel
theorem dX7_behindOf_30 : decode cX7_behindOf 30 = .ok (.istore_n 2, 1) := by decide +kernel
theorem dX7_behindOf_31 : decode cX7_behindOf 31 = .ok (.iinc 3 1, 3) := by decide +kernel
theorem dX7_behindOf_34 : decode cX7_behindOf 34 = .ok (.goto (-30), 3) := by decide +kernel
theorem dX7_behindOf_37 : decode cX7_behindOf 37 = .ok (.iload_n 2, 1) := by decide +kernel
theorem dX7_behindOf_38 : decode cX7_behindOf 38 = .ok (.ireturn, 1) := by decide +kernel
theorem dX7_about_0 : decode cX7_about 0 = .ok (.aload_n 0, 1) := by decide +kernel
theorem dX7_about_1 : decode cX7_about 1 = .ok (.iload_n 1, 1) := by decide +kernel
theorem dX7_about_2 : decode cX7_about 2 = .ok (.invokevirtual 122, 3) := by decide +kernel
theorem dX7_about_5 : decode cX7_about 5 = .ok (.ifCond .eq 15, 3) := by decide +kernel
theorem dX7_about_8 : decode cX7_about 8 = .ok (.iload_n 2, 1) := by decide +kernel
theorem dX7_about_9 : decode cX7_about 9 = .ok (.i2l, 1) := by decide +kernel
theorem dX7_about_10 : decode cX7_about 10 = .ok (.lconst 0, 1) := by decide +kernel
theorem dX7_about_11 : decode cX7_about 11 = .ok (.ldc2_w 156, 3) := by decide +kernel
theorem dX7_about_14 : decode cX7_about 14 = .ok (.invokestatic 73, 3) := by decide +kernel
theorem dX7_about_17 : decode cX7_about 17 = .ok (.ifCond .ne 6, 3) := by decide +kernel
theorem dX7_about_20 : decode cX7_about 20 = .ok (.bipush (-9), 2) := by decide +kernel
theorem dX7_about_22 : decode cX7_about 22 = .ok (.ireturn, 1) := by decide +kernel
theorem dX7_about_23 : decode cX7_about 23 = .ok (.aload_n 0, 1) := by decide +kernel
theorem dX7_about_24 : decode cX7_about 24 = .ok (.invokevirtual 115, 3) := by decide +kernel
theorem dX7_about_27 : decode cX7_about 27 = .ok (.iload_n 2, 1) := by decide +kernel
theorem dX7_about_28 : decode cX7_about 28 = .ok (.tableswitch 159 0 10 #[60, 67, 74, 81, 88, 95, 102, 108, 118, 129, 144], 60) := by decide +kernel
theorem dX7_about_88 : decode cX7_about 88 = .ok (.aload_n 0, 1) := by decide +kernel
theorem dX7_about_89 : decode cX7_about 89 = .ok (.getfield 19, 3) := by decide +kernel
theorem dX7_about_92 : decode cX7_about 92 = .ok (.iload_n 1, 1) := by decide +kernel
theorem dX7_about_93 : decode cX7_about 93 = .ok (.iaload, 1) := by decide +kernel
theorem dX7_about_94 : decode cX7_about 94 = .ok (.ireturn, 1) := by decide +kernel
theorem dX7_about_95 : decode cX7_about 95 = .ok (.aload_n 0, 1) := by decide +kernel
theorem dX7_about_96 : decode cX7_about 96 = .ok (.getfield 22, 3) := by decide +kernel
theorem dX7_about_99 : decode cX7_about 99 = .ok (.iload_n 1, 1) := by decide +kernel
theorem dX7_about_100 : decode cX7_about 100 = .ok (.iaload, 1) := by decide +kernel
theorem dX7_about_101 : decode cX7_about 101 = .ok (.ireturn, 1) := by decide +kernel
theorem dX7_about_102 : decode cX7_about 102 = .ok (.aload_n 0, 1) := by decide +kernel
theorem dX7_about_103 : decode cX7_about 103 = .ok (.getfield 25, 3) := by decide +kernel
theorem dX7_about_106 : decode cX7_about 106 = .ok (.iload_n 1, 1) := by decide +kernel
theorem dX7_about_107 : decode cX7_about 107 = .ok (.iaload, 1) := by decide +kernel
theorem dX7_about_108 : decode cX7_about 108 = .ok (.ireturn, 1) := by decide +kernel
theorem dX7_about_109 : decode cX7_about 109 = .ok (.aload_n 0, 1) := by decide +kernel
theorem dX7_about_110 : decode cX7_about 110 = .ok (.getfield 28, 3) := by decide +kernel
theorem dX7_about_113 : decode cX7_about 113 = .ok (.iload_n 1, 1) := by decide +kernel
theorem dX7_about_114 : decode cX7_about 114 = .ok (.iaload, 1) := by decide +kernel
theorem dX7_about_115 : decode cX7_about 115 = .ok (.ireturn, 1) := by decide +kernel
theorem dX7_about_116 : decode cX7_about 116 = .ok (.aload_n 0, 1) := by decide +kernel
theorem dX7_about_117 : decode cX7_about 117 = .ok (.getfield 31, 3) := by decide +kernel
theorem dX7_about_120 : decode cX7_about 120 = .ok (.iload_n 1, 1) := by decide +kernel
theorem dX7_about_121 : decode cX7_about 121 = .ok (.iaload, 1) := by decide +kernel
theorem dX7_about_122 : decode cX7_about 122 = .ok (.ireturn, 1) := by decide +kernel
theorem dX7_about_123 : decode cX7_about 123 = .ok (.aload_n 0, 1) := by decide +kernel
theorem dX7_about_124 : decode cX7_about 124 = .ok (.getfield 43, 3) := by decide +kernel
theorem dX7_about_127 : decode cX7_about 127 = .ok (.iload_n 1, 1) := by decide +kernel
theorem dX7_about_128 : decode cX7_about 128 = .ok (.iaload, 1) := by decide +kernel
theorem dX7_about_129 : decode cX7_about 129 = .ok (.ireturn, 1) := by decide +kernel
theorem dX7_about_130 : decode cX7_about 130 = .ok (.aload_n 0, 1) := by decide +kernel
theorem dX7_about_131 : decode cX7_about 131 = .ok (.iload_n 1, 1) := by decide +kernel
theorem dX7_about_132 : decode cX7_about 132 = .ok (.invokevirtual 158, 3) := by decide +kernel
theorem dX7_about_135 : decode cX7_about 135 = .ok (.ireturn, 1) := by decide +kernel
theorem dX7_about_136 : decode cX7_about 136 = .ok (.aload_n 0, 1) := by decide +kernel
theorem dX7_about_137 : decode cX7_about 137 = .ok (.iload_n 1, 1) := by decide +kernel
theorem dX7_about_138 : decode cX7_about 138 = .ok (.aload_n 0, 1) := by decide +kernel
theorem dX7_about_139 : decode cX7_about 139 = .ok (.invokevirtual 161, 3) := by decide +kernel
theorem dX7_about_142 : decode cX7_about 142 = .ok (.invokevirtual 136, 3) := by decide +kernel
theorem dX7_about_145 : decode cX7_about 145 = .ok (.ireturn, 1) := by decide +kernel
theorem dX7_about_146 : decode cX7_about 146 = .ok (.aload_n 0, 1) := by decide +kernel
theorem dX7_about_147 : decode cX7_about 147 = .ok (.invokevirtual 165, 3) := by decide +kernel
theorem dX7_about_150 : decode cX7_about 150 = .ok (.aload_n 0, 1) := by decide +kernel
theorem dX7_about_151 : decode cX7_about 151 = .ok (.getfield 55, 3) := by decide +kernel
theorem dX7_about_154 : decode cX7_about 154 = .ok (.iload_n 1, 1) := by decide +kernel
theorem dX7_about_155 : decode cX7_about 155 = .ok (.iaload, 1) := by decide +kernel
theorem dX7_about_156 : decode cX7_about 156 = .ok (.ireturn, 1) := by decide +kernel
theorem dX7_about_157 : decode cX7_about 157 = .ok (.aload_n 0, 1) := by decide +kernel
theorem dX7_about_158 : decode cX7_about 158 = .ok (.aload_n 0, 1) := by decide +kernel
theorem dX7_about_159 : decode cX7_about 159 = .ok (.invokevirtual 161, 3) := by decide +kernel
theorem dX7_about_162 : decode cX7_about 162 = .ok (.invokevirtual 168, 3) := by decide +kernel
theorem dX7_about_165 : decode cX7_about 165 = .ok (.aload_n 0, 1) := by decide +kernel
theorem dX7_about_166 : decode cX7_about 166 = .ok (.getfield 49, 3) := by decide +kernel
theorem dX7_about_169 : decode cX7_about 169 = .ok (.iload_n 1, 1) := by decide +kernel
theorem dX7_about_170 : decode cX7_about 170 = .ok (.iaload, 1) := by decide +kernel
theorem dX7_about_171 : decode cX7_about 171 = .ok (.ireturn, 1) := by decide +kernel
theorem dX7_about_172 : decode cX7_about 172 = .ok (.aload_n 0, 1) := by decide +kernel
theorem dX7_about_173 : decode cX7_about 173 = .ok (.aload_n 0, 1) := by decide +kernel
theorem dX7_about_174 : decode cX7_about 174 = .ok (.invokevirtual 161, 3) := by decide +kernel
theorem dX7_about_177 : decode cX7_about 177 = .ok (.invokevirtual 168, 3) := by decide +kernel
theorem dX7_about_180 : decode cX7_about 180 = .ok (.aload_n 0, 1) := by decide +kernel
theorem dX7_about_181 : decode cX7_about 181 = .ok (.getfield 52, 3) := by decide +kernel
theorem dX7_about_184 : decode cX7_about 184 = .ok (.iload_n 1, 1) := by decide +kernel
theorem dX7_about_185 : decode cX7_about 185 = .ok (.iaload, 1) := by decide +kernel
theorem dX7_about_186 : decode cX7_about 186 = .ok (.ireturn, 1) := by decide +kernel
theorem dX7_about_187 : decode cX7_about 187 = .ok (.aload_n 0, 1) := by decide +kernel
theorem dX7_about_188 : decode cX7_about 188 = .ok (.invokevirtual 171, 3) := by decide +kernel
theorem dX7_about_191 : decode cX7_about 191 = .ok (.aload_n 0, 1) := by decide +kernel
theorem dX7_about_192 : decode cX7_about 192 = .ok (.getfield 68, 3) := by decide +kernel
theorem dX7_about_195 : decode cX7_about 195 = .ok (.iload_n 1, 1) := by decide +kernel
theorem dX7_about_196 : decode cX7_about 196 = .ok (.iaload, 1) := by decide +kernel
theorem dX7_about_197 : decode cX7_about 197 = .ok (.ireturn, 1) := by decide +kernel
theorem dX7_least_0 : decode cX7_least 0 = .ok (.aload_n 0, 1) := by decide +kernel
theorem dX7_least_1 : decode cX7_least 1 = .ok (.aload_n 0, 1) := by decide +kernel
theorem dX7_least_2 : decode cX7_least 2 = .ok (.invokevirtual 161, 3) := by decide +kernel
theorem dX7_least_5 : decode cX7_least 5 = .ok (.invokevirtual 168, 3) := by decide +kernel
theorem dX7_least_8 : decode cX7_least 8 = .ok (.aload_n 0, 1) := by decide +kernel
theorem dX7_least_9 : decode cX7_least 9 = .ok (.getfield 146, 3) := by decide +kernel
theorem dX7_least_12 : decode cX7_least 12 = .ok (.ireturn, 1) := by decide +kernel
theorem dX7_day_0 : decode cX7_day 0 = .ok (.iload_n 1, 1) := by decide +kernel
theorem dX7_day_1 : decode cX7_day 1 = .ok (.iconst 1, 1) := by decide +kernel
theorem dX7_day_2 : decode cX7_day 2 = .ok (.if_icmp .lt 13, 3) := by decide +kernel
theorem dX7_day_5 : decode cX7_day 5 = .ok (.iload_n 2, 1) := by decide +kernel
theorem dX7_day_6 : decode cX7_day 6 = .ok (.i2l, 1) := by decide +kernel
theorem dX7_day_7 : decode cX7_day 7 = .ok (.lconst 0, 1) := by decide +kernel
theorem dX7_day_8 : decode cX7_day 8 = .ok (.lconst 1, 1) := by decide +kernel
theorem dX7_day_9 : decode cX7_day 9 = .ok (.invokestatic 73, 3) := by decide +kernel
theorem dX7_day_12 : decode cX7_day 12 = .ok (.ifCond .ne 5, 3) := by decide +kernel
theorem dX7_day_15 : decode cX7_day 15 = .ok (.iconst (-1), 1) := by decide +kernel
theorem dX7_day_16 : decode cX7_day 16 = .ok (.ireturn, 1) := by decide +kernel
theorem dX7_day_17 : decode cX7_day 17 = .ok (.aload_n 0, 1) := by decide +kernel
theorem dX7_day_18 : decode cX7_day 18 = .ok (.aload_n 0, 1) := by decide +kernel
theorem dX7_day_19 : decode cX7_day 19 = .ok (.invokevirtual 161, 3) := by decide +kernel
theorem dX7_day_22 : decode cX7_day 22 = .ok (.invokevirtual 168, 3) := by decide +kernel
theorem dX7_day_25 : decode cX7_day 25 = .ok (.bipush (-3), 2) := by decide +kernel
theorem dX7_day_27 : decode cX7_day 27 = .ok (.istore_n 3, 1) := by decide +kernel
theorem dX7_day_28 : decode cX7_day 28 = .ok (.bipush (-3), 2) := by decide +kernel
theorem dX7_day_30 : decode cX7_day 30 = .ok (.istore 4, 2) := by decide +kernel
theorem dX7_day_32 : decode cX7_day 32 = .ok (.iconst 0, 1) := by decide +kernel
theorem dX7_day_33 : decode cX7_day 33 = .ok (.istore 5, 2) := by decide +kernel
theorem dX7_day_35 : decode cX7_day 35 = .ok (.iload 5, 2) := by decide +kernel
theorem dX7_day_37 : decode cX7_day 37 = .ok (.aload_n 0, 1) := by decide +kernel
theorem dX7_day_38 : decode cX7_day 38 = .ok (.getfield 91, 3) := by decide +kernel
theorem dX7_day_41 : decode cX7_day 41 = .ok (.if_icmp .ge 74, 3) := by decide +kernel
theorem dX7_day_44 : decode cX7_day 44 = .ok (.aload_n 0, 1) := by decide +kernel
theorem dX7_day_45 : decode cX7_day 45 = .ok (.getfield 52, 3) := by decide +kernel
theorem dX7_day_48 : decode cX7_day 48 = .ok (.iload 5, 2) := by decide +kernel
theorem dX7_day_50 : decode cX7_day 50 = .ok (.iaload, 1) := by decide +kernel
theorem dX7_day_51 : decode cX7_day 51 = .ok (.iload_n 1, 1) := by decide +kernel
theorem dX7_day_52 : decode cX7_day 52 = .ok (.if_icmp .ne 57, 3) := by decide +kernel
theorem dX7_day_55 : decode cX7_day 55 = .ok (.iload_n 3, 1) := by decide +kernel
theorem dX7_day_56 : decode cX7_day 56 = .ok (.bipush (-3), 2) := by decide +kernel
theorem dX7_day_58 : decode cX7_day 58 = .ok (.if_icmp .eq 19, 3) := by decide +kernel
theorem dX7_day_61 : decode cX7_day 61 = .ok (.aload_n 0, 1) := by decide +kernel
theorem dX7_day_62 : decode cX7_day 62 = .ok (.getfield 49, 3) := by decide +kernel
theorem dX7_day_65 : decode cX7_day 65 = .ok (.iload 5, 2) := by decide +kernel
theorem dX7_day_67 : decode cX7_day 67 = .ok (.iaload, 1) := by decide +kernel
theorem dX7_day_68 : decode cX7_day 68 = .ok (.aload_n 0, 1) := by decide +kernel
theorem dX7_day_69 : decode cX7_day 69 = .ok (.getfield 49, 3) := by decide +kernel
theorem dX7_day_72 : decode cX7_day 72 = .ok (.iload_n 3, 1) := by decide +kernel
theorem dX7_day_73 : decode cX7_day 73 = .ok (.iaload, 1) := by decide +kernel
theorem dX7_day_74 : decode cX7_day 74 = .ok (.if_icmp .le 7, 3) := by decide +kernel
theorem dX7_day_77 : decode cX7_day 77 = .ok (.iconst 1, 1) := by decide +kernel
theorem dX7_day_78 : decode cX7_day 78 = .ok (.goto 4, 3) := by decide +kernel
theorem dX7_day_81 : decode cX7_day 81 = .ok (.iconst 0, 1) := by decide +kernel
theorem dX7_day_82 : decode cX7_day 82 = .ok (.istore 6, 2) := by decide +kernel
theorem dX7_day_84 : decode cX7_day 84 = .ok (.iload 6, 2) := by decide +kernel
theorem dX7_day_86 : decode cX7_day 86 = .ok (.ifCond .eq 7, 3) := by decide +kernel
theorem dX7_day_89 : decode cX7_day 89 = .ok (.iload_n 3, 1) := by decide +kernel
theorem dX7_day_90 : decode cX7_day 90 = .ok (.goto 5, 3) := by decide +kernel
theorem dX7_day_93 : decode cX7_day 93 = .ok (.iload 5, 2) := by decide +kernel
theorem dX7_day_95 : decode cX7_day 95 = .ok (.istore 4, 2) := by decide +kernel
theorem dX7_day_97 : decode cX7_day 97 = .ok (.iload 6, 2) := by decide +kernel
theorem dX7_day_99 : decode cX7_day 99 = .ok (.ifCond .eq 8, 3) := by decide +kernel
theorem dX7_day_102 : decode cX7_day 102 = .ok (.iload 5, 2) := by decide +kernel
theorem dX7_day_104 : decode cX7_day 104 = .ok (.goto 4, 3) := by decide +kernel
theorem dX7_day_107 : decode cX7_day 107 = .ok (.iload_n 3, 1) := by decide +kernel
theorem dX7_day_108 : decode cX7_day 108 = .ok (.istore_n 3, 1) := by decide +kernel
theorem dX7_day_109 : decode cX7_day 109 = .ok (.iinc 5 1, 3) := by decide +kernel
theorem dX7_day_112 : decode cX7_day 112 = .ok (.goto (-77), 3) := by decide +kernel
theorem dX7_day_115 : decode cX7_day 115 = .ok (.iload_n 2, 1) := by decide +kernel
theorem dX7_day_116 : decode cX7_day 116 = .ok (.ifCond .ne 7, 3) := by decide +kernel
theorem dX7_day_119 : decode cX7_day 119 = .ok (.iload_n 3, 1) := by decide +kernel
theorem dX7_day_120 : decode cX7_day 120 = .ok (.goto 5, 3) := by decide +kernel
theorem dX7_day_123 : decode cX7_day 123 = .ok (.iload 4, 2) := by decide +kernel
theorem dX7_day_125 : decode cX7_day 125 = .ok (.ireturn, 1) := by decide +kernel
theorem dX7_inHour_0 : decode cX7_inHour 0 = .ok (.iconst 0, 1) := by decide +kernel
theorem dX7_inHour_1 : decode cX7_inHour 1 = .ok (.istore_n 2, 1) := by decide +kernel
theorem dX7_inHour_2 : decode cX7_inHour 2 = .ok (.iconst 0, 1) := by decide +kernel
theorem dX7_inHour_3 : decode cX7_inHour 3 = .ok (.istore_n 3, 1) := by decide +kernel
theorem dX7_inHour_4 : decode cX7_inHour 4 = .ok (.iload_n 3, 1) := by decide +kernel
theorem dX7_inHour_5 : decode cX7_inHour 5 = .ok (.aload_n 0, 1) := by decide +kernel
theorem dX7_inHour_6 : decode cX7_inHour 6 = .ok (.getfield 91, 3) := by decide +kernel
theorem dX7_inHour_9 : decode cX7_inHour 9 = .ok (.if_icmp .ge 27, 3) := by decide +kernel
theorem dX7_inHour_12 : decode cX7_inHour 12 = .ok (.iload_n 2, 1) := by decide +kernel
theorem dX7_inHour_13 : decode cX7_inHour 13 = .ok (.aload_n 0, 1) := by decide +kernel
theorem dX7_inHour_14 : decode cX7_inHour 14 = .ok (.getfield 52, 3) := by decide +kernel
theorem dX7_inHour_17 : decode cX7_inHour 17 = .ok (.iload_n 3, 1) := by decide +kernel
theorem dX7_inHour_18 : decode cX7_inHour 18 = .ok (.iaload, 1) := by decide +kernel
theorem dX7_inHour_19 : decode cX7_inHour 19 = .ok (.iload_n 1, 1) := by decide +kernel
theorem dX7_inHour_20 : decode cX7_inHour 20 = .ok (.if_icmp .ne 7, 3) := by decide +kernel
theorem dX7_inHour_23 : decode cX7_inHour 23 = .ok (.iconst 1, 1) := by decide +kernel
theorem dX7_inHour_24 : decode cX7_inHour 24 = .ok (.goto 4, 3) := by decide +kernel
theorem dX7_inHour_27 : decode cX7_inHour 27 = .ok (.iconst 0, 1) := by decide +kernel
theorem dX7_inHour_28 : decode cX7_inHour 28 = .ok (.iadd, 1) := by decide +kernel
theorem dX7_inHour_29 : decode cX7_inHour 29 = .ok (.istore_n 2, 1) := by decide +kernel
theorem dX7_inHour_30 : decode cX7_inHour 30 = .ok (.iinc 3 1, 3) := by decide +kernel
theorem dX7_inHour_33 : decode cX7_inHour 33 = .ok (.goto (-29), 3) := by decide +kernel
theorem dX7_inHour_36 : decode cX7_inHour 36 = .ok (.iload_n 2, 1) := by decide +kernel
theorem dX7_inHour_37 : decode cX7_inHour 37 = .ok (.ireturn, 1) := by decide +kernel
theorem dX7_idle_0 : decode cX7_idle 0 = .ok (.iload_n 1, 1) := by decide +kernel
theorem dX7_idle_1 : decode cX7_idle 1 = .ok (.ifCond .ge 5, 3) := by decide +kernel
theorem dX7_idle_4 : decode cX7_idle 4 = .ok (.iconst (-1), 1) := by decide +kernel
theorem dX7_idle_5 : decode cX7_idle 5 = .ok (.ireturn, 1) := by decide +kernel
theorem dX7_idle_6 : decode cX7_idle 6 = .ok (.aload_n 0, 1) := by decide +kernel
theorem dX7_idle_7 : decode cX7_idle 7 = .ok (.aload_n 0, 1) := by decide +kernel
theorem dX7_idle_8 : decode cX7_idle 8 = .ok (.invokevirtual 161, 3) := by decide +kernel
theorem dX7_idle_11 : decode cX7_idle 11 = .ok (.invokevirtual 168, 3) := by decide +kernel
theorem dX7_idle_14 : decode cX7_idle 14 = .ok (.iload_n 1, 1) := by decide +kernel
theorem dX7_idle_15 : decode cX7_idle 15 = .ok (.istore_n 2, 1) := by decide +kernel
theorem dX7_idle_16 : decode cX7_idle 16 = .ok (.iconst 1, 1) := by decide +kernel
theorem dX7_idle_17 : decode cX7_idle 17 = .ok (.istore_n 3, 1) := by decide +kernel
theorem dX7_idle_18 : decode cX7_idle 18 = .ok (.iload_n 3, 1) := by decide +kernel
theorem dX7_idle_19 : decode cX7_idle 19 = .ok (.aload_n 0, 1) := by decide +kernel
theorem dX7_idle_20 : decode cX7_idle 20 = .ok (.getfield 146, 3) := by decide +kernel
theorem dX7_idle_23 : decode cX7_idle 23 = .ok (.if_icmp .gt 27, 3) := by decide +kernel
theorem dX7_idle_26 : decode cX7_idle 26 = .ok (.aload_n 0, 1) := by decide +kernel
theorem dX7_idle_27 : decode cX7_idle 27 = .ok (.iload_n 3, 1) := by decide +kernel
theorem dX7_idle_28 : decode cX7_idle 28 = .ok (.invokevirtual 174, 3) := by decide +kernel
theorem dX7_idle_31 : decode cX7_idle 31 = .ok (.iconst 1, 1) := by decide +kernel
theorem dX7_idle_32 : decode cX7_idle 32 = .ok (.if_icmp .ne 12, 3) := by decide +kernel
theorem dX7_idle_35 : decode cX7_idle 35 = .ok (.iload_n 2, 1) := by decide +kernel
theorem dX7_idle_36 : decode cX7_idle 36 = .ok (.ifCond .ne 5, 3) := by decide +kernel
theorem dX7_idle_39 : decode cX7_idle 39 = .ok (.iload_n 3, 1) := by decide +kernel
theorem dX7_idle_40 : decode cX7_idle 40 = .ok (.ireturn, 1) := by decide +kernel
theorem dX7_idle_41 : decode cX7_idle 41 = .ok (.iinc 2 (-1), 3) := by decide +kernel
theorem dX7_idle_44 : decode cX7_idle 44 = .ok (.iinc 3 1, 3) := by decide +kernel
theorem dX7_idle_47 : decode cX7_idle 47 = .ok (.goto (-29), 3) := by decide +kernel
theorem dX7_idle_50 : decode cX7_idle 50 = .ok (.bipush (-3), 2) := by decide +kernel
theorem dX7_idle_52 : decode cX7_idle 52 = .ok (.ireturn, 1) := by decide +kernel
theorem dX7_pairs_0 : decode cX7_pairs 0 = .ok (.aload_n 0, 1) := by decide +kernel
theorem dX7_pairs_1 : decode cX7_pairs 1 = .ok (.invokevirtual 115, 3) := by decide +kernel
theorem dX7_pairs_4 : decode cX7_pairs 4 = .ok (.aload_n 0, 1) := by decide +kernel
theorem dX7_pairs_5 : decode cX7_pairs 5 = .ok (.getfield 58, 3) := by decide +kernel
theorem dX7_pairs_8 : decode cX7_pairs 8 = .ok (.iconst 0, 1) := by decide +kernel
theorem dX7_pairs_9 : decode cX7_pairs 9 = .ok (.iconst 0, 1) := by decide +kernel
theorem dX7_pairs_10 : decode cX7_pairs 10 = .ok (.iastore, 1) := by decide +kernel
theorem dX7_pairs_11 : decode cX7_pairs 11 = .ok (.iconst 1, 1) := by decide +kernel
theorem dX7_pairs_12 : decode cX7_pairs 12 = .ok (.istore_n 1, 1) := by decide +kernel
theorem dX7_pairs_13 : decode cX7_pairs 13 = .ok (.iload_n 1, 1) := by decide +kernel
theorem dX7_pairs_14 : decode cX7_pairs 14 = .ok (.iconst 1, 1) := by decide +kernel
theorem dX7_pairs_15 : decode cX7_pairs 15 = .ok (.aload_n 0, 1) := by decide +kernel
theorem dX7_pairs_16 : decode cX7_pairs 16 = .ok (.getfield 91, 3) := by decide +kernel
theorem dX7_pairs_19 : decode cX7_pairs 19 = .ok (.ishl, 1) := by decide +kernel
theorem dX7_pairs_20 : decode cX7_pairs 20 = .ok (.if_icmp .ge 132, 3) := by decide +kernel
theorem dX7_pairs_23 : decode cX7_pairs 23 = .ok (.iconst 0, 1) := by decide +kernel
theorem dX7_pairs_24 : decode cX7_pairs 24 = .ok (.istore_n 2, 1) := by decide +kernel
theorem dX7_pairs_25 : decode cX7_pairs 25 = .ok (.iload_n 1, 1) := by decide +kernel
theorem dX7_pairs_26 : decode cX7_pairs 26 = .ok (.iload_n 2, 1) := by decide +kernel
theorem dX7_pairs_27 : decode cX7_pairs 27 = .ok (.ishr, 1) := by decide +kernel
theorem dX7_pairs_28 : decode cX7_pairs 28 = .ok (.iconst 1, 1) := by decide +kernel
theorem dX7_pairs_29 : decode cX7_pairs 29 = .ok (.iand, 1) := by decide +kernel
theorem dX7_pairs_30 : decode cX7_pairs 30 = .ok (.ifCond .ne 9, 3) := by decide +kernel
theorem dX7_pairs_33 : decode cX7_pairs 33 = .ok (.iinc 2 1, 3) := by decide +kernel
theorem dX7_pairs_36 : decode cX7_pairs 36 = .ok (.goto (-11), 3) := by decide +kernel
theorem dX7_pairs_39 : decode cX7_pairs 39 = .ok (.iload_n 1, 1) := by decide +kernel
theorem dX7_pairs_40 : decode cX7_pairs 40 = .ok (.iconst 1, 1) := by decide +kernel
theorem dX7_pairs_41 : decode cX7_pairs 41 = .ok (.iload_n 2, 1) := by decide +kernel
theorem dX7_pairs_42 : decode cX7_pairs 42 = .ok (.ishl, 1) := by decide +kernel
theorem dX7_pairs_43 : decode cX7_pairs 43 = .ok (.iconst (-1), 1) := by decide +kernel
theorem dX7_pairs_44 : decode cX7_pairs 44 = .ok (.ixor, 1) := by decide +kernel
theorem dX7_pairs_45 : decode cX7_pairs 45 = .ok (.iand, 1) := by decide +kernel
theorem dX7_pairs_46 : decode cX7_pairs 46 = .ok (.istore_n 3, 1) := by decide +kernel
theorem dX7_pairs_47 : decode cX7_pairs 47 = .ok (.aload_n 0, 1) := by decide +kernel
theorem dX7_pairs_48 : decode cX7_pairs 48 = .ok (.getfield 58, 3) := by decide +kernel
theorem dX7_pairs_51 : decode cX7_pairs 51 = .ok (.iload_n 3, 1) := by decide +kernel
theorem dX7_pairs_52 : decode cX7_pairs 52 = .ok (.iaload, 1) := by decide +kernel
theorem dX7_pairs_53 : decode cX7_pairs 53 = .ok (.istore 4, 2) := by decide +kernel
theorem dX7_pairs_55 : decode cX7_pairs 55 = .ok (.iload_n 2, 1) := by decide +kernel
theorem dX7_pairs_56 : decode cX7_pairs 56 = .ok (.iconst 1, 1) := by decide +kernel
theorem dX7_pairs_57 : decode cX7_pairs 57 = .ok (.iadd, 1) := by decide +kernel
theorem dX7_pairs_58 : decode cX7_pairs 58 = .ok (.istore 5, 2) := by decide +kernel
theorem dX7_pairs_60 : decode cX7_pairs 60 = .ok (.iload 5, 2) := by decide +kernel
theorem dX7_pairs_62 : decode cX7_pairs 62 = .ok (.aload_n 0, 1) := by decide +kernel
theorem dX7_pairs_63 : decode cX7_pairs 63 = .ok (.getfield 91, 3) := by decide +kernel
theorem dX7_pairs_66 : decode cX7_pairs 66 = .ok (.if_icmp .ge 72, 3) := by decide +kernel
theorem dX7_pairs_69 : decode cX7_pairs 69 = .ok (.iload_n 3, 1) := by decide +kernel
theorem dX7_pairs_70 : decode cX7_pairs 70 = .ok (.iload 5, 2) := by decide +kernel
theorem dX7_pairs_72 : decode cX7_pairs 72 = .ok (.ishr, 1) := by decide +kernel
theorem dX7_pairs_73 : decode cX7_pairs 73 = .ok (.iconst 1, 1) := by decide +kernel
theorem dX7_pairs_74 : decode cX7_pairs 74 = .ok (.iand, 1) := by decide +kernel
theorem dX7_pairs_75 : decode cX7_pairs 75 = .ok (.iconst 1, 1) := by decide +kernel
theorem dX7_pairs_76 : decode cX7_pairs 76 = .ok (.if_icmp .ne 56, 3) := by decide +kernel
theorem dX7_pairs_79 : decode cX7_pairs 79 = .ok (.aload_n 0, 1) := by decide +kernel
theorem dX7_pairs_80 : decode cX7_pairs 80 = .ok (.iload_n 2, 1) := by decide +kernel
theorem dX7_pairs_81 : decode cX7_pairs 81 = .ok (.iload 5, 2) := by decide +kernel
theorem dX7_pairs_83 : decode cX7_pairs 83 = .ok (.invokevirtual 118, 3) := by decide +kernel
theorem dX7_pairs_86 : decode cX7_pairs 86 = .ok (.ifCond .ne 46, 3) := by decide +kernel
theorem dX7_pairs_89 : decode cX7_pairs 89 = .ok (.aload_n 0, 1) := by decide +kernel
theorem dX7_pairs_90 : decode cX7_pairs 90 = .ok (.iload 5, 2) := by decide +kernel
theorem dX7_pairs_92 : decode cX7_pairs 92 = .ok (.iload_n 2, 1) := by decide +kernel
theorem dX7_pairs_93 : decode cX7_pairs 93 = .ok (.invokevirtual 118, 3) := by decide +kernel
theorem dX7_pairs_96 : decode cX7_pairs 96 = .ok (.ifCond .ne 36, 3) := by decide +kernel
theorem dX7_pairs_99 : decode cX7_pairs 99 = .ok (.iconst 1, 1) := by decide +kernel
theorem dX7_pairs_100 : decode cX7_pairs 100 = .ok (.aload_n 0, 1) := by decide +kernel
theorem dX7_pairs_101 : decode cX7_pairs 101 = .ok (.getfield 58, 3) := by decide +kernel
theorem dX7_pairs_104 : decode cX7_pairs 104 = .ok (.iload_n 3, 1) := by decide +kernel
theorem dX7_pairs_105 : decode cX7_pairs 105 = .ok (.iconst 1, 1) := by decide +kernel
theorem dX7_pairs_106 : decode cX7_pairs 106 = .ok (.iload 5, 2) := by decide +kernel
theorem dX7_pairs_108 : decode cX7_pairs 108 = .ok (.ishl, 1) := by decide +kernel
theorem dX7_pairs_109 : decode cX7_pairs 109 = .ok (.iconst (-1), 1) := by decide +kernel
theorem dX7_pairs_110 : decode cX7_pairs 110 = .ok (.ixor, 1) := by decide +kernel
theorem dX7_pairs_111 : decode cX7_pairs 111 = .ok (.iand, 1) := by decide +kernel
theorem dX7_pairs_112 : decode cX7_pairs 112 = .ok (.iaload, 1) := by decide +kernel
theorem dX7_pairs_113 : decode cX7_pairs 113 = .ok (.iadd, 1) := by decide +kernel
theorem dX7_pairs_114 : decode cX7_pairs 114 = .ok (.istore 6, 2) := by decide +kernel
theorem dX7_pairs_116 : decode cX7_pairs 116 = .ok (.iload 6, 2) := by decide +kernel
theorem dX7_pairs_118 : decode cX7_pairs 118 = .ok (.iload 4, 2) := by decide +kernel
theorem dX7_pairs_120 : decode cX7_pairs 120 = .ok (.if_icmp .le 8, 3) := by decide +kernel
theorem dX7_pairs_123 : decode cX7_pairs 123 = .ok (.iload 6, 2) := by decide +kernel
theorem dX7_pairs_125 : decode cX7_pairs 125 = .ok (.goto 5, 3) := by decide +kernel
theorem dX7_pairs_128 : decode cX7_pairs 128 = .ok (.iload 4, 2) := by decide +kernel
theorem dX7_pairs_130 : decode cX7_pairs 130 = .ok (.istore 4, 2) := by decide +kernel
theorem dX7_pairs_132 : decode cX7_pairs 132 = .ok (.iinc 5 1, 3) := by decide +kernel
theorem dX7_pairs_135 : decode cX7_pairs 135 = .ok (.goto (-75), 3) := by decide +kernel
theorem dX7_pairs_138 : decode cX7_pairs 138 = .ok (.aload_n 0, 1) := by decide +kernel
theorem dX7_pairs_139 : decode cX7_pairs 139 = .ok (.getfield 58, 3) := by decide +kernel
theorem dX7_pairs_142 : decode cX7_pairs 142 = .ok (.iload_n 1, 1) := by decide +kernel
theorem dX7_pairs_143 : decode cX7_pairs 143 = .ok (.iload 4, 2) := by decide +kernel
theorem dX7_pairs_145 : decode cX7_pairs 145 = .ok (.iastore, 1) := by decide +kernel
theorem dX7_pairs_146 : decode cX7_pairs 146 = .ok (.iinc 1 1, 3) := by decide +kernel
theorem dX7_pairs_149 : decode cX7_pairs 149 = .ok (.goto (-136), 3) := by decide +kernel
theorem dX7_pairs_152 : decode cX7_pairs 152 = .ok (.aload_n 0, 1) := by decide +kernel
theorem dX7_pairs_153 : decode cX7_pairs 153 = .ok (.getfield 58, 3) := by decide +kernel
theorem dX7_pairs_156 : decode cX7_pairs 156 = .ok (.aload_n 0, 1) := by decide +kernel
theorem dX7_pairs_157 : decode cX7_pairs 157 = .ok (.invokevirtual 161, 3) := by decide +kernel
theorem dX7_pairs_160 : decode cX7_pairs 160 = .ok (.iaload, 1) := by decide +kernel
theorem dX7_pairs_161 : decode cX7_pairs 161 = .ok (.ireturn, 1) := by decide +kernel
theorem dX7_rest_0 : decode cX7_rest 0 = .ok (.iload_n 1, 1) := by decide +kernel
theorem dX7_rest_1 : decode cX7_rest 1 = .ok (.ifCond .ge 5, 3) := by decide +kernel
theorem dX7_rest_4 : decode cX7_rest 4 = .ok (.iconst (-1), 1) := by decide +kernel
theorem dX7_rest_5 : decode cX7_rest 5 = .ok (.ireturn, 1) := by decide +kernel
theorem dX7_rest_6 : decode cX7_rest 6 = .ok (.aload_n 0, 1) := by decide +kernel
theorem dX7_rest_7 : decode cX7_rest 7 = .ok (.aload_n 0, 1) := by decide +kernel
theorem dX7_rest_8 : decode cX7_rest 8 = .ok (.invokevirtual 161, 3) := by decide +kernel
theorem dX7_rest_11 : decode cX7_rest 11 = .ok (.invokevirtual 168, 3) := by decide +kernel
theorem dX7_rest_14 : decode cX7_rest 14 = .ok (.iconst 0, 1) := by decide +kernel
theorem dX7_rest_15 : decode cX7_rest 15 = .ok (.istore_n 2, 1) := by decide +kernel
theorem dX7_rest_16 : decode cX7_rest 16 = .ok (.iconst 0, 1) := by decide +kernel
theorem dX7_rest_17 : decode cX7_rest 17 = .ok (.istore_n 3, 1) := by decide +kernel
theorem dX7_rest_18 : decode cX7_rest 18 = .ok (.iload_n 3, 1) := by decide +kernel
theorem dX7_rest_19 : decode cX7_rest 19 = .ok (.aload_n 0, 1) := by decide +kernel
theorem dX7_rest_20 : decode cX7_rest 20 = .ok (.getfield 91, 3) := by decide +kernel
theorem dX7_rest_23 : decode cX7_rest 23 = .ok (.if_icmp .ge 29, 3) := by decide +kernel
theorem dX7_rest_26 : decode cX7_rest 26 = .ok (.iload_n 2, 1) := by decide +kernel
theorem dX7_rest_27 : decode cX7_rest 27 = .ok (.aload_n 0, 1) := by decide +kernel
theorem dX7_rest_28 : decode cX7_rest 28 = .ok (.getfield 52, 3) := by decide +kernel
theorem dX7_rest_31 : decode cX7_rest 31 = .ok (.iload_n 3, 1) := by decide +kernel
theorem dX7_rest_32 : decode cX7_rest 32 = .ok (.iaload, 1) := by decide +kernel
theorem dX7_rest_33 : decode cX7_rest 33 = .ok (.iload_n 1, 1) := by decide +kernel
theorem dX7_rest_34 : decode cX7_rest 34 = .ok (.if_icmp .le 9, 3) := by decide +kernel
theorem dX7_rest_37 : decode cX7_rest 37 = .ok (.iconst 1, 1) := by decide +kernel
theorem dX7_rest_38 : decode cX7_rest 38 = .ok (.iload_n 3, 1) := by decide +kernel
theorem dX7_rest_39 : decode cX7_rest 39 = .ok (.ishl, 1) := by decide +kernel
theorem dX7_rest_40 : decode cX7_rest 40 = .ok (.goto 4, 3) := by decide +kernel
theorem dX7_rest_43 : decode cX7_rest 43 = .ok (.iconst 0, 1) := by decide +kernel
theorem dX7_rest_44 : decode cX7_rest 44 = .ok (.ior, 1) := by decide +kernel
theorem dX7_rest_45 : decode cX7_rest 45 = .ok (.istore_n 2, 1) := by decide +kernel
theorem dX7_rest_46 : decode cX7_rest 46 = .ok (.iinc 3 1, 3) := by decide +kernel
theorem dX7_rest_49 : decode cX7_rest 49 = .ok (.goto (-31), 3) := by decide +kernel
theorem dX7_rest_52 : decode cX7_rest 52 = .ok (.aload_n 0, 1) := by decide +kernel
theorem dX7_rest_53 : decode cX7_rest 53 = .ok (.iload_n 2, 1) := by decide +kernel
theorem dX7_rest_54 : decode cX7_rest 54 = .ok (.invokevirtual 168, 3) := by decide +kernel
theorem dX7_rest_57 : decode cX7_rest 57 = .ok (.aload_n 0, 1) := by decide +kernel
theorem dX7_rest_58 : decode cX7_rest 58 = .ok (.getfield 146, 3) := by decide +kernel
theorem dX7_rest_61 : decode cX7_rest 61 = .ok (.ireturn, 1) := by decide +kernel
theorem dX7_may_0 : decode cX7_may 0 = .ok (.iload_n 3, 1) := by decide +kernel
theorem dX7_may_1 : decode cX7_may 1 = .ok (.iload_n 1, 1) := by decide +kernel
theorem dX7_may_2 : decode cX7_may 2 = .ok (.ishr, 1) := by decide +kernel
theorem dX7_may_3 : decode cX7_may 3 = .ok (.iconst 1, 1) := by decide +kernel
theorem dX7_may_4 : decode cX7_may 4 = .ok (.iand, 1) := by decide +kernel
theorem dX7_may_5 : decode cX7_may 5 = .ok (.ifCond .ne 62, 3) := by decide +kernel
theorem dX7_may_8 : decode cX7_may 8 = .ok (.aload_n 0, 1) := by decide +kernel
theorem dX7_may_9 : decode cX7_may 9 = .ok (.getfield 43, 3) := by decide +kernel
theorem dX7_may_12 : decode cX7_may 12 = .ok (.iload_n 1, 1) := by decide +kernel
theorem dX7_may_13 : decode cX7_may 13 = .ok (.iaload, 1) := by decide +kernel
theorem dX7_may_14 : decode cX7_may 14 = .ok (.iload_n 3, 1) := by decide +kernel
theorem dX7_may_15 : decode cX7_may 15 = .ok (.iconst (-1), 1) := by decide +kernel
theorem dX7_may_16 : decode cX7_may 16 = .ok (.ixor, 1) := by decide +kernel
theorem dX7_may_17 : decode cX7_may 17 = .ok (.iand, 1) := by decide +kernel
theorem dX7_may_18 : decode cX7_may 18 = .ok (.ifCond .ne 49, 3) := by decide +kernel
theorem dX7_may_21 : decode cX7_may 21 = .ok (.aload_n 0, 1) := by decide +kernel
theorem dX7_may_22 : decode cX7_may 22 = .ok (.getfield 22, 3) := by decide +kernel
theorem dX7_may_25 : decode cX7_may 25 = .ok (.iload_n 1, 1) := by decide +kernel
theorem dX7_may_26 : decode cX7_may 26 = .ok (.iaload, 1) := by decide +kernel
theorem dX7_may_27 : decode cX7_may 27 = .ok (.bipush (-3), 2) := by decide +kernel
theorem dX7_may_29 : decode cX7_may 29 = .ok (.if_icmp .eq 13, 3) := by decide +kernel
theorem dX7_may_32 : decode cX7_may 32 = .ok (.iload_n 2, 1) := by decide +kernel
theorem dX7_may_33 : decode cX7_may 33 = .ok (.aload_n 0, 1) := by decide +kernel
theorem dX7_may_34 : decode cX7_may 34 = .ok (.getfield 22, 3) := by decide +kernel
theorem dX7_may_37 : decode cX7_may 37 = .ok (.iload_n 1, 1) := by decide +kernel
theorem dX7_may_38 : decode cX7_may 38 = .ok (.iaload, 1) := by decide +kernel
theorem dX7_may_39 : decode cX7_may 39 = .ok (.if_icmp .lt 28, 3) := by decide +kernel
theorem dX7_may_42 : decode cX7_may 42 = .ok (.aload_n 0, 1) := by decide +kernel
theorem dX7_may_43 : decode cX7_may 43 = .ok (.getfield 25, 3) := by decide +kernel
theorem dX7_may_46 : decode cX7_may 46 = .ok (.iload_n 1, 1) := by decide +kernel
theorem dX7_may_47 : decode cX7_may 47 = .ok (.iaload, 1) := by decide +kernel
theorem dX7_may_48 : decode cX7_may 48 = .ok (.bipush (-3), 2) := by decide +kernel
theorem dX7_may_50 : decode cX7_may 50 = .ok (.if_icmp .eq 13, 3) := by decide +kernel
theorem dX7_may_53 : decode cX7_may 53 = .ok (.iload_n 2, 1) := by decide +kernel
theorem dX7_may_54 : decode cX7_may 54 = .ok (.aload_n 0, 1) := by decide +kernel
theorem dX7_may_55 : decode cX7_may 55 = .ok (.getfield 25, 3) := by decide +kernel
theorem dX7_may_58 : decode cX7_may 58 = .ok (.iload_n 1, 1) := by decide +kernel
theorem dX7_may_59 : decode cX7_may 59 = .ok (.iaload, 1) := by decide +kernel
theorem dX7_may_60 : decode cX7_may 60 = .ok (.if_icmp .gt 7, 3) := by decide +kernel
theorem dX7_may_63 : decode cX7_may 63 = .ok (.iconst 1, 1) := by decide +kernel
theorem dX7_may_64 : decode cX7_may 64 = .ok (.goto 4, 3) := by decide +kernel
theorem dX7_may_67 : decode cX7_may 67 = .ok (.iconst 0, 1) := by decide +kernel
theorem dX7_may_68 : decode cX7_may 68 = .ok (.ireturn, 1) := by decide +kernel
theorem dX7_may2_0 : decode cX7_may2 0 = .ok (.aload_n 0, 1) := by decide +kernel
theorem dX7_may2_1 : decode cX7_may2 1 = .ok (.getfield 28, 3) := by decide +kernel
theorem dX7_may2_4 : decode cX7_may2 4 = .ok (.iload_n 1, 1) := by decide +kernel
theorem dX7_may2_5 : decode cX7_may2 5 = .ok (.iaload, 1) := by decide +kernel
theorem dX7_may2_6 : decode cX7_may2 6 = .ok (.bipush (-3), 2) := by decide +kernel
theorem dX7_may2_8 : decode cX7_may2 8 = .ok (.if_icmp .eq 18, 3) := by decide +kernel
theorem dX7_may2_11 : decode cX7_may2 11 = .ok (.aload_n 0, 1) := by decide +kernel
theorem dX7_may2_12 : decode cX7_may2 12 = .ok (.getfield 28, 3) := by decide +kernel
theorem dX7_may2_15 : decode cX7_may2 15 = .ok (.iload_n 1, 1) := by decide +kernel
theorem dX7_may2_16 : decode cX7_may2 16 = .ok (.iaload, 1) := by decide +kernel
theorem dX7_may2_17 : decode cX7_may2 17 = .ok (.aload_n 0, 1) := by decide +kernel
theorem dX7_may2_18 : decode cX7_may2 18 = .ok (.getfield 28, 3) := by decide +kernel
theorem dX7_may2_21 : decode cX7_may2 21 = .ok (.iload_n 2, 1) := by decide +kernel
theorem dX7_may2_22 : decode cX7_may2 22 = .ok (.iaload, 1) := by decide +kernel
theorem dX7_may2_23 : decode cX7_may2 23 = .ok (.if_icmp .eq 7, 3) := by decide +kernel
theorem dX7_may2_26 : decode cX7_may2 26 = .ok (.iconst 1, 1) := by decide +kernel
theorem dX7_may2_27 : decode cX7_may2 27 = .ok (.goto 4, 3) := by decide +kernel
theorem dX7_may2_30 : decode cX7_may2 30 = .ok (.iconst 0, 1) := by decide +kernel
theorem dX7_may2_31 : decode cX7_may2 31 = .ok (.ireturn, 1) := by decide +kernel
theorem dX7_codeOf_0 : decode cX7_codeOf 0 = .ok (.iload_n 0, 1) := by decide +kernel
theorem dX7_codeOf_1 : decode cX7_codeOf 1 = .ok (.bipush (-3), 2) := by decide +kernel
theorem dX7_codeOf_3 : decode cX7_codeOf 3 = .ok (.if_icmp .ne 8, 3) := by decide +kernel
theorem dX7_codeOf_6 : decode cX7_codeOf 6 = .ok (.bipush 120, 2) := by decide +kernel
theorem dX7_codeOf_8 : decode cX7_codeOf 8 = .ok (.goto 25, 3) := by decide +kernel
theorem dX7_codeOf_11 : decode cX7_codeOf 11 = .ok (.iload_n 1, 1) := by decide +kernel
theorem dX7_codeOf_12 : decode cX7_codeOf 12 = .ok (.bipush (-3), 2) := by decide +kernel
theorem dX7_codeOf_14 : decode cX7_codeOf 14 = .ok (.if_icmp .ne 13, 3) := by decide +kernel
theorem dX7_codeOf_17 : decode cX7_codeOf 17 = .ok (.bipush 11, 2) := by decide +kernel
theorem dX7_codeOf_19 : decode cX7_codeOf 19 = .ok (.iload_n 0, 1) := by decide +kernel
theorem dX7_codeOf_20 : decode cX7_codeOf 20 = .ok (.imul, 1) := by decide +kernel
theorem dX7_codeOf_21 : decode cX7_codeOf 21 = .ok (.bipush 10, 2) := by decide +kernel
theorem dX7_codeOf_23 : decode cX7_codeOf 23 = .ok (.iadd, 1) := by decide +kernel
theorem dX7_codeOf_24 : decode cX7_codeOf 24 = .ok (.goto 9, 3) := by decide +kernel
theorem dX7_codeOf_27 : decode cX7_codeOf 27 = .ok (.bipush 11, 2) := by decide +kernel
theorem dX7_codeOf_29 : decode cX7_codeOf 29 = .ok (.iload_n 0, 1) := by decide +kernel
theorem dX7_codeOf_30 : decode cX7_codeOf 30 = .ok (.imul, 1) := by decide +kernel
theorem dX7_codeOf_31 : decode cX7_codeOf 31 = .ok (.iload_n 1, 1) := by decide +kernel
theorem dX7_codeOf_32 : decode cX7_codeOf 32 = .ok (.iadd, 1) := by decide +kernel
theorem dX7_codeOf_33 : decode cX7_codeOf 33 = .ok (.ireturn, 1) := by decide +kernel
theorem dX7_bestOf_0 : decode cX7_bestOf 0 = .ok (.sipush 1024, 3) := by decide +kernel
theorem dX7_bestOf_3 : decode cX7_bestOf 3 = .ok (.iload_n 1, 1) := by decide +kernel
theorem dX7_bestOf_4 : decode cX7_bestOf 4 = .ok (.imul, 1) := by decide +kernel
theorem dX7_bestOf_5 : decode cX7_bestOf 5 = .ok (.istore_n 3, 1) := by decide +kernel
theorem dX7_bestOf_6 : decode cX7_bestOf 6 = .ok (.aload_n 0, 1) := by decide +kernel
theorem dX7_bestOf_7 : decode cX7_bestOf 7 = .ok (.getfield 62, 3) := by decide +kernel
theorem dX7_bestOf_10 : decode cX7_bestOf 10 = .ok (.iload_n 3, 1) := by decide +kernel
theorem dX7_bestOf_11 : decode cX7_bestOf 11 = .ok (.iload_n 2, 1) := by decide +kernel
theorem dX7_bestOf_12 : decode cX7_bestOf 12 = .ok (.iadd, 1) := by decide +kernel
theorem dX7_bestOf_13 : decode cX7_bestOf 13 = .ok (.iaload, 1) := by decide +kernel
theorem dX7_bestOf_14 : decode cX7_bestOf 14 = .ok (.istore 4, 2) := by decide +kernel
theorem dX7_bestOf_16 : decode cX7_bestOf 16 = .ok (.aload_n 0, 1) := by decide +kernel
theorem dX7_bestOf_17 : decode cX7_bestOf 17 = .ok (.bipush 120, 2) := by decide +kernel
theorem dX7_bestOf_19 : decode cX7_bestOf 19 = .ok (.putfield 177, 3) := by decide +kernel
theorem dX7_bestOf_22 : decode cX7_bestOf 22 = .ok (.aload_n 0, 1) := by decide +kernel
theorem dX7_bestOf_23 : decode cX7_bestOf 23 = .ok (.iload_n 2, 1) := by decide +kernel
theorem dX7_bestOf_24 : decode cX7_bestOf 24 = .ok (.putfield 180, 3) := by decide +kernel
theorem dX7_bestOf_27 : decode cX7_bestOf 27 = .ok (.iconst 0, 1) := by decide +kernel
theorem dX7_bestOf_28 : decode cX7_bestOf 28 = .ok (.istore 5, 2) := by decide +kernel
theorem dX7_bestOf_30 : decode cX7_bestOf 30 = .ok (.iload 5, 2) := by decide +kernel
theorem dX7_bestOf_32 : decode cX7_bestOf 32 = .ok (.aload_n 0, 1) := by decide +kernel
theorem dX7_bestOf_33 : decode cX7_bestOf 33 = .ok (.getfield 91, 3) := by decide +kernel
theorem dX7_bestOf_36 : decode cX7_bestOf 36 = .ok (.if_icmp .ge 175, 3) := by decide +kernel
theorem dX7_bestOf_39 : decode cX7_bestOf 39 = .ok (.aload_n 0, 1) := by decide +kernel
theorem dX7_bestOf_40 : decode cX7_bestOf 40 = .ok (.iload 5, 2) := by decide +kernel
theorem dX7_bestOf_42 : decode cX7_bestOf 42 = .ok (.iload_n 1, 1) := by decide +kernel
theorem dX7_bestOf_43 : decode cX7_bestOf 43 = .ok (.iload_n 2, 1) := by decide +kernel
theorem dX7_bestOf_44 : decode cX7_bestOf 44 = .ok (.invokevirtual 183, 3) := by decide +kernel
theorem dX7_bestOf_47 : decode cX7_bestOf 47 = .ok (.ifCond .eq 158, 3) := by decide +kernel
theorem dX7_bestOf_50 : decode cX7_bestOf 50 = .ok (.iload 5, 2) := by decide +kernel
theorem dX7_bestOf_52 : decode cX7_bestOf 52 = .ok (.iconst 1, 1) := by decide +kernel
theorem dX7_bestOf_53 : decode cX7_bestOf 53 = .ok (.iadd, 1) := by decide +kernel
theorem dX7_bestOf_54 : decode cX7_bestOf 54 = .ok (.istore 6, 2) := by decide +kernel
theorem dX7_bestOf_56 : decode cX7_bestOf 56 = .ok (.iload 6, 2) := by decide +kernel
theorem dX7_bestOf_58 : decode cX7_bestOf 58 = .ok (.aload_n 0, 1) := by decide +kernel
theorem dX7_bestOf_59 : decode cX7_bestOf 59 = .ok (.getfield 91, 3) := by decide +kernel
theorem dX7_bestOf_62 : decode cX7_bestOf 62 = .ok (.if_icmp .gt 143, 3) := by decide +kernel
theorem dX7_bestOf_65 : decode cX7_bestOf 65 = .ok (.iload 6, 2) := by decide +kernel
theorem dX7_bestOf_67 : decode cX7_bestOf 67 = .ok (.aload_n 0, 1) := by decide +kernel
theorem dX7_bestOf_68 : decode cX7_bestOf 68 = .ok (.getfield 91, 3) := by decide +kernel
theorem dX7_bestOf_71 : decode cX7_bestOf 71 = .ok (.if_icmp .ne 7, 3) := by decide +kernel
theorem dX7_bestOf_74 : decode cX7_bestOf 74 = .ok (.iconst 1, 1) := by decide +kernel
theorem dX7_bestOf_75 : decode cX7_bestOf 75 = .ok (.goto 4, 3) := by decide +kernel
theorem dX7_bestOf_78 : decode cX7_bestOf 78 = .ok (.iconst 0, 1) := by decide +kernel
theorem dX7_bestOf_79 : decode cX7_bestOf 79 = .ok (.istore 7, 2) := by decide +kernel
theorem dX7_bestOf_81 : decode cX7_bestOf 81 = .ok (.iload 7, 2) := by decide +kernel
theorem dX7_bestOf_83 : decode cX7_bestOf 83 = .ok (.ifCond .ne 25, 3) := by decide +kernel
theorem dX7_bestOf_86 : decode cX7_bestOf 86 = .ok (.aload_n 0, 1) := by decide +kernel
theorem dX7_bestOf_87 : decode cX7_bestOf 87 = .ok (.iload 6, 2) := by decide +kernel
theorem dX7_bestOf_89 : decode cX7_bestOf 89 = .ok (.iload_n 1, 1) := by decide +kernel
theorem dX7_bestOf_90 : decode cX7_bestOf 90 = .ok (.iload_n 2, 1) := by decide +kernel
theorem dX7_bestOf_91 : decode cX7_bestOf 91 = .ok (.invokevirtual 183, 3) := by decide +kernel
theorem dX7_bestOf_94 : decode cX7_bestOf 94 = .ok (.ifCond .eq 105, 3) := by decide +kernel
theorem dX7_bestOf_97 : decode cX7_bestOf 97 = .ok (.aload_n 0, 1) := by decide +kernel
theorem dX7_bestOf_98 : decode cX7_bestOf 98 = .ok (.iload 5, 2) := by decide +kernel
theorem dX7_bestOf_100 : decode cX7_bestOf 100 = .ok (.iload 6, 2) := by decide +kernel
theorem dX7_bestOf_102 : decode cX7_bestOf 102 = .ok (.invokevirtual 187, 3) := by decide +kernel
theorem dX7_bestOf_105 : decode cX7_bestOf 105 = .ok (.ifCond .eq 94, 3) := by decide +kernel
theorem dX7_bestOf_108 : decode cX7_bestOf 108 = .ok (.iload_n 2, 1) := by decide +kernel
theorem dX7_bestOf_109 : decode cX7_bestOf 109 = .ok (.iconst 1, 1) := by decide +kernel
theorem dX7_bestOf_110 : decode cX7_bestOf 110 = .ok (.iload 5, 2) := by decide +kernel
theorem dX7_bestOf_112 : decode cX7_bestOf 112 = .ok (.ishl, 1) := by decide +kernel
theorem dX7_bestOf_113 : decode cX7_bestOf 113 = .ok (.ior, 1) := by decide +kernel
theorem dX7_bestOf_114 : decode cX7_bestOf 114 = .ok (.iload 7, 2) := by decide +kernel
theorem dX7_bestOf_116 : decode cX7_bestOf 116 = .ok (.ifCond .eq 7, 3) := by decide +kernel
theorem dX7_bestOf_119 : decode cX7_bestOf 119 = .ok (.iconst 0, 1) := by decide +kernel
theorem dX7_bestOf_120 : decode cX7_bestOf 120 = .ok (.goto 7, 3) := by decide +kernel
theorem dX7_bestOf_123 : decode cX7_bestOf 123 = .ok (.iconst 1, 1) := by decide +kernel
theorem dX7_bestOf_124 : decode cX7_bestOf 124 = .ok (.iload 6, 2) := by decide +kernel
theorem dX7_bestOf_126 : decode cX7_bestOf 126 = .ok (.ishl, 1) := by decide +kernel
theorem dX7_bestOf_127 : decode cX7_bestOf 127 = .ok (.ior, 1) := by decide +kernel
theorem dX7_bestOf_128 : decode cX7_bestOf 128 = .ok (.istore 8, 2) := by decide +kernel
theorem dX7_bestOf_130 : decode cX7_bestOf 130 = .ok (.aload_n 0, 1) := by decide +kernel
theorem dX7_bestOf_131 : decode cX7_bestOf 131 = .ok (.getfield 62, 3) := by decide +kernel
theorem dX7_bestOf_134 : decode cX7_bestOf 134 = .ok (.iload_n 3, 1) := by decide +kernel
theorem dX7_bestOf_135 : decode cX7_bestOf 135 = .ok (.iload 8, 2) := by decide +kernel
theorem dX7_bestOf_137 : decode cX7_bestOf 137 = .ok (.iadd, 1) := by decide +kernel
theorem dX7_bestOf_138 : decode cX7_bestOf 138 = .ok (.iaload, 1) := by decide +kernel
theorem dX7_bestOf_139 : decode cX7_bestOf 139 = .ok (.istore 9, 2) := by decide +kernel
theorem dX7_bestOf_141 : decode cX7_bestOf 141 = .ok (.iload 5, 2) := by decide +kernel
theorem dX7_bestOf_143 : decode cX7_bestOf 143 = .ok (.iload 7, 2) := by decide +kernel
theorem dX7_bestOf_145 : decode cX7_bestOf 145 = .ok (.ifCond .eq 8, 3) := by decide +kernel
theorem dX7_bestOf_148 : decode cX7_bestOf 148 = .ok (.bipush (-3), 2) := by decide +kernel
theorem dX7_bestOf_150 : decode cX7_bestOf 150 = .ok (.goto 5, 3) := by decide +kernel
theorem dX7_bestOf_153 : decode cX7_bestOf 153 = .ok (.iload 6, 2) := by decide +kernel
theorem dX7_bestOf_155 : decode cX7_bestOf 155 = .ok (.invokestatic 190, 3) := by decide +kernel
theorem dX7_bestOf_158 : decode cX7_bestOf 158 = .ok (.istore 10, 2) := by decide +kernel
theorem dX7_bestOf_160 : decode cX7_bestOf 160 = .ok (.iload 9, 2) := by decide +kernel
theorem dX7_bestOf_162 : decode cX7_bestOf 162 = .ok (.iload 4, 2) := by decide +kernel
theorem dX7_bestOf_164 : decode cX7_bestOf 164 = .ok (.if_icmp .lt 19, 3) := by decide +kernel
theorem dX7_bestOf_167 : decode cX7_bestOf 167 = .ok (.iload 9, 2) := by decide +kernel
theorem dX7_bestOf_169 : decode cX7_bestOf 169 = .ok (.iload 4, 2) := by decide +kernel
theorem dX7_bestOf_171 : decode cX7_bestOf 171 = .ok (.if_icmp .ne 28, 3) := by decide +kernel
theorem dX7_bestOf_174 : decode cX7_bestOf 174 = .ok (.iload 10, 2) := by decide +kernel
theorem dX7_bestOf_176 : decode cX7_bestOf 176 = .ok (.aload_n 0, 1) := by decide +kernel
theorem dX7_bestOf_177 : decode cX7_bestOf 177 = .ok (.getfield 177, 3) := by decide +kernel
theorem dX7_bestOf_180 : decode cX7_bestOf 180 = .ok (.if_icmp .ge 19, 3) := by decide +kernel
theorem dX7_bestOf_183 : decode cX7_bestOf 183 = .ok (.iload 9, 2) := by decide +kernel
theorem dX7_bestOf_185 : decode cX7_bestOf 185 = .ok (.istore 4, 2) := by decide +kernel
theorem dX7_bestOf_187 : decode cX7_bestOf 187 = .ok (.aload_n 0, 1) := by decide +kernel
theorem dX7_bestOf_188 : decode cX7_bestOf 188 = .ok (.iload 10, 2) := by decide +kernel
theorem dX7_bestOf_190 : decode cX7_bestOf 190 = .ok (.putfield 177, 3) := by decide +kernel
theorem dX7_bestOf_193 : decode cX7_bestOf 193 = .ok (.aload_n 0, 1) := by decide +kernel
theorem dX7_bestOf_194 : decode cX7_bestOf 194 = .ok (.iload 8, 2) := by decide +kernel
theorem dX7_bestOf_196 : decode cX7_bestOf 196 = .ok (.putfield 180, 3) := by decide +kernel
theorem dX7_bestOf_199 : decode cX7_bestOf 199 = .ok (.iinc 6 1, 3) := by decide +kernel
theorem dX7_bestOf_202 : decode cX7_bestOf 202 = .ok (.goto (-146), 3) := by decide +kernel
theorem dX7_bestOf_205 : decode cX7_bestOf 205 = .ok (.iinc 5 1, 3) := by decide +kernel
theorem dX7_bestOf_208 : decode cX7_bestOf 208 = .ok (.goto (-178), 3) := by decide +kernel
theorem dX7_bestOf_211 : decode cX7_bestOf 211 = .ok (.iload 4, 2) := by decide +kernel
theorem dX7_bestOf_213 : decode cX7_bestOf 213 = .ok (.ireturn, 1) := by decide +kernel
theorem dX7_layKept_0 : decode cX7_layKept 0 = .ok (.aload_n 0, 1) := by decide +kernel
theorem dX7_layKept_1 : decode cX7_layKept 1 = .ok (.getfield 98, 3) := by decide +kernel
theorem dX7_layKept_4 : decode cX7_layKept 4 = .ok (.ifCond .eq 4, 3) := by decide +kernel
theorem dX7_layKept_7 : decode cX7_layKept 7 = .ok (.return_, 1) := by decide +kernel
theorem dX7_layKept_8 : decode cX7_layKept 8 = .ok (.aload_n 0, 1) := by decide +kernel
theorem dX7_layKept_9 : decode cX7_layKept 9 = .ok (.iconst 1, 1) := by decide +kernel
theorem dX7_layKept_10 : decode cX7_layKept 10 = .ok (.putfield 98, 3) := by decide +kernel
theorem dX7_layKept_13 : decode cX7_layKept 13 = .ok (.aload_n 0, 1) := by decide +kernel
theorem dX7_layKept_14 : decode cX7_layKept 14 = .ok (.invokevirtual 115, 3) := by decide +kernel
theorem dX7_layKept_17 : decode cX7_layKept 17 = .ok (.aload_n 0, 1) := by decide +kernel
theorem dX7_layKept_18 : decode cX7_layKept 18 = .ok (.invokevirtual 161, 3) := by decide +kernel
theorem dX7_layKept_21 : decode cX7_layKept 21 = .ok (.istore_n 1, 1) := by decide +kernel
theorem dX7_layKept_22 : decode cX7_layKept 22 = .ok (.iconst 0, 1) := by decide +kernel
theorem dX7_layKept_23 : decode cX7_layKept 23 = .ok (.istore_n 2, 1) := by decide +kernel
theorem dX7_layKept_24 : decode cX7_layKept 24 = .ok (.iload_n 2, 1) := by decide +kernel
theorem dX7_layKept_25 : decode cX7_layKept 25 = .ok (.iload_n 1, 1) := by decide +kernel
theorem dX7_layKept_26 : decode cX7_layKept 26 = .ok (.if_icmp .gt 30, 3) := by decide +kernel
theorem dX7_layKept_29 : decode cX7_layKept 29 = .ok (.aload_n 0, 1) := by decide +kernel
theorem dX7_layKept_30 : decode cX7_layKept 30 = .ok (.getfield 62, 3) := by decide +kernel
theorem dX7_layKept_33 : decode cX7_layKept 33 = .ok (.ldc 193, 2) := by decide +kernel
theorem dX7_layKept_35 : decode cX7_layKept 35 = .ok (.iload_n 2, 1) := by decide +kernel
theorem dX7_layKept_36 : decode cX7_layKept 36 = .ok (.iadd, 1) := by decide +kernel
theorem dX7_layKept_37 : decode cX7_layKept 37 = .ok (.iload_n 2, 1) := by decide +kernel
theorem dX7_layKept_38 : decode cX7_layKept 38 = .ok (.iload_n 1, 1) := by decide +kernel
theorem dX7_layKept_39 : decode cX7_layKept 39 = .ok (.if_icmp .ne 8, 3) := by decide +kernel
theorem dX7_layKept_42 : decode cX7_layKept 42 = .ok (.bipush 60, 2) := by decide +kernel
theorem dX7_layKept_44 : decode cX7_layKept 44 = .ok (.goto 5, 3) := by decide +kernel
theorem dX7_layKept_47 : decode cX7_layKept 47 = .ok (.bipush 99, 2) := by decide +kernel
theorem dX7_layKept_49 : decode cX7_layKept 49 = .ok (.iastore, 1) := by decide +kernel
theorem dX7_layKept_50 : decode cX7_layKept 50 = .ok (.iinc 2 1, 3) := by decide +kernel
theorem dX7_layKept_53 : decode cX7_layKept 53 = .ok (.goto (-29), 3) := by decide +kernel
theorem dX7_layKept_56 : decode cX7_layKept 56 = .ok (.bipush 60, 2) := by decide +kernel
theorem dX7_layKept_58 : decode cX7_layKept 58 = .ok (.istore_n 2, 1) := by decide +kernel
theorem dX7_layKept_59 : decode cX7_layKept 59 = .ok (.iload_n 2, 1) := by decide +kernel
theorem dX7_layKept_60 : decode cX7_layKept 60 = .ok (.ifCond .le 53, 3) := by decide +kernel
theorem dX7_layKept_63 : decode cX7_layKept 63 = .ok (.iconst 0, 1) := by decide +kernel
theorem dX7_layKept_64 : decode cX7_layKept 64 = .ok (.istore_n 3, 1) := by decide +kernel
theorem dX7_layKept_65 : decode cX7_layKept 65 = .ok (.iload_n 3, 1) := by decide +kernel
theorem dX7_layKept_66 : decode cX7_layKept 66 = .ok (.iload_n 1, 1) := by decide +kernel
theorem dX7_layKept_67 : decode cX7_layKept 67 = .ok (.if_icmp .gt 40, 3) := by decide +kernel
theorem dX7_layKept_70 : decode cX7_layKept 70 = .ok (.aload_n 0, 1) := by decide +kernel
theorem dX7_layKept_71 : decode cX7_layKept 71 = .ok (.getfield 62, 3) := by decide +kernel
theorem dX7_layKept_74 : decode cX7_layKept 74 = .ok (.sipush 1024, 3) := by decide +kernel
theorem dX7_layKept_77 : decode cX7_layKept 77 = .ok (.iload_n 2, 1) := by decide +kernel
theorem dX7_layKept_78 : decode cX7_layKept 78 = .ok (.iconst 1, 1) := by decide +kernel
theorem dX7_layKept_79 : decode cX7_layKept 79 = .ok (.isub, 1) := by decide +kernel
theorem dX7_layKept_80 : decode cX7_layKept 80 = .ok (.imul, 1) := by decide +kernel
theorem dX7_layKept_81 : decode cX7_layKept 81 = .ok (.iload_n 3, 1) := by decide +kernel
theorem dX7_layKept_82 : decode cX7_layKept 82 = .ok (.iadd, 1) := by decide +kernel
theorem dX7_layKept_83 : decode cX7_layKept 83 = .ok (.iload_n 3, 1) := by decide +kernel
theorem dX7_layKept_84 : decode cX7_layKept 84 = .ok (.iload_n 1, 1) := by decide +kernel
theorem dX7_layKept_85 : decode cX7_layKept 85 = .ok (.if_icmp .ne 9, 3) := by decide +kernel
theorem dX7_layKept_88 : decode cX7_layKept 88 = .ok (.iload_n 2, 1) := by decide +kernel
theorem dX7_layKept_89 : decode cX7_layKept 89 = .ok (.iconst 1, 1) := by decide +kernel
theorem dX7_layKept_90 : decode cX7_layKept 90 = .ok (.isub, 1) := by decide +kernel
theorem dX7_layKept_91 : decode cX7_layKept 91 = .ok (.goto 9, 3) := by decide +kernel
theorem dX7_layKept_94 : decode cX7_layKept 94 = .ok (.aload_n 0, 1) := by decide +kernel
theorem dX7_layKept_95 : decode cX7_layKept 95 = .ok (.iload_n 2, 1) := by decide +kernel
theorem dX7_layKept_96 : decode cX7_layKept 96 = .ok (.iload_n 3, 1) := by decide +kernel
theorem dX7_layKept_97 : decode cX7_layKept 97 = .ok (.invokevirtual 194, 3) := by decide +kernel
theorem dX7_layKept_100 : decode cX7_layKept 100 = .ok (.iastore, 1) := by decide +kernel
theorem dX7_layKept_101 : decode cX7_layKept 101 = .ok (.iinc 3 1, 3) := by decide +kernel
theorem dX7_layKept_104 : decode cX7_layKept 104 = .ok (.goto (-39), 3) := by decide +kernel
theorem dX7_layKept_107 : decode cX7_layKept 107 = .ok (.iinc 2 (-1), 3) := by decide +kernel
theorem dX7_layKept_110 : decode cX7_layKept 110 = .ok (.goto (-51), 3) := by decide +kernel
theorem dX7_layKept_113 : decode cX7_layKept 113 = .ok (.iconst 0, 1) := by decide +kernel
theorem dX7_layKept_114 : decode cX7_layKept 114 = .ok (.istore_n 2, 1) := by decide +kernel
theorem dX7_layKept_115 : decode cX7_layKept 115 = .ok (.iload_n 2, 1) := by decide +kernel
theorem dX7_layKept_116 : decode cX7_layKept 116 = .ok (.bipush 10, 2) := by decide +kernel
theorem dX7_layKept_118 : decode cX7_layKept 118 = .ok (.if_icmp .ge 17, 3) := by decide +kernel
theorem dX7_layKept_121 : decode cX7_layKept 121 = .ok (.aload_n 0, 1) := by decide +kernel
theorem dX7_layKept_122 : decode cX7_layKept 122 = .ok (.getfield 68, 3) := by decide +kernel
theorem dX7_layKept_125 : decode cX7_layKept 125 = .ok (.iload_n 2, 1) := by decide +kernel
theorem dX7_layKept_126 : decode cX7_layKept 126 = .ok (.bipush (-3), 2) := by decide +kernel
theorem dX7_layKept_128 : decode cX7_layKept 128 = .ok (.iastore, 1) := by decide +kernel
theorem dX7_layKept_129 : decode cX7_layKept 129 = .ok (.iinc 2 1, 3) := by decide +kernel
theorem dX7_layKept_132 : decode cX7_layKept 132 = .ok (.goto (-17), 3) := by decide +kernel
theorem dX7_layKept_135 : decode cX7_layKept 135 = .ok (.aload_n 0, 1) := by decide +kernel
theorem dX7_layKept_136 : decode cX7_layKept 136 = .ok (.aload_n 0, 1) := by decide +kernel
theorem dX7_layKept_137 : decode cX7_layKept 137 = .ok (.getfield 62, 3) := by decide +kernel
theorem dX7_layKept_140 : decode cX7_layKept 140 = .ok (.iconst 0, 1) := by decide +kernel
theorem dX7_layKept_141 : decode cX7_layKept 141 = .ok (.iaload, 1) := by decide +kernel
theorem dX7_layKept_142 : decode cX7_layKept 142 = .ok (.bipush 99, 2) := by decide +kernel
theorem dX7_layKept_144 : decode cX7_layKept 144 = .ok (.if_icmp .ne 8, 3) := by decide +kernel
theorem dX7_layKept_147 : decode cX7_layKept 147 = .ok (.bipush (-3), 2) := by decide +kernel
theorem dX7_layKept_149 : decode cX7_layKept 149 = .ok (.goto 9, 3) := by decide +kernel
theorem dX7_layKept_152 : decode cX7_layKept 152 = .ok (.aload_n 0, 1) := by decide +kernel
theorem dX7_layKept_153 : decode cX7_layKept 153 = .ok (.getfield 62, 3) := by decide +kernel
theorem dX7_layKept_156 : decode cX7_layKept 156 = .ok (.iconst 0, 1) := by decide +kernel
theorem dX7_layKept_157 : decode cX7_layKept 157 = .ok (.iaload, 1) := by decide +kernel
theorem dX7_layKept_158 : decode cX7_layKept 158 = .ok (.putfield 197, 3) := by decide +kernel
theorem dX7_layKept_161 : decode cX7_layKept 161 = .ok (.iconst 0, 1) := by decide +kernel
theorem dX7_layKept_162 : decode cX7_layKept 162 = .ok (.istore_n 2, 1) := by decide +kernel
theorem dX7_layKept_163 : decode cX7_layKept 163 = .ok (.iconst 1, 1) := by decide +kernel
theorem dX7_layKept_164 : decode cX7_layKept 164 = .ok (.istore_n 3, 1) := by decide +kernel
theorem dX7_layKept_165 : decode cX7_layKept 165 = .ok (.iload_n 3, 1) := by decide +kernel
theorem dX7_layKept_166 : decode cX7_layKept 166 = .ok (.aload_n 0, 1) := by decide +kernel
theorem dX7_layKept_167 : decode cX7_layKept 167 = .ok (.getfield 197, 3) := by decide +kernel
theorem dX7_layKept_170 : decode cX7_layKept 170 = .ok (.if_icmp .gt 98, 3) := by decide +kernel
theorem dX7_layKept_173 : decode cX7_layKept 173 = .ok (.aload_n 0, 1) := by decide +kernel
theorem dX7_layKept_174 : decode cX7_layKept 174 = .ok (.iload_n 3, 1) := by decide +kernel
theorem dX7_layKept_175 : decode cX7_layKept 175 = .ok (.iload_n 2, 1) := by decide +kernel
theorem dX7_layKept_176 : decode cX7_layKept 176 = .ok (.invokevirtual 194, 3) := by decide +kernel
theorem dX7_layKept_179 : decode cX7_layKept 179 = .ok (.istore 4, 2) := by decide +kernel
theorem dX7_layKept_181 : decode cX7_layKept 181 = .ok (.aload_n 0, 1) := by decide +kernel
theorem dX7_layKept_182 : decode cX7_layKept 182 = .ok (.getfield 65, 3) := by decide +kernel
theorem dX7_layKept_185 : decode cX7_layKept 185 = .ok (.iload_n 3, 1) := by decide +kernel
theorem dX7_layKept_186 : decode cX7_layKept 186 = .ok (.aload_n 0, 1) := by decide +kernel
theorem dX7_layKept_187 : decode cX7_layKept 187 = .ok (.getfield 177, 3) := by decide +kernel
theorem dX7_layKept_190 : decode cX7_layKept 190 = .ok (.iastore, 1) := by decide +kernel
theorem dX7_layKept_191 : decode cX7_layKept 191 = .ok (.iconst 0, 1) := by decide +kernel
theorem dX7_layKept_192 : decode cX7_layKept 192 = .ok (.istore 5, 2) := by decide +kernel
theorem dX7_layKept_194 : decode cX7_layKept 194 = .ok (.iload 5, 2) := by decide +kernel
theorem dX7_layKept_196 : decode cX7_layKept 196 = .ok (.aload_n 0, 1) := by decide +kernel
theorem dX7_layKept_197 : decode cX7_layKept 197 = .ok (.getfield 91, 3) := by decide +kernel
theorem dX7_layKept_200 : decode cX7_layKept 200 = .ok (.if_icmp .ge 57, 3) := by decide +kernel
theorem dX7_layKept_203 : decode cX7_layKept 203 = .ok (.aload_n 0, 1) := by decide +kernel
theorem dX7_layKept_204 : decode cX7_layKept 204 = .ok (.getfield 68, 3) := by decide +kernel
theorem dX7_layKept_207 : decode cX7_layKept 207 = .ok (.iload 5, 2) := by decide +kernel
theorem dX7_layKept_209 : decode cX7_layKept 209 = .ok (.aload_n 0, 1) := by decide +kernel
theorem dX7_layKept_210 : decode cX7_layKept 210 = .ok (.getfield 180, 3) := by decide +kernel
theorem dX7_layKept_213 : decode cX7_layKept 213 = .ok (.iload_n 2, 1) := by decide +kernel
theorem dX7_layKept_214 : decode cX7_layKept 214 = .ok (.iconst (-1), 1) := by decide +kernel
theorem dX7_layKept_215 : decode cX7_layKept 215 = .ok (.ixor, 1) := by decide +kernel
theorem dX7_layKept_216 : decode cX7_layKept 216 = .ok (.iand, 1) := by decide +kernel
theorem dX7_layKept_217 : decode cX7_layKept 217 = .ok (.iload 5, 2) := by decide +kernel
theorem dX7_layKept_219 : decode cX7_layKept 219 = .ok (.ishr, 1) := by decide +kernel
theorem dX7_layKept_220 : decode cX7_layKept 220 = .ok (.ifCond .eq 19, 3) := by decide +kernel
theorem dX7_layKept_223 : decode cX7_layKept 223 = .ok (.aload_n 0, 1) := by decide +kernel
theorem dX7_layKept_224 : decode cX7_layKept 224 = .ok (.getfield 180, 3) := by decide +kernel
theorem dX7_layKept_227 : decode cX7_layKept 227 = .ok (.iload_n 2, 1) := by decide +kernel
theorem dX7_layKept_228 : decode cX7_layKept 228 = .ok (.iconst (-1), 1) := by decide +kernel
theorem dX7_layKept_229 : decode cX7_layKept 229 = .ok (.ixor, 1) := by decide +kernel
theorem dX7_layKept_230 : decode cX7_layKept 230 = .ok (.iand, 1) := by decide +kernel
theorem dX7_layKept_231 : decode cX7_layKept 231 = .ok (.iload 5, 2) := by decide +kernel
theorem dX7_layKept_233 : decode cX7_layKept 233 = .ok (.ishr, 1) := by decide +kernel
theorem dX7_layKept_234 : decode cX7_layKept 234 = .ok (.iconst 1, 1) := by decide +kernel
theorem dX7_layKept_235 : decode cX7_layKept 235 = .ok (.iand, 1) := by decide +kernel
theorem dX7_layKept_236 : decode cX7_layKept 236 = .ok (.ifCond .ne 13, 3) := by decide +kernel
theorem dX7_layKept_239 : decode cX7_layKept 239 = .ok (.aload_n 0, 1) := by decide +kernel
theorem dX7_layKept_240 : decode cX7_layKept 240 = .ok (.getfield 68, 3) := by decide +kernel
theorem dX7_layKept_243 : decode cX7_layKept 243 = .ok (.iload 5, 2) := by decide +kernel
theorem dX7_layKept_245 : decode cX7_layKept 245 = .ok (.iaload, 1) := by decide +kernel
theorem dX7_layKept_246 : decode cX7_layKept 246 = .ok (.goto 4, 3) := by decide +kernel
theorem dX7_layKept_249 : decode cX7_layKept 249 = .ok (.iload_n 3, 1) := by decide +kernel
theorem dX7_layKept_250 : decode cX7_layKept 250 = .ok (.iastore, 1) := by decide +kernel
theorem dX7_layKept_251 : decode cX7_layKept 251 = .ok (.iinc 5 1, 3) := by decide +kernel
theorem dX7_layKept_254 : decode cX7_layKept 254 = .ok (.goto (-60), 3) := by decide +kernel
theorem dX7_layKept_257 : decode cX7_layKept 257 = .ok (.aload_n 0, 1) := by decide +kernel
theorem dX7_layKept_258 : decode cX7_layKept 258 = .ok (.getfield 180, 3) := by decide +kernel
theorem dX7_layKept_261 : decode cX7_layKept 261 = .ok (.istore_n 2, 1) := by decide +kernel
theorem dX7_layKept_262 : decode cX7_layKept 262 = .ok (.iinc 3 1, 3) := by decide +kernel
theorem dX7_layKept_265 : decode cX7_layKept 265 = .ok (.goto (-100), 3) := by decide +kernel
theorem dX7_layKept_268 : decode cX7_layKept 268 = .ok (.return_, 1) := by decide +kernel
theorem dX7_kept_0 : decode cX7_kept 0 = .ok (.aload_n 0, 1) := by decide +kernel
theorem dX7_kept_1 : decode cX7_kept 1 = .ok (.invokevirtual 171, 3) := by decide +kernel
theorem dX7_kept_4 : decode cX7_kept 4 = .ok (.aload_n 0, 1) := by decide +kernel
theorem dX7_kept_5 : decode cX7_kept 5 = .ok (.getfield 197, 3) := by decide +kernel
theorem dX7_kept_8 : decode cX7_kept 8 = .ok (.ireturn, 1) := by decide +kernel
theorem dX7_code_0 : decode cX7_code 0 = .ok (.iload_n 1, 1) := by decide +kernel
theorem dX7_code_1 : decode cX7_code 1 = .ok (.iconst 1, 1) := by decide +kernel
theorem dX7_code_2 : decode cX7_code 2 = .ok (.if_icmp .ge 5, 3) := by decide +kernel
theorem dX7_code_5 : decode cX7_code 5 = .ok (.iconst (-1), 1) := by decide +kernel
theorem dX7_code_6 : decode cX7_code 6 = .ok (.ireturn, 1) := by decide +kernel
theorem dX7_code_7 : decode cX7_code 7 = .ok (.aload_n 0, 1) := by decide +kernel
theorem dX7_code_8 : decode cX7_code 8 = .ok (.invokevirtual 171, 3) := by decide +kernel
theorem dX7_code_11 : decode cX7_code 11 = .ok (.aload_n 0, 1) := by decide +kernel
theorem dX7_code_12 : decode cX7_code 12 = .ok (.getfield 197, 3) := by decide +kernel
theorem dX7_code_15 : decode cX7_code 15 = .ok (.bipush (-3), 2) := by decide +kernel
theorem dX7_code_17 : decode cX7_code 17 = .ok (.if_icmp .eq 11, 3) := by decide +kernel
theorem dX7_code_20 : decode cX7_code 20 = .ok (.iload_n 1, 1) := by decide +kernel
theorem dX7_code_21 : decode cX7_code 21 = .ok (.aload_n 0, 1) := by decide +kernel
theorem dX7_code_22 : decode cX7_code 22 = .ok (.getfield 197, 3) := by decide +kernel
theorem dX7_code_25 : decode cX7_code 25 = .ok (.if_icmp .le 8, 3) := by decide +kernel
theorem dX7_code_28 : decode cX7_code 28 = .ok (.bipush (-3), 2) := by decide +kernel
theorem dX7_code_30 : decode cX7_code 30 = .ok (.goto 9, 3) := by decide +kernel
theorem dX7_code_33 : decode cX7_code 33 = .ok (.aload_n 0, 1) := by decide +kernel
theorem dX7_code_34 : decode cX7_code 34 = .ok (.getfield 65, 3) := by decide +kernel
theorem dX7_code_37 : decode cX7_code 37 = .ok (.iload_n 1, 1) := by decide +kernel
theorem dX7_code_38 : decode cX7_code 38 = .ok (.iaload, 1) := by decide +kernel
theorem dX7_code_39 : decode cX7_code 39 = .ok (.ireturn, 1) := by decide +kernel
theorem dX7_check_0 : decode cX7_check 0 = .ok (.aload_n 0, 1) := by decide +kernel
theorem dX7_check_1 : decode cX7_check 1 = .ok (.invokevirtual 115, 3) := by decide +kernel
theorem dX7_check_4 : decode cX7_check 4 = .ok (.iconst 1, 1) := by decide +kernel
theorem dX7_check_5 : decode cX7_check 5 = .ok (.istore_n 3, 1) := by decide +kernel
theorem dX7_check_6 : decode cX7_check 6 = .ok (.iconst 1, 1) := by decide +kernel
theorem dX7_check_7 : decode cX7_check 7 = .ok (.istore 4, 2) := by decide +kernel
theorem dX7_check_9 : decode cX7_check 9 = .ok (.iconst 0, 1) := by decide +kernel
theorem dX7_check_10 : decode cX7_check 10 = .ok (.istore 5, 2) := by decide +kernel
theorem dX7_check_12 : decode cX7_check 12 = .ok (.iload 5, 2) := by decide +kernel
theorem dX7_check_14 : decode cX7_check 14 = .ok (.aload_n 0, 1) := by decide +kernel
theorem dX7_check_15 : decode cX7_check 15 = .ok (.getfield 91, 3) := by decide +kernel
theorem dX7_check_18 : decode cX7_check 18 = .ok (.if_icmp .ge 231, 3) := by decide +kernel
theorem dX7_check_21 : decode cX7_check 21 = .ok (.lload_n 1, 1) := by decide +kernel
theorem dX7_check_22 : decode cX7_check 22 = .ok (.bipush 6, 2) := by decide +kernel
theorem dX7_check_24 : decode cX7_check 24 = .ok (.iload 5, 2) := by decide +kernel
theorem dX7_check_26 : decode cX7_check 26 = .ok (.imul, 1) := by decide +kernel
theorem dX7_check_27 : decode cX7_check 27 = .ok (.lshr, 1) := by decide +kernel
theorem dX7_check_28 : decode cX7_check 28 = .ok (.ldc2_w 200, 3) := by decide +kernel
theorem dX7_check_31 : decode cX7_check 31 = .ok (.land, 1) := by decide +kernel
theorem dX7_check_32 : decode cX7_check 32 = .ok (.l2i, 1) := by decide +kernel
theorem dX7_check_33 : decode cX7_check 33 = .ok (.istore 6, 2) := by decide +kernel
theorem dX7_check_35 : decode cX7_check 35 = .ok (.iconst 0, 1) := by decide +kernel
theorem dX7_check_36 : decode cX7_check 36 = .ok (.istore 7, 2) := by decide +kernel
theorem dX7_check_38 : decode cX7_check 38 = .ok (.iload_n 3, 1) := by decide +kernel
theorem dX7_check_39 : decode cX7_check 39 = .ok (.ifCond .eq 12, 3) := by decide +kernel
theorem dX7_check_42 : decode cX7_check 42 = .ok (.iload 6, 2) := by decide +kernel
theorem dX7_check_44 : decode cX7_check 44 = .ok (.ifCond .le 7, 3) := by decide +kernel
theorem dX7_check_47 : decode cX7_check 47 = .ok (.iconst 1, 1) := by decide +kernel
theorem dX7_check_48 : decode cX7_check 48 = .ok (.goto 4, 3) := by decide +kernel
theorem dX7_check_51 : decode cX7_check 51 = .ok (.iconst 0, 1) := by decide +kernel
theorem dX7_check_52 : decode cX7_check 52 = .ok (.istore_n 3, 1) := by decide +kernel
theorem dX7_check_53 : decode cX7_check 53 = .ok (.iload 4, 2) := by decide +kernel
theorem dX7_check_55 : decode cX7_check 55 = .ok (.ifCond .eq 55, 3) := by decide +kernel
theorem dX7_check_58 : decode cX7_check 58 = .ok (.aload_n 0, 1) := by decide +kernel
theorem dX7_check_59 : decode cX7_check 59 = .ok (.getfield 22, 3) := by decide +kernel
theorem dX7_check_62 : decode cX7_check 62 = .ok (.iload 5, 2) := by decide +kernel
theorem dX7_check_64 : decode cX7_check 64 = .ok (.iaload, 1) := by decide +kernel
theorem dX7_check_65 : decode cX7_check 65 = .ok (.bipush (-3), 2) := by decide +kernel
theorem dX7_check_67 : decode cX7_check 67 = .ok (.if_icmp .eq 15, 3) := by decide +kernel
theorem dX7_check_70 : decode cX7_check 70 = .ok (.iload 6, 2) := by decide +kernel
theorem dX7_check_72 : decode cX7_check 72 = .ok (.aload_n 0, 1) := by decide +kernel
theorem dX7_check_73 : decode cX7_check 73 = .ok (.getfield 22, 3) := by decide +kernel
theorem dX7_check_76 : decode cX7_check 76 = .ok (.iload 5, 2) := by decide +kernel
theorem dX7_check_78 : decode cX7_check 78 = .ok (.iaload, 1) := by decide +kernel
theorem dX7_check_79 : decode cX7_check 79 = .ok (.if_icmp .lt 31, 3) := by decide +kernel
theorem dX7_check_82 : decode cX7_check 82 = .ok (.aload_n 0, 1) := by decide +kernel
theorem dX7_check_83 : decode cX7_check 83 = .ok (.getfield 25, 3) := by decide +kernel
theorem dX7_check_86 : decode cX7_check 86 = .ok (.iload 5, 2) := by decide +kernel
theorem dX7_check_88 : decode cX7_check 88 = .ok (.iaload, 1) := by decide +kernel
theorem dX7_check_89 : decode cX7_check 89 = .ok (.bipush (-3), 2) := by decide +kernel
theorem dX7_check_91 : decode cX7_check 91 = .ok (.if_icmp .eq 15, 3) := by decide +kernel
theorem dX7_check_94 : decode cX7_check 94 = .ok (.iload 6, 2) := by decide +kernel
theorem dX7_check_96 : decode cX7_check 96 = .ok (.aload_n 0, 1) := by decide +kernel
theorem dX7_check_97 : decode cX7_check 97 = .ok (.getfield 25, 3) := by decide +kernel
theorem dX7_check_100 : decode cX7_check 100 = .ok (.iload 5, 2) := by decide +kernel
theorem dX7_check_102 : decode cX7_check 102 = .ok (.iaload, 1) := by decide +kernel
theorem dX7_check_103 : decode cX7_check 103 = .ok (.if_icmp .gt 7, 3) := by decide +kernel
theorem dX7_check_106 : decode cX7_check 106 = .ok (.iconst 1, 1) := by decide +kernel
theorem dX7_check_107 : decode cX7_check 107 = .ok (.goto 4, 3) := by decide +kernel
theorem dX7_check_110 : decode cX7_check 110 = .ok (.iconst 0, 1) := by decide +kernel
theorem dX7_check_111 : decode cX7_check 111 = .ok (.istore 4, 2) := by decide +kernel
theorem dX7_check_113 : decode cX7_check 113 = .ok (.iconst 0, 1) := by decide +kernel
theorem dX7_check_114 : decode cX7_check 114 = .ok (.istore 8, 2) := by decide +kernel
theorem dX7_check_116 : decode cX7_check 116 = .ok (.iload 8, 2) := by decide +kernel
theorem dX7_check_118 : decode cX7_check 118 = .ok (.aload_n 0, 1) := by decide +kernel
theorem dX7_check_119 : decode cX7_check 119 = .ok (.getfield 91, 3) := by decide +kernel
theorem dX7_check_122 : decode cX7_check 122 = .ok (.if_icmp .ge 105, 3) := by decide +kernel
theorem dX7_check_125 : decode cX7_check 125 = .ok (.lload_n 1, 1) := by decide +kernel
theorem dX7_check_126 : decode cX7_check 126 = .ok (.bipush 6, 2) := by decide +kernel
theorem dX7_check_128 : decode cX7_check 128 = .ok (.iload 8, 2) := by decide +kernel
theorem dX7_check_130 : decode cX7_check 130 = .ok (.imul, 1) := by decide +kernel
theorem dX7_check_131 : decode cX7_check 131 = .ok (.lshr, 1) := by decide +kernel
theorem dX7_check_132 : decode cX7_check 132 = .ok (.ldc2_w 200, 3) := by decide +kernel
theorem dX7_check_135 : decode cX7_check 135 = .ok (.land, 1) := by decide +kernel
theorem dX7_check_136 : decode cX7_check 136 = .ok (.l2i, 1) := by decide +kernel
theorem dX7_check_137 : decode cX7_check 137 = .ok (.istore 9, 2) := by decide +kernel
theorem dX7_check_139 : decode cX7_check 139 = .ok (.iload 7, 2) := by decide +kernel
theorem dX7_check_141 : decode cX7_check 141 = .ok (.iload 9, 2) := by decide +kernel
theorem dX7_check_143 : decode cX7_check 143 = .ok (.iload 6, 2) := by decide +kernel
theorem dX7_check_145 : decode cX7_check 145 = .ok (.if_icmp .ne 7, 3) := by decide +kernel
theorem dX7_check_148 : decode cX7_check 148 = .ok (.iconst 1, 1) := by decide +kernel
theorem dX7_check_149 : decode cX7_check 149 = .ok (.goto 4, 3) := by decide +kernel
theorem dX7_check_152 : decode cX7_check 152 = .ok (.iconst 0, 1) := by decide +kernel
theorem dX7_check_153 : decode cX7_check 153 = .ok (.iadd, 1) := by decide +kernel
theorem dX7_check_154 : decode cX7_check 154 = .ok (.istore 7, 2) := by decide +kernel
theorem dX7_check_156 : decode cX7_check 156 = .ok (.iload_n 3, 1) := by decide +kernel
theorem dX7_check_157 : decode cX7_check 157 = .ok (.ifCond .eq 25, 3) := by decide +kernel
theorem dX7_check_160 : decode cX7_check 160 = .ok (.aload_n 0, 1) := by decide +kernel
theorem dX7_check_161 : decode cX7_check 161 = .ok (.iload 5, 2) := by decide +kernel
theorem dX7_check_163 : decode cX7_check 163 = .ok (.iload 8, 2) := by decide +kernel
theorem dX7_check_165 : decode cX7_check 165 = .ok (.invokevirtual 118, 3) := by decide +kernel
theorem dX7_check_168 : decode cX7_check 168 = .ok (.ifCond .eq 10, 3) := by decide +kernel
theorem dX7_check_171 : decode cX7_check 171 = .ok (.iload 6, 2) := by decide +kernel
theorem dX7_check_173 : decode cX7_check 173 = .ok (.iload 9, 2) := by decide +kernel
theorem dX7_check_175 : decode cX7_check 175 = .ok (.if_icmp .le 7, 3) := by decide +kernel
theorem dX7_check_178 : decode cX7_check 178 = .ok (.iconst 1, 1) := by decide +kernel
theorem dX7_check_179 : decode cX7_check 179 = .ok (.goto 4, 3) := by decide +kernel
theorem dX7_check_182 : decode cX7_check 182 = .ok (.iconst 0, 1) := by decide +kernel
theorem dX7_check_183 : decode cX7_check 183 = .ok (.istore_n 3, 1) := by decide +kernel
theorem dX7_check_184 : decode cX7_check 184 = .ok (.iload 4, 2) := by decide +kernel
theorem dX7_check_186 : decode cX7_check 186 = .ok (.ifCond .eq 32, 3) := by decide +kernel
theorem dX7_check_189 : decode cX7_check 189 = .ok (.iload 5, 2) := by decide +kernel
theorem dX7_check_191 : decode cX7_check 191 = .ok (.iload 8, 2) := by decide +kernel
theorem dX7_check_193 : decode cX7_check 193 = .ok (.if_icmp .eq 21, 3) := by decide +kernel
theorem dX7_check_196 : decode cX7_check 196 = .ok (.iload 9, 2) := by decide +kernel
theorem dX7_check_198 : decode cX7_check 198 = .ok (.iload 6, 2) := by decide +kernel
theorem dX7_check_200 : decode cX7_check 200 = .ok (.if_icmp .ne 14, 3) := by decide +kernel
theorem dX7_check_203 : decode cX7_check 203 = .ok (.aload_n 0, 1) := by decide +kernel
theorem dX7_check_204 : decode cX7_check 204 = .ok (.iload 5, 2) := by decide +kernel
theorem dX7_check_206 : decode cX7_check 206 = .ok (.iload 8, 2) := by decide +kernel
theorem dX7_check_208 : decode cX7_check 208 = .ok (.invokevirtual 187, 3) := by decide +kernel
theorem dX7_check_211 : decode cX7_check 211 = .ok (.ifCond .eq 7, 3) := by decide +kernel
theorem dX7_check_214 : decode cX7_check 214 = .ok (.iconst 1, 1) := by decide +kernel
theorem dX7_check_215 : decode cX7_check 215 = .ok (.goto 4, 3) := by decide +kernel
theorem dX7_check_218 : decode cX7_check 218 = .ok (.iconst 0, 1) := by decide +kernel
theorem dX7_check_219 : decode cX7_check 219 = .ok (.istore 4, 2) := by decide +kernel
theorem dX7_check_221 : decode cX7_check 221 = .ok (.iinc 8 1, 3) := by decide +kernel
theorem dX7_check_224 : decode cX7_check 224 = .ok (.goto (-108), 3) := by decide +kernel
theorem dX7_check_227 : decode cX7_check 227 = .ok (.iload_n 3, 1) := by decide +kernel
theorem dX7_check_228 : decode cX7_check 228 = .ok (.ifCond .eq 13, 3) := by decide +kernel
theorem dX7_check_231 : decode cX7_check 231 = .ok (.iload 7, 2) := by decide +kernel
theorem dX7_check_233 : decode cX7_check 233 = .ok (.iconst 2, 1) := by decide +kernel
theorem dX7_check_234 : decode cX7_check 234 = .ok (.if_icmp .gt 7, 3) := by decide +kernel
theorem dX7_check_237 : decode cX7_check 237 = .ok (.iconst 1, 1) := by decide +kernel
theorem dX7_check_238 : decode cX7_check 238 = .ok (.goto 4, 3) := by decide +kernel
theorem dX7_check_241 : decode cX7_check 241 = .ok (.iconst 0, 1) := by decide +kernel
theorem dX7_check_242 : decode cX7_check 242 = .ok (.istore_n 3, 1) := by decide +kernel
theorem dX7_check_243 : decode cX7_check 243 = .ok (.iinc 5 1, 3) := by decide +kernel
theorem dX7_check_246 : decode cX7_check 246 = .ok (.goto (-234), 3) := by decide +kernel
theorem dX7_check_249 : decode cX7_check 249 = .ok (.iload_n 3, 1) := by decide +kernel
theorem dX7_check_250 : decode cX7_check 250 = .ok (.ifCond .ne 7, 3) := by decide +kernel
theorem dX7_check_253 : decode cX7_check 253 = .ok (.iconst 0, 1) := by decide +kernel
theorem dX7_check_254 : decode cX7_check 254 = .ok (.goto 13, 3) := by decide +kernel
theorem dX7_check_257 : decode cX7_check 257 = .ok (.iload 4, 2) := by decide +kernel
theorem dX7_check_259 : decode cX7_check 259 = .ok (.ifCond .eq 7, 3) := by decide +kernel
theorem dX7_check_262 : decode cX7_check 262 = .ok (.iconst 2, 1) := by decide +kernel
theorem dX7_check_263 : decode cX7_check 263 = .ok (.goto 4, 3) := by decide +kernel
theorem dX7_check_266 : decode cX7_check 266 = .ok (.iconst 1, 1) := by decide +kernel
theorem dX7_check_267 : decode cX7_check 267 = .ok (.ireturn, 1) := by decide +kernel
theorem dX7_count_0 : decode cX7_count 0 = .ok (.iconst 0, 1) := by decide +kernel
theorem dX7_count_1 : decode cX7_count 1 = .ok (.istore_n 2, 1) := by decide +kernel
theorem dX7_count_2 : decode cX7_count 2 = .ok (.iload_n 1, 1) := by decide +kernel
theorem dX7_count_3 : decode cX7_count 3 = .ok (.tableswitch 159 0 4 #[33, 38, 68, 73, 116], 33) := by decide +kernel
theorem dX7_count_36 : decode cX7_count 36 = .ok (.aload_n 0, 1) := by decide +kernel
theorem dX7_count_37 : decode cX7_count 37 = .ok (.getfield 91, 3) := by decide +kernel
theorem dX7_count_40 : decode cX7_count 40 = .ok (.ireturn, 1) := by decide +kernel
theorem dX7_count_41 : decode cX7_count 41 = .ok (.iconst 0, 1) := by decide +kernel
theorem dX7_count_42 : decode cX7_count 42 = .ok (.istore_n 3, 1) := by decide +kernel
theorem dX7_count_43 : decode cX7_count 43 = .ok (.iload_n 3, 1) := by decide +kernel
theorem dX7_count_44 : decode cX7_count 44 = .ok (.aload_n 0, 1) := by decide +kernel
theorem dX7_count_45 : decode cX7_count 45 = .ok (.getfield 91, 3) := by decide +kernel
theorem dX7_count_48 : decode cX7_count 48 = .ok (.if_icmp .ge 21, 3) := by decide +kernel
theorem dX7_count_51 : decode cX7_count 51 = .ok (.iload_n 2, 1) := by decide +kernel
theorem dX7_count_52 : decode cX7_count 52 = .ok (.aload_n 0, 1) := by decide +kernel
theorem dX7_count_53 : decode cX7_count 53 = .ok (.getfield 31, 3) := by decide +kernel
theorem dX7_count_56 : decode cX7_count 56 = .ok (.iload_n 3, 1) := by decide +kernel
theorem dX7_count_57 : decode cX7_count 57 = .ok (.iaload, 1) := by decide +kernel
theorem dX7_count_58 : decode cX7_count 58 = .ok (.invokestatic 132, 3) := by decide +kernel
theorem dX7_count_61 : decode cX7_count 61 = .ok (.iadd, 1) := by decide +kernel
theorem dX7_count_62 : decode cX7_count 62 = .ok (.istore_n 2, 1) := by decide +kernel
theorem dX7_count_63 : decode cX7_count 63 = .ok (.iinc 3 1, 3) := by decide +kernel
theorem dX7_count_66 : decode cX7_count 66 = .ok (.goto (-23), 3) := by decide +kernel
theorem dX7_count_69 : decode cX7_count 69 = .ok (.iload_n 2, 1) := by decide +kernel
theorem dX7_count_70 : decode cX7_count 70 = .ok (.ireturn, 1) := by decide +kernel
theorem dX7_count_71 : decode cX7_count 71 = .ok (.aload_n 0, 1) := by decide +kernel
theorem dX7_count_72 : decode cX7_count 72 = .ok (.getfield 95, 3) := by decide +kernel
theorem dX7_count_75 : decode cX7_count 75 = .ok (.ireturn, 1) := by decide +kernel
theorem dX7_count_76 : decode cX7_count 76 = .ok (.aload_n 0, 1) := by decide +kernel
theorem dX7_count_77 : decode cX7_count 77 = .ok (.aload_n 0, 1) := by decide +kernel
theorem dX7_count_78 : decode cX7_count 78 = .ok (.invokevirtual 161, 3) := by decide +kernel
theorem dX7_count_81 : decode cX7_count 81 = .ok (.invokevirtual 168, 3) := by decide +kernel
theorem dX7_count_84 : decode cX7_count 84 = .ok (.iconst 1, 1) := by decide +kernel
theorem dX7_count_85 : decode cX7_count 85 = .ok (.istore_n 3, 1) := by decide +kernel
theorem dX7_count_86 : decode cX7_count 86 = .ok (.iload_n 3, 1) := by decide +kernel
theorem dX7_count_87 : decode cX7_count 87 = .ok (.aload_n 0, 1) := by decide +kernel
theorem dX7_count_88 : decode cX7_count 88 = .ok (.getfield 146, 3) := by decide +kernel
theorem dX7_count_91 : decode cX7_count 91 = .ok (.if_icmp .gt 26, 3) := by decide +kernel
theorem dX7_count_94 : decode cX7_count 94 = .ok (.iload_n 2, 1) := by decide +kernel
theorem dX7_count_95 : decode cX7_count 95 = .ok (.aload_n 0, 1) := by decide +kernel
theorem dX7_count_96 : decode cX7_count 96 = .ok (.iload_n 3, 1) := by decide +kernel
theorem dX7_count_97 : decode cX7_count 97 = .ok (.invokevirtual 174, 3) := by decide +kernel
theorem dX7_count_100 : decode cX7_count 100 = .ok (.iconst 1, 1) := by decide +kernel
theorem dX7_count_101 : decode cX7_count 101 = .ok (.if_icmp .ne 7, 3) := by decide +kernel
theorem dX7_count_104 : decode cX7_count 104 = .ok (.iconst 1, 1) := by decide +kernel
theorem dX7_count_105 : decode cX7_count 105 = .ok (.goto 4, 3) := by decide +kernel
theorem dX7_count_108 : decode cX7_count 108 = .ok (.iconst 0, 1) := by decide +kernel
theorem dX7_count_109 : decode cX7_count 109 = .ok (.iadd, 1) := by decide +kernel
theorem dX7_count_110 : decode cX7_count 110 = .ok (.istore_n 2, 1) := by decide +kernel
theorem dX7_count_111 : decode cX7_count 111 = .ok (.iinc 3 1, 3) := by decide +kernel
theorem dX7_count_114 : decode cX7_count 114 = .ok (.goto (-28), 3) := by decide +kernel
theorem dX7_count_117 : decode cX7_count 117 = .ok (.iload_n 2, 1) := by decide +kernel
theorem dX7_count_118 : decode cX7_count 118 = .ok (.ireturn, 1) := by decide +kernel
theorem dX7_count_119 : decode cX7_count 119 = .ok (.aload_n 0, 1) := by decide +kernel
theorem dX7_count_120 : decode cX7_count 120 = .ok (.invokevirtual 165, 3) := by decide +kernel
theorem dX7_count_123 : decode cX7_count 123 = .ok (.iconst 0, 1) := by decide +kernel
theorem dX7_count_124 : decode cX7_count 124 = .ok (.istore_n 3, 1) := by decide +kernel
theorem dX7_count_125 : decode cX7_count 125 = .ok (.iload_n 3, 1) := by decide +kernel
theorem dX7_count_126 : decode cX7_count 126 = .ok (.aload_n 0, 1) := by decide +kernel
theorem dX7_count_127 : decode cX7_count 127 = .ok (.getfield 91, 3) := by decide +kernel
theorem dX7_count_130 : decode cX7_count 130 = .ok (.if_icmp .ge 30, 3) := by decide +kernel
theorem dX7_count_133 : decode cX7_count 133 = .ok (.aload_n 0, 1) := by decide +kernel
theorem dX7_count_134 : decode cX7_count 134 = .ok (.getfield 55, 3) := by decide +kernel
theorem dX7_count_137 : decode cX7_count 137 = .ok (.iload_n 3, 1) := by decide +kernel
theorem dX7_count_138 : decode cX7_count 138 = .ok (.iaload, 1) := by decide +kernel
theorem dX7_count_139 : decode cX7_count 139 = .ok (.iload_n 2, 1) := by decide +kernel
theorem dX7_count_140 : decode cX7_count 140 = .ok (.if_icmp .le 12, 3) := by decide +kernel
theorem dX7_count_143 : decode cX7_count 143 = .ok (.aload_n 0, 1) := by decide +kernel
theorem dX7_count_144 : decode cX7_count 144 = .ok (.getfield 55, 3) := by decide +kernel
theorem dX7_count_147 : decode cX7_count 147 = .ok (.iload_n 3, 1) := by decide +kernel
theorem dX7_count_148 : decode cX7_count 148 = .ok (.iaload, 1) := by decide +kernel
theorem dX7_count_149 : decode cX7_count 149 = .ok (.goto 4, 3) := by decide +kernel
theorem dX7_count_152 : decode cX7_count 152 = .ok (.iload_n 2, 1) := by decide +kernel
theorem dX7_count_153 : decode cX7_count 153 = .ok (.istore_n 2, 1) := by decide +kernel
theorem dX7_count_154 : decode cX7_count 154 = .ok (.iinc 3 1, 3) := by decide +kernel
theorem dX7_count_157 : decode cX7_count 157 = .ok (.goto (-32), 3) := by decide +kernel
theorem dX7_count_160 : decode cX7_count 160 = .ok (.iload_n 2, 1) := by decide +kernel
theorem dX7_count_161 : decode cX7_count 161 = .ok (.ireturn, 1) := by decide +kernel
theorem dX7_count_162 : decode cX7_count 162 = .ok (.iconst (-1), 1) := by decide +kernel
theorem dX7_count_163 : decode cX7_count 163 = .ok (.ireturn, 1) := by decide +kernel
theorem dJ6_bitCount_0f7a4_0 : decode cJ6_bitCount_0f7a4 0 = .ok (.iload_n 0, 1) := by decide +kernel
theorem dJ6_bitCount_0f7a4_1 : decode cJ6_bitCount_0f7a4 1 = .ok (.iload_n 0, 1) := by decide +kernel
theorem dJ6_bitCount_0f7a4_2 : decode cJ6_bitCount_0f7a4 2 = .ok (.iconst 1, 1) := by decide +kernel
theorem dJ6_bitCount_0f7a4_3 : decode cJ6_bitCount_0f7a4 3 = .ok (.iushr, 1) := by decide +kernel
theorem dJ6_bitCount_0f7a4_4 : decode cJ6_bitCount_0f7a4 4 = .ok (.ldc_w 265, 3) := by decide +kernel
theorem dJ6_bitCount_0f7a4_7 : decode cJ6_bitCount_0f7a4 7 = .ok (.iand, 1) := by decide +kernel
theorem dJ6_bitCount_0f7a4_8 : decode cJ6_bitCount_0f7a4 8 = .ok (.isub, 1) := by decide +kernel
theorem dJ6_bitCount_0f7a4_9 : decode cJ6_bitCount_0f7a4 9 = .ok (.istore_n 0, 1) := by decide +kernel
theorem dJ6_bitCount_0f7a4_10 : decode cJ6_bitCount_0f7a4 10 = .ok (.iload_n 0, 1) := by decide +kernel
theorem dJ6_bitCount_0f7a4_11 : decode cJ6_bitCount_0f7a4 11 = .ok (.ldc_w 266, 3) := by decide +kernel
theorem dJ6_bitCount_0f7a4_14 : decode cJ6_bitCount_0f7a4 14 = .ok (.iand, 1) := by decide +kernel
theorem dJ6_bitCount_0f7a4_15 : decode cJ6_bitCount_0f7a4 15 = .ok (.iload_n 0, 1) := by decide +kernel
theorem dJ6_bitCount_0f7a4_16 : decode cJ6_bitCount_0f7a4 16 = .ok (.iconst 2, 1) := by decide +kernel
theorem dJ6_bitCount_0f7a4_17 : decode cJ6_bitCount_0f7a4 17 = .ok (.iushr, 1) := by decide +kernel
theorem dJ6_bitCount_0f7a4_18 : decode cJ6_bitCount_0f7a4 18 = .ok (.ldc_w 266, 3) := by decide +kernel
theorem dJ6_bitCount_0f7a4_21 : decode cJ6_bitCount_0f7a4 21 = .ok (.iand, 1) := by decide +kernel
theorem dJ6_bitCount_0f7a4_22 : decode cJ6_bitCount_0f7a4 22 = .ok (.iadd, 1) := by decide +kernel
theorem dJ6_bitCount_0f7a4_23 : decode cJ6_bitCount_0f7a4 23 = .ok (.istore_n 0, 1) := by decide +kernel
theorem dJ6_bitCount_0f7a4_24 : decode cJ6_bitCount_0f7a4 24 = .ok (.iload_n 0, 1) := by decide +kernel
theorem dJ6_bitCount_0f7a4_25 : decode cJ6_bitCount_0f7a4 25 = .ok (.iload_n 0, 1) := by decide +kernel
theorem dJ6_bitCount_0f7a4_26 : decode cJ6_bitCount_0f7a4 26 = .ok (.iconst 4, 1) := by decide +kernel
theorem dJ6_bitCount_0f7a4_27 : decode cJ6_bitCount_0f7a4 27 = .ok (.iushr, 1) := by decide +kernel
theorem dJ6_bitCount_0f7a4_28 : decode cJ6_bitCount_0f7a4 28 = .ok (.iadd, 1) := by decide +kernel
theorem dJ6_bitCount_0f7a4_29 : decode cJ6_bitCount_0f7a4 29 = .ok (.ldc_w 267, 3) := by decide +kernel
theorem dJ6_bitCount_0f7a4_32 : decode cJ6_bitCount_0f7a4 32 = .ok (.iand, 1) := by decide +kernel
theorem dJ6_bitCount_0f7a4_33 : decode cJ6_bitCount_0f7a4 33 = .ok (.istore_n 0, 1) := by decide +kernel
theorem dJ6_bitCount_0f7a4_34 : decode cJ6_bitCount_0f7a4 34 = .ok (.iload_n 0, 1) := by decide +kernel
theorem dJ6_bitCount_0f7a4_35 : decode cJ6_bitCount_0f7a4 35 = .ok (.iload_n 0, 1) := by decide +kernel
theorem dJ6_bitCount_0f7a4_36 : decode cJ6_bitCount_0f7a4 36 = .ok (.bipush 8, 2) := by decide +kernel
theorem dJ6_bitCount_0f7a4_38 : decode cJ6_bitCount_0f7a4 38 = .ok (.iushr, 1) := by decide +kernel
theorem dJ6_bitCount_0f7a4_39 : decode cJ6_bitCount_0f7a4 39 = .ok (.iadd, 1) := by decide +kernel
theorem dJ6_bitCount_0f7a4_40 : decode cJ6_bitCount_0f7a4 40 = .ok (.istore_n 0, 1) := by decide +kernel
theorem dJ6_bitCount_0f7a4_41 : decode cJ6_bitCount_0f7a4 41 = .ok (.iload_n 0, 1) := by decide +kernel
theorem dJ6_bitCount_0f7a4_42 : decode cJ6_bitCount_0f7a4 42 = .ok (.iload_n 0, 1) := by decide +kernel
theorem dJ6_bitCount_0f7a4_43 : decode cJ6_bitCount_0f7a4 43 = .ok (.bipush 16, 2) := by decide +kernel
theorem dJ6_bitCount_0f7a4_45 : decode cJ6_bitCount_0f7a4 45 = .ok (.iushr, 1) := by decide +kernel
theorem dJ6_bitCount_0f7a4_46 : decode cJ6_bitCount_0f7a4 46 = .ok (.iadd, 1) := by decide +kernel
theorem dJ6_bitCount_0f7a4_47 : decode cJ6_bitCount_0f7a4 47 = .ok (.istore_n 0, 1) := by decide +kernel
theorem dJ6_bitCount_0f7a4_48 : decode cJ6_bitCount_0f7a4 48 = .ok (.iload_n 0, 1) := by decide +kernel
theorem dJ6_bitCount_0f7a4_49 : decode cJ6_bitCount_0f7a4 49 = .ok (.bipush 63, 2) := by decide +kernel
theorem dJ6_bitCount_0f7a4_51 : decode cJ6_bitCount_0f7a4 51 = .ok (.iand, 1) := by decide +kernel
theorem dJ6_bitCount_0f7a4_52 : decode cJ6_bitCount_0f7a4 52 = .ok (.ireturn, 1) := by decide +kernel
theorem dJ9_max_7cf53_0 : decode cJ9_max_7cf53 0 = .ok (.iload_n 0, 1) := by decide +kernel
theorem dJ9_max_7cf53_1 : decode cJ9_max_7cf53 1 = .ok (.iload_n 1, 1) := by decide +kernel
theorem dJ9_max_7cf53_2 : decode cJ9_max_7cf53 2 = .ok (.if_icmp .lt 7, 3) := by decide +kernel
theorem dJ9_max_7cf53_5 : decode cJ9_max_7cf53 5 = .ok (.iload_n 0, 1) := by decide +kernel
theorem dJ9_max_7cf53_6 : decode cJ9_max_7cf53 6 = .ok (.goto 4, 3) := by decide +kernel
theorem dJ9_max_7cf53_9 : decode cJ9_max_7cf53 9 = .ok (.iload_n 1, 1) := by decide +kernel
theorem dJ9_max_7cf53_10 : decode cJ9_max_7cf53 10 = .ok (.ireturn, 1) := by decide +kernel
theorem dJ9_min_7cf53_0 : decode cJ9_min_7cf53 0 = .ok (.iload_n 0, 1) := by decide +kernel
theorem dJ9_min_7cf53_1 : decode cJ9_min_7cf53 1 = .ok (.iload_n 1, 1) := by decide +kernel
theorem dJ9_min_7cf53_2 : decode cJ9_min_7cf53 2 = .ok (.if_icmp .gt 7, 3) := by decide +kernel
theorem dJ9_min_7cf53_5 : decode cJ9_min_7cf53 5 = .ok (.iload_n 0, 1) := by decide +kernel
theorem dJ9_min_7cf53_6 : decode cJ9_min_7cf53 6 = .ok (.goto 4, 3) := by decide +kernel
theorem dJ9_min_7cf53_9 : decode cJ9_min_7cf53 9 = .ok (.iload_n 1, 1) := by decide +kernel
theorem dJ9_min_7cf53_10 : decode cJ9_min_7cf53 10 = .ok (.ireturn, 1) := by decide +kernel
theorem dJ7_fill_53178_0 : decode cJ7_fill_53178 0 = .ok (.iconst 0, 1) := by decide +kernel
theorem dJ7_fill_53178_1 : decode cJ7_fill_53178 1 = .ok (.istore_n 2, 1) := by decide +kernel
theorem dJ7_fill_53178_2 : decode cJ7_fill_53178 2 = .ok (.aload_n 0, 1) := by decide +kernel
theorem dJ7_fill_53178_3 : decode cJ7_fill_53178 3 = .ok (.arraylength, 1) := by decide +kernel
theorem dJ7_fill_53178_4 : decode cJ7_fill_53178 4 = .ok (.istore_n 3, 1) := by decide +kernel
theorem dJ7_fill_53178_5 : decode cJ7_fill_53178 5 = .ok (.iload_n 2, 1) := by decide +kernel
theorem dJ7_fill_53178_6 : decode cJ7_fill_53178 6 = .ok (.iload_n 3, 1) := by decide +kernel
theorem dJ7_fill_53178_7 : decode cJ7_fill_53178 7 = .ok (.if_icmp .ge 13, 3) := by decide +kernel
theorem dJ7_fill_53178_10 : decode cJ7_fill_53178 10 = .ok (.aload_n 0, 1) := by decide +kernel
theorem dJ7_fill_53178_11 : decode cJ7_fill_53178 11 = .ok (.iload_n 2, 1) := by decide +kernel
theorem dJ7_fill_53178_12 : decode cJ7_fill_53178 12 = .ok (.iload_n 1, 1) := by decide +kernel
theorem dJ7_fill_53178_13 : decode cJ7_fill_53178 13 = .ok (.iastore, 1) := by decide +kernel
theorem dJ7_fill_53178_14 : decode cJ7_fill_53178 14 = .ok (.iinc 2 1, 3) := by decide +kernel
theorem dJ7_fill_53178_17 : decode cJ7_fill_53178 17 = .ok (.goto (-12), 3) := by decide +kernel
theorem dJ7_fill_53178_20 : decode cJ7_fill_53178 20 = .ok (.return_, 1) := by decide +kernel
theorem dL_law_0 : decode cL_law 0 = .ok (.new 7, 3) := by decide +kernel
theorem dL_law_3 : decode cL_law 3 = .ok (.dup, 1) := by decide +kernel
theorem dL_law_4 : decode cL_law 4 = .ok (.invokespecial 9, 3) := by decide +kernel
theorem dL_law_7 : decode cL_law 7 = .ok (.astore_n 1, 1) := by decide +kernel
theorem dL_law_8 : decode cL_law 8 = .ok (.new 10, 3) := by decide +kernel
theorem dL_law_11 : decode cL_law 11 = .ok (.dup, 1) := by decide +kernel
theorem dL_law_12 : decode cL_law 12 = .ok (.invokespecial 12, 3) := by decide +kernel
theorem dL_law_15 : decode cL_law 15 = .ok (.astore_n 2, 1) := by decide +kernel
theorem dL_law_16 : decode cL_law 16 = .ok (.iconst 0, 1) := by decide +kernel
theorem dL_law_17 : decode cL_law 17 = .ok (.istore_n 3, 1) := by decide +kernel
theorem dL_law_18 : decode cL_law 18 = .ok (.iload_n 3, 1) := by decide +kernel
theorem dL_law_19 : decode cL_law 19 = .ok (.aload_n 0, 1) := by decide +kernel
theorem dL_law_20 : decode cL_law 20 = .ok (.arraylength, 1) := by decide +kernel
theorem dL_law_21 : decode cL_law 21 = .ok (.bipush 6, 2) := by decide +kernel
theorem dL_law_23 : decode cL_law 23 = .ok (.isub, 1) := by decide +kernel
theorem dL_law_24 : decode cL_law 24 = .ok (.if_icmp .gt 741, 3) := by decide +kernel
theorem dL_law_27 : decode cL_law 27 = .ok (.aload_n 0, 1) := by decide +kernel
theorem dL_law_28 : decode cL_law 28 = .ok (.iload_n 3, 1) := by decide +kernel
theorem dL_law_29 : decode cL_law 29 = .ok (.iaload, 1) := by decide +kernel
theorem dL_law_30 : decode cL_law 30 = .ok (.bipush 31, 2) := by decide +kernel
theorem dL_law_32 : decode cL_law 32 = .ok (.iand, 1) := by decide +kernel
theorem dL_law_33 : decode cL_law 33 = .ok (.tableswitch 726 0 19 #[95, 138, 181, 244, 278, 321, 354, 407, 440, 463, 496, 509, 522, 555, 578, 591, 614, 627, 650, 703], 95) := by decide +kernel
theorem dL_law_128 : decode cL_law 128 = .ok (.aload_n 1, 1) := by decide +kernel
theorem dL_law_129 : decode cL_law 129 = .ok (.aload_n 0, 1) := by decide +kernel
theorem dL_law_130 : decode cL_law 130 = .ok (.iload_n 3, 1) := by decide +kernel
theorem dL_law_131 : decode cL_law 131 = .ok (.iconst 1, 1) := by decide +kernel
theorem dL_law_132 : decode cL_law 132 = .ok (.iadd, 1) := by decide +kernel
theorem dL_law_133 : decode cL_law 133 = .ok (.iaload, 1) := by decide +kernel
theorem dL_law_134 : decode cL_law 134 = .ok (.aload_n 0, 1) := by decide +kernel
theorem dL_law_135 : decode cL_law 135 = .ok (.iload_n 3, 1) := by decide +kernel
theorem dL_law_136 : decode cL_law 136 = .ok (.iconst 2, 1) := by decide +kernel
theorem dL_law_137 : decode cL_law 137 = .ok (.iadd, 1) := by decide +kernel
theorem dL_law_138 : decode cL_law 138 = .ok (.iaload, 1) := by decide +kernel
theorem dL_law_139 : decode cL_law 139 = .ok (.aload_n 0, 1) := by decide +kernel
theorem dL_law_140 : decode cL_law 140 = .ok (.iload_n 3, 1) := by decide +kernel
theorem dL_law_141 : decode cL_law 141 = .ok (.iconst 3, 1) := by decide +kernel
theorem dL_law_142 : decode cL_law 142 = .ok (.iadd, 1) := by decide +kernel
theorem dL_law_143 : decode cL_law 143 = .ok (.iaload, 1) := by decide +kernel
theorem dL_law_144 : decode cL_law 144 = .ok (.invokevirtual 13, 3) := by decide +kernel
theorem dL_law_147 : decode cL_law 147 = .ok (.aload_n 2, 1) := by decide +kernel
theorem dL_law_148 : decode cL_law 148 = .ok (.aload_n 0, 1) := by decide +kernel
theorem dL_law_149 : decode cL_law 149 = .ok (.iload_n 3, 1) := by decide +kernel
theorem dL_law_150 : decode cL_law 150 = .ok (.iconst 1, 1) := by decide +kernel
theorem dL_law_151 : decode cL_law 151 = .ok (.iadd, 1) := by decide +kernel
theorem dL_law_152 : decode cL_law 152 = .ok (.iaload, 1) := by decide +kernel
theorem dL_law_153 : decode cL_law 153 = .ok (.aload_n 0, 1) := by decide +kernel
theorem dL_law_154 : decode cL_law 154 = .ok (.iload_n 3, 1) := by decide +kernel
theorem dL_law_155 : decode cL_law 155 = .ok (.iconst 2, 1) := by decide +kernel
theorem dL_law_156 : decode cL_law 156 = .ok (.iadd, 1) := by decide +kernel
theorem dL_law_157 : decode cL_law 157 = .ok (.iaload, 1) := by decide +kernel
theorem dL_law_158 : decode cL_law 158 = .ok (.aload_n 0, 1) := by decide +kernel
theorem dL_law_159 : decode cL_law 159 = .ok (.iload_n 3, 1) := by decide +kernel
theorem dL_law_160 : decode cL_law 160 = .ok (.iconst 3, 1) := by decide +kernel
theorem dL_law_161 : decode cL_law 161 = .ok (.iadd, 1) := by decide +kernel
theorem dL_law_162 : decode cL_law 162 = .ok (.iaload, 1) := by decide +kernel
theorem dL_law_163 : decode cL_law 163 = .ok (.invokevirtual 17, 3) := by decide +kernel
theorem dL_law_166 : decode cL_law 166 = .ok (.if_icmp .eq 593, 3) := by decide +kernel
theorem dL_law_169 : decode cL_law 169 = .ok (.iconst 0, 1) := by decide +kernel
theorem dL_law_170 : decode cL_law 170 = .ok (.ireturn, 1) := by decide +kernel
theorem dL_law_171 : decode cL_law 171 = .ok (.aload_n 1, 1) := by decide +kernel
theorem dL_law_172 : decode cL_law 172 = .ok (.aload_n 0, 1) := by decide +kernel
theorem dL_law_173 : decode cL_law 173 = .ok (.iload_n 3, 1) := by decide +kernel
theorem dL_law_174 : decode cL_law 174 = .ok (.iconst 1, 1) := by decide +kernel
theorem dL_law_175 : decode cL_law 175 = .ok (.iadd, 1) := by decide +kernel
theorem dL_law_176 : decode cL_law 176 = .ok (.iaload, 1) := by decide +kernel
theorem dL_law_177 : decode cL_law 177 = .ok (.aload_n 0, 1) := by decide +kernel
theorem dL_law_178 : decode cL_law 178 = .ok (.iload_n 3, 1) := by decide +kernel
theorem dL_law_179 : decode cL_law 179 = .ok (.iconst 2, 1) := by decide +kernel
theorem dL_law_180 : decode cL_law 180 = .ok (.iadd, 1) := by decide +kernel
theorem dL_law_181 : decode cL_law 181 = .ok (.iaload, 1) := by decide +kernel
theorem dL_law_182 : decode cL_law 182 = .ok (.aload_n 0, 1) := by decide +kernel
theorem dL_law_183 : decode cL_law 183 = .ok (.iload_n 3, 1) := by decide +kernel
theorem dL_law_184 : decode cL_law 184 = .ok (.iconst 3, 1) := by decide +kernel
theorem dL_law_185 : decode cL_law 185 = .ok (.iadd, 1) := by decide +kernel
theorem dL_law_186 : decode cL_law 186 = .ok (.iaload, 1) := by decide +kernel
theorem dL_law_187 : decode cL_law 187 = .ok (.invokevirtual 18, 3) := by decide +kernel
theorem dL_law_190 : decode cL_law 190 = .ok (.aload_n 2, 1) := by decide +kernel
theorem dL_law_191 : decode cL_law 191 = .ok (.aload_n 0, 1) := by decide +kernel
theorem dL_law_192 : decode cL_law 192 = .ok (.iload_n 3, 1) := by decide +kernel
theorem dL_law_193 : decode cL_law 193 = .ok (.iconst 1, 1) := by decide +kernel
theorem dL_law_194 : decode cL_law 194 = .ok (.iadd, 1) := by decide +kernel
theorem dL_law_195 : decode cL_law 195 = .ok (.iaload, 1) := by decide +kernel
theorem dL_law_196 : decode cL_law 196 = .ok (.aload_n 0, 1) := by decide +kernel
theorem dL_law_197 : decode cL_law 197 = .ok (.iload_n 3, 1) := by decide +kernel
theorem dL_law_198 : decode cL_law 198 = .ok (.iconst 2, 1) := by decide +kernel
theorem dL_law_199 : decode cL_law 199 = .ok (.iadd, 1) := by decide +kernel
theorem dL_law_200 : decode cL_law 200 = .ok (.iaload, 1) := by decide +kernel
theorem dL_law_201 : decode cL_law 201 = .ok (.aload_n 0, 1) := by decide +kernel
theorem dL_law_202 : decode cL_law 202 = .ok (.iload_n 3, 1) := by decide +kernel
theorem dL_law_203 : decode cL_law 203 = .ok (.iconst 3, 1) := by decide +kernel
theorem dL_law_204 : decode cL_law 204 = .ok (.iadd, 1) := by decide +kernel
theorem dL_law_205 : decode cL_law 205 = .ok (.iaload, 1) := by decide +kernel
theorem dL_law_206 : decode cL_law 206 = .ok (.invokevirtual 21, 3) := by decide +kernel
theorem dL_law_209 : decode cL_law 209 = .ok (.if_icmp .eq 550, 3) := by decide +kernel
theorem dL_law_212 : decode cL_law 212 = .ok (.iconst 0, 1) := by decide +kernel
theorem dL_law_213 : decode cL_law 213 = .ok (.ireturn, 1) := by decide +kernel
theorem dL_law_214 : decode cL_law 214 = .ok (.aload_n 1, 1) := by decide +kernel
theorem dL_law_215 : decode cL_law 215 = .ok (.aload_n 0, 1) := by decide +kernel
theorem dL_law_216 : decode cL_law 216 = .ok (.iload_n 3, 1) := by decide +kernel
theorem dL_law_217 : decode cL_law 217 = .ok (.iconst 1, 1) := by decide +kernel
theorem dL_law_218 : decode cL_law 218 = .ok (.iadd, 1) := by decide +kernel
theorem dL_law_219 : decode cL_law 219 = .ok (.iaload, 1) := by decide +kernel
theorem dL_law_220 : decode cL_law 220 = .ok (.aload_n 0, 1) := by decide +kernel
theorem dL_law_221 : decode cL_law 221 = .ok (.iload_n 3, 1) := by decide +kernel
theorem dL_law_222 : decode cL_law 222 = .ok (.iconst 2, 1) := by decide +kernel
theorem dL_law_223 : decode cL_law 223 = .ok (.iadd, 1) := by decide +kernel
theorem dL_law_224 : decode cL_law 224 = .ok (.iaload, 1) := by decide +kernel
theorem dL_law_225 : decode cL_law 225 = .ok (.aload_n 0, 1) := by decide +kernel
theorem dL_law_226 : decode cL_law 226 = .ok (.iload_n 3, 1) := by decide +kernel
theorem dL_law_227 : decode cL_law 227 = .ok (.iconst 3, 1) := by decide +kernel
theorem dL_law_228 : decode cL_law 228 = .ok (.iadd, 1) := by decide +kernel
theorem dL_law_229 : decode cL_law 229 = .ok (.iaload, 1) := by decide +kernel
theorem dL_law_230 : decode cL_law 230 = .ok (.aload_n 0, 1) := by decide +kernel
theorem dL_law_231 : decode cL_law 231 = .ok (.iload_n 3, 1) := by decide +kernel
theorem dL_law_232 : decode cL_law 232 = .ok (.iconst 4, 1) := by decide +kernel
theorem dL_law_233 : decode cL_law 233 = .ok (.iadd, 1) := by decide +kernel
theorem dL_law_234 : decode cL_law 234 = .ok (.iaload, 1) := by decide +kernel
theorem dL_law_235 : decode cL_law 235 = .ok (.aload_n 0, 1) := by decide +kernel
theorem dL_law_236 : decode cL_law 236 = .ok (.iload_n 3, 1) := by decide +kernel
theorem dL_law_237 : decode cL_law 237 = .ok (.iconst 5, 1) := by decide +kernel
theorem dL_law_238 : decode cL_law 238 = .ok (.iadd, 1) := by decide +kernel
theorem dL_law_239 : decode cL_law 239 = .ok (.iaload, 1) := by decide +kernel
theorem dL_law_240 : decode cL_law 240 = .ok (.invokevirtual 22, 3) := by decide +kernel
theorem dL_law_243 : decode cL_law 243 = .ok (.aload_n 2, 1) := by decide +kernel
theorem dL_law_244 : decode cL_law 244 = .ok (.aload_n 0, 1) := by decide +kernel
theorem dL_law_245 : decode cL_law 245 = .ok (.iload_n 3, 1) := by decide +kernel
theorem dL_law_246 : decode cL_law 246 = .ok (.iconst 1, 1) := by decide +kernel
theorem dL_law_247 : decode cL_law 247 = .ok (.iadd, 1) := by decide +kernel
theorem dL_law_248 : decode cL_law 248 = .ok (.iaload, 1) := by decide +kernel
theorem dL_law_249 : decode cL_law 249 = .ok (.aload_n 0, 1) := by decide +kernel
theorem dL_law_250 : decode cL_law 250 = .ok (.iload_n 3, 1) := by decide +kernel
theorem dL_law_251 : decode cL_law 251 = .ok (.iconst 2, 1) := by decide +kernel
theorem dL_law_252 : decode cL_law 252 = .ok (.iadd, 1) := by decide +kernel
theorem dL_law_253 : decode cL_law 253 = .ok (.iaload, 1) := by decide +kernel
theorem dL_law_254 : decode cL_law 254 = .ok (.aload_n 0, 1) := by decide +kernel
theorem dL_law_255 : decode cL_law 255 = .ok (.iload_n 3, 1) := by decide +kernel
theorem dL_law_256 : decode cL_law 256 = .ok (.iconst 3, 1) := by decide +kernel
theorem dL_law_257 : decode cL_law 257 = .ok (.iadd, 1) := by decide +kernel
theorem dL_law_258 : decode cL_law 258 = .ok (.iaload, 1) := by decide +kernel
theorem dL_law_259 : decode cL_law 259 = .ok (.aload_n 0, 1) := by decide +kernel
theorem dL_law_260 : decode cL_law 260 = .ok (.iload_n 3, 1) := by decide +kernel
theorem dL_law_261 : decode cL_law 261 = .ok (.iconst 4, 1) := by decide +kernel
theorem dL_law_262 : decode cL_law 262 = .ok (.iadd, 1) := by decide +kernel
theorem dL_law_263 : decode cL_law 263 = .ok (.iaload, 1) := by decide +kernel
theorem dL_law_264 : decode cL_law 264 = .ok (.aload_n 0, 1) := by decide +kernel
theorem dL_law_265 : decode cL_law 265 = .ok (.iload_n 3, 1) := by decide +kernel
theorem dL_law_266 : decode cL_law 266 = .ok (.iconst 5, 1) := by decide +kernel
theorem dL_law_267 : decode cL_law 267 = .ok (.iadd, 1) := by decide +kernel
theorem dL_law_268 : decode cL_law 268 = .ok (.iaload, 1) := by decide +kernel
theorem dL_law_269 : decode cL_law 269 = .ok (.invokevirtual 26, 3) := by decide +kernel
theorem dL_law_272 : decode cL_law 272 = .ok (.if_icmp .eq 487, 3) := by decide +kernel
theorem dL_law_275 : decode cL_law 275 = .ok (.iconst 0, 1) := by decide +kernel
theorem dL_law_276 : decode cL_law 276 = .ok (.ireturn, 1) := by decide +kernel
theorem dL_law_277 : decode cL_law 277 = .ok (.aload_n 1, 1) := by decide +kernel
theorem dL_law_278 : decode cL_law 278 = .ok (.aload_n 0, 1) := by decide +kernel
theorem dL_law_279 : decode cL_law 279 = .ok (.iload_n 3, 1) := by decide +kernel
theorem dL_law_280 : decode cL_law 280 = .ok (.iconst 1, 1) := by decide +kernel
theorem dL_law_281 : decode cL_law 281 = .ok (.iadd, 1) := by decide +kernel
theorem dL_law_282 : decode cL_law 282 = .ok (.iaload, 1) := by decide +kernel
theorem dL_law_283 : decode cL_law 283 = .ok (.aload_n 0, 1) := by decide +kernel
theorem dL_law_284 : decode cL_law 284 = .ok (.iload_n 3, 1) := by decide +kernel
theorem dL_law_285 : decode cL_law 285 = .ok (.iconst 2, 1) := by decide +kernel
theorem dL_law_286 : decode cL_law 286 = .ok (.iadd, 1) := by decide +kernel
theorem dL_law_287 : decode cL_law 287 = .ok (.iaload, 1) := by decide +kernel
theorem dL_law_288 : decode cL_law 288 = .ok (.invokevirtual 27, 3) := by decide +kernel
theorem dL_law_291 : decode cL_law 291 = .ok (.aload_n 2, 1) := by decide +kernel
theorem dL_law_292 : decode cL_law 292 = .ok (.aload_n 0, 1) := by decide +kernel
theorem dL_law_293 : decode cL_law 293 = .ok (.iload_n 3, 1) := by decide +kernel
theorem dL_law_294 : decode cL_law 294 = .ok (.iconst 1, 1) := by decide +kernel
theorem dL_law_295 : decode cL_law 295 = .ok (.iadd, 1) := by decide +kernel
theorem dL_law_296 : decode cL_law 296 = .ok (.iaload, 1) := by decide +kernel
theorem dL_law_297 : decode cL_law 297 = .ok (.aload_n 0, 1) := by decide +kernel
theorem dL_law_298 : decode cL_law 298 = .ok (.iload_n 3, 1) := by decide +kernel
theorem dL_law_299 : decode cL_law 299 = .ok (.iconst 2, 1) := by decide +kernel
theorem dL_law_300 : decode cL_law 300 = .ok (.iadd, 1) := by decide +kernel
theorem dL_law_301 : decode cL_law 301 = .ok (.iaload, 1) := by decide +kernel
theorem dL_law_302 : decode cL_law 302 = .ok (.invokevirtual 31, 3) := by decide +kernel
theorem dL_law_305 : decode cL_law 305 = .ok (.lcmp, 1) := by decide +kernel
theorem dL_law_306 : decode cL_law 306 = .ok (.ifCond .eq 453, 3) := by decide +kernel
theorem dL_law_309 : decode cL_law 309 = .ok (.iconst 0, 1) := by decide +kernel
theorem dL_law_310 : decode cL_law 310 = .ok (.ireturn, 1) := by decide +kernel
theorem dL_law_311 : decode cL_law 311 = .ok (.aload_n 1, 1) := by decide +kernel
theorem dL_law_312 : decode cL_law 312 = .ok (.aload_n 0, 1) := by decide +kernel
theorem dL_law_313 : decode cL_law 313 = .ok (.iload_n 3, 1) := by decide +kernel
theorem dL_law_314 : decode cL_law 314 = .ok (.iconst 1, 1) := by decide +kernel
theorem dL_law_315 : decode cL_law 315 = .ok (.iadd, 1) := by decide +kernel
theorem dL_law_316 : decode cL_law 316 = .ok (.iaload, 1) := by decide +kernel
theorem dL_law_317 : decode cL_law 317 = .ok (.aload_n 0, 1) := by decide +kernel
theorem dL_law_318 : decode cL_law 318 = .ok (.iload_n 3, 1) := by decide +kernel
theorem dL_law_319 : decode cL_law 319 = .ok (.iconst 2, 1) := by decide +kernel
theorem dL_law_320 : decode cL_law 320 = .ok (.iadd, 1) := by decide +kernel
theorem dL_law_321 : decode cL_law 321 = .ok (.iaload, 1) := by decide +kernel
theorem dL_law_322 : decode cL_law 322 = .ok (.aload_n 0, 1) := by decide +kernel
theorem dL_law_323 : decode cL_law 323 = .ok (.iload_n 3, 1) := by decide +kernel
theorem dL_law_324 : decode cL_law 324 = .ok (.iconst 3, 1) := by decide +kernel
theorem dL_law_325 : decode cL_law 325 = .ok (.iadd, 1) := by decide +kernel
theorem dL_law_326 : decode cL_law 326 = .ok (.iaload, 1) := by decide +kernel
theorem dL_law_327 : decode cL_law 327 = .ok (.invokevirtual 32, 3) := by decide +kernel
theorem dL_law_330 : decode cL_law 330 = .ok (.aload_n 2, 1) := by decide +kernel
theorem dL_law_331 : decode cL_law 331 = .ok (.aload_n 0, 1) := by decide +kernel
theorem dL_law_332 : decode cL_law 332 = .ok (.iload_n 3, 1) := by decide +kernel
theorem dL_law_333 : decode cL_law 333 = .ok (.iconst 1, 1) := by decide +kernel
theorem dL_law_334 : decode cL_law 334 = .ok (.iadd, 1) := by decide +kernel
theorem dL_law_335 : decode cL_law 335 = .ok (.iaload, 1) := by decide +kernel
theorem dL_law_336 : decode cL_law 336 = .ok (.aload_n 0, 1) := by decide +kernel
theorem dL_law_337 : decode cL_law 337 = .ok (.iload_n 3, 1) := by decide +kernel
theorem dL_law_338 : decode cL_law 338 = .ok (.iconst 2, 1) := by decide +kernel
theorem dL_law_339 : decode cL_law 339 = .ok (.iadd, 1) := by decide +kernel
theorem dL_law_340 : decode cL_law 340 = .ok (.iaload, 1) := by decide +kernel
theorem dL_law_341 : decode cL_law 341 = .ok (.aload_n 0, 1) := by decide +kernel
theorem dL_law_342 : decode cL_law 342 = .ok (.iload_n 3, 1) := by decide +kernel
theorem dL_law_343 : decode cL_law 343 = .ok (.iconst 3, 1) := by decide +kernel
theorem dL_law_344 : decode cL_law 344 = .ok (.iadd, 1) := by decide +kernel
theorem dL_law_345 : decode cL_law 345 = .ok (.iaload, 1) := by decide +kernel
theorem dL_law_346 : decode cL_law 346 = .ok (.invokevirtual 35, 3) := by decide +kernel
theorem dL_law_349 : decode cL_law 349 = .ok (.if_icmp .eq 410, 3) := by decide +kernel
theorem dL_law_352 : decode cL_law 352 = .ok (.iconst 0, 1) := by decide +kernel
theorem dL_law_353 : decode cL_law 353 = .ok (.ireturn, 1) := by decide +kernel
theorem dL_law_354 : decode cL_law 354 = .ok (.aload_n 1, 1) := by decide +kernel
theorem dL_law_355 : decode cL_law 355 = .ok (.aload_n 0, 1) := by decide +kernel
theorem dL_law_356 : decode cL_law 356 = .ok (.iload_n 3, 1) := by decide +kernel
theorem dL_law_357 : decode cL_law 357 = .ok (.iconst 1, 1) := by decide +kernel
theorem dL_law_358 : decode cL_law 358 = .ok (.iadd, 1) := by decide +kernel
theorem dL_law_359 : decode cL_law 359 = .ok (.iaload, 1) := by decide +kernel
theorem dL_law_360 : decode cL_law 360 = .ok (.aload_n 0, 1) := by decide +kernel
theorem dL_law_361 : decode cL_law 361 = .ok (.iload_n 3, 1) := by decide +kernel
theorem dL_law_362 : decode cL_law 362 = .ok (.iconst 2, 1) := by decide +kernel
theorem dL_law_363 : decode cL_law 363 = .ok (.iadd, 1) := by decide +kernel
theorem dL_law_364 : decode cL_law 364 = .ok (.iaload, 1) := by decide +kernel
theorem dL_law_365 : decode cL_law 365 = .ok (.invokevirtual 36, 3) := by decide +kernel
theorem dL_law_368 : decode cL_law 368 = .ok (.aload_n 2, 1) := by decide +kernel
theorem dL_law_369 : decode cL_law 369 = .ok (.aload_n 0, 1) := by decide +kernel
theorem dL_law_370 : decode cL_law 370 = .ok (.iload_n 3, 1) := by decide +kernel
theorem dL_law_371 : decode cL_law 371 = .ok (.iconst 1, 1) := by decide +kernel
theorem dL_law_372 : decode cL_law 372 = .ok (.iadd, 1) := by decide +kernel
theorem dL_law_373 : decode cL_law 373 = .ok (.iaload, 1) := by decide +kernel
theorem dL_law_374 : decode cL_law 374 = .ok (.aload_n 0, 1) := by decide +kernel
theorem dL_law_375 : decode cL_law 375 = .ok (.iload_n 3, 1) := by decide +kernel
theorem dL_law_376 : decode cL_law 376 = .ok (.iconst 2, 1) := by decide +kernel
theorem dL_law_377 : decode cL_law 377 = .ok (.iadd, 1) := by decide +kernel
theorem dL_law_378 : decode cL_law 378 = .ok (.iaload, 1) := by decide +kernel
theorem dL_law_379 : decode cL_law 379 = .ok (.invokevirtual 40, 3) := by decide +kernel
theorem dL_law_382 : decode cL_law 382 = .ok (.if_icmp .eq 377, 3) := by decide +kernel
theorem dL_law_385 : decode cL_law 385 = .ok (.iconst 0, 1) := by decide +kernel
theorem dL_law_386 : decode cL_law 386 = .ok (.ireturn, 1) := by decide +kernel
theorem dL_law_387 : decode cL_law 387 = .ok (.aload_n 1, 1) := by decide +kernel
theorem dL_law_388 : decode cL_law 388 = .ok (.aload_n 0, 1) := by decide +kernel
theorem dL_law_389 : decode cL_law 389 = .ok (.iload_n 3, 1) := by decide +kernel
theorem dL_law_390 : decode cL_law 390 = .ok (.iconst 1, 1) := by decide +kernel
theorem dL_law_391 : decode cL_law 391 = .ok (.iadd, 1) := by decide +kernel
theorem dL_law_392 : decode cL_law 392 = .ok (.iaload, 1) := by decide +kernel
theorem dL_law_393 : decode cL_law 393 = .ok (.aload_n 0, 1) := by decide +kernel
theorem dL_law_394 : decode cL_law 394 = .ok (.iload_n 3, 1) := by decide +kernel
theorem dL_law_395 : decode cL_law 395 = .ok (.iconst 2, 1) := by decide +kernel
theorem dL_law_396 : decode cL_law 396 = .ok (.iadd, 1) := by decide +kernel
theorem dL_law_397 : decode cL_law 397 = .ok (.iaload, 1) := by decide +kernel
theorem dL_law_398 : decode cL_law 398 = .ok (.aload_n 0, 1) := by decide +kernel
theorem dL_law_399 : decode cL_law 399 = .ok (.iload_n 3, 1) := by decide +kernel
theorem dL_law_400 : decode cL_law 400 = .ok (.iconst 3, 1) := by decide +kernel
theorem dL_law_401 : decode cL_law 401 = .ok (.iadd, 1) := by decide +kernel
theorem dL_law_402 : decode cL_law 402 = .ok (.iaload, 1) := by decide +kernel
theorem dL_law_403 : decode cL_law 403 = .ok (.aload_n 0, 1) := by decide +kernel
theorem dL_law_404 : decode cL_law 404 = .ok (.iload_n 3, 1) := by decide +kernel
theorem dL_law_405 : decode cL_law 405 = .ok (.iconst 4, 1) := by decide +kernel
theorem dL_law_406 : decode cL_law 406 = .ok (.iadd, 1) := by decide +kernel
theorem dL_law_407 : decode cL_law 407 = .ok (.iaload, 1) := by decide +kernel
theorem dL_law_408 : decode cL_law 408 = .ok (.invokevirtual 41, 3) := by decide +kernel
theorem dL_law_411 : decode cL_law 411 = .ok (.aload_n 2, 1) := by decide +kernel
theorem dL_law_412 : decode cL_law 412 = .ok (.aload_n 0, 1) := by decide +kernel
theorem dL_law_413 : decode cL_law 413 = .ok (.iload_n 3, 1) := by decide +kernel
theorem dL_law_414 : decode cL_law 414 = .ok (.iconst 1, 1) := by decide +kernel
theorem dL_law_415 : decode cL_law 415 = .ok (.iadd, 1) := by decide +kernel
theorem dL_law_416 : decode cL_law 416 = .ok (.iaload, 1) := by decide +kernel
theorem dL_law_417 : decode cL_law 417 = .ok (.aload_n 0, 1) := by decide +kernel
theorem dL_law_418 : decode cL_law 418 = .ok (.iload_n 3, 1) := by decide +kernel
theorem dL_law_419 : decode cL_law 419 = .ok (.iconst 2, 1) := by decide +kernel
theorem dL_law_420 : decode cL_law 420 = .ok (.iadd, 1) := by decide +kernel
theorem dL_law_421 : decode cL_law 421 = .ok (.iaload, 1) := by decide +kernel
theorem dL_law_422 : decode cL_law 422 = .ok (.aload_n 0, 1) := by decide +kernel
theorem dL_law_423 : decode cL_law 423 = .ok (.iload_n 3, 1) := by decide +kernel
theorem dL_law_424 : decode cL_law 424 = .ok (.iconst 3, 1) := by decide +kernel
theorem dL_law_425 : decode cL_law 425 = .ok (.iadd, 1) := by decide +kernel
theorem dL_law_426 : decode cL_law 426 = .ok (.iaload, 1) := by decide +kernel
theorem dL_law_427 : decode cL_law 427 = .ok (.aload_n 0, 1) := by decide +kernel
theorem dL_law_428 : decode cL_law 428 = .ok (.iload_n 3, 1) := by decide +kernel
theorem dL_law_429 : decode cL_law 429 = .ok (.iconst 4, 1) := by decide +kernel
theorem dL_law_430 : decode cL_law 430 = .ok (.iadd, 1) := by decide +kernel
theorem dL_law_431 : decode cL_law 431 = .ok (.iaload, 1) := by decide +kernel
theorem dL_law_432 : decode cL_law 432 = .ok (.invokevirtual 45, 3) := by decide +kernel
theorem dL_law_435 : decode cL_law 435 = .ok (.if_icmp .eq 324, 3) := by decide +kernel
theorem dL_law_438 : decode cL_law 438 = .ok (.iconst 0, 1) := by decide +kernel
theorem dL_law_439 : decode cL_law 439 = .ok (.ireturn, 1) := by decide +kernel
theorem dL_law_440 : decode cL_law 440 = .ok (.aload_n 1, 1) := by decide +kernel
theorem dL_law_441 : decode cL_law 441 = .ok (.aload_n 0, 1) := by decide +kernel
theorem dL_law_442 : decode cL_law 442 = .ok (.iload_n 3, 1) := by decide +kernel
theorem dL_law_443 : decode cL_law 443 = .ok (.iconst 1, 1) := by decide +kernel
theorem dL_law_444 : decode cL_law 444 = .ok (.iadd, 1) := by decide +kernel
theorem dL_law_445 : decode cL_law 445 = .ok (.iaload, 1) := by decide +kernel
theorem dL_law_446 : decode cL_law 446 = .ok (.aload_n 0, 1) := by decide +kernel
theorem dL_law_447 : decode cL_law 447 = .ok (.iload_n 3, 1) := by decide +kernel
theorem dL_law_448 : decode cL_law 448 = .ok (.iconst 2, 1) := by decide +kernel
theorem dL_law_449 : decode cL_law 449 = .ok (.iadd, 1) := by decide +kernel
theorem dL_law_450 : decode cL_law 450 = .ok (.iaload, 1) := by decide +kernel
theorem dL_law_451 : decode cL_law 451 = .ok (.invokevirtual 46, 3) := by decide +kernel
theorem dL_law_454 : decode cL_law 454 = .ok (.aload_n 2, 1) := by decide +kernel
theorem dL_law_455 : decode cL_law 455 = .ok (.aload_n 0, 1) := by decide +kernel
theorem dL_law_456 : decode cL_law 456 = .ok (.iload_n 3, 1) := by decide +kernel
theorem dL_law_457 : decode cL_law 457 = .ok (.iconst 1, 1) := by decide +kernel
theorem dL_law_458 : decode cL_law 458 = .ok (.iadd, 1) := by decide +kernel
theorem dL_law_459 : decode cL_law 459 = .ok (.iaload, 1) := by decide +kernel
theorem dL_law_460 : decode cL_law 460 = .ok (.aload_n 0, 1) := by decide +kernel
theorem dL_law_461 : decode cL_law 461 = .ok (.iload_n 3, 1) := by decide +kernel
theorem dL_law_462 : decode cL_law 462 = .ok (.iconst 2, 1) := by decide +kernel
theorem dL_law_463 : decode cL_law 463 = .ok (.iadd, 1) := by decide +kernel
theorem dL_law_464 : decode cL_law 464 = .ok (.iaload, 1) := by decide +kernel
theorem dL_law_465 : decode cL_law 465 = .ok (.invokevirtual 49, 3) := by decide +kernel
theorem dL_law_468 : decode cL_law 468 = .ok (.if_icmp .eq 291, 3) := by decide +kernel
theorem dL_law_471 : decode cL_law 471 = .ok (.iconst 0, 1) := by decide +kernel
theorem dL_law_472 : decode cL_law 472 = .ok (.ireturn, 1) := by decide +kernel
theorem dL_law_473 : decode cL_law 473 = .ok (.aload_n 1, 1) := by decide +kernel
theorem dL_law_474 : decode cL_law 474 = .ok (.aload_n 0, 1) := by decide +kernel
theorem dL_law_475 : decode cL_law 475 = .ok (.iload_n 3, 1) := by decide +kernel
theorem dL_law_476 : decode cL_law 476 = .ok (.iconst 1, 1) := by decide +kernel
theorem dL_law_477 : decode cL_law 477 = .ok (.iadd, 1) := by decide +kernel
theorem dL_law_478 : decode cL_law 478 = .ok (.iaload, 1) := by decide +kernel
theorem dL_law_479 : decode cL_law 479 = .ok (.invokevirtual 50, 3) := by decide +kernel
theorem dL_law_482 : decode cL_law 482 = .ok (.aload_n 2, 1) := by decide +kernel
theorem dL_law_483 : decode cL_law 483 = .ok (.aload_n 0, 1) := by decide +kernel
theorem dL_law_484 : decode cL_law 484 = .ok (.iload_n 3, 1) := by decide +kernel
theorem dL_law_485 : decode cL_law 485 = .ok (.iconst 1, 1) := by decide +kernel
theorem dL_law_486 : decode cL_law 486 = .ok (.iadd, 1) := by decide +kernel
theorem dL_law_487 : decode cL_law 487 = .ok (.iaload, 1) := by decide +kernel
theorem dL_law_488 : decode cL_law 488 = .ok (.invokevirtual 54, 3) := by decide +kernel
theorem dL_law_491 : decode cL_law 491 = .ok (.if_icmp .eq 268, 3) := by decide +kernel
theorem dL_law_494 : decode cL_law 494 = .ok (.iconst 0, 1) := by decide +kernel
theorem dL_law_495 : decode cL_law 495 = .ok (.ireturn, 1) := by decide +kernel
theorem dL_law_496 : decode cL_law 496 = .ok (.aload_n 1, 1) := by decide +kernel
theorem dL_law_497 : decode cL_law 497 = .ok (.aload_n 0, 1) := by decide +kernel
theorem dL_law_498 : decode cL_law 498 = .ok (.iload_n 3, 1) := by decide +kernel
theorem dL_law_499 : decode cL_law 499 = .ok (.iconst 1, 1) := by decide +kernel
theorem dL_law_500 : decode cL_law 500 = .ok (.iadd, 1) := by decide +kernel
theorem dL_law_501 : decode cL_law 501 = .ok (.iaload, 1) := by decide +kernel
theorem dL_law_502 : decode cL_law 502 = .ok (.aload_n 0, 1) := by decide +kernel
theorem dL_law_503 : decode cL_law 503 = .ok (.iload_n 3, 1) := by decide +kernel
theorem dL_law_504 : decode cL_law 504 = .ok (.iconst 2, 1) := by decide +kernel
theorem dL_law_505 : decode cL_law 505 = .ok (.iadd, 1) := by decide +kernel
theorem dL_law_506 : decode cL_law 506 = .ok (.iaload, 1) := by decide +kernel
theorem dL_law_507 : decode cL_law 507 = .ok (.invokevirtual 55, 3) := by decide +kernel
theorem dL_law_510 : decode cL_law 510 = .ok (.aload_n 2, 1) := by decide +kernel
theorem dL_law_511 : decode cL_law 511 = .ok (.aload_n 0, 1) := by decide +kernel
theorem dL_law_512 : decode cL_law 512 = .ok (.iload_n 3, 1) := by decide +kernel
theorem dL_law_513 : decode cL_law 513 = .ok (.iconst 1, 1) := by decide +kernel
theorem dL_law_514 : decode cL_law 514 = .ok (.iadd, 1) := by decide +kernel
theorem dL_law_515 : decode cL_law 515 = .ok (.iaload, 1) := by decide +kernel
theorem dL_law_516 : decode cL_law 516 = .ok (.aload_n 0, 1) := by decide +kernel
theorem dL_law_517 : decode cL_law 517 = .ok (.iload_n 3, 1) := by decide +kernel
theorem dL_law_518 : decode cL_law 518 = .ok (.iconst 2, 1) := by decide +kernel
theorem dL_law_519 : decode cL_law 519 = .ok (.iadd, 1) := by decide +kernel
theorem dL_law_520 : decode cL_law 520 = .ok (.iaload, 1) := by decide +kernel
theorem dL_law_521 : decode cL_law 521 = .ok (.invokevirtual 58, 3) := by decide +kernel
theorem dL_law_524 : decode cL_law 524 = .ok (.if_icmp .eq 235, 3) := by decide +kernel
theorem dL_law_527 : decode cL_law 527 = .ok (.iconst 0, 1) := by decide +kernel
theorem dL_law_528 : decode cL_law 528 = .ok (.ireturn, 1) := by decide +kernel
theorem dL_law_529 : decode cL_law 529 = .ok (.aload_n 1, 1) := by decide +kernel
theorem dL_law_530 : decode cL_law 530 = .ok (.invokevirtual 59, 3) := by decide +kernel
theorem dL_law_533 : decode cL_law 533 = .ok (.aload_n 2, 1) := by decide +kernel
theorem dL_law_534 : decode cL_law 534 = .ok (.invokevirtual 63, 3) := by decide +kernel
theorem dL_law_537 : decode cL_law 537 = .ok (.if_icmp .eq 222, 3) := by decide +kernel
theorem dL_law_540 : decode cL_law 540 = .ok (.iconst 0, 1) := by decide +kernel
theorem dL_law_541 : decode cL_law 541 = .ok (.ireturn, 1) := by decide +kernel
theorem dL_law_542 : decode cL_law 542 = .ok (.aload_n 1, 1) := by decide +kernel
theorem dL_law_543 : decode cL_law 543 = .ok (.invokevirtual 64, 3) := by decide +kernel
theorem dL_law_546 : decode cL_law 546 = .ok (.aload_n 2, 1) := by decide +kernel
theorem dL_law_547 : decode cL_law 547 = .ok (.invokevirtual 67, 3) := by decide +kernel
theorem dL_law_550 : decode cL_law 550 = .ok (.if_icmp .eq 209, 3) := by decide +kernel
theorem dL_law_553 : decode cL_law 553 = .ok (.iconst 0, 1) := by decide +kernel
theorem dL_law_554 : decode cL_law 554 = .ok (.ireturn, 1) := by decide +kernel
theorem dL_law_555 : decode cL_law 555 = .ok (.aload_n 1, 1) := by decide +kernel
theorem dL_law_556 : decode cL_law 556 = .ok (.aload_n 0, 1) := by decide +kernel
theorem dL_law_557 : decode cL_law 557 = .ok (.iload_n 3, 1) := by decide +kernel
theorem dL_law_558 : decode cL_law 558 = .ok (.iconst 1, 1) := by decide +kernel
theorem dL_law_559 : decode cL_law 559 = .ok (.iadd, 1) := by decide +kernel
theorem dL_law_560 : decode cL_law 560 = .ok (.iaload, 1) := by decide +kernel
theorem dL_law_561 : decode cL_law 561 = .ok (.aload_n 0, 1) := by decide +kernel
theorem dL_law_562 : decode cL_law 562 = .ok (.iload_n 3, 1) := by decide +kernel
theorem dL_law_563 : decode cL_law 563 = .ok (.iconst 2, 1) := by decide +kernel
theorem dL_law_564 : decode cL_law 564 = .ok (.iadd, 1) := by decide +kernel
theorem dL_law_565 : decode cL_law 565 = .ok (.iaload, 1) := by decide +kernel
theorem dL_law_566 : decode cL_law 566 = .ok (.invokevirtual 68, 3) := by decide +kernel
theorem dL_law_569 : decode cL_law 569 = .ok (.aload_n 2, 1) := by decide +kernel
theorem dL_law_570 : decode cL_law 570 = .ok (.aload_n 0, 1) := by decide +kernel
theorem dL_law_571 : decode cL_law 571 = .ok (.iload_n 3, 1) := by decide +kernel
theorem dL_law_572 : decode cL_law 572 = .ok (.iconst 1, 1) := by decide +kernel
theorem dL_law_573 : decode cL_law 573 = .ok (.iadd, 1) := by decide +kernel
theorem dL_law_574 : decode cL_law 574 = .ok (.iaload, 1) := by decide +kernel
theorem dL_law_575 : decode cL_law 575 = .ok (.aload_n 0, 1) := by decide +kernel
theorem dL_law_576 : decode cL_law 576 = .ok (.iload_n 3, 1) := by decide +kernel
theorem dL_law_577 : decode cL_law 577 = .ok (.iconst 2, 1) := by decide +kernel
theorem dL_law_578 : decode cL_law 578 = .ok (.iadd, 1) := by decide +kernel
theorem dL_law_579 : decode cL_law 579 = .ok (.iaload, 1) := by decide +kernel
theorem dL_law_580 : decode cL_law 580 = .ok (.invokevirtual 71, 3) := by decide +kernel
theorem dL_law_583 : decode cL_law 583 = .ok (.if_icmp .eq 176, 3) := by decide +kernel
theorem dL_law_586 : decode cL_law 586 = .ok (.iconst 0, 1) := by decide +kernel
theorem dL_law_587 : decode cL_law 587 = .ok (.ireturn, 1) := by decide +kernel
theorem dL_law_588 : decode cL_law 588 = .ok (.aload_n 1, 1) := by decide +kernel
theorem dL_law_589 : decode cL_law 589 = .ok (.aload_n 0, 1) := by decide +kernel
theorem dL_law_590 : decode cL_law 590 = .ok (.iload_n 3, 1) := by decide +kernel
theorem dL_law_591 : decode cL_law 591 = .ok (.iconst 1, 1) := by decide +kernel
theorem dL_law_592 : decode cL_law 592 = .ok (.iadd, 1) := by decide +kernel
theorem dL_law_593 : decode cL_law 593 = .ok (.iaload, 1) := by decide +kernel
theorem dL_law_594 : decode cL_law 594 = .ok (.invokevirtual 72, 3) := by decide +kernel
theorem dL_law_597 : decode cL_law 597 = .ok (.aload_n 2, 1) := by decide +kernel
theorem dL_law_598 : decode cL_law 598 = .ok (.aload_n 0, 1) := by decide +kernel
theorem dL_law_599 : decode cL_law 599 = .ok (.iload_n 3, 1) := by decide +kernel
theorem dL_law_600 : decode cL_law 600 = .ok (.iconst 1, 1) := by decide +kernel
theorem dL_law_601 : decode cL_law 601 = .ok (.iadd, 1) := by decide +kernel
theorem dL_law_602 : decode cL_law 602 = .ok (.iaload, 1) := by decide +kernel
theorem dL_law_603 : decode cL_law 603 = .ok (.invokevirtual 75, 3) := by decide +kernel
theorem dL_law_606 : decode cL_law 606 = .ok (.if_icmp .eq 153, 3) := by decide +kernel
theorem dL_law_609 : decode cL_law 609 = .ok (.iconst 0, 1) := by decide +kernel
theorem dL_law_610 : decode cL_law 610 = .ok (.ireturn, 1) := by decide +kernel
theorem dL_law_611 : decode cL_law 611 = .ok (.aload_n 1, 1) := by decide +kernel
theorem dL_law_612 : decode cL_law 612 = .ok (.invokevirtual 76, 3) := by decide +kernel
theorem dL_law_615 : decode cL_law 615 = .ok (.aload_n 2, 1) := by decide +kernel
theorem dL_law_616 : decode cL_law 616 = .ok (.invokevirtual 79, 3) := by decide +kernel
theorem dL_law_619 : decode cL_law 619 = .ok (.if_icmp .eq 140, 3) := by decide +kernel
theorem dL_law_622 : decode cL_law 622 = .ok (.iconst 0, 1) := by decide +kernel
theorem dL_law_623 : decode cL_law 623 = .ok (.ireturn, 1) := by decide +kernel
theorem dL_law_624 : decode cL_law 624 = .ok (.aload_n 1, 1) := by decide +kernel
theorem dL_law_625 : decode cL_law 625 = .ok (.aload_n 0, 1) := by decide +kernel
theorem dL_law_626 : decode cL_law 626 = .ok (.iload_n 3, 1) := by decide +kernel
theorem dL_law_627 : decode cL_law 627 = .ok (.iconst 1, 1) := by decide +kernel
theorem dL_law_628 : decode cL_law 628 = .ok (.iadd, 1) := by decide +kernel
theorem dL_law_629 : decode cL_law 629 = .ok (.iaload, 1) := by decide +kernel
theorem dL_law_630 : decode cL_law 630 = .ok (.invokevirtual 80, 3) := by decide +kernel
theorem dL_law_633 : decode cL_law 633 = .ok (.aload_n 2, 1) := by decide +kernel
theorem dL_law_634 : decode cL_law 634 = .ok (.aload_n 0, 1) := by decide +kernel
theorem dL_law_635 : decode cL_law 635 = .ok (.iload_n 3, 1) := by decide +kernel
theorem dL_law_636 : decode cL_law 636 = .ok (.iconst 1, 1) := by decide +kernel
theorem dL_law_637 : decode cL_law 637 = .ok (.iadd, 1) := by decide +kernel
theorem dL_law_638 : decode cL_law 638 = .ok (.iaload, 1) := by decide +kernel
theorem dL_law_639 : decode cL_law 639 = .ok (.invokevirtual 83, 3) := by decide +kernel
theorem dL_law_642 : decode cL_law 642 = .ok (.if_icmp .eq 117, 3) := by decide +kernel
theorem dL_law_645 : decode cL_law 645 = .ok (.iconst 0, 1) := by decide +kernel
theorem dL_law_646 : decode cL_law 646 = .ok (.ireturn, 1) := by decide +kernel
theorem dL_law_647 : decode cL_law 647 = .ok (.aload_n 1, 1) := by decide +kernel
theorem dL_law_648 : decode cL_law 648 = .ok (.invokevirtual 84, 3) := by decide +kernel
theorem dL_law_651 : decode cL_law 651 = .ok (.aload_n 2, 1) := by decide +kernel
theorem dL_law_652 : decode cL_law 652 = .ok (.invokevirtual 87, 3) := by decide +kernel
theorem dL_law_655 : decode cL_law 655 = .ok (.if_icmp .eq 104, 3) := by decide +kernel
theorem dL_law_658 : decode cL_law 658 = .ok (.iconst 0, 1) := by decide +kernel
theorem dL_law_659 : decode cL_law 659 = .ok (.ireturn, 1) := by decide +kernel
theorem dL_law_660 : decode cL_law 660 = .ok (.aload_n 1, 1) := by decide +kernel
theorem dL_law_661 : decode cL_law 661 = .ok (.aload_n 0, 1) := by decide +kernel
theorem dL_law_662 : decode cL_law 662 = .ok (.iload_n 3, 1) := by decide +kernel
theorem dL_law_663 : decode cL_law 663 = .ok (.iconst 1, 1) := by decide +kernel
theorem dL_law_664 : decode cL_law 664 = .ok (.iadd, 1) := by decide +kernel
theorem dL_law_665 : decode cL_law 665 = .ok (.iaload, 1) := by decide +kernel
theorem dL_law_666 : decode cL_law 666 = .ok (.invokevirtual 88, 3) := by decide +kernel
theorem dL_law_669 : decode cL_law 669 = .ok (.aload_n 2, 1) := by decide +kernel
theorem dL_law_670 : decode cL_law 670 = .ok (.aload_n 0, 1) := by decide +kernel
theorem dL_law_671 : decode cL_law 671 = .ok (.iload_n 3, 1) := by decide +kernel
theorem dL_law_672 : decode cL_law 672 = .ok (.iconst 1, 1) := by decide +kernel
theorem dL_law_673 : decode cL_law 673 = .ok (.iadd, 1) := by decide +kernel
theorem dL_law_674 : decode cL_law 674 = .ok (.iaload, 1) := by decide +kernel
theorem dL_law_675 : decode cL_law 675 = .ok (.invokevirtual 91, 3) := by decide +kernel
theorem dL_law_678 : decode cL_law 678 = .ok (.if_icmp .eq 81, 3) := by decide +kernel
theorem dL_law_681 : decode cL_law 681 = .ok (.iconst 0, 1) := by decide +kernel
theorem dL_law_682 : decode cL_law 682 = .ok (.ireturn, 1) := by decide +kernel
theorem dL_law_683 : decode cL_law 683 = .ok (.aload_n 1, 1) := by decide +kernel
theorem dL_law_684 : decode cL_law 684 = .ok (.aload_n 0, 1) := by decide +kernel
theorem dL_law_685 : decode cL_law 685 = .ok (.iload_n 3, 1) := by decide +kernel
theorem dL_law_686 : decode cL_law 686 = .ok (.iconst 1, 1) := by decide +kernel
theorem dL_law_687 : decode cL_law 687 = .ok (.iadd, 1) := by decide +kernel
theorem dL_law_688 : decode cL_law 688 = .ok (.iaload, 1) := by decide +kernel
theorem dL_law_689 : decode cL_law 689 = .ok (.i2l, 1) := by decide +kernel
theorem dL_law_690 : decode cL_law 690 = .ok (.bipush 32, 2) := by decide +kernel
theorem dL_law_692 : decode cL_law 692 = .ok (.lshl, 1) := by decide +kernel
theorem dL_law_693 : decode cL_law 693 = .ok (.aload_n 0, 1) := by decide +kernel
theorem dL_law_694 : decode cL_law 694 = .ok (.iload_n 3, 1) := by decide +kernel
theorem dL_law_695 : decode cL_law 695 = .ok (.iconst 2, 1) := by decide +kernel
theorem dL_law_696 : decode cL_law 696 = .ok (.iadd, 1) := by decide +kernel
theorem dL_law_697 : decode cL_law 697 = .ok (.iaload, 1) := by decide +kernel
theorem dL_law_698 : decode cL_law 698 = .ok (.i2l, 1) := by decide +kernel
theorem dL_law_699 : decode cL_law 699 = .ok (.ldc2_w 92, 3) := by decide +kernel
theorem dL_law_702 : decode cL_law 702 = .ok (.land, 1) := by decide +kernel
theorem dL_law_703 : decode cL_law 703 = .ok (.lor, 1) := by decide +kernel
theorem dL_law_704 : decode cL_law 704 = .ok (.invokevirtual 94, 3) := by decide +kernel
theorem dL_law_707 : decode cL_law 707 = .ok (.aload_n 2, 1) := by decide +kernel
theorem dL_law_708 : decode cL_law 708 = .ok (.aload_n 0, 1) := by decide +kernel
theorem dL_law_709 : decode cL_law 709 = .ok (.iload_n 3, 1) := by decide +kernel
theorem dL_law_710 : decode cL_law 710 = .ok (.iconst 1, 1) := by decide +kernel
theorem dL_law_711 : decode cL_law 711 = .ok (.iadd, 1) := by decide +kernel
theorem dL_law_712 : decode cL_law 712 = .ok (.iaload, 1) := by decide +kernel
theorem dL_law_713 : decode cL_law 713 = .ok (.i2l, 1) := by decide +kernel
theorem dL_law_714 : decode cL_law 714 = .ok (.bipush 32, 2) := by decide +kernel
theorem dL_law_716 : decode cL_law 716 = .ok (.lshl, 1) := by decide +kernel
theorem dL_law_717 : decode cL_law 717 = .ok (.aload_n 0, 1) := by decide +kernel
theorem dL_law_718 : decode cL_law 718 = .ok (.iload_n 3, 1) := by decide +kernel
theorem dL_law_719 : decode cL_law 719 = .ok (.iconst 2, 1) := by decide +kernel
theorem dL_law_720 : decode cL_law 720 = .ok (.iadd, 1) := by decide +kernel
theorem dL_law_721 : decode cL_law 721 = .ok (.iaload, 1) := by decide +kernel
theorem dL_law_722 : decode cL_law 722 = .ok (.i2l, 1) := by decide +kernel
theorem dL_law_723 : decode cL_law 723 = .ok (.ldc2_w 92, 3) := by decide +kernel
theorem dL_law_726 : decode cL_law 726 = .ok (.land, 1) := by decide +kernel
theorem dL_law_727 : decode cL_law 727 = .ok (.lor, 1) := by decide +kernel
theorem dL_law_728 : decode cL_law 728 = .ok (.invokevirtual 98, 3) := by decide +kernel
theorem dL_law_731 : decode cL_law 731 = .ok (.if_icmp .eq 28, 3) := by decide +kernel
theorem dL_law_734 : decode cL_law 734 = .ok (.iconst 0, 1) := by decide +kernel
theorem dL_law_735 : decode cL_law 735 = .ok (.ireturn, 1) := by decide +kernel
theorem dL_law_736 : decode cL_law 736 = .ok (.aload_n 1, 1) := by decide +kernel
theorem dL_law_737 : decode cL_law 737 = .ok (.aload_n 0, 1) := by decide +kernel
theorem dL_law_738 : decode cL_law 738 = .ok (.iload_n 3, 1) := by decide +kernel
theorem dL_law_739 : decode cL_law 739 = .ok (.iconst 1, 1) := by decide +kernel
theorem dL_law_740 : decode cL_law 740 = .ok (.iadd, 1) := by decide +kernel
theorem dL_law_741 : decode cL_law 741 = .ok (.iaload, 1) := by decide +kernel
theorem dL_law_742 : decode cL_law 742 = .ok (.invokevirtual 99, 3) := by decide +kernel
theorem dL_law_745 : decode cL_law 745 = .ok (.aload_n 2, 1) := by decide +kernel
theorem dL_law_746 : decode cL_law 746 = .ok (.aload_n 0, 1) := by decide +kernel
theorem dL_law_747 : decode cL_law 747 = .ok (.iload_n 3, 1) := by decide +kernel
theorem dL_law_748 : decode cL_law 748 = .ok (.iconst 1, 1) := by decide +kernel
theorem dL_law_749 : decode cL_law 749 = .ok (.iadd, 1) := by decide +kernel
theorem dL_law_750 : decode cL_law 750 = .ok (.iaload, 1) := by decide +kernel
theorem dL_law_751 : decode cL_law 751 = .ok (.invokevirtual 102, 3) := by decide +kernel
theorem dL_law_754 : decode cL_law 754 = .ok (.if_icmp .eq 5, 3) := by decide +kernel
theorem dL_law_757 : decode cL_law 757 = .ok (.iconst 0, 1) := by decide +kernel
theorem dL_law_758 : decode cL_law 758 = .ok (.ireturn, 1) := by decide +kernel
theorem dL_law_759 : decode cL_law 759 = .ok (.iinc 3 6, 3) := by decide +kernel
theorem dL_law_762 : decode cL_law 762 = .ok (.goto (-744), 3) := by decide +kernel
theorem dL_law_765 : decode cL_law 765 = .ok (.iconst 1, 1) := by decide +kernel
theorem dL_law_766 : decode cL_law 766 = .ok (.ireturn, 1) := by decide +kernel
