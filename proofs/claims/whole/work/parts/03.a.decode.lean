theorem dX0_init_0 : decode cX0_init 0 = .ok (.aload_n 0, 1) := by decide +kernel
theorem dX0_init_1 : decode cX0_init 1 = .ok (.invokespecial 3, 3) := by decide +kernel
theorem dX0_init_4 : decode cX0_init 4 = .ok (.aload_n 0, 1) := by decide +kernel
theorem dX0_init_5 : decode cX0_init 5 = .ok (.bipush 61, 2) := by decide +kernel
theorem dX0_init_7 : decode cX0_init 7 = .ok (.newarray .int, 2) := by decide +kernel
theorem dX0_init_9 : decode cX0_init 9 = .ok (.putfield 9, 3) := by decide +kernel
theorem dX0_init_12 : decode cX0_init 12 = .ok (.aload_n 0, 1) := by decide +kernel
theorem dX0_init_13 : decode cX0_init 13 = .ok (.bipush 10, 2) := by decide +kernel
theorem dX0_init_15 : decode cX0_init 15 = .ok (.newarray .int, 2) := by decide +kernel
theorem dX0_init_17 : decode cX0_init 17 = .ok (.putfield 15, 3) := by decide +kernel
theorem dX0_init_20 : decode cX0_init 20 = .ok (.aload_n 0, 1) := by decide +kernel
theorem dX0_init_21 : decode cX0_init 21 = .ok (.iconst 0, 1) := by decide +kernel
theorem dX0_init_22 : decode cX0_init 22 = .ok (.putfield 18, 3) := by decide +kernel
theorem dX0_init_25 : decode cX0_init 25 = .ok (.aload_n 0, 1) := by decide +kernel
theorem dX0_init_26 : decode cX0_init 26 = .ok (.bipush 55, 2) := by decide +kernel
theorem dX0_init_28 : decode cX0_init 28 = .ok (.newarray .int, 2) := by decide +kernel
theorem dX0_init_30 : decode cX0_init 30 = .ok (.putfield 22, 3) := by decide +kernel
theorem dX0_init_33 : decode cX0_init 33 = .ok (.aload_n 0, 1) := by decide +kernel
theorem dX0_init_34 : decode cX0_init 34 = .ok (.bipush 55, 2) := by decide +kernel
theorem dX0_init_36 : decode cX0_init 36 = .ok (.newarray .int, 2) := by decide +kernel
theorem dX0_init_38 : decode cX0_init 38 = .ok (.putfield 25, 3) := by decide +kernel
theorem dX0_init_41 : decode cX0_init 41 = .ok (.aload_n 0, 1) := by decide +kernel
theorem dX0_init_42 : decode cX0_init 42 = .ok (.bipush 55, 2) := by decide +kernel
theorem dX0_init_44 : decode cX0_init 44 = .ok (.newarray .int, 2) := by decide +kernel
theorem dX0_init_46 : decode cX0_init 46 = .ok (.putfield 28, 3) := by decide +kernel
theorem dX0_init_49 : decode cX0_init 49 = .ok (.aload_n 0, 1) := by decide +kernel
theorem dX0_init_50 : decode cX0_init 50 = .ok (.bipush 55, 2) := by decide +kernel
theorem dX0_init_52 : decode cX0_init 52 = .ok (.newarray .int, 2) := by decide +kernel
theorem dX0_init_54 : decode cX0_init 54 = .ok (.putfield 31, 3) := by decide +kernel
theorem dX0_init_57 : decode cX0_init 57 = .ok (.aload_n 0, 1) := by decide +kernel
theorem dX0_init_58 : decode cX0_init 58 = .ok (.bipush 55, 2) := by decide +kernel
theorem dX0_init_60 : decode cX0_init 60 = .ok (.newarray .int, 2) := by decide +kernel
theorem dX0_init_62 : decode cX0_init 62 = .ok (.putfield 34, 3) := by decide +kernel
theorem dX0_init_65 : decode cX0_init 65 = .ok (.aload_n 0, 1) := by decide +kernel
theorem dX0_init_66 : decode cX0_init 66 = .ok (.iconst 0, 1) := by decide +kernel
theorem dX0_init_67 : decode cX0_init 67 = .ok (.putfield 37, 3) := by decide +kernel
theorem dX0_init_70 : decode cX0_init 70 = .ok (.aload_n 0, 1) := by decide +kernel
theorem dX0_init_71 : decode cX0_init 71 = .ok (.sipush 1024, 3) := by decide +kernel
theorem dX0_init_74 : decode cX0_init 74 = .ok (.newarray .int, 2) := by decide +kernel
theorem dX0_init_76 : decode cX0_init 76 = .ok (.putfield 40, 3) := by decide +kernel
theorem dX0_init_79 : decode cX0_init 79 = .ok (.aload_n 0, 1) := by decide +kernel
theorem dX0_init_80 : decode cX0_init 80 = .ok (.sipush 1024, 3) := by decide +kernel
theorem dX0_init_83 : decode cX0_init 83 = .ok (.newarray .int, 2) := by decide +kernel
theorem dX0_init_85 : decode cX0_init 85 = .ok (.putfield 43, 3) := by decide +kernel
theorem dX0_init_88 : decode cX0_init 88 = .ok (.aload_n 0, 1) := by decide +kernel
theorem dX0_init_89 : decode cX0_init 89 = .ok (.iconst (-1), 1) := by decide +kernel
theorem dX0_init_90 : decode cX0_init 90 = .ok (.putfield 46, 3) := by decide +kernel
theorem dX0_init_93 : decode cX0_init 93 = .ok (.aload_n 0, 1) := by decide +kernel
theorem dX0_init_94 : decode cX0_init 94 = .ok (.aload_n 1, 1) := by decide +kernel
theorem dX0_init_95 : decode cX0_init 95 = .ok (.putfield 49, 3) := by decide +kernel
theorem dX0_init_98 : decode cX0_init 98 = .ok (.aload_n 0, 1) := by decide +kernel
theorem dX0_init_99 : decode cX0_init 99 = .ok (.aload_n 2, 1) := by decide +kernel
theorem dX0_init_100 : decode cX0_init 100 = .ok (.putfield 53, 3) := by decide +kernel
theorem dX0_init_103 : decode cX0_init 103 = .ok (.return_, 1) := by decide +kernel
theorem dX0_renew_0 : decode cX0_renew 0 = .ok (.aload_n 0, 1) := by decide +kernel
theorem dX0_renew_1 : decode cX0_renew 1 = .ok (.getfield 46, 3) := by decide +kernel
theorem dX0_renew_4 : decode cX0_renew 4 = .ok (.aload_n 0, 1) := by decide +kernel
theorem dX0_renew_5 : decode cX0_renew 5 = .ok (.getfield 49, 3) := by decide +kernel
theorem dX0_renew_8 : decode cX0_renew 8 = .ok (.getfield 57, 3) := by decide +kernel
theorem dX0_renew_11 : decode cX0_renew 11 = .ok (.if_icmp .ne 4, 3) := by decide +kernel
theorem dX0_renew_14 : decode cX0_renew 14 = .ok (.return_, 1) := by decide +kernel
theorem dX0_renew_15 : decode cX0_renew 15 = .ok (.aload_n 0, 1) := by decide +kernel
theorem dX0_renew_16 : decode cX0_renew 16 = .ok (.aload_n 0, 1) := by decide +kernel
theorem dX0_renew_17 : decode cX0_renew 17 = .ok (.getfield 49, 3) := by decide +kernel
theorem dX0_renew_20 : decode cX0_renew 20 = .ok (.getfield 57, 3) := by decide +kernel
theorem dX0_renew_23 : decode cX0_renew 23 = .ok (.putfield 46, 3) := by decide +kernel
theorem dX0_renew_26 : decode cX0_renew 26 = .ok (.aload_n 0, 1) := by decide +kernel
theorem dX0_renew_27 : decode cX0_renew 27 = .ok (.getfield 53, 3) := by decide +kernel
theorem dX0_renew_30 : decode cX0_renew 30 = .ok (.invokevirtual 62, 3) := by decide +kernel
theorem dX0_renew_33 : decode cX0_renew 33 = .ok (.aload_n 0, 1) := by decide +kernel
theorem dX0_renew_34 : decode cX0_renew 34 = .ok (.invokevirtual 67, 3) := by decide +kernel
theorem dX0_renew_37 : decode cX0_renew 37 = .ok (.aload_n 0, 1) := by decide +kernel
theorem dX0_renew_38 : decode cX0_renew 38 = .ok (.invokevirtual 70, 3) := by decide +kernel
theorem dX0_renew_41 : decode cX0_renew 41 = .ok (.aload_n 0, 1) := by decide +kernel
theorem dX0_renew_42 : decode cX0_renew 42 = .ok (.getfield 40, 3) := by decide +kernel
theorem dX0_renew_45 : decode cX0_renew 45 = .ok (.aload_n 0, 1) := by decide +kernel
theorem dX0_renew_46 : decode cX0_renew 46 = .ok (.getfield 49, 3) := by decide +kernel
theorem dX0_renew_49 : decode cX0_renew 49 = .ok (.invokevirtual 73, 3) := by decide +kernel
theorem dX0_renew_52 : decode cX0_renew 52 = .ok (.iaload, 1) := by decide +kernel
theorem dX0_renew_53 : decode cX0_renew 53 = .ok (.istore_n 1, 1) := by decide +kernel
theorem dX0_renew_54 : decode cX0_renew 54 = .ok (.iload_n 1, 1) := by decide +kernel
theorem dX0_renew_55 : decode cX0_renew 55 = .ok (.bipush 60, 2) := by decide +kernel
theorem dX0_renew_57 : decode cX0_renew 57 = .ok (.if_icmp .le 19, 3) := by decide +kernel
theorem dX0_renew_60 : decode cX0_renew 60 = .ok (.aload_n 0, 1) := by decide +kernel
theorem dX0_renew_61 : decode cX0_renew 61 = .ok (.bipush (-3), 2) := by decide +kernel
theorem dX0_renew_63 : decode cX0_renew 63 = .ok (.putfield 18, 3) := by decide +kernel
theorem dX0_renew_66 : decode cX0_renew 66 = .ok (.aload_n 0, 1) := by decide +kernel
theorem dX0_renew_67 : decode cX0_renew 67 = .ok (.getfield 15, 3) := by decide +kernel
theorem dX0_renew_70 : decode cX0_renew 70 = .ok (.bipush (-3), 2) := by decide +kernel
theorem dX0_renew_72 : decode cX0_renew 72 = .ok (.invokestatic 77, 3) := by decide +kernel
theorem dX0_renew_75 : decode cX0_renew 75 = .ok (.return_, 1) := by decide +kernel
theorem dX0_renew_76 : decode cX0_renew 76 = .ok (.aload_n 0, 1) := by decide +kernel
theorem dX0_renew_77 : decode cX0_renew 77 = .ok (.iload_n 1, 1) := by decide +kernel
theorem dX0_renew_78 : decode cX0_renew 78 = .ok (.putfield 18, 3) := by decide +kernel
theorem dX0_renew_81 : decode cX0_renew 81 = .ok (.aload_n 0, 1) := by decide +kernel
theorem dX0_renew_82 : decode cX0_renew 82 = .ok (.invokevirtual 83, 3) := by decide +kernel
theorem dX0_renew_85 : decode cX0_renew 85 = .ok (.aload_n 0, 1) := by decide +kernel
theorem dX0_renew_86 : decode cX0_renew 86 = .ok (.invokevirtual 86, 3) := by decide +kernel
theorem dX0_renew_89 : decode cX0_renew 89 = .ok (.return_, 1) := by decide +kernel
theorem dX0_listBlocks_0 : decode cX0_listBlocks 0 = .ok (.aload_n 0, 1) := by decide +kernel
theorem dX0_listBlocks_1 : decode cX0_listBlocks 1 = .ok (.iconst 0, 1) := by decide +kernel
theorem dX0_listBlocks_2 : decode cX0_listBlocks 2 = .ok (.putfield 37, 3) := by decide +kernel
theorem dX0_listBlocks_5 : decode cX0_listBlocks 5 = .ok (.iconst 0, 1) := by decide +kernel
theorem dX0_listBlocks_6 : decode cX0_listBlocks 6 = .ok (.istore_n 1, 1) := by decide +kernel
theorem dX0_listBlocks_7 : decode cX0_listBlocks 7 = .ok (.iload_n 1, 1) := by decide +kernel
theorem dX0_listBlocks_8 : decode cX0_listBlocks 8 = .ok (.aload_n 0, 1) := by decide +kernel
theorem dX0_listBlocks_9 : decode cX0_listBlocks 9 = .ok (.getfield 49, 3) := by decide +kernel
theorem dX0_listBlocks_12 : decode cX0_listBlocks 12 = .ok (.getfield 89, 3) := by decide +kernel
theorem dX0_listBlocks_15 : decode cX0_listBlocks 15 = .ok (.if_icmp .ge 114, 3) := by decide +kernel
theorem dX0_listBlocks_18 : decode cX0_listBlocks 18 = .ok (.aload_n 0, 1) := by decide +kernel
theorem dX0_listBlocks_19 : decode cX0_listBlocks 19 = .ok (.getfield 53, 3) := by decide +kernel
theorem dX0_listBlocks_22 : decode cX0_listBlocks 22 = .ok (.getfield 92, 3) := by decide +kernel
theorem dX0_listBlocks_25 : decode cX0_listBlocks 25 = .ok (.iload_n 1, 1) := by decide +kernel
theorem dX0_listBlocks_26 : decode cX0_listBlocks 26 = .ok (.iaload, 1) := by decide +kernel
theorem dX0_listBlocks_27 : decode cX0_listBlocks 27 = .ok (.aload_n 0, 1) := by decide +kernel
theorem dX0_listBlocks_28 : decode cX0_listBlocks 28 = .ok (.iload_n 1, 1) := by decide +kernel
theorem dX0_listBlocks_29 : decode cX0_listBlocks 29 = .ok (.invokevirtual 95, 3) := by decide +kernel
theorem dX0_listBlocks_32 : decode cX0_listBlocks 32 = .ok (.ior, 1) := by decide +kernel
theorem dX0_listBlocks_33 : decode cX0_listBlocks 33 = .ok (.istore_n 2, 1) := by decide +kernel
theorem dX0_listBlocks_34 : decode cX0_listBlocks 34 = .ok (.iload_n 1, 1) := by decide +kernel
theorem dX0_listBlocks_35 : decode cX0_listBlocks 35 = .ok (.iconst 1, 1) := by decide +kernel
theorem dX0_listBlocks_36 : decode cX0_listBlocks 36 = .ok (.iadd, 1) := by decide +kernel
theorem dX0_listBlocks_37 : decode cX0_listBlocks 37 = .ok (.istore_n 3, 1) := by decide +kernel
theorem dX0_listBlocks_38 : decode cX0_listBlocks 38 = .ok (.iload_n 3, 1) := by decide +kernel
theorem dX0_listBlocks_39 : decode cX0_listBlocks 39 = .ok (.aload_n 0, 1) := by decide +kernel
theorem dX0_listBlocks_40 : decode cX0_listBlocks 40 = .ok (.getfield 49, 3) := by decide +kernel
theorem dX0_listBlocks_43 : decode cX0_listBlocks 43 = .ok (.getfield 89, 3) := by decide +kernel
theorem dX0_listBlocks_46 : decode cX0_listBlocks 46 = .ok (.if_icmp .ge 65, 3) := by decide +kernel
theorem dX0_listBlocks_49 : decode cX0_listBlocks 49 = .ok (.aload_n 0, 1) := by decide +kernel
theorem dX0_listBlocks_50 : decode cX0_listBlocks 50 = .ok (.getfield 53, 3) := by decide +kernel
theorem dX0_listBlocks_53 : decode cX0_listBlocks 53 = .ok (.iload_n 1, 1) := by decide +kernel
theorem dX0_listBlocks_54 : decode cX0_listBlocks 54 = .ok (.iload_n 3, 1) := by decide +kernel
theorem dX0_listBlocks_55 : decode cX0_listBlocks 55 = .ok (.invokevirtual 99, 3) := by decide +kernel
theorem dX0_listBlocks_58 : decode cX0_listBlocks 58 = .ok (.ifCond .eq 47, 3) := by decide +kernel
theorem dX0_listBlocks_61 : decode cX0_listBlocks 61 = .ok (.aload_n 0, 1) := by decide +kernel
theorem dX0_listBlocks_62 : decode cX0_listBlocks 62 = .ok (.getfield 49, 3) := by decide +kernel
theorem dX0_listBlocks_65 : decode cX0_listBlocks 65 = .ok (.iload_n 1, 1) := by decide +kernel
theorem dX0_listBlocks_66 : decode cX0_listBlocks 66 = .ok (.iload_n 3, 1) := by decide +kernel
theorem dX0_listBlocks_67 : decode cX0_listBlocks 67 = .ok (.invokevirtual 103, 3) := by decide +kernel
theorem dX0_listBlocks_70 : decode cX0_listBlocks 70 = .ok (.ifCond .ne 35, 3) := by decide +kernel
theorem dX0_listBlocks_73 : decode cX0_listBlocks 73 = .ok (.aload_n 0, 1) := by decide +kernel
theorem dX0_listBlocks_74 : decode cX0_listBlocks 74 = .ok (.iload_n 1, 1) := by decide +kernel
theorem dX0_listBlocks_75 : decode cX0_listBlocks 75 = .ok (.iload_n 3, 1) := by decide +kernel
theorem dX0_listBlocks_76 : decode cX0_listBlocks 76 = .ok (.iload_n 1, 1) := by decide +kernel
theorem dX0_listBlocks_77 : decode cX0_listBlocks 77 = .ok (.invokestatic 106, 3) := by decide +kernel
theorem dX0_listBlocks_80 : decode cX0_listBlocks 80 = .ok (.iload_n 3, 1) := by decide +kernel
theorem dX0_listBlocks_81 : decode cX0_listBlocks 81 = .ok (.invokestatic 106, 3) := by decide +kernel
theorem dX0_listBlocks_84 : decode cX0_listBlocks 84 = .ok (.ior, 1) := by decide +kernel
theorem dX0_listBlocks_85 : decode cX0_listBlocks 85 = .ok (.iload_n 2, 1) := by decide +kernel
theorem dX0_listBlocks_86 : decode cX0_listBlocks 86 = .ok (.aload_n 0, 1) := by decide +kernel
theorem dX0_listBlocks_87 : decode cX0_listBlocks 87 = .ok (.getfield 53, 3) := by decide +kernel
theorem dX0_listBlocks_90 : decode cX0_listBlocks 90 = .ok (.getfield 92, 3) := by decide +kernel
theorem dX0_listBlocks_93 : decode cX0_listBlocks 93 = .ok (.iload_n 3, 1) := by decide +kernel
theorem dX0_listBlocks_94 : decode cX0_listBlocks 94 = .ok (.iaload, 1) := by decide +kernel
theorem dX0_listBlocks_95 : decode cX0_listBlocks 95 = .ok (.ior, 1) := by decide +kernel
theorem dX0_listBlocks_96 : decode cX0_listBlocks 96 = .ok (.aload_n 0, 1) := by decide +kernel
theorem dX0_listBlocks_97 : decode cX0_listBlocks 97 = .ok (.iload_n 3, 1) := by decide +kernel
theorem dX0_listBlocks_98 : decode cX0_listBlocks 98 = .ok (.invokevirtual 95, 3) := by decide +kernel
theorem dX0_listBlocks_101 : decode cX0_listBlocks 101 = .ok (.ior, 1) := by decide +kernel
theorem dX0_listBlocks_102 : decode cX0_listBlocks 102 = .ok (.invokevirtual 109, 3) := by decide +kernel
theorem dX0_listBlocks_105 : decode cX0_listBlocks 105 = .ok (.iinc 3 1, 3) := by decide +kernel
theorem dX0_listBlocks_108 : decode cX0_listBlocks 108 = .ok (.goto (-70), 3) := by decide +kernel
theorem dX0_listBlocks_111 : decode cX0_listBlocks 111 = .ok (.aload_n 0, 1) := by decide +kernel
theorem dX0_listBlocks_112 : decode cX0_listBlocks 112 = .ok (.iload_n 1, 1) := by decide +kernel
theorem dX0_listBlocks_113 : decode cX0_listBlocks 113 = .ok (.bipush 10, 2) := by decide +kernel
theorem dX0_listBlocks_115 : decode cX0_listBlocks 115 = .ok (.iload_n 1, 1) := by decide +kernel
theorem dX0_listBlocks_116 : decode cX0_listBlocks 116 = .ok (.invokestatic 106, 3) := by decide +kernel
theorem dX0_listBlocks_119 : decode cX0_listBlocks 119 = .ok (.iload_n 2, 1) := by decide +kernel
theorem dX0_listBlocks_120 : decode cX0_listBlocks 120 = .ok (.invokevirtual 109, 3) := by decide +kernel
theorem dX0_listBlocks_123 : decode cX0_listBlocks 123 = .ok (.iinc 1 1, 3) := by decide +kernel
theorem dX0_listBlocks_126 : decode cX0_listBlocks 126 = .ok (.goto (-119), 3) := by decide +kernel
theorem dX0_listBlocks_129 : decode cX0_listBlocks 129 = .ok (.return_, 1) := by decide +kernel
theorem dX0_lesserTwins_0 : decode cX0_lesserTwins 0 = .ok (.iconst 0, 1) := by decide +kernel
theorem dX0_lesserTwins_1 : decode cX0_lesserTwins 1 = .ok (.istore_n 2, 1) := by decide +kernel
theorem dX0_lesserTwins_2 : decode cX0_lesserTwins 2 = .ok (.iconst 0, 1) := by decide +kernel
theorem dX0_lesserTwins_3 : decode cX0_lesserTwins 3 = .ok (.istore_n 3, 1) := by decide +kernel
theorem dX0_lesserTwins_4 : decode cX0_lesserTwins 4 = .ok (.iload_n 3, 1) := by decide +kernel
theorem dX0_lesserTwins_5 : decode cX0_lesserTwins 5 = .ok (.iload_n 1, 1) := by decide +kernel
theorem dX0_lesserTwins_6 : decode cX0_lesserTwins 6 = .ok (.if_icmp .ge 40, 3) := by decide +kernel
theorem dX0_lesserTwins_9 : decode cX0_lesserTwins 9 = .ok (.aload_n 0, 1) := by decide +kernel
theorem dX0_lesserTwins_10 : decode cX0_lesserTwins 10 = .ok (.getfield 53, 3) := by decide +kernel
theorem dX0_lesserTwins_13 : decode cX0_lesserTwins 13 = .ok (.iload_n 1, 1) := by decide +kernel
theorem dX0_lesserTwins_14 : decode cX0_lesserTwins 14 = .ok (.iload_n 3, 1) := by decide +kernel
theorem dX0_lesserTwins_15 : decode cX0_lesserTwins 15 = .ok (.invokevirtual 113, 3) := by decide +kernel
theorem dX0_lesserTwins_18 : decode cX0_lesserTwins 18 = .ok (.ifCond .eq 22, 3) := by decide +kernel
theorem dX0_lesserTwins_21 : decode cX0_lesserTwins 21 = .ok (.aload_n 0, 1) := by decide +kernel
theorem dX0_lesserTwins_22 : decode cX0_lesserTwins 22 = .ok (.getfield 49, 3) := by decide +kernel
theorem dX0_lesserTwins_25 : decode cX0_lesserTwins 25 = .ok (.iload_n 1, 1) := by decide +kernel
theorem dX0_lesserTwins_26 : decode cX0_lesserTwins 26 = .ok (.iload_n 3, 1) := by decide +kernel
theorem dX0_lesserTwins_27 : decode cX0_lesserTwins 27 = .ok (.invokevirtual 116, 3) := by decide +kernel
theorem dX0_lesserTwins_30 : decode cX0_lesserTwins 30 = .ok (.ifCond .eq 10, 3) := by decide +kernel
theorem dX0_lesserTwins_33 : decode cX0_lesserTwins 33 = .ok (.iload_n 2, 1) := by decide +kernel
theorem dX0_lesserTwins_34 : decode cX0_lesserTwins 34 = .ok (.iload_n 3, 1) := by decide +kernel
theorem dX0_lesserTwins_35 : decode cX0_lesserTwins 35 = .ok (.invokestatic 106, 3) := by decide +kernel
theorem dX0_lesserTwins_38 : decode cX0_lesserTwins 38 = .ok (.ior, 1) := by decide +kernel
theorem dX0_lesserTwins_39 : decode cX0_lesserTwins 39 = .ok (.istore_n 2, 1) := by decide +kernel
theorem dX0_lesserTwins_40 : decode cX0_lesserTwins 40 = .ok (.iinc 3 1, 3) := by decide +kernel
theorem dX0_lesserTwins_43 : decode cX0_lesserTwins 43 = .ok (.goto (-39), 3) := by decide +kernel
theorem dX0_lesserTwins_46 : decode cX0_lesserTwins 46 = .ok (.iload_n 2, 1) := by decide +kernel
theorem dX0_lesserTwins_47 : decode cX0_lesserTwins 47 = .ok (.ireturn, 1) := by decide +kernel
theorem dX0_addBlock_0 : decode cX0_addBlock 0 = .ok (.aload_n 0, 1) := by decide +kernel
theorem dX0_addBlock_1 : decode cX0_addBlock 1 = .ok (.getfield 49, 3) := by decide +kernel
theorem dX0_addBlock_4 : decode cX0_addBlock 4 = .ok (.getfield 117, 3) := by decide +kernel
theorem dX0_addBlock_7 : decode cX0_addBlock 7 = .ok (.iload_n 1, 1) := by decide +kernel
theorem dX0_addBlock_8 : decode cX0_addBlock 8 = .ok (.iaload, 1) := by decide +kernel
theorem dX0_addBlock_9 : decode cX0_addBlock 9 = .ok (.aload_n 0, 1) := by decide +kernel
theorem dX0_addBlock_10 : decode cX0_addBlock 10 = .ok (.getfield 49, 3) := by decide +kernel
theorem dX0_addBlock_13 : decode cX0_addBlock 13 = .ok (.getfield 117, 3) := by decide +kernel
theorem dX0_addBlock_16 : decode cX0_addBlock 16 = .ok (.iload_n 2, 1) := by decide +kernel
theorem dX0_addBlock_17 : decode cX0_addBlock 17 = .ok (.iaload, 1) := by decide +kernel
theorem dX0_addBlock_18 : decode cX0_addBlock 18 = .ok (.invokestatic 120, 3) := by decide +kernel
theorem dX0_addBlock_21 : decode cX0_addBlock 21 = .ok (.istore 5, 2) := by decide +kernel
theorem dX0_addBlock_23 : decode cX0_addBlock 23 = .ok (.aload_n 0, 1) := by decide +kernel
theorem dX0_addBlock_24 : decode cX0_addBlock 24 = .ok (.getfield 49, 3) := by decide +kernel
theorem dX0_addBlock_27 : decode cX0_addBlock 27 = .ok (.getfield 126, 3) := by decide +kernel
theorem dX0_addBlock_30 : decode cX0_addBlock 30 = .ok (.iload_n 1, 1) := by decide +kernel
theorem dX0_addBlock_31 : decode cX0_addBlock 31 = .ok (.iaload, 1) := by decide +kernel
theorem dX0_addBlock_32 : decode cX0_addBlock 32 = .ok (.aload_n 0, 1) := by decide +kernel
theorem dX0_addBlock_33 : decode cX0_addBlock 33 = .ok (.getfield 49, 3) := by decide +kernel
theorem dX0_addBlock_36 : decode cX0_addBlock 36 = .ok (.getfield 126, 3) := by decide +kernel
theorem dX0_addBlock_39 : decode cX0_addBlock 39 = .ok (.iload_n 2, 1) := by decide +kernel
theorem dX0_addBlock_40 : decode cX0_addBlock 40 = .ok (.iaload, 1) := by decide +kernel
theorem dX0_addBlock_41 : decode cX0_addBlock 41 = .ok (.invokestatic 129, 3) := by decide +kernel
theorem dX0_addBlock_44 : decode cX0_addBlock 44 = .ok (.istore 6, 2) := by decide +kernel
theorem dX0_addBlock_46 : decode cX0_addBlock 46 = .ok (.iload 5, 2) := by decide +kernel
theorem dX0_addBlock_48 : decode cX0_addBlock 48 = .ok (.iload 6, 2) := by decide +kernel
theorem dX0_addBlock_50 : decode cX0_addBlock 50 = .ok (.if_icmp .gt 12, 3) := by decide +kernel
theorem dX0_addBlock_53 : decode cX0_addBlock 53 = .ok (.aload_n 0, 1) := by decide +kernel
theorem dX0_addBlock_54 : decode cX0_addBlock 54 = .ok (.getfield 37, 3) := by decide +kernel
theorem dX0_addBlock_57 : decode cX0_addBlock 57 = .ok (.bipush 55, 2) := by decide +kernel
theorem dX0_addBlock_59 : decode cX0_addBlock 59 = .ok (.if_icmp .lt 4, 3) := by decide +kernel
theorem dX0_addBlock_62 : decode cX0_addBlock 62 = .ok (.return_, 1) := by decide +kernel
theorem dX0_addBlock_63 : decode cX0_addBlock 63 = .ok (.aload_n 0, 1) := by decide +kernel
theorem dX0_addBlock_64 : decode cX0_addBlock 64 = .ok (.getfield 22, 3) := by decide +kernel
theorem dX0_addBlock_67 : decode cX0_addBlock 67 = .ok (.aload_n 0, 1) := by decide +kernel
theorem dX0_addBlock_68 : decode cX0_addBlock 68 = .ok (.getfield 37, 3) := by decide +kernel
theorem dX0_addBlock_71 : decode cX0_addBlock 71 = .ok (.iload 4, 2) := by decide +kernel
theorem dX0_addBlock_73 : decode cX0_addBlock 73 = .ok (.iload_n 3, 1) := by decide +kernel
theorem dX0_addBlock_74 : decode cX0_addBlock 74 = .ok (.iconst (-1), 1) := by decide +kernel
theorem dX0_addBlock_75 : decode cX0_addBlock 75 = .ok (.ixor, 1) := by decide +kernel
theorem dX0_addBlock_76 : decode cX0_addBlock 76 = .ok (.iand, 1) := by decide +kernel
theorem dX0_addBlock_77 : decode cX0_addBlock 77 = .ok (.iastore, 1) := by decide +kernel
theorem dX0_addBlock_78 : decode cX0_addBlock 78 = .ok (.aload_n 0, 1) := by decide +kernel
theorem dX0_addBlock_79 : decode cX0_addBlock 79 = .ok (.getfield 25, 3) := by decide +kernel
theorem dX0_addBlock_82 : decode cX0_addBlock 82 = .ok (.aload_n 0, 1) := by decide +kernel
theorem dX0_addBlock_83 : decode cX0_addBlock 83 = .ok (.getfield 37, 3) := by decide +kernel
theorem dX0_addBlock_86 : decode cX0_addBlock 86 = .ok (.iload 4, 2) := by decide +kernel
theorem dX0_addBlock_88 : decode cX0_addBlock 88 = .ok (.iload_n 3, 1) := by decide +kernel
theorem dX0_addBlock_89 : decode cX0_addBlock 89 = .ok (.ior, 1) := by decide +kernel
theorem dX0_addBlock_90 : decode cX0_addBlock 90 = .ok (.iastore, 1) := by decide +kernel
theorem dX0_addBlock_91 : decode cX0_addBlock 91 = .ok (.aload_n 0, 1) := by decide +kernel
theorem dX0_addBlock_92 : decode cX0_addBlock 92 = .ok (.getfield 28, 3) := by decide +kernel
theorem dX0_addBlock_95 : decode cX0_addBlock 95 = .ok (.aload_n 0, 1) := by decide +kernel
theorem dX0_addBlock_96 : decode cX0_addBlock 96 = .ok (.getfield 37, 3) := by decide +kernel
theorem dX0_addBlock_99 : decode cX0_addBlock 99 = .ok (.iload 5, 2) := by decide +kernel
theorem dX0_addBlock_101 : decode cX0_addBlock 101 = .ok (.iastore, 1) := by decide +kernel
theorem dX0_addBlock_102 : decode cX0_addBlock 102 = .ok (.aload_n 0, 1) := by decide +kernel
theorem dX0_addBlock_103 : decode cX0_addBlock 103 = .ok (.getfield 31, 3) := by decide +kernel
theorem dX0_addBlock_106 : decode cX0_addBlock 106 = .ok (.aload_n 0, 1) := by decide +kernel
theorem dX0_addBlock_107 : decode cX0_addBlock 107 = .ok (.getfield 37, 3) := by decide +kernel
theorem dX0_addBlock_110 : decode cX0_addBlock 110 = .ok (.iload 6, 2) := by decide +kernel
theorem dX0_addBlock_112 : decode cX0_addBlock 112 = .ok (.iastore, 1) := by decide +kernel
theorem dX0_addBlock_113 : decode cX0_addBlock 113 = .ok (.aload_n 0, 1) := by decide +kernel
theorem dX0_addBlock_114 : decode cX0_addBlock 114 = .ok (.getfield 34, 3) := by decide +kernel
theorem dX0_addBlock_117 : decode cX0_addBlock 117 = .ok (.aload_n 0, 1) := by decide +kernel
theorem dX0_addBlock_118 : decode cX0_addBlock 118 = .ok (.getfield 37, 3) := by decide +kernel
theorem dX0_addBlock_121 : decode cX0_addBlock 121 = .ok (.bipush 11, 2) := by decide +kernel
theorem dX0_addBlock_123 : decode cX0_addBlock 123 = .ok (.iload_n 1, 1) := by decide +kernel
theorem dX0_addBlock_124 : decode cX0_addBlock 124 = .ok (.imul, 1) := by decide +kernel
theorem dX0_addBlock_125 : decode cX0_addBlock 125 = .ok (.iload_n 2, 1) := by decide +kernel
theorem dX0_addBlock_126 : decode cX0_addBlock 126 = .ok (.iadd, 1) := by decide +kernel
theorem dX0_addBlock_127 : decode cX0_addBlock 127 = .ok (.iastore, 1) := by decide +kernel
theorem dX0_addBlock_128 : decode cX0_addBlock 128 = .ok (.aload_n 0, 1) := by decide +kernel
theorem dX0_addBlock_129 : decode cX0_addBlock 129 = .ok (.dup, 1) := by decide +kernel
theorem dX0_addBlock_130 : decode cX0_addBlock 130 = .ok (.getfield 37, 3) := by decide +kernel
theorem dX0_addBlock_133 : decode cX0_addBlock 133 = .ok (.iconst 1, 1) := by decide +kernel
theorem dX0_addBlock_134 : decode cX0_addBlock 134 = .ok (.iadd, 1) := by decide +kernel
theorem dX0_addBlock_135 : decode cX0_addBlock 135 = .ok (.putfield 37, 3) := by decide +kernel
theorem dX0_addBlock_138 : decode cX0_addBlock 138 = .ok (.return_, 1) := by decide +kernel
theorem dX0_findSoonest_0 : decode cX0_findSoonest 0 = .ok (.aload_n 0, 1) := by decide +kernel
theorem dX0_findSoonest_1 : decode cX0_findSoonest 1 = .ok (.getfield 49, 3) := by decide +kernel
theorem dX0_findSoonest_4 : decode cX0_findSoonest 4 = .ok (.invokevirtual 73, 3) := by decide +kernel
theorem dX0_findSoonest_7 : decode cX0_findSoonest 7 = .ok (.istore_n 1, 1) := by decide +kernel
theorem dX0_findSoonest_8 : decode cX0_findSoonest 8 = .ok (.iconst 1, 1) := by decide +kernel
theorem dX0_findSoonest_9 : decode cX0_findSoonest 9 = .ok (.istore_n 2, 1) := by decide +kernel
theorem dX0_findSoonest_10 : decode cX0_findSoonest 10 = .ok (.iload_n 2, 1) := by decide +kernel
theorem dX0_findSoonest_11 : decode cX0_findSoonest 11 = .ok (.iload_n 1, 1) := by decide +kernel
theorem dX0_findSoonest_12 : decode cX0_findSoonest 12 = .ok (.if_icmp .gt 17, 3) := by decide +kernel
theorem dX0_findSoonest_15 : decode cX0_findSoonest 15 = .ok (.aload_n 0, 1) := by decide +kernel
theorem dX0_findSoonest_16 : decode cX0_findSoonest 16 = .ok (.getfield 40, 3) := by decide +kernel
theorem dX0_findSoonest_19 : decode cX0_findSoonest 19 = .ok (.iload_n 2, 1) := by decide +kernel
theorem dX0_findSoonest_20 : decode cX0_findSoonest 20 = .ok (.bipush 64, 2) := by decide +kernel
theorem dX0_findSoonest_22 : decode cX0_findSoonest 22 = .ok (.iastore, 1) := by decide +kernel
theorem dX0_findSoonest_23 : decode cX0_findSoonest 23 = .ok (.iinc 2 1, 3) := by decide +kernel
theorem dX0_findSoonest_26 : decode cX0_findSoonest 26 = .ok (.goto (-16), 3) := by decide +kernel
theorem dX0_findSoonest_29 : decode cX0_findSoonest 29 = .ok (.aload_n 0, 1) := by decide +kernel
theorem dX0_findSoonest_30 : decode cX0_findSoonest 30 = .ok (.getfield 40, 3) := by decide +kernel
theorem dX0_findSoonest_33 : decode cX0_findSoonest 33 = .ok (.iconst 0, 1) := by decide +kernel
theorem dX0_findSoonest_34 : decode cX0_findSoonest 34 = .ok (.iconst 0, 1) := by decide +kernel
theorem dX0_findSoonest_35 : decode cX0_findSoonest 35 = .ok (.iastore, 1) := by decide +kernel
theorem dX0_findSoonest_36 : decode cX0_findSoonest 36 = .ok (.iconst 0, 1) := by decide +kernel
theorem dX0_findSoonest_37 : decode cX0_findSoonest 37 = .ok (.istore_n 2, 1) := by decide +kernel
theorem dX0_findSoonest_38 : decode cX0_findSoonest 38 = .ok (.iload_n 2, 1) := by decide +kernel
theorem dX0_findSoonest_39 : decode cX0_findSoonest 39 = .ok (.iload_n 1, 1) := by decide +kernel
theorem dX0_findSoonest_40 : decode cX0_findSoonest 40 = .ok (.if_icmp .ge 25, 3) := by decide +kernel
theorem dX0_findSoonest_43 : decode cX0_findSoonest 43 = .ok (.aload_n 0, 1) := by decide +kernel
theorem dX0_findSoonest_44 : decode cX0_findSoonest 44 = .ok (.getfield 40, 3) := by decide +kernel
theorem dX0_findSoonest_47 : decode cX0_findSoonest 47 = .ok (.iload_n 2, 1) := by decide +kernel
theorem dX0_findSoonest_48 : decode cX0_findSoonest 48 = .ok (.iaload, 1) := by decide +kernel
theorem dX0_findSoonest_49 : decode cX0_findSoonest 49 = .ok (.bipush 64, 2) := by decide +kernel
theorem dX0_findSoonest_51 : decode cX0_findSoonest 51 = .ok (.if_icmp .ge 8, 3) := by decide +kernel
theorem dX0_findSoonest_54 : decode cX0_findSoonest 54 = .ok (.aload_n 0, 1) := by decide +kernel
theorem dX0_findSoonest_55 : decode cX0_findSoonest 55 = .ok (.iload_n 2, 1) := by decide +kernel
theorem dX0_findSoonest_56 : decode cX0_findSoonest 56 = .ok (.invokevirtual 132, 3) := by decide +kernel
theorem dX0_findSoonest_59 : decode cX0_findSoonest 59 = .ok (.iinc 2 1, 3) := by decide +kernel
theorem dX0_findSoonest_62 : decode cX0_findSoonest 62 = .ok (.goto (-24), 3) := by decide +kernel
theorem dX0_findSoonest_65 : decode cX0_findSoonest 65 = .ok (.return_, 1) := by decide +kernel
theorem dX0_goOnFrom_0 : decode cX0_goOnFrom 0 = .ok (.iconst 0, 1) := by decide +kernel
theorem dX0_goOnFrom_1 : decode cX0_goOnFrom 1 = .ok (.istore_n 2, 1) := by decide +kernel
theorem dX0_goOnFrom_2 : decode cX0_goOnFrom 2 = .ok (.iload_n 2, 1) := by decide +kernel
theorem dX0_goOnFrom_3 : decode cX0_goOnFrom 3 = .ok (.aload_n 0, 1) := by decide +kernel
theorem dX0_goOnFrom_4 : decode cX0_goOnFrom 4 = .ok (.getfield 37, 3) := by decide +kernel
theorem dX0_goOnFrom_7 : decode cX0_goOnFrom 7 = .ok (.if_icmp .ge 83, 3) := by decide +kernel
theorem dX0_goOnFrom_10 : decode cX0_goOnFrom 10 = .ok (.iload_n 1, 1) := by decide +kernel
theorem dX0_goOnFrom_11 : decode cX0_goOnFrom 11 = .ok (.aload_n 0, 1) := by decide +kernel
theorem dX0_goOnFrom_12 : decode cX0_goOnFrom 12 = .ok (.getfield 25, 3) := by decide +kernel
theorem dX0_goOnFrom_15 : decode cX0_goOnFrom 15 = .ok (.iload_n 2, 1) := by decide +kernel
theorem dX0_goOnFrom_16 : decode cX0_goOnFrom 16 = .ok (.iaload, 1) := by decide +kernel
theorem dX0_goOnFrom_17 : decode cX0_goOnFrom 17 = .ok (.iand, 1) := by decide +kernel
theorem dX0_goOnFrom_18 : decode cX0_goOnFrom 18 = .ok (.aload_n 0, 1) := by decide +kernel
theorem dX0_goOnFrom_19 : decode cX0_goOnFrom 19 = .ok (.getfield 22, 3) := by decide +kernel
theorem dX0_goOnFrom_22 : decode cX0_goOnFrom 22 = .ok (.iload_n 2, 1) := by decide +kernel
theorem dX0_goOnFrom_23 : decode cX0_goOnFrom 23 = .ok (.iaload, 1) := by decide +kernel
theorem dX0_goOnFrom_24 : decode cX0_goOnFrom 24 = .ok (.if_icmp .ne 60, 3) := by decide +kernel
theorem dX0_goOnFrom_27 : decode cX0_goOnFrom 27 = .ok (.aload_n 0, 1) := by decide +kernel
theorem dX0_goOnFrom_28 : decode cX0_goOnFrom 28 = .ok (.getfield 40, 3) := by decide +kernel
theorem dX0_goOnFrom_31 : decode cX0_goOnFrom 31 = .ok (.iload_n 1, 1) := by decide +kernel
theorem dX0_goOnFrom_32 : decode cX0_goOnFrom 32 = .ok (.iaload, 1) := by decide +kernel
theorem dX0_goOnFrom_33 : decode cX0_goOnFrom 33 = .ok (.iconst 1, 1) := by decide +kernel
theorem dX0_goOnFrom_34 : decode cX0_goOnFrom 34 = .ok (.iadd, 1) := by decide +kernel
theorem dX0_goOnFrom_35 : decode cX0_goOnFrom 35 = .ok (.aload_n 0, 1) := by decide +kernel
theorem dX0_goOnFrom_36 : decode cX0_goOnFrom 36 = .ok (.getfield 28, 3) := by decide +kernel
theorem dX0_goOnFrom_39 : decode cX0_goOnFrom 39 = .ok (.iload_n 2, 1) := by decide +kernel
theorem dX0_goOnFrom_40 : decode cX0_goOnFrom 40 = .ok (.iaload, 1) := by decide +kernel
theorem dX0_goOnFrom_41 : decode cX0_goOnFrom 41 = .ok (.invokestatic 120, 3) := by decide +kernel
theorem dX0_goOnFrom_44 : decode cX0_goOnFrom 44 = .ok (.istore_n 3, 1) := by decide +kernel
theorem dX0_goOnFrom_45 : decode cX0_goOnFrom 45 = .ok (.iload_n 1, 1) := by decide +kernel
theorem dX0_goOnFrom_46 : decode cX0_goOnFrom 46 = .ok (.aload_n 0, 1) := by decide +kernel
theorem dX0_goOnFrom_47 : decode cX0_goOnFrom 47 = .ok (.getfield 25, 3) := by decide +kernel
theorem dX0_goOnFrom_50 : decode cX0_goOnFrom 50 = .ok (.iload_n 2, 1) := by decide +kernel
theorem dX0_goOnFrom_51 : decode cX0_goOnFrom 51 = .ok (.iaload, 1) := by decide +kernel
theorem dX0_goOnFrom_52 : decode cX0_goOnFrom 52 = .ok (.ior, 1) := by decide +kernel
theorem dX0_goOnFrom_53 : decode cX0_goOnFrom 53 = .ok (.istore 4, 2) := by decide +kernel
theorem dX0_goOnFrom_55 : decode cX0_goOnFrom 55 = .ok (.iload_n 3, 1) := by decide +kernel
theorem dX0_goOnFrom_56 : decode cX0_goOnFrom 56 = .ok (.aload_n 0, 1) := by decide +kernel
theorem dX0_goOnFrom_57 : decode cX0_goOnFrom 57 = .ok (.getfield 31, 3) := by decide +kernel
theorem dX0_goOnFrom_60 : decode cX0_goOnFrom 60 = .ok (.iload_n 2, 1) := by decide +kernel
theorem dX0_goOnFrom_61 : decode cX0_goOnFrom 61 = .ok (.iaload, 1) := by decide +kernel
theorem dX0_goOnFrom_62 : decode cX0_goOnFrom 62 = .ok (.if_icmp .gt 22, 3) := by decide +kernel
theorem dX0_goOnFrom_65 : decode cX0_goOnFrom 65 = .ok (.iload_n 3, 1) := by decide +kernel
theorem dX0_goOnFrom_66 : decode cX0_goOnFrom 66 = .ok (.aload_n 0, 1) := by decide +kernel
theorem dX0_goOnFrom_67 : decode cX0_goOnFrom 67 = .ok (.getfield 40, 3) := by decide +kernel
theorem dX0_goOnFrom_70 : decode cX0_goOnFrom 70 = .ok (.iload 4, 2) := by decide +kernel
theorem dX0_goOnFrom_72 : decode cX0_goOnFrom 72 = .ok (.iaload, 1) := by decide +kernel
theorem dX0_goOnFrom_73 : decode cX0_goOnFrom 73 = .ok (.if_icmp .ge 11, 3) := by decide +kernel
theorem dX0_goOnFrom_76 : decode cX0_goOnFrom 76 = .ok (.aload_n 0, 1) := by decide +kernel
theorem dX0_goOnFrom_77 : decode cX0_goOnFrom 77 = .ok (.getfield 40, 3) := by decide +kernel
theorem dX0_goOnFrom_80 : decode cX0_goOnFrom 80 = .ok (.iload 4, 2) := by decide +kernel
theorem dX0_goOnFrom_82 : decode cX0_goOnFrom 82 = .ok (.iload_n 3, 1) := by decide +kernel
theorem dX0_goOnFrom_83 : decode cX0_goOnFrom 83 = .ok (.iastore, 1) := by decide +kernel
theorem dX0_goOnFrom_84 : decode cX0_goOnFrom 84 = .ok (.iinc 2 1, 3) := by decide +kernel
theorem dX0_goOnFrom_87 : decode cX0_goOnFrom 87 = .ok (.goto (-85), 3) := by decide +kernel
theorem dX0_goOnFrom_90 : decode cX0_goOnFrom 90 = .ok (.return_, 1) := by decide +kernel
theorem dX0_findLatest_0 : decode cX0_findLatest 0 = .ok (.aload_n 0, 1) := by decide +kernel
theorem dX0_findLatest_1 : decode cX0_findLatest 1 = .ok (.getfield 49, 3) := by decide +kernel
theorem dX0_findLatest_4 : decode cX0_findLatest 4 = .ok (.invokevirtual 73, 3) := by decide +kernel
theorem dX0_findLatest_7 : decode cX0_findLatest 7 = .ok (.istore_n 1, 1) := by decide +kernel
theorem dX0_findLatest_8 : decode cX0_findLatest 8 = .ok (.aload_n 0, 1) := by decide +kernel
theorem dX0_findLatest_9 : decode cX0_findLatest 9 = .ok (.getfield 43, 3) := by decide +kernel
theorem dX0_findLatest_12 : decode cX0_findLatest 12 = .ok (.iload_n 1, 1) := by decide +kernel
theorem dX0_findLatest_13 : decode cX0_findLatest 13 = .ok (.aload_n 0, 1) := by decide +kernel
theorem dX0_findLatest_14 : decode cX0_findLatest 14 = .ok (.getfield 18, 3) := by decide +kernel
theorem dX0_findLatest_17 : decode cX0_findLatest 17 = .ok (.iastore, 1) := by decide +kernel
theorem dX0_findLatest_18 : decode cX0_findLatest 18 = .ok (.iload_n 1, 1) := by decide +kernel
theorem dX0_findLatest_19 : decode cX0_findLatest 19 = .ok (.iconst 1, 1) := by decide +kernel
theorem dX0_findLatest_20 : decode cX0_findLatest 20 = .ok (.isub, 1) := by decide +kernel
theorem dX0_findLatest_21 : decode cX0_findLatest 21 = .ok (.istore_n 2, 1) := by decide +kernel
theorem dX0_findLatest_22 : decode cX0_findLatest 22 = .ok (.iload_n 2, 1) := by decide +kernel
theorem dX0_findLatest_23 : decode cX0_findLatest 23 = .ok (.ifCond .lt 35, 3) := by decide +kernel
theorem dX0_findLatest_26 : decode cX0_findLatest 26 = .ok (.aload_n 0, 1) := by decide +kernel
theorem dX0_findLatest_27 : decode cX0_findLatest 27 = .ok (.getfield 43, 3) := by decide +kernel
theorem dX0_findLatest_30 : decode cX0_findLatest 30 = .ok (.iload_n 2, 1) := by decide +kernel
theorem dX0_findLatest_31 : decode cX0_findLatest 31 = .ok (.aload_n 0, 1) := by decide +kernel
theorem dX0_findLatest_32 : decode cX0_findLatest 32 = .ok (.getfield 40, 3) := by decide +kernel
theorem dX0_findLatest_35 : decode cX0_findLatest 35 = .ok (.iload_n 2, 1) := by decide +kernel
theorem dX0_findLatest_36 : decode cX0_findLatest 36 = .ok (.iaload, 1) := by decide +kernel
theorem dX0_findLatest_37 : decode cX0_findLatest 37 = .ok (.bipush 64, 2) := by decide +kernel
theorem dX0_findLatest_39 : decode cX0_findLatest 39 = .ok (.if_icmp .ge 11, 3) := by decide +kernel
theorem dX0_findLatest_42 : decode cX0_findLatest 42 = .ok (.aload_n 0, 1) := by decide +kernel
theorem dX0_findLatest_43 : decode cX0_findLatest 43 = .ok (.iload_n 2, 1) := by decide +kernel
theorem dX0_findLatest_44 : decode cX0_findLatest 44 = .ok (.invokevirtual 136, 3) := by decide +kernel
theorem dX0_findLatest_47 : decode cX0_findLatest 47 = .ok (.goto 4, 3) := by decide +kernel
theorem dX0_findLatest_50 : decode cX0_findLatest 50 = .ok (.iconst (-1), 1) := by decide +kernel
theorem dX0_findLatest_51 : decode cX0_findLatest 51 = .ok (.iastore, 1) := by decide +kernel
theorem dX0_findLatest_52 : decode cX0_findLatest 52 = .ok (.iinc 2 (-1), 3) := by decide +kernel
theorem dX0_findLatest_55 : decode cX0_findLatest 55 = .ok (.goto (-33), 3) := by decide +kernel
theorem dX0_findLatest_58 : decode cX0_findLatest 58 = .ok (.return_, 1) := by decide +kernel
theorem dX0_latestFor_0 : decode cX0_latestFor 0 = .ok (.iconst (-1), 1) := by decide +kernel
theorem dX0_latestFor_1 : decode cX0_latestFor 1 = .ok (.istore_n 2, 1) := by decide +kernel
theorem dX0_latestFor_2 : decode cX0_latestFor 2 = .ok (.iconst 0, 1) := by decide +kernel
theorem dX0_latestFor_3 : decode cX0_latestFor 3 = .ok (.istore_n 3, 1) := by decide +kernel
theorem dX0_latestFor_4 : decode cX0_latestFor 4 = .ok (.iload_n 3, 1) := by decide +kernel
theorem dX0_latestFor_5 : decode cX0_latestFor 5 = .ok (.aload_n 0, 1) := by decide +kernel
theorem dX0_latestFor_6 : decode cX0_latestFor 6 = .ok (.getfield 37, 3) := by decide +kernel
theorem dX0_latestFor_9 : decode cX0_latestFor 9 = .ok (.if_icmp .ge 70, 3) := by decide +kernel
theorem dX0_latestFor_12 : decode cX0_latestFor 12 = .ok (.iload_n 1, 1) := by decide +kernel
theorem dX0_latestFor_13 : decode cX0_latestFor 13 = .ok (.aload_n 0, 1) := by decide +kernel
theorem dX0_latestFor_14 : decode cX0_latestFor 14 = .ok (.getfield 25, 3) := by decide +kernel
theorem dX0_latestFor_17 : decode cX0_latestFor 17 = .ok (.iload_n 3, 1) := by decide +kernel
theorem dX0_latestFor_18 : decode cX0_latestFor 18 = .ok (.iaload, 1) := by decide +kernel
theorem dX0_latestFor_19 : decode cX0_latestFor 19 = .ok (.iand, 1) := by decide +kernel
theorem dX0_latestFor_20 : decode cX0_latestFor 20 = .ok (.aload_n 0, 1) := by decide +kernel
theorem dX0_latestFor_21 : decode cX0_latestFor 21 = .ok (.getfield 22, 3) := by decide +kernel
theorem dX0_latestFor_24 : decode cX0_latestFor 24 = .ok (.iload_n 3, 1) := by decide +kernel
theorem dX0_latestFor_25 : decode cX0_latestFor 25 = .ok (.iaload, 1) := by decide +kernel
theorem dX0_latestFor_26 : decode cX0_latestFor 26 = .ok (.if_icmp .ne 47, 3) := by decide +kernel
theorem dX0_latestFor_29 : decode cX0_latestFor 29 = .ok (.aload_n 0, 1) := by decide +kernel
theorem dX0_latestFor_30 : decode cX0_latestFor 30 = .ok (.getfield 43, 3) := by decide +kernel
theorem dX0_latestFor_33 : decode cX0_latestFor 33 = .ok (.iload_n 1, 1) := by decide +kernel
theorem dX0_latestFor_34 : decode cX0_latestFor 34 = .ok (.aload_n 0, 1) := by decide +kernel
theorem dX0_latestFor_35 : decode cX0_latestFor 35 = .ok (.getfield 25, 3) := by decide +kernel
theorem dX0_latestFor_38 : decode cX0_latestFor 38 = .ok (.iload_n 3, 1) := by decide +kernel
theorem dX0_latestFor_39 : decode cX0_latestFor 39 = .ok (.iaload, 1) := by decide +kernel
theorem dX0_latestFor_40 : decode cX0_latestFor 40 = .ok (.ior, 1) := by decide +kernel
theorem dX0_latestFor_41 : decode cX0_latestFor 41 = .ok (.iaload, 1) := by decide +kernel
theorem dX0_latestFor_42 : decode cX0_latestFor 42 = .ok (.aload_n 0, 1) := by decide +kernel
theorem dX0_latestFor_43 : decode cX0_latestFor 43 = .ok (.getfield 31, 3) := by decide +kernel
theorem dX0_latestFor_46 : decode cX0_latestFor 46 = .ok (.iload_n 3, 1) := by decide +kernel
theorem dX0_latestFor_47 : decode cX0_latestFor 47 = .ok (.iaload, 1) := by decide +kernel
theorem dX0_latestFor_48 : decode cX0_latestFor 48 = .ok (.invokestatic 129, 3) := by decide +kernel
theorem dX0_latestFor_51 : decode cX0_latestFor 51 = .ok (.istore 4, 2) := by decide +kernel
theorem dX0_latestFor_53 : decode cX0_latestFor 53 = .ok (.iload 4, 2) := by decide +kernel
theorem dX0_latestFor_55 : decode cX0_latestFor 55 = .ok (.aload_n 0, 1) := by decide +kernel
theorem dX0_latestFor_56 : decode cX0_latestFor 56 = .ok (.getfield 28, 3) := by decide +kernel
theorem dX0_latestFor_59 : decode cX0_latestFor 59 = .ok (.iload_n 3, 1) := by decide +kernel
theorem dX0_latestFor_60 : decode cX0_latestFor 60 = .ok (.iaload, 1) := by decide +kernel
theorem dX0_latestFor_61 : decode cX0_latestFor 61 = .ok (.if_icmp .lt 12, 3) := by decide +kernel
theorem dX0_latestFor_64 : decode cX0_latestFor 64 = .ok (.iload_n 2, 1) := by decide +kernel
theorem dX0_latestFor_65 : decode cX0_latestFor 65 = .ok (.iload 4, 2) := by decide +kernel
theorem dX0_latestFor_67 : decode cX0_latestFor 67 = .ok (.iconst 1, 1) := by decide +kernel
theorem dX0_latestFor_68 : decode cX0_latestFor 68 = .ok (.isub, 1) := by decide +kernel
theorem dX0_latestFor_69 : decode cX0_latestFor 69 = .ok (.invokestatic 120, 3) := by decide +kernel
theorem dX0_latestFor_72 : decode cX0_latestFor 72 = .ok (.istore_n 2, 1) := by decide +kernel
theorem dX0_latestFor_73 : decode cX0_latestFor 73 = .ok (.iinc 3 1, 3) := by decide +kernel
theorem dX0_latestFor_76 : decode cX0_latestFor 76 = .ok (.goto (-72), 3) := by decide +kernel
theorem dX0_latestFor_79 : decode cX0_latestFor 79 = .ok (.iload_n 2, 1) := by decide +kernel
theorem dX0_latestFor_80 : decode cX0_latestFor 80 = .ok (.ireturn, 1) := by decide +kernel
theorem dX0_fillHours_0 : decode cX0_fillHours 0 = .ok (.iconst 0, 1) := by decide +kernel
theorem dX0_fillHours_1 : decode cX0_fillHours 1 = .ok (.istore_n 1, 1) := by decide +kernel
theorem dX0_fillHours_2 : decode cX0_fillHours 2 = .ok (.iconst 1, 1) := by decide +kernel
theorem dX0_fillHours_3 : decode cX0_fillHours 3 = .ok (.istore_n 2, 1) := by decide +kernel
theorem dX0_fillHours_4 : decode cX0_fillHours 4 = .ok (.iload_n 2, 1) := by decide +kernel
theorem dX0_fillHours_5 : decode cX0_fillHours 5 = .ok (.aload_n 0, 1) := by decide +kernel
theorem dX0_fillHours_6 : decode cX0_fillHours 6 = .ok (.getfield 18, 3) := by decide +kernel
theorem dX0_fillHours_9 : decode cX0_fillHours 9 = .ok (.if_icmp .gt 45, 3) := by decide +kernel
theorem dX0_fillHours_12 : decode cX0_fillHours 12 = .ok (.aload_n 0, 1) := by decide +kernel
theorem dX0_fillHours_13 : decode cX0_fillHours 13 = .ok (.iload_n 1, 1) := by decide +kernel
theorem dX0_fillHours_14 : decode cX0_fillHours 14 = .ok (.iload_n 2, 1) := by decide +kernel
theorem dX0_fillHours_15 : decode cX0_fillHours 15 = .ok (.invokevirtual 139, 3) := by decide +kernel
theorem dX0_fillHours_18 : decode cX0_fillHours 18 = .ok (.istore_n 3, 1) := by decide +kernel
theorem dX0_fillHours_19 : decode cX0_fillHours 19 = .ok (.aload_n 0, 1) := by decide +kernel
theorem dX0_fillHours_20 : decode cX0_fillHours 20 = .ok (.getfield 9, 3) := by decide +kernel
theorem dX0_fillHours_23 : decode cX0_fillHours 23 = .ok (.iload_n 2, 1) := by decide +kernel
theorem dX0_fillHours_24 : decode cX0_fillHours 24 = .ok (.iload_n 3, 1) := by decide +kernel
theorem dX0_fillHours_25 : decode cX0_fillHours 25 = .ok (.iastore, 1) := by decide +kernel
theorem dX0_fillHours_26 : decode cX0_fillHours 26 = .ok (.iload_n 1, 1) := by decide +kernel
theorem dX0_fillHours_27 : decode cX0_fillHours 27 = .ok (.aload_n 0, 1) := by decide +kernel
theorem dX0_fillHours_28 : decode cX0_fillHours 28 = .ok (.iload_n 3, 1) := by decide +kernel
theorem dX0_fillHours_29 : decode cX0_fillHours 29 = .ok (.bipush 11, 2) := by decide +kernel
theorem dX0_fillHours_31 : decode cX0_fillHours 31 = .ok (.idiv, 1) := by decide +kernel
theorem dX0_fillHours_32 : decode cX0_fillHours 32 = .ok (.iload_n 2, 1) := by decide +kernel
theorem dX0_fillHours_33 : decode cX0_fillHours 33 = .ok (.invokevirtual 142, 3) := by decide +kernel
theorem dX0_fillHours_36 : decode cX0_fillHours 36 = .ok (.aload_n 0, 1) := by decide +kernel
theorem dX0_fillHours_37 : decode cX0_fillHours 37 = .ok (.iload_n 3, 1) := by decide +kernel
theorem dX0_fillHours_38 : decode cX0_fillHours 38 = .ok (.bipush 11, 2) := by decide +kernel
theorem dX0_fillHours_40 : decode cX0_fillHours 40 = .ok (.irem, 1) := by decide +kernel
theorem dX0_fillHours_41 : decode cX0_fillHours 41 = .ok (.iload_n 2, 1) := by decide +kernel
theorem dX0_fillHours_42 : decode cX0_fillHours 42 = .ok (.invokevirtual 142, 3) := by decide +kernel
theorem dX0_fillHours_45 : decode cX0_fillHours 45 = .ok (.ior, 1) := by decide +kernel
theorem dX0_fillHours_46 : decode cX0_fillHours 46 = .ok (.ior, 1) := by decide +kernel
theorem dX0_fillHours_47 : decode cX0_fillHours 47 = .ok (.istore_n 1, 1) := by decide +kernel
theorem dX0_fillHours_48 : decode cX0_fillHours 48 = .ok (.iinc 2 1, 3) := by decide +kernel
theorem dX0_fillHours_51 : decode cX0_fillHours 51 = .ok (.goto (-47), 3) := by decide +kernel
theorem dX0_fillHours_54 : decode cX0_fillHours 54 = .ok (.return_, 1) := by decide +kernel
theorem dX0_leastCode_0 : decode cX0_leastCode 0 = .ok (.iconst 0, 1) := by decide +kernel
theorem dX0_leastCode_1 : decode cX0_leastCode 1 = .ok (.istore_n 3, 1) := by decide +kernel
theorem dX0_leastCode_2 : decode cX0_leastCode 2 = .ok (.iload_n 3, 1) := by decide +kernel
theorem dX0_leastCode_3 : decode cX0_leastCode 3 = .ok (.aload_n 0, 1) := by decide +kernel
theorem dX0_leastCode_4 : decode cX0_leastCode 4 = .ok (.getfield 37, 3) := by decide +kernel
theorem dX0_leastCode_7 : decode cX0_leastCode 7 = .ok (.if_icmp .ge 70, 3) := by decide +kernel
theorem dX0_leastCode_10 : decode cX0_leastCode 10 = .ok (.iload_n 1, 1) := by decide +kernel
theorem dX0_leastCode_11 : decode cX0_leastCode 11 = .ok (.aload_n 0, 1) := by decide +kernel
theorem dX0_leastCode_12 : decode cX0_leastCode 12 = .ok (.getfield 25, 3) := by decide +kernel
theorem dX0_leastCode_15 : decode cX0_leastCode 15 = .ok (.iload_n 3, 1) := by decide +kernel
theorem dX0_leastCode_16 : decode cX0_leastCode 16 = .ok (.iaload, 1) := by decide +kernel
theorem dX0_leastCode_17 : decode cX0_leastCode 17 = .ok (.iand, 1) := by decide +kernel
theorem dX0_leastCode_18 : decode cX0_leastCode 18 = .ok (.aload_n 0, 1) := by decide +kernel
theorem dX0_leastCode_19 : decode cX0_leastCode 19 = .ok (.getfield 22, 3) := by decide +kernel
theorem dX0_leastCode_22 : decode cX0_leastCode 22 = .ok (.iload_n 3, 1) := by decide +kernel
theorem dX0_leastCode_23 : decode cX0_leastCode 23 = .ok (.iaload, 1) := by decide +kernel
theorem dX0_leastCode_24 : decode cX0_leastCode 24 = .ok (.if_icmp .ne 47, 3) := by decide +kernel
theorem dX0_leastCode_27 : decode cX0_leastCode 27 = .ok (.iload_n 2, 1) := by decide +kernel
theorem dX0_leastCode_28 : decode cX0_leastCode 28 = .ok (.aload_n 0, 1) := by decide +kernel
theorem dX0_leastCode_29 : decode cX0_leastCode 29 = .ok (.getfield 28, 3) := by decide +kernel
theorem dX0_leastCode_32 : decode cX0_leastCode 32 = .ok (.iload_n 3, 1) := by decide +kernel
theorem dX0_leastCode_33 : decode cX0_leastCode 33 = .ok (.iaload, 1) := by decide +kernel
theorem dX0_leastCode_34 : decode cX0_leastCode 34 = .ok (.if_icmp .lt 37, 3) := by decide +kernel
theorem dX0_leastCode_37 : decode cX0_leastCode 37 = .ok (.iload_n 2, 1) := by decide +kernel
theorem dX0_leastCode_38 : decode cX0_leastCode 38 = .ok (.aload_n 0, 1) := by decide +kernel
theorem dX0_leastCode_39 : decode cX0_leastCode 39 = .ok (.getfield 31, 3) := by decide +kernel
theorem dX0_leastCode_42 : decode cX0_leastCode 42 = .ok (.iload_n 3, 1) := by decide +kernel
theorem dX0_leastCode_43 : decode cX0_leastCode 43 = .ok (.iaload, 1) := by decide +kernel
theorem dX0_leastCode_44 : decode cX0_leastCode 44 = .ok (.if_icmp .gt 27, 3) := by decide +kernel
theorem dX0_leastCode_47 : decode cX0_leastCode 47 = .ok (.iload_n 2, 1) := by decide +kernel
theorem dX0_leastCode_48 : decode cX0_leastCode 48 = .ok (.aload_n 0, 1) := by decide +kernel
theorem dX0_leastCode_49 : decode cX0_leastCode 49 = .ok (.getfield 43, 3) := by decide +kernel
theorem dX0_leastCode_52 : decode cX0_leastCode 52 = .ok (.iload_n 1, 1) := by decide +kernel
theorem dX0_leastCode_53 : decode cX0_leastCode 53 = .ok (.aload_n 0, 1) := by decide +kernel
theorem dX0_leastCode_54 : decode cX0_leastCode 54 = .ok (.getfield 25, 3) := by decide +kernel
theorem dX0_leastCode_57 : decode cX0_leastCode 57 = .ok (.iload_n 3, 1) := by decide +kernel
theorem dX0_leastCode_58 : decode cX0_leastCode 58 = .ok (.iaload, 1) := by decide +kernel
theorem dX0_leastCode_59 : decode cX0_leastCode 59 = .ok (.ior, 1) := by decide +kernel
theorem dX0_leastCode_60 : decode cX0_leastCode 60 = .ok (.iaload, 1) := by decide +kernel
theorem dX0_leastCode_61 : decode cX0_leastCode 61 = .ok (.if_icmp .gt 10, 3) := by decide +kernel
theorem dX0_leastCode_64 : decode cX0_leastCode 64 = .ok (.aload_n 0, 1) := by decide +kernel
theorem dX0_leastCode_65 : decode cX0_leastCode 65 = .ok (.getfield 34, 3) := by decide +kernel
theorem dX0_leastCode_68 : decode cX0_leastCode 68 = .ok (.iload_n 3, 1) := by decide +kernel
theorem dX0_leastCode_69 : decode cX0_leastCode 69 = .ok (.iaload, 1) := by decide +kernel
theorem dX0_leastCode_70 : decode cX0_leastCode 70 = .ok (.ireturn, 1) := by decide +kernel
theorem dX0_leastCode_71 : decode cX0_leastCode 71 = .ok (.iinc 3 1, 3) := by decide +kernel
theorem dX0_leastCode_74 : decode cX0_leastCode 74 = .ok (.goto (-72), 3) := by decide +kernel
theorem dX0_leastCode_77 : decode cX0_leastCode 77 = .ok (.bipush 120, 2) := by decide +kernel
theorem dX0_leastCode_79 : decode cX0_leastCode 79 = .ok (.ireturn, 1) := by decide +kernel
theorem dX0_place_0 : decode cX0_place 0 = .ok (.iload_n 1, 1) := by decide +kernel
theorem dX0_place_1 : decode cX0_place 1 = .ok (.bipush 10, 2) := by decide +kernel
theorem dX0_place_3 : decode cX0_place 3 = .ok (.if_icmp .ne 5, 3) := by decide +kernel
theorem dX0_place_6 : decode cX0_place 6 = .ok (.iconst 0, 1) := by decide +kernel
theorem dX0_place_7 : decode cX0_place 7 = .ok (.ireturn, 1) := by decide +kernel
theorem dX0_place_8 : decode cX0_place 8 = .ok (.aload_n 0, 1) := by decide +kernel
theorem dX0_place_9 : decode cX0_place 9 = .ok (.getfield 15, 3) := by decide +kernel
theorem dX0_place_12 : decode cX0_place 12 = .ok (.iload_n 1, 1) := by decide +kernel
theorem dX0_place_13 : decode cX0_place 13 = .ok (.iload_n 2, 1) := by decide +kernel
theorem dX0_place_14 : decode cX0_place 14 = .ok (.iastore, 1) := by decide +kernel
theorem dX0_place_15 : decode cX0_place 15 = .ok (.iload_n 1, 1) := by decide +kernel
theorem dX0_place_16 : decode cX0_place 16 = .ok (.invokestatic 106, 3) := by decide +kernel
theorem dX0_place_19 : decode cX0_place 19 = .ok (.ireturn, 1) := by decide +kernel
theorem dX1_init_0 : decode cX1_init 0 = .ok (.aload_n 0, 1) := by decide +kernel
theorem dX1_init_1 : decode cX1_init 1 = .ok (.invokespecial 3, 3) := by decide +kernel
theorem dX1_init_4 : decode cX1_init 4 = .ok (.aload_n 0, 1) := by decide +kernel
theorem dX1_init_5 : decode cX1_init 5 = .ok (.bipush 10, 2) := by decide +kernel
theorem dX1_init_7 : decode cX1_init 7 = .ok (.newarray .int, 2) := by decide +kernel
theorem dX1_init_9 : decode cX1_init 9 = .ok (.putfield 9, 3) := by decide +kernel
theorem dX1_init_12 : decode cX1_init 12 = .ok (.aload_n 0, 1) := by decide +kernel
theorem dX1_init_13 : decode cX1_init 13 = .ok (.bipush 10, 2) := by decide +kernel
theorem dX1_init_15 : decode cX1_init 15 = .ok (.newarray .int, 2) := by decide +kernel
theorem dX1_init_17 : decode cX1_init 17 = .ok (.putfield 15, 3) := by decide +kernel
theorem dX1_init_20 : decode cX1_init 20 = .ok (.aload_n 0, 1) := by decide +kernel
theorem dX1_init_21 : decode cX1_init 21 = .ok (.bipush 11, 2) := by decide +kernel
theorem dX1_init_23 : decode cX1_init 23 = .ok (.newarray .int, 2) := by decide +kernel
theorem dX1_init_25 : decode cX1_init 25 = .ok (.putfield 18, 3) := by decide +kernel
theorem dX1_init_28 : decode cX1_init 28 = .ok (.aload_n 0, 1) := by decide +kernel
theorem dX1_init_29 : decode cX1_init 29 = .ok (.bipush 11, 2) := by decide +kernel
theorem dX1_init_31 : decode cX1_init 31 = .ok (.newarray .int, 2) := by decide +kernel
theorem dX1_init_33 : decode cX1_init 33 = .ok (.putfield 21, 3) := by decide +kernel
theorem dX1_init_36 : decode cX1_init 36 = .ok (.aload_n 0, 1) := by decide +kernel
theorem dX1_init_37 : decode cX1_init 37 = .ok (.iconst 0, 1) := by decide +kernel
theorem dX1_init_38 : decode cX1_init 38 = .ok (.putfield 24, 3) := by decide +kernel
theorem dX1_init_41 : decode cX1_init 41 = .ok (.aload_n 0, 1) := by decide +kernel
theorem dX1_init_42 : decode cX1_init 42 = .ok (.bipush 11, 2) := by decide +kernel
theorem dX1_init_44 : decode cX1_init 44 = .ok (.newarray .int, 2) := by decide +kernel
theorem dX1_init_46 : decode cX1_init 46 = .ok (.putfield 28, 3) := by decide +kernel
theorem dX1_init_49 : decode cX1_init 49 = .ok (.aload_n 0, 1) := by decide +kernel
theorem dX1_init_50 : decode cX1_init 50 = .ok (.bipush 10, 2) := by decide +kernel
theorem dX1_init_52 : decode cX1_init 52 = .ok (.newarray .int, 2) := by decide +kernel
theorem dX1_init_54 : decode cX1_init 54 = .ok (.putfield 31, 3) := by decide +kernel
theorem dX1_init_57 : decode cX1_init 57 = .ok (.aload_n 0, 1) := by decide +kernel
theorem dX1_init_58 : decode cX1_init 58 = .ok (.iconst (-1), 1) := by decide +kernel
theorem dX1_init_59 : decode cX1_init 59 = .ok (.putfield 34, 3) := by decide +kernel
theorem dX1_init_62 : decode cX1_init 62 = .ok (.aload_n 0, 1) := by decide +kernel
theorem dX1_init_63 : decode cX1_init 63 = .ok (.aload_n 1, 1) := by decide +kernel
theorem dX1_init_64 : decode cX1_init 64 = .ok (.putfield 37, 3) := by decide +kernel
theorem dX1_init_67 : decode cX1_init 67 = .ok (.aload_n 0, 1) := by decide +kernel
theorem dX1_init_68 : decode cX1_init 68 = .ok (.aload_n 2, 1) := by decide +kernel
theorem dX1_init_69 : decode cX1_init 69 = .ok (.putfield 41, 3) := by decide +kernel
theorem dX1_init_72 : decode cX1_init 72 = .ok (.return_, 1) := by decide +kernel
theorem dX1_renew_0 : decode cX1_renew 0 = .ok (.aload_n 0, 1) := by decide +kernel
theorem dX1_renew_1 : decode cX1_renew 1 = .ok (.getfield 34, 3) := by decide +kernel
theorem dX1_renew_4 : decode cX1_renew 4 = .ok (.aload_n 0, 1) := by decide +kernel
theorem dX1_renew_5 : decode cX1_renew 5 = .ok (.getfield 37, 3) := by decide +kernel
theorem dX1_renew_8 : decode cX1_renew 8 = .ok (.getfield 45, 3) := by decide +kernel
theorem dX1_renew_11 : decode cX1_renew 11 = .ok (.if_icmp .ne 4, 3) := by decide +kernel
theorem dX1_renew_14 : decode cX1_renew 14 = .ok (.return_, 1) := by decide +kernel
theorem dX1_renew_15 : decode cX1_renew 15 = .ok (.aload_n 0, 1) := by decide +kernel
theorem dX1_renew_16 : decode cX1_renew 16 = .ok (.aload_n 0, 1) := by decide +kernel
theorem dX1_renew_17 : decode cX1_renew 17 = .ok (.getfield 37, 3) := by decide +kernel
theorem dX1_renew_20 : decode cX1_renew 20 = .ok (.getfield 45, 3) := by decide +kernel
theorem dX1_renew_23 : decode cX1_renew 23 = .ok (.putfield 34, 3) := by decide +kernel
theorem dX1_renew_26 : decode cX1_renew 26 = .ok (.aload_n 0, 1) := by decide +kernel
theorem dX1_renew_27 : decode cX1_renew 27 = .ok (.getfield 41, 3) := by decide +kernel
theorem dX1_renew_30 : decode cX1_renew 30 = .ok (.invokevirtual 50, 3) := by decide +kernel
theorem dX1_renew_33 : decode cX1_renew 33 = .ok (.aload_n 0, 1) := by decide +kernel
theorem dX1_renew_34 : decode cX1_renew 34 = .ok (.invokevirtual 55, 3) := by decide +kernel
theorem dX1_renew_37 : decode cX1_renew 37 = .ok (.aload_n 0, 1) := by decide +kernel
theorem dX1_renew_38 : decode cX1_renew 38 = .ok (.invokevirtual 58, 3) := by decide +kernel
theorem dX1_renew_41 : decode cX1_renew 41 = .ok (.return_, 1) := by decide +kernel
theorem dX1_idleHour_0 : decode cX1_idleHour 0 = .ok (.iconst 0, 1) := by decide +kernel
theorem dX1_idleHour_1 : decode cX1_idleHour 1 = .ok (.istore_n 2, 1) := by decide +kernel
theorem dX1_idleHour_2 : decode cX1_idleHour 2 = .ok (.iconst 1, 1) := by decide +kernel
theorem dX1_idleHour_3 : decode cX1_idleHour 3 = .ok (.istore_n 3, 1) := by decide +kernel
theorem dX1_idleHour_4 : decode cX1_idleHour 4 = .ok (.iload_n 3, 1) := by decide +kernel
theorem dX1_idleHour_5 : decode cX1_idleHour 5 = .ok (.aload_n 0, 1) := by decide +kernel
theorem dX1_idleHour_6 : decode cX1_idleHour 6 = .ok (.getfield 24, 3) := by decide +kernel
theorem dX1_idleHour_9 : decode cX1_idleHour 9 = .ok (.if_icmp .gt 30, 3) := by decide +kernel
theorem dX1_idleHour_12 : decode cX1_idleHour 12 = .ok (.aload_n 0, 1) := by decide +kernel
theorem dX1_idleHour_13 : decode cX1_idleHour 13 = .ok (.getfield 21, 3) := by decide +kernel
theorem dX1_idleHour_16 : decode cX1_idleHour 16 = .ok (.iload_n 3, 1) := by decide +kernel
theorem dX1_idleHour_17 : decode cX1_idleHour 17 = .ok (.iaload, 1) := by decide +kernel
theorem dX1_idleHour_18 : decode cX1_idleHour 18 = .ok (.bipush (-3), 2) := by decide +kernel
theorem dX1_idleHour_20 : decode cX1_idleHour 20 = .ok (.if_icmp .ne 13, 3) := by decide +kernel
theorem dX1_idleHour_23 : decode cX1_idleHour 23 = .ok (.iload_n 2, 1) := by decide +kernel
theorem dX1_idleHour_24 : decode cX1_idleHour 24 = .ok (.iload_n 1, 1) := by decide +kernel
theorem dX1_idleHour_25 : decode cX1_idleHour 25 = .ok (.if_icmp .ne 5, 3) := by decide +kernel
theorem dX1_idleHour_28 : decode cX1_idleHour 28 = .ok (.iload_n 3, 1) := by decide +kernel
theorem dX1_idleHour_29 : decode cX1_idleHour 29 = .ok (.ireturn, 1) := by decide +kernel
theorem dX1_idleHour_30 : decode cX1_idleHour 30 = .ok (.iinc 2 1, 3) := by decide +kernel
theorem dX1_idleHour_33 : decode cX1_idleHour 33 = .ok (.iinc 3 1, 3) := by decide +kernel
theorem dX1_idleHour_36 : decode cX1_idleHour 36 = .ok (.goto (-32), 3) := by decide +kernel
theorem dX1_idleHour_39 : decode cX1_idleHour 39 = .ok (.bipush (-3), 2) := by decide +kernel
theorem dX1_idleHour_41 : decode cX1_idleHour 41 = .ok (.ireturn, 1) := by decide +kernel
theorem dX1_countIdle_0 : decode cX1_countIdle 0 = .ok (.iconst 0, 1) := by decide +kernel
theorem dX1_countIdle_1 : decode cX1_countIdle 1 = .ok (.istore_n 1, 1) := by decide +kernel
theorem dX1_countIdle_2 : decode cX1_countIdle 2 = .ok (.iconst 1, 1) := by decide +kernel
theorem dX1_countIdle_3 : decode cX1_countIdle 3 = .ok (.istore_n 2, 1) := by decide +kernel
theorem dX1_countIdle_4 : decode cX1_countIdle 4 = .ok (.iload_n 2, 1) := by decide +kernel
theorem dX1_countIdle_5 : decode cX1_countIdle 5 = .ok (.aload_n 0, 1) := by decide +kernel
theorem dX1_countIdle_6 : decode cX1_countIdle 6 = .ok (.getfield 24, 3) := by decide +kernel
theorem dX1_countIdle_9 : decode cX1_countIdle 9 = .ok (.if_icmp .gt 23, 3) := by decide +kernel
theorem dX1_countIdle_12 : decode cX1_countIdle 12 = .ok (.aload_n 0, 1) := by decide +kernel
theorem dX1_countIdle_13 : decode cX1_countIdle 13 = .ok (.getfield 21, 3) := by decide +kernel
theorem dX1_countIdle_16 : decode cX1_countIdle 16 = .ok (.iload_n 2, 1) := by decide +kernel
theorem dX1_countIdle_17 : decode cX1_countIdle 17 = .ok (.iaload, 1) := by decide +kernel
theorem dX1_countIdle_18 : decode cX1_countIdle 18 = .ok (.bipush (-3), 2) := by decide +kernel
theorem dX1_countIdle_20 : decode cX1_countIdle 20 = .ok (.if_icmp .ne 6, 3) := by decide +kernel
theorem dX1_countIdle_23 : decode cX1_countIdle 23 = .ok (.iinc 1 1, 3) := by decide +kernel
theorem dX1_countIdle_26 : decode cX1_countIdle 26 = .ok (.iinc 2 1, 3) := by decide +kernel
theorem dX1_countIdle_29 : decode cX1_countIdle 29 = .ok (.goto (-25), 3) := by decide +kernel
theorem dX1_countIdle_32 : decode cX1_countIdle 32 = .ok (.iload_n 1, 1) := by decide +kernel
theorem dX1_countIdle_33 : decode cX1_countIdle 33 = .ok (.ireturn, 1) := by decide +kernel
theorem dX1_giveLabels_0 : decode cX1_giveLabels 0 = .ok (.aload_n 0, 1) := by decide +kernel
theorem dX1_giveLabels_1 : decode cX1_giveLabels 1 = .ok (.getfield 31, 3) := by decide +kernel
theorem dX1_giveLabels_4 : decode cX1_giveLabels 4 = .ok (.iconst 0, 1) := by decide +kernel
theorem dX1_giveLabels_5 : decode cX1_giveLabels 5 = .ok (.invokestatic 61, 3) := by decide +kernel
theorem dX1_giveLabels_8 : decode cX1_giveLabels 8 = .ok (.iconst 0, 1) := by decide +kernel
theorem dX1_giveLabels_9 : decode cX1_giveLabels 9 = .ok (.istore_n 1, 1) := by decide +kernel
theorem dX1_giveLabels_10 : decode cX1_giveLabels 10 = .ok (.iconst 1, 1) := by decide +kernel
theorem dX1_giveLabels_11 : decode cX1_giveLabels 11 = .ok (.istore_n 2, 1) := by decide +kernel
theorem dX1_giveLabels_12 : decode cX1_giveLabels 12 = .ok (.iload_n 2, 1) := by decide +kernel
theorem dX1_giveLabels_13 : decode cX1_giveLabels 13 = .ok (.aload_n 0, 1) := by decide +kernel
theorem dX1_giveLabels_14 : decode cX1_giveLabels 14 = .ok (.getfield 37, 3) := by decide +kernel
theorem dX1_giveLabels_17 : decode cX1_giveLabels 17 = .ok (.getfield 67, 3) := by decide +kernel
theorem dX1_giveLabels_20 : decode cX1_giveLabels 20 = .ok (.if_icmp .gt 42, 3) := by decide +kernel
theorem dX1_giveLabels_23 : decode cX1_giveLabels 23 = .ok (.aload_n 0, 1) := by decide +kernel
theorem dX1_giveLabels_24 : decode cX1_giveLabels 24 = .ok (.iload_n 1, 1) := by decide +kernel
theorem dX1_giveLabels_25 : decode cX1_giveLabels 25 = .ok (.invokevirtual 70, 3) := by decide +kernel
theorem dX1_giveLabels_28 : decode cX1_giveLabels 28 = .ok (.istore_n 3, 1) := by decide +kernel
theorem dX1_giveLabels_29 : decode cX1_giveLabels 29 = .ok (.aload_n 0, 1) := by decide +kernel
theorem dX1_giveLabels_30 : decode cX1_giveLabels 30 = .ok (.getfield 9, 3) := by decide +kernel
theorem dX1_giveLabels_33 : decode cX1_giveLabels 33 = .ok (.iload_n 3, 1) := by decide +kernel
theorem dX1_giveLabels_34 : decode cX1_giveLabels 34 = .ok (.iload_n 2, 1) := by decide +kernel
theorem dX1_giveLabels_35 : decode cX1_giveLabels 35 = .ok (.iastore, 1) := by decide +kernel
theorem dX1_giveLabels_36 : decode cX1_giveLabels 36 = .ok (.aload_n 0, 1) := by decide +kernel
theorem dX1_giveLabels_37 : decode cX1_giveLabels 37 = .ok (.getfield 28, 3) := by decide +kernel
theorem dX1_giveLabels_40 : decode cX1_giveLabels 40 = .ok (.iload_n 2, 1) := by decide +kernel
theorem dX1_giveLabels_41 : decode cX1_giveLabels 41 = .ok (.iload_n 3, 1) := by decide +kernel
theorem dX1_giveLabels_42 : decode cX1_giveLabels 42 = .ok (.iastore, 1) := by decide +kernel
theorem dX1_giveLabels_43 : decode cX1_giveLabels 43 = .ok (.iload_n 1, 1) := by decide +kernel
theorem dX1_giveLabels_44 : decode cX1_giveLabels 44 = .ok (.iload_n 3, 1) := by decide +kernel
theorem dX1_giveLabels_45 : decode cX1_giveLabels 45 = .ok (.invokestatic 74, 3) := by decide +kernel
theorem dX1_giveLabels_48 : decode cX1_giveLabels 48 = .ok (.ior, 1) := by decide +kernel
theorem dX1_giveLabels_49 : decode cX1_giveLabels 49 = .ok (.istore_n 1, 1) := by decide +kernel
theorem dX1_giveLabels_50 : decode cX1_giveLabels 50 = .ok (.aload_n 0, 1) := by decide +kernel
theorem dX1_giveLabels_51 : decode cX1_giveLabels 51 = .ok (.iload_n 3, 1) := by decide +kernel
theorem dX1_giveLabels_52 : decode cX1_giveLabels 52 = .ok (.iload_n 2, 1) := by decide +kernel
theorem dX1_giveLabels_53 : decode cX1_giveLabels 53 = .ok (.invokevirtual 77, 3) := by decide +kernel
theorem dX1_giveLabels_56 : decode cX1_giveLabels 56 = .ok (.iinc 2 1, 3) := by decide +kernel
theorem dX1_giveLabels_59 : decode cX1_giveLabels 59 = .ok (.goto (-47), 3) := by decide +kernel
theorem dX1_giveLabels_62 : decode cX1_giveLabels 62 = .ok (.return_, 1) := by decide +kernel
theorem dX1_firstByRow_0 : decode cX1_firstByRow 0 = .ok (.iconst 0, 1) := by decide +kernel
theorem dX1_firstByRow_1 : decode cX1_firstByRow 1 = .ok (.istore_n 2, 1) := by decide +kernel
theorem dX1_firstByRow_2 : decode cX1_firstByRow 2 = .ok (.sipush 2048, 3) := by decide +kernel
theorem dX1_firstByRow_5 : decode cX1_firstByRow 5 = .ok (.istore_n 3, 1) := by decide +kernel
theorem dX1_firstByRow_6 : decode cX1_firstByRow 6 = .ok (.iconst 0, 1) := by decide +kernel
theorem dX1_firstByRow_7 : decode cX1_firstByRow 7 = .ok (.istore 4, 2) := by decide +kernel
theorem dX1_firstByRow_9 : decode cX1_firstByRow 9 = .ok (.iload 4, 2) := by decide +kernel
theorem dX1_firstByRow_11 : decode cX1_firstByRow 11 = .ok (.aload_n 0, 1) := by decide +kernel
theorem dX1_firstByRow_12 : decode cX1_firstByRow 12 = .ok (.getfield 37, 3) := by decide +kernel
theorem dX1_firstByRow_15 : decode cX1_firstByRow 15 = .ok (.getfield 67, 3) := by decide +kernel
theorem dX1_firstByRow_18 : decode cX1_firstByRow 18 = .ok (.if_icmp .ge 69, 3) := by decide +kernel
theorem dX1_firstByRow_21 : decode cX1_firstByRow 21 = .ok (.iload_n 1, 1) := by decide +kernel
theorem dX1_firstByRow_22 : decode cX1_firstByRow 22 = .ok (.iload 4, 2) := by decide +kernel
theorem dX1_firstByRow_24 : decode cX1_firstByRow 24 = .ok (.invokestatic 81, 3) := by decide +kernel
theorem dX1_firstByRow_27 : decode cX1_firstByRow 27 = .ok (.ifCond .ne 24, 3) := by decide +kernel
theorem dX1_firstByRow_30 : decode cX1_firstByRow 30 = .ok (.aload_n 0, 1) := by decide +kernel
theorem dX1_firstByRow_31 : decode cX1_firstByRow 31 = .ok (.getfield 41, 3) := by decide +kernel
theorem dX1_firstByRow_34 : decode cX1_firstByRow 34 = .ok (.getfield 85, 3) := by decide +kernel
theorem dX1_firstByRow_37 : decode cX1_firstByRow 37 = .ok (.iload 4, 2) := by decide +kernel
theorem dX1_firstByRow_39 : decode cX1_firstByRow 39 = .ok (.iaload, 1) := by decide +kernel
theorem dX1_firstByRow_40 : decode cX1_firstByRow 40 = .ok (.iload_n 1, 1) := by decide +kernel
theorem dX1_firstByRow_41 : decode cX1_firstByRow 41 = .ok (.iconst (-1), 1) := by decide +kernel
theorem dX1_firstByRow_42 : decode cX1_firstByRow 42 = .ok (.ixor, 1) := by decide +kernel
theorem dX1_firstByRow_43 : decode cX1_firstByRow 43 = .ok (.iand, 1) := by decide +kernel
theorem dX1_firstByRow_44 : decode cX1_firstByRow 44 = .ok (.ifCond .ne 7, 3) := by decide +kernel
theorem dX1_firstByRow_47 : decode cX1_firstByRow 47 = .ok (.iconst 1, 1) := by decide +kernel
theorem dX1_firstByRow_48 : decode cX1_firstByRow 48 = .ok (.goto 4, 3) := by decide +kernel
theorem dX1_firstByRow_51 : decode cX1_firstByRow 51 = .ok (.iconst 0, 1) := by decide +kernel
theorem dX1_firstByRow_52 : decode cX1_firstByRow 52 = .ok (.istore 5, 2) := by decide +kernel
theorem dX1_firstByRow_54 : decode cX1_firstByRow 54 = .ok (.iload 5, 2) := by decide +kernel
theorem dX1_firstByRow_56 : decode cX1_firstByRow 56 = .ok (.ifCond .eq 25, 3) := by decide +kernel
theorem dX1_firstByRow_59 : decode cX1_firstByRow 59 = .ok (.aload_n 0, 1) := by decide +kernel
theorem dX1_firstByRow_60 : decode cX1_firstByRow 60 = .ok (.getfield 31, 3) := by decide +kernel
theorem dX1_firstByRow_63 : decode cX1_firstByRow 63 = .ok (.iload 4, 2) := by decide +kernel
theorem dX1_firstByRow_65 : decode cX1_firstByRow 65 = .ok (.iaload, 1) := by decide +kernel
theorem dX1_firstByRow_66 : decode cX1_firstByRow 66 = .ok (.iload_n 3, 1) := by decide +kernel
theorem dX1_firstByRow_67 : decode cX1_firstByRow 67 = .ok (.if_icmp .ge 14, 3) := by decide +kernel
theorem dX1_firstByRow_70 : decode cX1_firstByRow 70 = .ok (.iload 4, 2) := by decide +kernel
theorem dX1_firstByRow_72 : decode cX1_firstByRow 72 = .ok (.istore_n 2, 1) := by decide +kernel
theorem dX1_firstByRow_73 : decode cX1_firstByRow 73 = .ok (.aload_n 0, 1) := by decide +kernel
theorem dX1_firstByRow_74 : decode cX1_firstByRow 74 = .ok (.getfield 31, 3) := by decide +kernel
theorem dX1_firstByRow_77 : decode cX1_firstByRow 77 = .ok (.iload 4, 2) := by decide +kernel
theorem dX1_firstByRow_79 : decode cX1_firstByRow 79 = .ok (.iaload, 1) := by decide +kernel
theorem dX1_firstByRow_80 : decode cX1_firstByRow 80 = .ok (.istore_n 3, 1) := by decide +kernel
theorem dX1_firstByRow_81 : decode cX1_firstByRow 81 = .ok (.iinc 4 1, 3) := by decide +kernel
theorem dX1_firstByRow_84 : decode cX1_firstByRow 84 = .ok (.goto (-75), 3) := by decide +kernel
theorem dX1_firstByRow_87 : decode cX1_firstByRow 87 = .ok (.iload_n 2, 1) := by decide +kernel
theorem dX1_firstByRow_88 : decode cX1_firstByRow 88 = .ok (.ireturn, 1) := by decide +kernel
theorem dX1_tellLabel_0 : decode cX1_tellLabel 0 = .ok (.iconst 0, 1) := by decide +kernel
theorem dX1_tellLabel_1 : decode cX1_tellLabel 1 = .ok (.istore_n 3, 1) := by decide +kernel
theorem dX1_tellLabel_2 : decode cX1_tellLabel 2 = .ok (.iload_n 3, 1) := by decide +kernel
theorem dX1_tellLabel_3 : decode cX1_tellLabel 3 = .ok (.aload_n 0, 1) := by decide +kernel
theorem dX1_tellLabel_4 : decode cX1_tellLabel 4 = .ok (.getfield 37, 3) := by decide +kernel
theorem dX1_tellLabel_7 : decode cX1_tellLabel 7 = .ok (.getfield 67, 3) := by decide +kernel
theorem dX1_tellLabel_10 : decode cX1_tellLabel 10 = .ok (.if_icmp .ge 38, 3) := by decide +kernel
theorem dX1_tellLabel_13 : decode cX1_tellLabel 13 = .ok (.aload_n 0, 1) := by decide +kernel
theorem dX1_tellLabel_14 : decode cX1_tellLabel 14 = .ok (.getfield 41, 3) := by decide +kernel
theorem dX1_tellLabel_17 : decode cX1_tellLabel 17 = .ok (.getfield 85, 3) := by decide +kernel
theorem dX1_tellLabel_20 : decode cX1_tellLabel 20 = .ok (.iload_n 3, 1) := by decide +kernel
theorem dX1_tellLabel_21 : decode cX1_tellLabel 21 = .ok (.iaload, 1) := by decide +kernel
theorem dX1_tellLabel_22 : decode cX1_tellLabel 22 = .ok (.iload_n 1, 1) := by decide +kernel
theorem dX1_tellLabel_23 : decode cX1_tellLabel 23 = .ok (.invokestatic 81, 3) := by decide +kernel
theorem dX1_tellLabel_26 : decode cX1_tellLabel 26 = .ok (.ifCond .eq 16, 3) := by decide +kernel
theorem dX1_tellLabel_29 : decode cX1_tellLabel 29 = .ok (.aload_n 0, 1) := by decide +kernel
theorem dX1_tellLabel_30 : decode cX1_tellLabel 30 = .ok (.getfield 31, 3) := by decide +kernel
theorem dX1_tellLabel_33 : decode cX1_tellLabel 33 = .ok (.iload_n 3, 1) := by decide +kernel
theorem dX1_tellLabel_34 : decode cX1_tellLabel 34 = .ok (.dup2, 1) := by decide +kernel
theorem dX1_tellLabel_35 : decode cX1_tellLabel 35 = .ok (.iaload, 1) := by decide +kernel
theorem dX1_tellLabel_36 : decode cX1_tellLabel 36 = .ok (.iload_n 2, 1) := by decide +kernel
theorem dX1_tellLabel_37 : decode cX1_tellLabel 37 = .ok (.invokestatic 74, 3) := by decide +kernel
theorem dX1_tellLabel_40 : decode cX1_tellLabel 40 = .ok (.ior, 1) := by decide +kernel
theorem dX1_tellLabel_41 : decode cX1_tellLabel 41 = .ok (.iastore, 1) := by decide +kernel
theorem dX1_tellLabel_42 : decode cX1_tellLabel 42 = .ok (.iinc 3 1, 3) := by decide +kernel
theorem dX1_tellLabel_45 : decode cX1_tellLabel 45 = .ok (.goto (-43), 3) := by decide +kernel
theorem dX1_tellLabel_48 : decode cX1_tellLabel 48 = .ok (.return_, 1) := by decide +kernel
theorem dX1_fillHours_0 : decode cX1_fillHours 0 = .ok (.aload_n 0, 1) := by decide +kernel
theorem dX1_fillHours_1 : decode cX1_fillHours 1 = .ok (.getfield 37, 3) := by decide +kernel
theorem dX1_fillHours_4 : decode cX1_fillHours 4 = .ok (.invokevirtual 88, 3) := by decide +kernel
theorem dX1_fillHours_7 : decode cX1_fillHours 7 = .ok (.istore_n 1, 1) := by decide +kernel
theorem dX1_fillHours_8 : decode cX1_fillHours 8 = .ok (.iconst 0, 1) := by decide +kernel
theorem dX1_fillHours_9 : decode cX1_fillHours 9 = .ok (.istore_n 2, 1) := by decide +kernel
theorem dX1_fillHours_10 : decode cX1_fillHours 10 = .ok (.iconst 0, 1) := by decide +kernel
theorem dX1_fillHours_11 : decode cX1_fillHours 11 = .ok (.istore_n 3, 1) := by decide +kernel
theorem dX1_fillHours_12 : decode cX1_fillHours 12 = .ok (.iload_n 2, 1) := by decide +kernel
theorem dX1_fillHours_13 : decode cX1_fillHours 13 = .ok (.iload_n 1, 1) := by decide +kernel
theorem dX1_fillHours_14 : decode cX1_fillHours 14 = .ok (.if_icmp .eq 72, 3) := by decide +kernel
theorem dX1_fillHours_17 : decode cX1_fillHours 17 = .ok (.iload_n 3, 1) := by decide +kernel
theorem dX1_fillHours_18 : decode cX1_fillHours 18 = .ok (.aload_n 0, 1) := by decide +kernel
theorem dX1_fillHours_19 : decode cX1_fillHours 19 = .ok (.getfield 37, 3) := by decide +kernel
theorem dX1_fillHours_22 : decode cX1_fillHours 22 = .ok (.getfield 67, 3) := by decide +kernel
theorem dX1_fillHours_25 : decode cX1_fillHours 25 = .ok (.if_icmp .ge 61, 3) := by decide +kernel
theorem dX1_fillHours_28 : decode cX1_fillHours 28 = .ok (.iinc 3 1, 3) := by decide +kernel
theorem dX1_fillHours_31 : decode cX1_fillHours 31 = .ok (.aload_n 0, 1) := by decide +kernel
theorem dX1_fillHours_32 : decode cX1_fillHours 32 = .ok (.iload_n 2, 1) := by decide +kernel
theorem dX1_fillHours_33 : decode cX1_fillHours 33 = .ok (.bipush 10, 2) := by decide +kernel
theorem dX1_fillHours_35 : decode cX1_fillHours 35 = .ok (.invokevirtual 92, 3) := by decide +kernel
theorem dX1_fillHours_38 : decode cX1_fillHours 38 = .ok (.istore 4, 2) := by decide +kernel
theorem dX1_fillHours_40 : decode cX1_fillHours 40 = .ok (.aload_n 0, 1) := by decide +kernel
theorem dX1_fillHours_41 : decode cX1_fillHours 41 = .ok (.iload_n 2, 1) := by decide +kernel
theorem dX1_fillHours_42 : decode cX1_fillHours 42 = .ok (.iload 4, 2) := by decide +kernel
theorem dX1_fillHours_44 : decode cX1_fillHours 44 = .ok (.invokevirtual 92, 3) := by decide +kernel
theorem dX1_fillHours_47 : decode cX1_fillHours 47 = .ok (.istore 5, 2) := by decide +kernel
theorem dX1_fillHours_49 : decode cX1_fillHours 49 = .ok (.aload_n 0, 1) := by decide +kernel
theorem dX1_fillHours_50 : decode cX1_fillHours 50 = .ok (.getfield 18, 3) := by decide +kernel
theorem dX1_fillHours_53 : decode cX1_fillHours 53 = .ok (.iload_n 3, 1) := by decide +kernel
theorem dX1_fillHours_54 : decode cX1_fillHours 54 = .ok (.iload 4, 2) := by decide +kernel
theorem dX1_fillHours_56 : decode cX1_fillHours 56 = .ok (.iastore, 1) := by decide +kernel
theorem dX1_fillHours_57 : decode cX1_fillHours 57 = .ok (.aload_n 0, 1) := by decide +kernel
theorem dX1_fillHours_58 : decode cX1_fillHours 58 = .ok (.getfield 21, 3) := by decide +kernel
theorem dX1_fillHours_61 : decode cX1_fillHours 61 = .ok (.iload_n 3, 1) := by decide +kernel
theorem dX1_fillHours_62 : decode cX1_fillHours 62 = .ok (.iload 5, 2) := by decide +kernel
theorem dX1_fillHours_64 : decode cX1_fillHours 64 = .ok (.iastore, 1) := by decide +kernel
theorem dX1_fillHours_65 : decode cX1_fillHours 65 = .ok (.iload_n 2, 1) := by decide +kernel
theorem dX1_fillHours_66 : decode cX1_fillHours 66 = .ok (.aload_n 0, 1) := by decide +kernel
theorem dX1_fillHours_67 : decode cX1_fillHours 67 = .ok (.iload 4, 2) := by decide +kernel
theorem dX1_fillHours_69 : decode cX1_fillHours 69 = .ok (.iload_n 3, 1) := by decide +kernel
theorem dX1_fillHours_70 : decode cX1_fillHours 70 = .ok (.invokevirtual 96, 3) := by decide +kernel
theorem dX1_fillHours_73 : decode cX1_fillHours 73 = .ok (.aload_n 0, 1) := by decide +kernel
theorem dX1_fillHours_74 : decode cX1_fillHours 74 = .ok (.iload 5, 2) := by decide +kernel
theorem dX1_fillHours_76 : decode cX1_fillHours 76 = .ok (.iload_n 3, 1) := by decide +kernel
theorem dX1_fillHours_77 : decode cX1_fillHours 77 = .ok (.invokevirtual 96, 3) := by decide +kernel
theorem dX1_fillHours_80 : decode cX1_fillHours 80 = .ok (.ior, 1) := by decide +kernel
theorem dX1_fillHours_81 : decode cX1_fillHours 81 = .ok (.ior, 1) := by decide +kernel
theorem dX1_fillHours_82 : decode cX1_fillHours 82 = .ok (.istore_n 2, 1) := by decide +kernel
theorem dX1_fillHours_83 : decode cX1_fillHours 83 = .ok (.goto (-71), 3) := by decide +kernel
theorem dX1_fillHours_86 : decode cX1_fillHours 86 = .ok (.aload_n 0, 1) := by decide +kernel
theorem dX1_fillHours_87 : decode cX1_fillHours 87 = .ok (.iload_n 3, 1) := by decide +kernel
theorem dX1_fillHours_88 : decode cX1_fillHours 88 = .ok (.putfield 24, 3) := by decide +kernel
theorem dX1_fillHours_91 : decode cX1_fillHours 91 = .ok (.return_, 1) := by decide +kernel
theorem dX1_greatestReady_0 : decode cX1_greatestReady 0 = .ok (.aload_n 0, 1) := by decide +kernel
theorem dX1_greatestReady_1 : decode cX1_greatestReady 1 = .ok (.getfield 37, 3) := by decide +kernel
theorem dX1_greatestReady_4 : decode cX1_greatestReady 4 = .ok (.getfield 67, 3) := by decide +kernel
theorem dX1_greatestReady_7 : decode cX1_greatestReady 7 = .ok (.istore_n 3, 1) := by decide +kernel
theorem dX1_greatestReady_8 : decode cX1_greatestReady 8 = .ok (.iload_n 3, 1) := by decide +kernel
theorem dX1_greatestReady_9 : decode cX1_greatestReady 9 = .ok (.iconst 1, 1) := by decide +kernel
theorem dX1_greatestReady_10 : decode cX1_greatestReady 10 = .ok (.if_icmp .lt 52, 3) := by decide +kernel
theorem dX1_greatestReady_13 : decode cX1_greatestReady 13 = .ok (.aload_n 0, 1) := by decide +kernel
theorem dX1_greatestReady_14 : decode cX1_greatestReady 14 = .ok (.getfield 28, 3) := by decide +kernel
theorem dX1_greatestReady_17 : decode cX1_greatestReady 17 = .ok (.iload_n 3, 1) := by decide +kernel
theorem dX1_greatestReady_18 : decode cX1_greatestReady 18 = .ok (.iaload, 1) := by decide +kernel
theorem dX1_greatestReady_19 : decode cX1_greatestReady 19 = .ok (.istore 4, 2) := by decide +kernel
theorem dX1_greatestReady_21 : decode cX1_greatestReady 21 = .ok (.iload 4, 2) := by decide +kernel
theorem dX1_greatestReady_23 : decode cX1_greatestReady 23 = .ok (.iload_n 2, 1) := by decide +kernel
theorem dX1_greatestReady_24 : decode cX1_greatestReady 24 = .ok (.if_icmp .eq 32, 3) := by decide +kernel
theorem dX1_greatestReady_27 : decode cX1_greatestReady 27 = .ok (.iload_n 1, 1) := by decide +kernel
theorem dX1_greatestReady_28 : decode cX1_greatestReady 28 = .ok (.iload 4, 2) := by decide +kernel
theorem dX1_greatestReady_30 : decode cX1_greatestReady 30 = .ok (.invokestatic 81, 3) := by decide +kernel
theorem dX1_greatestReady_33 : decode cX1_greatestReady 33 = .ok (.ifCond .ne 23, 3) := by decide +kernel
theorem dX1_greatestReady_36 : decode cX1_greatestReady 36 = .ok (.aload_n 0, 1) := by decide +kernel
theorem dX1_greatestReady_37 : decode cX1_greatestReady 37 = .ok (.getfield 41, 3) := by decide +kernel
theorem dX1_greatestReady_40 : decode cX1_greatestReady 40 = .ok (.getfield 99, 3) := by decide +kernel
theorem dX1_greatestReady_43 : decode cX1_greatestReady 43 = .ok (.iload 4, 2) := by decide +kernel
theorem dX1_greatestReady_45 : decode cX1_greatestReady 45 = .ok (.iaload, 1) := by decide +kernel
theorem dX1_greatestReady_46 : decode cX1_greatestReady 46 = .ok (.iload_n 1, 1) := by decide +kernel
theorem dX1_greatestReady_47 : decode cX1_greatestReady 47 = .ok (.iconst (-1), 1) := by decide +kernel
theorem dX1_greatestReady_48 : decode cX1_greatestReady 48 = .ok (.ixor, 1) := by decide +kernel
theorem dX1_greatestReady_49 : decode cX1_greatestReady 49 = .ok (.iand, 1) := by decide +kernel
theorem dX1_greatestReady_50 : decode cX1_greatestReady 50 = .ok (.ifCond .ne 6, 3) := by decide +kernel
theorem dX1_greatestReady_53 : decode cX1_greatestReady 53 = .ok (.iload 4, 2) := by decide +kernel
theorem dX1_greatestReady_55 : decode cX1_greatestReady 55 = .ok (.ireturn, 1) := by decide +kernel
theorem dX1_greatestReady_56 : decode cX1_greatestReady 56 = .ok (.iinc 3 (-1), 3) := by decide +kernel
theorem dX1_greatestReady_59 : decode cX1_greatestReady 59 = .ok (.goto (-51), 3) := by decide +kernel
theorem dX1_greatestReady_62 : decode cX1_greatestReady 62 = .ok (.bipush (-3), 2) := by decide +kernel
theorem dX1_greatestReady_64 : decode cX1_greatestReady 64 = .ok (.ireturn, 1) := by decide +kernel
theorem dX1_place_0 : decode cX1_place 0 = .ok (.iload_n 1, 1) := by decide +kernel
theorem dX1_place_1 : decode cX1_place 1 = .ok (.bipush (-3), 2) := by decide +kernel
theorem dX1_place_3 : decode cX1_place 3 = .ok (.if_icmp .ne 5, 3) := by decide +kernel
theorem dX1_place_6 : decode cX1_place 6 = .ok (.iconst 0, 1) := by decide +kernel
theorem dX1_place_7 : decode cX1_place 7 = .ok (.ireturn, 1) := by decide +kernel
theorem dX1_place_8 : decode cX1_place 8 = .ok (.aload_n 0, 1) := by decide +kernel
theorem dX1_place_9 : decode cX1_place 9 = .ok (.getfield 15, 3) := by decide +kernel
theorem dX1_place_12 : decode cX1_place 12 = .ok (.iload_n 1, 1) := by decide +kernel
theorem dX1_place_13 : decode cX1_place 13 = .ok (.iload_n 2, 1) := by decide +kernel
theorem dX1_place_14 : decode cX1_place 14 = .ok (.iastore, 1) := by decide +kernel
theorem dX1_place_15 : decode cX1_place 15 = .ok (.iload_n 1, 1) := by decide +kernel
theorem dX1_place_16 : decode cX1_place 16 = .ok (.invokestatic 74, 3) := by decide +kernel
theorem dX1_place_19 : decode cX1_place 19 = .ok (.ireturn, 1) := by decide +kernel
theorem dX2_init_0 : decode cX2_init 0 = .ok (.aload_n 0, 1) := by decide +kernel
theorem dX2_init_1 : decode cX2_init 1 = .ok (.invokespecial 3, 3) := by decide +kernel
theorem dX2_init_4 : decode cX2_init 4 = .ok (.aload_n 0, 1) := by decide +kernel
theorem dX2_init_5 : decode cX2_init 5 = .ok (.bipush 10, 2) := by decide +kernel
theorem dX2_init_7 : decode cX2_init 7 = .ok (.newarray .int, 2) := by decide +kernel
theorem dX2_init_9 : decode cX2_init 9 = .ok (.putfield 9, 3) := by decide +kernel
theorem dX2_init_12 : decode cX2_init 12 = .ok (.aload_n 0, 1) := by decide +kernel
theorem dX2_init_13 : decode cX2_init 13 = .ok (.bipush 10, 2) := by decide +kernel
theorem dX2_init_15 : decode cX2_init 15 = .ok (.newarray .int, 2) := by decide +kernel
theorem dX2_init_17 : decode cX2_init 17 = .ok (.putfield 15, 3) := by decide +kernel
theorem dX2_init_20 : decode cX2_init 20 = .ok (.aload_n 0, 1) := by decide +kernel
theorem dX2_init_21 : decode cX2_init 21 = .ok (.bipush 10, 2) := by decide +kernel
theorem dX2_init_23 : decode cX2_init 23 = .ok (.newarray .int, 2) := by decide +kernel
theorem dX2_init_25 : decode cX2_init 25 = .ok (.putfield 18, 3) := by decide +kernel
theorem dX2_init_28 : decode cX2_init 28 = .ok (.aload_n 0, 1) := by decide +kernel
theorem dX2_init_29 : decode cX2_init 29 = .ok (.bipush 10, 2) := by decide +kernel
theorem dX2_init_31 : decode cX2_init 31 = .ok (.newarray .int, 2) := by decide +kernel
theorem dX2_init_33 : decode cX2_init 33 = .ok (.putfield 21, 3) := by decide +kernel
theorem dX2_init_36 : decode cX2_init 36 = .ok (.aload_n 0, 1) := by decide +kernel
theorem dX2_init_37 : decode cX2_init 37 = .ok (.iconst 0, 1) := by decide +kernel
theorem dX2_init_38 : decode cX2_init 38 = .ok (.putfield 24, 3) := by decide +kernel
theorem dX2_init_41 : decode cX2_init 41 = .ok (.aload_n 0, 1) := by decide +kernel
theorem dX2_init_42 : decode cX2_init 42 = .ok (.iconst (-1), 1) := by decide +kernel
theorem dX2_init_43 : decode cX2_init 43 = .ok (.putfield 28, 3) := by decide +kernel
theorem dX2_init_46 : decode cX2_init 46 = .ok (.aload_n 0, 1) := by decide +kernel
theorem dX2_init_47 : decode cX2_init 47 = .ok (.aload_n 1, 1) := by decide +kernel
theorem dX2_init_48 : decode cX2_init 48 = .ok (.putfield 31, 3) := by decide +kernel
theorem dX2_init_51 : decode cX2_init 51 = .ok (.return_, 1) := by decide +kernel
theorem dX2_renew_0 : decode cX2_renew 0 = .ok (.aload_n 0, 1) := by decide +kernel
theorem dX2_renew_1 : decode cX2_renew 1 = .ok (.getfield 28, 3) := by decide +kernel
theorem dX2_renew_4 : decode cX2_renew 4 = .ok (.aload_n 0, 1) := by decide +kernel
theorem dX2_renew_5 : decode cX2_renew 5 = .ok (.getfield 31, 3) := by decide +kernel
theorem dX2_renew_8 : decode cX2_renew 8 = .ok (.getfield 35, 3) := by decide +kernel
theorem dX2_renew_11 : decode cX2_renew 11 = .ok (.if_icmp .ne 4, 3) := by decide +kernel
theorem dX2_renew_14 : decode cX2_renew 14 = .ok (.return_, 1) := by decide +kernel
theorem dX2_renew_15 : decode cX2_renew 15 = .ok (.aload_n 0, 1) := by decide +kernel
theorem dX2_renew_16 : decode cX2_renew 16 = .ok (.aload_n 0, 1) := by decide +kernel
theorem dX2_renew_17 : decode cX2_renew 17 = .ok (.getfield 31, 3) := by decide +kernel
theorem dX2_renew_20 : decode cX2_renew 20 = .ok (.getfield 35, 3) := by decide +kernel
theorem dX2_renew_23 : decode cX2_renew 23 = .ok (.putfield 28, 3) := by decide +kernel
theorem dX2_renew_26 : decode cX2_renew 26 = .ok (.aload_n 0, 1) := by decide +kernel
theorem dX2_renew_27 : decode cX2_renew 27 = .ok (.invokevirtual 40, 3) := by decide +kernel
theorem dX2_renew_30 : decode cX2_renew 30 = .ok (.aload_n 0, 1) := by decide +kernel
theorem dX2_renew_31 : decode cX2_renew 31 = .ok (.invokevirtual 43, 3) := by decide +kernel
theorem dX2_renew_34 : decode cX2_renew 34 = .ok (.aload_n 0, 1) := by decide +kernel
theorem dX2_renew_35 : decode cX2_renew 35 = .ok (.invokevirtual 46, 3) := by decide +kernel
theorem dX2_renew_38 : decode cX2_renew 38 = .ok (.aload_n 0, 1) := by decide +kernel
theorem dX2_renew_39 : decode cX2_renew 39 = .ok (.invokevirtual 49, 3) := by decide +kernel
theorem dX2_renew_42 : decode cX2_renew 42 = .ok (.return_, 1) := by decide +kernel
theorem dX2_areApart_0 : decode cX2_areApart 0 = .ok (.iload_n 1, 1) := by decide +kernel
theorem dX2_areApart_1 : decode cX2_areApart 1 = .ok (.iload_n 2, 1) := by decide +kernel
theorem dX2_areApart_2 : decode cX2_areApart 2 = .ok (.if_icmp .eq 33, 3) := by decide +kernel
theorem dX2_areApart_5 : decode cX2_areApart 5 = .ok (.aload_n 0, 1) := by decide +kernel
theorem dX2_areApart_6 : decode cX2_areApart 6 = .ok (.getfield 9, 3) := by decide +kernel
theorem dX2_areApart_9 : decode cX2_areApart 9 = .ok (.iload_n 1, 1) := by decide +kernel
theorem dX2_areApart_10 : decode cX2_areApart 10 = .ok (.iaload, 1) := by decide +kernel
theorem dX2_areApart_11 : decode cX2_areApart 11 = .ok (.iload_n 2, 1) := by decide +kernel
theorem dX2_areApart_12 : decode cX2_areApart 12 = .ok (.invokestatic 52, 3) := by decide +kernel
theorem dX2_areApart_15 : decode cX2_areApart 15 = .ok (.ifCond .ne 20, 3) := by decide +kernel
theorem dX2_areApart_18 : decode cX2_areApart 18 = .ok (.aload_n 0, 1) := by decide +kernel
theorem dX2_areApart_19 : decode cX2_areApart 19 = .ok (.getfield 9, 3) := by decide +kernel
theorem dX2_areApart_22 : decode cX2_areApart 22 = .ok (.iload_n 2, 1) := by decide +kernel
theorem dX2_areApart_23 : decode cX2_areApart 23 = .ok (.iaload, 1) := by decide +kernel
theorem dX2_areApart_24 : decode cX2_areApart 24 = .ok (.iload_n 1, 1) := by decide +kernel
theorem dX2_areApart_25 : decode cX2_areApart 25 = .ok (.invokestatic 52, 3) := by decide +kernel
theorem dX2_areApart_28 : decode cX2_areApart 28 = .ok (.ifCond .ne 7, 3) := by decide +kernel
theorem dX2_areApart_31 : decode cX2_areApart 31 = .ok (.iconst 1, 1) := by decide +kernel
theorem dX2_areApart_32 : decode cX2_areApart 32 = .ok (.goto 4, 3) := by decide +kernel
theorem dX2_areApart_35 : decode cX2_areApart 35 = .ok (.iconst 0, 1) := by decide +kernel
theorem dX2_areApart_36 : decode cX2_areApart 36 = .ok (.ireturn, 1) := by decide +kernel
theorem dX2_areTwins_0 : decode cX2_areTwins 0 = .ok (.aload_n 0, 1) := by decide +kernel
theorem dX2_areTwins_1 : decode cX2_areTwins 1 = .ok (.getfield 9, 3) := by decide +kernel
theorem dX2_areTwins_4 : decode cX2_areTwins 4 = .ok (.iload_n 1, 1) := by decide +kernel
theorem dX2_areTwins_5 : decode cX2_areTwins 5 = .ok (.iaload, 1) := by decide +kernel
theorem dX2_areTwins_6 : decode cX2_areTwins 6 = .ok (.aload_n 0, 1) := by decide +kernel
theorem dX2_areTwins_7 : decode cX2_areTwins 7 = .ok (.getfield 9, 3) := by decide +kernel
theorem dX2_areTwins_10 : decode cX2_areTwins 10 = .ok (.iload_n 2, 1) := by decide +kernel
theorem dX2_areTwins_11 : decode cX2_areTwins 11 = .ok (.iaload, 1) := by decide +kernel
theorem dX2_areTwins_12 : decode cX2_areTwins 12 = .ok (.if_icmp .ne 22, 3) := by decide +kernel
theorem dX2_areTwins_15 : decode cX2_areTwins 15 = .ok (.aload_n 0, 1) := by decide +kernel
theorem dX2_areTwins_16 : decode cX2_areTwins 16 = .ok (.getfield 15, 3) := by decide +kernel
theorem dX2_areTwins_19 : decode cX2_areTwins 19 = .ok (.iload_n 1, 1) := by decide +kernel
theorem dX2_areTwins_20 : decode cX2_areTwins 20 = .ok (.iaload, 1) := by decide +kernel
theorem dX2_areTwins_21 : decode cX2_areTwins 21 = .ok (.aload_n 0, 1) := by decide +kernel
theorem dX2_areTwins_22 : decode cX2_areTwins 22 = .ok (.getfield 15, 3) := by decide +kernel
theorem dX2_areTwins_25 : decode cX2_areTwins 25 = .ok (.iload_n 2, 1) := by decide +kernel
theorem dX2_areTwins_26 : decode cX2_areTwins 26 = .ok (.iaload, 1) := by decide +kernel
theorem dX2_areTwins_27 : decode cX2_areTwins 27 = .ok (.if_icmp .ne 7, 3) := by decide +kernel
theorem dX2_areTwins_30 : decode cX2_areTwins 30 = .ok (.iconst 1, 1) := by decide +kernel
theorem dX2_areTwins_31 : decode cX2_areTwins 31 = .ok (.goto 4, 3) := by decide +kernel
theorem dX2_areTwins_34 : decode cX2_areTwins 34 = .ok (.iconst 0, 1) := by decide +kernel
theorem dX2_areTwins_35 : decode cX2_areTwins 35 = .ok (.ireturn, 1) := by decide +kernel
theorem dX2_findBehind_0 : decode cX2_findBehind 0 = .ok (.aload_n 0, 1) := by decide +kernel
theorem dX2_findBehind_1 : decode cX2_findBehind 1 = .ok (.getfield 31, 3) := by decide +kernel
theorem dX2_findBehind_4 : decode cX2_findBehind 4 = .ok (.getfield 56, 3) := by decide +kernel
theorem dX2_findBehind_7 : decode cX2_findBehind 7 = .ok (.iconst 0, 1) := by decide +kernel
theorem dX2_findBehind_8 : decode cX2_findBehind 8 = .ok (.aload_n 0, 1) := by decide +kernel
theorem dX2_findBehind_9 : decode cX2_findBehind 9 = .ok (.getfield 9, 3) := by decide +kernel
theorem dX2_findBehind_12 : decode cX2_findBehind 12 = .ok (.iconst 0, 1) := by decide +kernel
theorem dX2_findBehind_13 : decode cX2_findBehind 13 = .ok (.aload_n 0, 1) := by decide +kernel
theorem dX2_findBehind_14 : decode cX2_findBehind 14 = .ok (.getfield 31, 3) := by decide +kernel
theorem dX2_findBehind_17 : decode cX2_findBehind 17 = .ok (.getfield 59, 3) := by decide +kernel
theorem dX2_findBehind_20 : decode cX2_findBehind 20 = .ok (.invokestatic 62, 3) := by decide +kernel
theorem dX2_findBehind_23 : decode cX2_findBehind 23 = .ok (.iconst 0, 1) := by decide +kernel
theorem dX2_findBehind_24 : decode cX2_findBehind 24 = .ok (.istore_n 1, 1) := by decide +kernel
theorem dX2_findBehind_25 : decode cX2_findBehind 25 = .ok (.iload_n 1, 1) := by decide +kernel
theorem dX2_findBehind_26 : decode cX2_findBehind 26 = .ok (.aload_n 0, 1) := by decide +kernel
theorem dX2_findBehind_27 : decode cX2_findBehind 27 = .ok (.getfield 31, 3) := by decide +kernel
theorem dX2_findBehind_30 : decode cX2_findBehind 30 = .ok (.getfield 59, 3) := by decide +kernel
theorem dX2_findBehind_33 : decode cX2_findBehind 33 = .ok (.if_icmp .ge 56, 3) := by decide +kernel
theorem dX2_findBehind_36 : decode cX2_findBehind 36 = .ok (.iconst 0, 1) := by decide +kernel
theorem dX2_findBehind_37 : decode cX2_findBehind 37 = .ok (.istore_n 2, 1) := by decide +kernel
theorem dX2_findBehind_38 : decode cX2_findBehind 38 = .ok (.iload_n 2, 1) := by decide +kernel
theorem dX2_findBehind_39 : decode cX2_findBehind 39 = .ok (.aload_n 0, 1) := by decide +kernel
theorem dX2_findBehind_40 : decode cX2_findBehind 40 = .ok (.getfield 31, 3) := by decide +kernel
theorem dX2_findBehind_43 : decode cX2_findBehind 43 = .ok (.getfield 59, 3) := by decide +kernel
theorem dX2_findBehind_46 : decode cX2_findBehind 46 = .ok (.if_icmp .ge 37, 3) := by decide +kernel
theorem dX2_findBehind_49 : decode cX2_findBehind 49 = .ok (.aload_n 0, 1) := by decide +kernel
theorem dX2_findBehind_50 : decode cX2_findBehind 50 = .ok (.getfield 9, 3) := by decide +kernel
theorem dX2_findBehind_53 : decode cX2_findBehind 53 = .ok (.iload_n 2, 1) := by decide +kernel
theorem dX2_findBehind_54 : decode cX2_findBehind 54 = .ok (.iaload, 1) := by decide +kernel
theorem dX2_findBehind_55 : decode cX2_findBehind 55 = .ok (.iload_n 1, 1) := by decide +kernel
theorem dX2_findBehind_56 : decode cX2_findBehind 56 = .ok (.invokestatic 52, 3) := by decide +kernel
theorem dX2_findBehind_59 : decode cX2_findBehind 59 = .ok (.ifCond .eq 18, 3) := by decide +kernel
theorem dX2_findBehind_62 : decode cX2_findBehind 62 = .ok (.aload_n 0, 1) := by decide +kernel
theorem dX2_findBehind_63 : decode cX2_findBehind 63 = .ok (.getfield 9, 3) := by decide +kernel
theorem dX2_findBehind_66 : decode cX2_findBehind 66 = .ok (.iload_n 2, 1) := by decide +kernel
theorem dX2_findBehind_67 : decode cX2_findBehind 67 = .ok (.dup2, 1) := by decide +kernel
theorem dX2_findBehind_68 : decode cX2_findBehind 68 = .ok (.iaload, 1) := by decide +kernel
theorem dX2_findBehind_69 : decode cX2_findBehind 69 = .ok (.aload_n 0, 1) := by decide +kernel
theorem dX2_findBehind_70 : decode cX2_findBehind 70 = .ok (.getfield 9, 3) := by decide +kernel
theorem dX2_findBehind_73 : decode cX2_findBehind 73 = .ok (.iload_n 1, 1) := by decide +kernel
theorem dX2_findBehind_74 : decode cX2_findBehind 74 = .ok (.iaload, 1) := by decide +kernel
theorem dX2_findBehind_75 : decode cX2_findBehind 75 = .ok (.ior, 1) := by decide +kernel
theorem dX2_findBehind_76 : decode cX2_findBehind 76 = .ok (.iastore, 1) := by decide +kernel
theorem dX2_findBehind_77 : decode cX2_findBehind 77 = .ok (.iinc 2 1, 3) := by decide +kernel
theorem dX2_findBehind_80 : decode cX2_findBehind 80 = .ok (.goto (-42), 3) := by decide +kernel
theorem dX2_findBehind_83 : decode cX2_findBehind 83 = .ok (.iinc 1 1, 3) := by decide +kernel
theorem dX2_findBehind_86 : decode cX2_findBehind 86 = .ok (.goto (-61), 3) := by decide +kernel
theorem dX2_findBehind_89 : decode cX2_findBehind 89 = .ok (.return_, 1) := by decide +kernel
theorem dX2_findFollowers_0 : decode cX2_findFollowers 0 = .ok (.aload_n 0, 1) := by decide +kernel
theorem dX2_findFollowers_1 : decode cX2_findFollowers 1 = .ok (.getfield 15, 3) := by decide +kernel
theorem dX2_findFollowers_4 : decode cX2_findFollowers 4 = .ok (.iconst 0, 1) := by decide +kernel
theorem dX2_findFollowers_5 : decode cX2_findFollowers 5 = .ok (.invokestatic 68, 3) := by decide +kernel
theorem dX2_findFollowers_8 : decode cX2_findFollowers 8 = .ok (.iconst 0, 1) := by decide +kernel
theorem dX2_findFollowers_9 : decode cX2_findFollowers 9 = .ok (.istore_n 1, 1) := by decide +kernel
theorem dX2_findFollowers_10 : decode cX2_findFollowers 10 = .ok (.iload_n 1, 1) := by decide +kernel
theorem dX2_findFollowers_11 : decode cX2_findFollowers 11 = .ok (.aload_n 0, 1) := by decide +kernel
theorem dX2_findFollowers_12 : decode cX2_findFollowers 12 = .ok (.getfield 31, 3) := by decide +kernel
theorem dX2_findFollowers_15 : decode cX2_findFollowers 15 = .ok (.getfield 59, 3) := by decide +kernel
theorem dX2_findFollowers_18 : decode cX2_findFollowers 18 = .ok (.if_icmp .ge 54, 3) := by decide +kernel
theorem dX2_findFollowers_21 : decode cX2_findFollowers 21 = .ok (.iconst 0, 1) := by decide +kernel
theorem dX2_findFollowers_22 : decode cX2_findFollowers 22 = .ok (.istore_n 2, 1) := by decide +kernel
theorem dX2_findFollowers_23 : decode cX2_findFollowers 23 = .ok (.iload_n 2, 1) := by decide +kernel
theorem dX2_findFollowers_24 : decode cX2_findFollowers 24 = .ok (.aload_n 0, 1) := by decide +kernel
theorem dX2_findFollowers_25 : decode cX2_findFollowers 25 = .ok (.getfield 31, 3) := by decide +kernel
theorem dX2_findFollowers_28 : decode cX2_findFollowers 28 = .ok (.getfield 59, 3) := by decide +kernel
theorem dX2_findFollowers_31 : decode cX2_findFollowers 31 = .ok (.if_icmp .ge 35, 3) := by decide +kernel
theorem dX2_findFollowers_34 : decode cX2_findFollowers 34 = .ok (.aload_n 0, 1) := by decide +kernel
theorem dX2_findFollowers_35 : decode cX2_findFollowers 35 = .ok (.getfield 9, 3) := by decide +kernel
theorem dX2_findFollowers_38 : decode cX2_findFollowers 38 = .ok (.iload_n 1, 1) := by decide +kernel
theorem dX2_findFollowers_39 : decode cX2_findFollowers 39 = .ok (.iaload, 1) := by decide +kernel
theorem dX2_findFollowers_40 : decode cX2_findFollowers 40 = .ok (.iload_n 2, 1) := by decide +kernel
theorem dX2_findFollowers_41 : decode cX2_findFollowers 41 = .ok (.invokestatic 52, 3) := by decide +kernel
theorem dX2_findFollowers_44 : decode cX2_findFollowers 44 = .ok (.ifCond .eq 16, 3) := by decide +kernel
theorem dX2_findFollowers_47 : decode cX2_findFollowers 47 = .ok (.aload_n 0, 1) := by decide +kernel
theorem dX2_findFollowers_48 : decode cX2_findFollowers 48 = .ok (.getfield 15, 3) := by decide +kernel
theorem dX2_findFollowers_51 : decode cX2_findFollowers 51 = .ok (.iload_n 2, 1) := by decide +kernel
theorem dX2_findFollowers_52 : decode cX2_findFollowers 52 = .ok (.dup2, 1) := by decide +kernel
theorem dX2_findFollowers_53 : decode cX2_findFollowers 53 = .ok (.iaload, 1) := by decide +kernel
theorem dX2_findFollowers_54 : decode cX2_findFollowers 54 = .ok (.iload_n 1, 1) := by decide +kernel
theorem dX2_findFollowers_55 : decode cX2_findFollowers 55 = .ok (.invokestatic 74, 3) := by decide +kernel
theorem dX2_findFollowers_58 : decode cX2_findFollowers 58 = .ok (.ior, 1) := by decide +kernel
theorem dX2_findFollowers_59 : decode cX2_findFollowers 59 = .ok (.iastore, 1) := by decide +kernel
theorem dX2_findFollowers_60 : decode cX2_findFollowers 60 = .ok (.iinc 2 1, 3) := by decide +kernel
theorem dX2_findFollowers_63 : decode cX2_findFollowers 63 = .ok (.goto (-40), 3) := by decide +kernel
theorem dX2_findFollowers_66 : decode cX2_findFollowers 66 = .ok (.iinc 1 1, 3) := by decide +kernel
theorem dX2_findFollowers_69 : decode cX2_findFollowers 69 = .ok (.goto (-59), 3) := by decide +kernel
theorem dX2_findFollowers_72 : decode cX2_findFollowers 72 = .ok (.return_, 1) := by decide +kernel
theorem dX2_findNexts_0 : decode cX2_findNexts 0 = .ok (.aload_n 0, 1) := by decide +kernel
theorem dX2_findNexts_1 : decode cX2_findNexts 1 = .ok (.getfield 18, 3) := by decide +kernel
theorem dX2_findNexts_4 : decode cX2_findNexts 4 = .ok (.iconst 0, 1) := by decide +kernel
theorem dX2_findNexts_5 : decode cX2_findNexts 5 = .ok (.invokestatic 68, 3) := by decide +kernel
theorem dX2_findNexts_8 : decode cX2_findNexts 8 = .ok (.iconst 0, 1) := by decide +kernel
theorem dX2_findNexts_9 : decode cX2_findNexts 9 = .ok (.istore_n 1, 1) := by decide +kernel
theorem dX2_findNexts_10 : decode cX2_findNexts 10 = .ok (.iload_n 1, 1) := by decide +kernel
theorem dX2_findNexts_11 : decode cX2_findNexts 11 = .ok (.aload_n 0, 1) := by decide +kernel
theorem dX2_findNexts_12 : decode cX2_findNexts 12 = .ok (.getfield 31, 3) := by decide +kernel
theorem dX2_findNexts_15 : decode cX2_findNexts 15 = .ok (.getfield 59, 3) := by decide +kernel
theorem dX2_findNexts_18 : decode cX2_findNexts 18 = .ok (.if_icmp .ge 70, 3) := by decide +kernel
theorem dX2_findNexts_21 : decode cX2_findNexts 21 = .ok (.iconst 0, 1) := by decide +kernel
theorem dX2_findNexts_22 : decode cX2_findNexts 22 = .ok (.istore_n 2, 1) := by decide +kernel
theorem dX2_findNexts_23 : decode cX2_findNexts 23 = .ok (.iload_n 2, 1) := by decide +kernel
theorem dX2_findNexts_24 : decode cX2_findNexts 24 = .ok (.aload_n 0, 1) := by decide +kernel
theorem dX2_findNexts_25 : decode cX2_findNexts 25 = .ok (.getfield 31, 3) := by decide +kernel
theorem dX2_findNexts_28 : decode cX2_findNexts 28 = .ok (.getfield 59, 3) := by decide +kernel
theorem dX2_findNexts_31 : decode cX2_findNexts 31 = .ok (.if_icmp .ge 51, 3) := by decide +kernel
theorem dX2_findNexts_34 : decode cX2_findNexts 34 = .ok (.aload_n 0, 1) := by decide +kernel
theorem dX2_findNexts_35 : decode cX2_findNexts 35 = .ok (.getfield 15, 3) := by decide +kernel
theorem dX2_findNexts_38 : decode cX2_findNexts 38 = .ok (.iload_n 1, 1) := by decide +kernel
theorem dX2_findNexts_39 : decode cX2_findNexts 39 = .ok (.iaload, 1) := by decide +kernel
theorem dX2_findNexts_40 : decode cX2_findNexts 40 = .ok (.iload_n 2, 1) := by decide +kernel
theorem dX2_findNexts_41 : decode cX2_findNexts 41 = .ok (.invokestatic 52, 3) := by decide +kernel
theorem dX2_findNexts_44 : decode cX2_findNexts 44 = .ok (.ifCond .eq 32, 3) := by decide +kernel
theorem dX2_findNexts_47 : decode cX2_findNexts 47 = .ok (.aload_n 0, 1) := by decide +kernel
theorem dX2_findNexts_48 : decode cX2_findNexts 48 = .ok (.getfield 9, 3) := by decide +kernel
theorem dX2_findNexts_51 : decode cX2_findNexts 51 = .ok (.iload_n 2, 1) := by decide +kernel
theorem dX2_findNexts_52 : decode cX2_findNexts 52 = .ok (.iaload, 1) := by decide +kernel
theorem dX2_findNexts_53 : decode cX2_findNexts 53 = .ok (.aload_n 0, 1) := by decide +kernel
theorem dX2_findNexts_54 : decode cX2_findNexts 54 = .ok (.getfield 15, 3) := by decide +kernel
theorem dX2_findNexts_57 : decode cX2_findNexts 57 = .ok (.iload_n 1, 1) := by decide +kernel
theorem dX2_findNexts_58 : decode cX2_findNexts 58 = .ok (.iaload, 1) := by decide +kernel
theorem dX2_findNexts_59 : decode cX2_findNexts 59 = .ok (.iand, 1) := by decide +kernel
theorem dX2_findNexts_60 : decode cX2_findNexts 60 = .ok (.ifCond .ne 16, 3) := by decide +kernel
theorem dX2_findNexts_63 : decode cX2_findNexts 63 = .ok (.aload_n 0, 1) := by decide +kernel
theorem dX2_findNexts_64 : decode cX2_findNexts 64 = .ok (.getfield 18, 3) := by decide +kernel
theorem dX2_findNexts_67 : decode cX2_findNexts 67 = .ok (.iload_n 1, 1) := by decide +kernel
theorem dX2_findNexts_68 : decode cX2_findNexts 68 = .ok (.dup2, 1) := by decide +kernel
theorem dX2_findNexts_69 : decode cX2_findNexts 69 = .ok (.iaload, 1) := by decide +kernel
theorem dX2_findNexts_70 : decode cX2_findNexts 70 = .ok (.iload_n 2, 1) := by decide +kernel
theorem dX2_findNexts_71 : decode cX2_findNexts 71 = .ok (.invokestatic 74, 3) := by decide +kernel
theorem dX2_findNexts_74 : decode cX2_findNexts 74 = .ok (.ior, 1) := by decide +kernel
theorem dX2_findNexts_75 : decode cX2_findNexts 75 = .ok (.iastore, 1) := by decide +kernel
theorem dX2_findNexts_76 : decode cX2_findNexts 76 = .ok (.iinc 2 1, 3) := by decide +kernel
theorem dX2_findNexts_79 : decode cX2_findNexts 79 = .ok (.goto (-56), 3) := by decide +kernel
theorem dX2_findNexts_82 : decode cX2_findNexts 82 = .ok (.iinc 1 1, 3) := by decide +kernel
theorem dX2_findNexts_85 : decode cX2_findNexts 85 = .ok (.goto (-75), 3) := by decide +kernel
theorem dX2_findNexts_88 : decode cX2_findNexts 88 = .ok (.return_, 1) := by decide +kernel
theorem dX2_findDepths_0 : decode cX2_findDepths 0 = .ok (.aload_n 0, 1) := by decide +kernel
theorem dX2_findDepths_1 : decode cX2_findDepths 1 = .ok (.getfield 31, 3) := by decide +kernel
theorem dX2_findDepths_4 : decode cX2_findDepths 4 = .ok (.invokevirtual 78, 3) := by decide +kernel
theorem dX2_findDepths_7 : decode cX2_findDepths 7 = .ok (.istore_n 1, 1) := by decide +kernel
theorem dX2_findDepths_8 : decode cX2_findDepths 8 = .ok (.iconst 0, 1) := by decide +kernel
theorem dX2_findDepths_9 : decode cX2_findDepths 9 = .ok (.istore_n 2, 1) := by decide +kernel
theorem dX2_findDepths_10 : decode cX2_findDepths 10 = .ok (.iconst 0, 1) := by decide +kernel
theorem dX2_findDepths_11 : decode cX2_findDepths 11 = .ok (.istore_n 3, 1) := by decide +kernel
theorem dX2_findDepths_12 : decode cX2_findDepths 12 = .ok (.iload_n 2, 1) := by decide +kernel
theorem dX2_findDepths_13 : decode cX2_findDepths 13 = .ok (.iload_n 1, 1) := by decide +kernel
theorem dX2_findDepths_14 : decode cX2_findDepths 14 = .ok (.if_icmp .eq 85, 3) := by decide +kernel
theorem dX2_findDepths_17 : decode cX2_findDepths 17 = .ok (.iload_n 3, 1) := by decide +kernel
theorem dX2_findDepths_18 : decode cX2_findDepths 18 = .ok (.aload_n 0, 1) := by decide +kernel
theorem dX2_findDepths_19 : decode cX2_findDepths 19 = .ok (.getfield 31, 3) := by decide +kernel
theorem dX2_findDepths_22 : decode cX2_findDepths 22 = .ok (.getfield 59, 3) := by decide +kernel
theorem dX2_findDepths_25 : decode cX2_findDepths 25 = .ok (.if_icmp .ge 74, 3) := by decide +kernel
theorem dX2_findDepths_28 : decode cX2_findDepths 28 = .ok (.iinc 3 1, 3) := by decide +kernel
theorem dX2_findDepths_31 : decode cX2_findDepths 31 = .ok (.iload_n 2, 1) := by decide +kernel
theorem dX2_findDepths_32 : decode cX2_findDepths 32 = .ok (.istore 4, 2) := by decide +kernel
theorem dX2_findDepths_34 : decode cX2_findDepths 34 = .ok (.iconst 0, 1) := by decide +kernel
theorem dX2_findDepths_35 : decode cX2_findDepths 35 = .ok (.istore 5, 2) := by decide +kernel
theorem dX2_findDepths_37 : decode cX2_findDepths 37 = .ok (.iload 5, 2) := by decide +kernel
theorem dX2_findDepths_39 : decode cX2_findDepths 39 = .ok (.aload_n 0, 1) := by decide +kernel
theorem dX2_findDepths_40 : decode cX2_findDepths 40 = .ok (.getfield 31, 3) := by decide +kernel
theorem dX2_findDepths_43 : decode cX2_findDepths 43 = .ok (.getfield 59, 3) := by decide +kernel
theorem dX2_findDepths_46 : decode cX2_findDepths 46 = .ok (.if_icmp .ge 50, 3) := by decide +kernel
theorem dX2_findDepths_49 : decode cX2_findDepths 49 = .ok (.iload 4, 2) := by decide +kernel
theorem dX2_findDepths_51 : decode cX2_findDepths 51 = .ok (.iload 5, 2) := by decide +kernel
theorem dX2_findDepths_53 : decode cX2_findDepths 53 = .ok (.invokestatic 52, 3) := by decide +kernel
theorem dX2_findDepths_56 : decode cX2_findDepths 56 = .ok (.ifCond .ne 34, 3) := by decide +kernel
theorem dX2_findDepths_59 : decode cX2_findDepths 59 = .ok (.aload_n 0, 1) := by decide +kernel
theorem dX2_findDepths_60 : decode cX2_findDepths 60 = .ok (.getfield 15, 3) := by decide +kernel
theorem dX2_findDepths_63 : decode cX2_findDepths 63 = .ok (.iload 5, 2) := by decide +kernel
theorem dX2_findDepths_65 : decode cX2_findDepths 65 = .ok (.iaload, 1) := by decide +kernel
theorem dX2_findDepths_66 : decode cX2_findDepths 66 = .ok (.iload 4, 2) := by decide +kernel
theorem dX2_findDepths_68 : decode cX2_findDepths 68 = .ok (.iconst (-1), 1) := by decide +kernel
theorem dX2_findDepths_69 : decode cX2_findDepths 69 = .ok (.ixor, 1) := by decide +kernel
theorem dX2_findDepths_70 : decode cX2_findDepths 70 = .ok (.iand, 1) := by decide +kernel
theorem dX2_findDepths_71 : decode cX2_findDepths 71 = .ok (.ifCond .ne 19, 3) := by decide +kernel
theorem dX2_findDepths_74 : decode cX2_findDepths 74 = .ok (.aload_n 0, 1) := by decide +kernel
theorem dX2_findDepths_75 : decode cX2_findDepths 75 = .ok (.getfield 21, 3) := by decide +kernel
theorem dX2_findDepths_78 : decode cX2_findDepths 78 = .ok (.iload 5, 2) := by decide +kernel
theorem dX2_findDepths_80 : decode cX2_findDepths 80 = .ok (.iload_n 3, 1) := by decide +kernel
theorem dX2_findDepths_81 : decode cX2_findDepths 81 = .ok (.iastore, 1) := by decide +kernel
theorem dX2_findDepths_82 : decode cX2_findDepths 82 = .ok (.iload_n 2, 1) := by decide +kernel
theorem dX2_findDepths_83 : decode cX2_findDepths 83 = .ok (.iload 5, 2) := by decide +kernel
theorem dX2_findDepths_85 : decode cX2_findDepths 85 = .ok (.invokestatic 74, 3) := by decide +kernel
theorem dX2_findDepths_88 : decode cX2_findDepths 88 = .ok (.ior, 1) := by decide +kernel
theorem dX2_findDepths_89 : decode cX2_findDepths 89 = .ok (.istore_n 2, 1) := by decide +kernel
theorem dX2_findDepths_90 : decode cX2_findDepths 90 = .ok (.iinc 5 1, 3) := by decide +kernel
theorem dX2_findDepths_93 : decode cX2_findDepths 93 = .ok (.goto (-56), 3) := by decide +kernel
theorem dX2_findDepths_96 : decode cX2_findDepths 96 = .ok (.goto (-84), 3) := by decide +kernel
theorem dX2_findDepths_99 : decode cX2_findDepths 99 = .ok (.aload_n 0, 1) := by decide +kernel
theorem dX2_findDepths_100 : decode cX2_findDepths 100 = .ok (.iload_n 3, 1) := by decide +kernel
theorem dX2_findDepths_101 : decode cX2_findDepths 101 = .ok (.putfield 24, 3) := by decide +kernel
theorem dX2_findDepths_104 : decode cX2_findDepths 104 = .ok (.return_, 1) := by decide +kernel
theorem dX3_init_0 : decode cX3_init 0 = .ok (.aload_n 0, 1) := by decide +kernel
theorem dX3_init_1 : decode cX3_init 1 = .ok (.invokespecial 3, 3) := by decide +kernel
theorem dX3_init_4 : decode cX3_init 4 = .ok (.aload_n 0, 1) := by decide +kernel
theorem dX3_init_5 : decode cX3_init 5 = .ok (.bipush 10, 2) := by decide +kernel
theorem dX3_init_7 : decode cX3_init 7 = .ok (.newarray .int, 2) := by decide +kernel
theorem dX3_init_9 : decode cX3_init 9 = .ok (.putfield 9, 3) := by decide +kernel
theorem dX3_init_12 : decode cX3_init 12 = .ok (.aload_n 0, 1) := by decide +kernel
theorem dX3_init_13 : decode cX3_init 13 = .ok (.bipush 10, 2) := by decide +kernel
theorem dX3_init_15 : decode cX3_init 15 = .ok (.newarray .int, 2) := by decide +kernel
theorem dX3_init_17 : decode cX3_init 17 = .ok (.putfield 15, 3) := by decide +kernel
theorem dX3_init_20 : decode cX3_init 20 = .ok (.aload_n 0, 1) := by decide +kernel
theorem dX3_init_21 : decode cX3_init 21 = .ok (.iconst 0, 1) := by decide +kernel
theorem dX3_init_22 : decode cX3_init 22 = .ok (.putfield 18, 3) := by decide +kernel
theorem dX3_init_25 : decode cX3_init 25 = .ok (.aload_n 0, 1) := by decide +kernel
theorem dX3_init_26 : decode cX3_init 26 = .ok (.aload_n 1, 1) := by decide +kernel
theorem dX3_init_27 : decode cX3_init 27 = .ok (.putfield 22, 3) := by decide +kernel
theorem dX3_init_30 : decode cX3_init 30 = .ok (.return_, 1) := by decide +kernel
theorem dX3_jobAt_0 : decode cX3_jobAt 0 = .ok (.iload_n 1, 1) := by decide +kernel
theorem dX3_jobAt_1 : decode cX3_jobAt 1 = .ok (.aload_n 0, 1) := by decide +kernel
theorem dX3_jobAt_2 : decode cX3_jobAt 2 = .ok (.getfield 18, 3) := by decide +kernel
theorem dX3_jobAt_5 : decode cX3_jobAt 5 = .ok (.if_icmp .ge 12, 3) := by decide +kernel
theorem dX3_jobAt_8 : decode cX3_jobAt 8 = .ok (.aload_n 0, 1) := by decide +kernel
theorem dX3_jobAt_9 : decode cX3_jobAt 9 = .ok (.getfield 9, 3) := by decide +kernel
theorem dX3_jobAt_12 : decode cX3_jobAt 12 = .ok (.iload_n 1, 1) := by decide +kernel
theorem dX3_jobAt_13 : decode cX3_jobAt 13 = .ok (.iaload, 1) := by decide +kernel
theorem dX3_jobAt_14 : decode cX3_jobAt 14 = .ok (.goto 5, 3) := by decide +kernel
theorem dX3_jobAt_17 : decode cX3_jobAt 17 = .ok (.bipush (-3), 2) := by decide +kernel
theorem dX3_jobAt_19 : decode cX3_jobAt 19 = .ok (.ireturn, 1) := by decide +kernel
theorem dX3_close_0 : decode cX3_close 0 = .ok (.aload_n 0, 1) := by decide +kernel
theorem dX3_close_1 : decode cX3_close 1 = .ok (.getfield 9, 3) := by decide +kernel
theorem dX3_close_4 : decode cX3_close 4 = .ok (.iconst 0, 1) := by decide +kernel
theorem dX3_close_5 : decode cX3_close 5 = .ok (.iload_n 1, 1) := by decide +kernel
theorem dX3_close_6 : decode cX3_close 6 = .ok (.iastore, 1) := by decide +kernel
theorem dX3_close_7 : decode cX3_close 7 = .ok (.aload_n 0, 1) := by decide +kernel
theorem dX3_close_8 : decode cX3_close 8 = .ok (.iconst 1, 1) := by decide +kernel
theorem dX3_close_9 : decode cX3_close 9 = .ok (.putfield 18, 3) := by decide +kernel
theorem dX3_close_12 : decode cX3_close 12 = .ok (.iload_n 1, 1) := by decide +kernel
theorem dX3_close_13 : decode cX3_close 13 = .ok (.iload_n 2, 1) := by decide +kernel
theorem dX3_close_14 : decode cX3_close 14 = .ok (.if_icmp .ne 4, 3) := by decide +kernel
theorem dX3_close_17 : decode cX3_close 17 = .ok (.return_, 1) := by decide +kernel
theorem dX3_close_18 : decode cX3_close 18 = .ok (.aload_n 0, 1) := by decide +kernel
theorem dX3_close_19 : decode cX3_close 19 = .ok (.iload_n 1, 1) := by decide +kernel
theorem dX3_close_20 : decode cX3_close 20 = .ok (.invokevirtual 26, 3) := by decide +kernel
theorem dX3_close_23 : decode cX3_close 23 = .ok (.iload_n 2, 1) := by decide +kernel
theorem dX3_close_24 : decode cX3_close 24 = .ok (.istore_n 3, 1) := by decide +kernel
theorem dX3_close_25 : decode cX3_close 25 = .ok (.aload_n 0, 1) := by decide +kernel
theorem dX3_close_26 : decode cX3_close 26 = .ok (.getfield 15, 3) := by decide +kernel
theorem dX3_close_29 : decode cX3_close 29 = .ok (.iload_n 2, 1) := by decide +kernel
theorem dX3_close_30 : decode cX3_close 30 = .ok (.iaload, 1) := by decide +kernel
theorem dX3_close_31 : decode cX3_close 31 = .ok (.istore 4, 2) := by decide +kernel
theorem dX3_close_33 : decode cX3_close 33 = .ok (.iload 4, 2) := by decide +kernel
theorem dX3_close_35 : decode cX3_close 35 = .ok (.ifCond .le 48, 3) := by decide +kernel
theorem dX3_close_38 : decode cX3_close 38 = .ok (.aload_n 0, 1) := by decide +kernel
theorem dX3_close_39 : decode cX3_close 39 = .ok (.getfield 18, 3) := by decide +kernel
theorem dX3_close_42 : decode cX3_close 42 = .ok (.bipush 10, 2) := by decide +kernel
theorem dX3_close_44 : decode cX3_close 44 = .ok (.if_icmp .ge 39, 3) := by decide +kernel
theorem dX3_close_47 : decode cX3_close 47 = .ok (.aload_n 0, 1) := by decide +kernel
theorem dX3_close_48 : decode cX3_close 48 = .ok (.getfield 9, 3) := by decide +kernel
theorem dX3_close_51 : decode cX3_close 51 = .ok (.aload_n 0, 1) := by decide +kernel
theorem dX3_close_52 : decode cX3_close 52 = .ok (.getfield 18, 3) := by decide +kernel
theorem dX3_close_55 : decode cX3_close 55 = .ok (.iload_n 3, 1) := by decide +kernel
theorem dX3_close_56 : decode cX3_close 56 = .ok (.iastore, 1) := by decide +kernel
theorem dX3_close_57 : decode cX3_close 57 = .ok (.aload_n 0, 1) := by decide +kernel
theorem dX3_close_58 : decode cX3_close 58 = .ok (.dup, 1) := by decide +kernel
theorem dX3_close_59 : decode cX3_close 59 = .ok (.getfield 18, 3) := by decide +kernel
theorem dX3_close_62 : decode cX3_close 62 = .ok (.iconst 1, 1) := by decide +kernel
theorem dX3_close_63 : decode cX3_close 63 = .ok (.iadd, 1) := by decide +kernel
theorem dX3_close_64 : decode cX3_close 64 = .ok (.putfield 18, 3) := by decide +kernel
theorem dX3_close_67 : decode cX3_close 67 = .ok (.aload_n 0, 1) := by decide +kernel
theorem dX3_close_68 : decode cX3_close 68 = .ok (.iload_n 3, 1) := by decide +kernel
theorem dX3_close_69 : decode cX3_close 69 = .ok (.iload 4, 2) := by decide +kernel
theorem dX3_close_71 : decode cX3_close 71 = .ok (.iconst 1, 1) := by decide +kernel
theorem dX3_close_72 : decode cX3_close 72 = .ok (.isub, 1) := by decide +kernel
theorem dX3_close_73 : decode cX3_close 73 = .ok (.invokevirtual 30, 3) := by decide +kernel
theorem dX3_close_76 : decode cX3_close 76 = .ok (.istore_n 3, 1) := by decide +kernel
theorem dX3_close_77 : decode cX3_close 77 = .ok (.iinc 4 (-1), 3) := by decide +kernel
theorem dX3_close_80 : decode cX3_close 80 = .ok (.goto (-47), 3) := by decide +kernel
theorem dX3_close_83 : decode cX3_close 83 = .ok (.return_, 1) := by decide +kernel
theorem dX3_measure_0 : decode cX3_measure 0 = .ok (.aload_n 0, 1) := by decide +kernel
theorem dX3_measure_1 : decode cX3_measure 1 = .ok (.getfield 15, 3) := by decide +kernel
theorem dX3_measure_4 : decode cX3_measure 4 = .ok (.iconst 0, 1) := by decide +kernel
theorem dX3_measure_5 : decode cX3_measure 5 = .ok (.invokestatic 34, 3) := by decide +kernel
theorem dX3_measure_8 : decode cX3_measure 8 = .ok (.iload_n 1, 1) := by decide +kernel
theorem dX3_measure_9 : decode cX3_measure 9 = .ok (.invokestatic 40, 3) := by decide +kernel
theorem dX3_measure_12 : decode cX3_measure 12 = .ok (.istore_n 2, 1) := by decide +kernel
theorem dX3_measure_13 : decode cX3_measure 13 = .ok (.iconst 1, 1) := by decide +kernel
theorem dX3_measure_14 : decode cX3_measure 14 = .ok (.istore_n 3, 1) := by decide +kernel
theorem dX3_measure_15 : decode cX3_measure 15 = .ok (.iload_n 3, 1) := by decide +kernel
theorem dX3_measure_16 : decode cX3_measure 16 = .ok (.aload_n 0, 1) := by decide +kernel
theorem dX3_measure_17 : decode cX3_measure 17 = .ok (.getfield 22, 3) := by decide +kernel
theorem dX3_measure_20 : decode cX3_measure 20 = .ok (.getfield 44, 3) := by decide +kernel
theorem dX3_measure_23 : decode cX3_measure 23 = .ok (.if_icmp .ge 78, 3) := by decide +kernel
theorem dX3_measure_26 : decode cX3_measure 26 = .ok (.iload_n 2, 1) := by decide +kernel
theorem dX3_measure_27 : decode cX3_measure 27 = .ok (.istore 4, 2) := by decide +kernel
theorem dX3_measure_29 : decode cX3_measure 29 = .ok (.iconst 0, 1) := by decide +kernel
theorem dX3_measure_30 : decode cX3_measure 30 = .ok (.istore 5, 2) := by decide +kernel
theorem dX3_measure_32 : decode cX3_measure 32 = .ok (.iload 5, 2) := by decide +kernel
theorem dX3_measure_34 : decode cX3_measure 34 = .ok (.aload_n 0, 1) := by decide +kernel
theorem dX3_measure_35 : decode cX3_measure 35 = .ok (.getfield 22, 3) := by decide +kernel
theorem dX3_measure_38 : decode cX3_measure 38 = .ok (.getfield 44, 3) := by decide +kernel
theorem dX3_measure_41 : decode cX3_measure 41 = .ok (.if_icmp .ge 51, 3) := by decide +kernel
theorem dX3_measure_44 : decode cX3_measure 44 = .ok (.iload_n 2, 1) := by decide +kernel
theorem dX3_measure_45 : decode cX3_measure 45 = .ok (.iload 5, 2) := by decide +kernel
theorem dX3_measure_47 : decode cX3_measure 47 = .ok (.invokestatic 49, 3) := by decide +kernel
theorem dX3_measure_50 : decode cX3_measure 50 = .ok (.ifCond .ne 36, 3) := by decide +kernel
theorem dX3_measure_53 : decode cX3_measure 53 = .ok (.aload_n 0, 1) := by decide +kernel
theorem dX3_measure_54 : decode cX3_measure 54 = .ok (.getfield 22, 3) := by decide +kernel
theorem dX3_measure_57 : decode cX3_measure 57 = .ok (.getfield 53, 3) := by decide +kernel
theorem dX3_measure_60 : decode cX3_measure 60 = .ok (.iload 5, 2) := by decide +kernel
theorem dX3_measure_62 : decode cX3_measure 62 = .ok (.iaload, 1) := by decide +kernel
theorem dX3_measure_63 : decode cX3_measure 63 = .ok (.iload_n 2, 1) := by decide +kernel
theorem dX3_measure_64 : decode cX3_measure 64 = .ok (.iand, 1) := by decide +kernel
theorem dX3_measure_65 : decode cX3_measure 65 = .ok (.ifCond .eq 21, 3) := by decide +kernel
theorem dX3_measure_68 : decode cX3_measure 68 = .ok (.aload_n 0, 1) := by decide +kernel
theorem dX3_measure_69 : decode cX3_measure 69 = .ok (.getfield 15, 3) := by decide +kernel
theorem dX3_measure_72 : decode cX3_measure 72 = .ok (.iload 5, 2) := by decide +kernel
theorem dX3_measure_74 : decode cX3_measure 74 = .ok (.iload_n 3, 1) := by decide +kernel
theorem dX3_measure_75 : decode cX3_measure 75 = .ok (.iastore, 1) := by decide +kernel
theorem dX3_measure_76 : decode cX3_measure 76 = .ok (.iload 4, 2) := by decide +kernel
theorem dX3_measure_78 : decode cX3_measure 78 = .ok (.iload 5, 2) := by decide +kernel
theorem dX3_measure_80 : decode cX3_measure 80 = .ok (.invokestatic 40, 3) := by decide +kernel
theorem dX3_measure_83 : decode cX3_measure 83 = .ok (.ior, 1) := by decide +kernel
theorem dX3_measure_84 : decode cX3_measure 84 = .ok (.istore 4, 2) := by decide +kernel
theorem dX3_measure_86 : decode cX3_measure 86 = .ok (.iinc 5 1, 3) := by decide +kernel
theorem dX3_measure_89 : decode cX3_measure 89 = .ok (.goto (-57), 3) := by decide +kernel
theorem dX3_measure_92 : decode cX3_measure 92 = .ok (.iload 4, 2) := by decide +kernel
theorem dX3_measure_94 : decode cX3_measure 94 = .ok (.istore_n 2, 1) := by decide +kernel
theorem dX3_measure_95 : decode cX3_measure 95 = .ok (.iinc 3 1, 3) := by decide +kernel
theorem dX3_measure_98 : decode cX3_measure 98 = .ok (.goto (-83), 3) := by decide +kernel
theorem dX3_measure_101 : decode cX3_measure 101 = .ok (.return_, 1) := by decide +kernel
theorem dX3_firstNearer_0 : decode cX3_firstNearer 0 = .ok (.iconst 0, 1) := by decide +kernel
theorem dX3_firstNearer_1 : decode cX3_firstNearer 1 = .ok (.istore_n 3, 1) := by decide +kernel
theorem dX3_firstNearer_2 : decode cX3_firstNearer 2 = .ok (.iload_n 3, 1) := by decide +kernel
theorem dX3_firstNearer_3 : decode cX3_firstNearer 3 = .ok (.aload_n 0, 1) := by decide +kernel
theorem dX3_firstNearer_4 : decode cX3_firstNearer 4 = .ok (.getfield 22, 3) := by decide +kernel
theorem dX3_firstNearer_7 : decode cX3_firstNearer 7 = .ok (.getfield 44, 3) := by decide +kernel
theorem dX3_firstNearer_10 : decode cX3_firstNearer 10 = .ok (.if_icmp .ge 37, 3) := by decide +kernel
theorem dX3_firstNearer_13 : decode cX3_firstNearer 13 = .ok (.aload_n 0, 1) := by decide +kernel
theorem dX3_firstNearer_14 : decode cX3_firstNearer 14 = .ok (.getfield 22, 3) := by decide +kernel
theorem dX3_firstNearer_17 : decode cX3_firstNearer 17 = .ok (.getfield 53, 3) := by decide +kernel
theorem dX3_firstNearer_20 : decode cX3_firstNearer 20 = .ok (.iload_n 1, 1) := by decide +kernel
theorem dX3_firstNearer_21 : decode cX3_firstNearer 21 = .ok (.iaload, 1) := by decide +kernel
theorem dX3_firstNearer_22 : decode cX3_firstNearer 22 = .ok (.iload_n 3, 1) := by decide +kernel
theorem dX3_firstNearer_23 : decode cX3_firstNearer 23 = .ok (.invokestatic 49, 3) := by decide +kernel
theorem dX3_firstNearer_26 : decode cX3_firstNearer 26 = .ok (.ifCond .eq 15, 3) := by decide +kernel
theorem dX3_firstNearer_29 : decode cX3_firstNearer 29 = .ok (.aload_n 0, 1) := by decide +kernel
theorem dX3_firstNearer_30 : decode cX3_firstNearer 30 = .ok (.getfield 15, 3) := by decide +kernel
theorem dX3_firstNearer_33 : decode cX3_firstNearer 33 = .ok (.iload_n 3, 1) := by decide +kernel
theorem dX3_firstNearer_34 : decode cX3_firstNearer 34 = .ok (.iaload, 1) := by decide +kernel
theorem dX3_firstNearer_35 : decode cX3_firstNearer 35 = .ok (.iload_n 2, 1) := by decide +kernel
theorem dX3_firstNearer_36 : decode cX3_firstNearer 36 = .ok (.if_icmp .ne 5, 3) := by decide +kernel
theorem dX3_firstNearer_39 : decode cX3_firstNearer 39 = .ok (.iload_n 3, 1) := by decide +kernel
theorem dX3_firstNearer_40 : decode cX3_firstNearer 40 = .ok (.ireturn, 1) := by decide +kernel
theorem dX3_firstNearer_41 : decode cX3_firstNearer 41 = .ok (.iinc 3 1, 3) := by decide +kernel
theorem dX3_firstNearer_44 : decode cX3_firstNearer 44 = .ok (.goto (-42), 3) := by decide +kernel
theorem dX3_firstNearer_47 : decode cX3_firstNearer 47 = .ok (.iload_n 1, 1) := by decide +kernel
theorem dX3_firstNearer_48 : decode cX3_firstNearer 48 = .ok (.ireturn, 1) := by decide +kernel
theorem dX4_init_0 : decode cX4_init 0 = .ok (.aload_n 0, 1) := by decide +kernel
theorem dX4_init_1 : decode cX4_init 1 = .ok (.invokespecial 3, 3) := by decide +kernel
theorem dX4_init_4 : decode cX4_init 4 = .ok (.aload_n 0, 1) := by decide +kernel
theorem dX4_init_5 : decode cX4_init 5 = .ok (.bipush 16, 2) := by decide +kernel
theorem dX4_init_7 : decode cX4_init 7 = .ok (.newarray .int, 2) := by decide +kernel
theorem dX4_init_9 : decode cX4_init 9 = .ok (.putfield 9, 3) := by decide +kernel
theorem dX4_init_12 : decode cX4_init 12 = .ok (.aload_n 0, 1) := by decide +kernel
theorem dX4_init_13 : decode cX4_init 13 = .ok (.iconst (-1), 1) := by decide +kernel
theorem dX4_init_14 : decode cX4_init 14 = .ok (.putfield 15, 3) := by decide +kernel
theorem dX4_init_17 : decode cX4_init 17 = .ok (.aload_n 0, 1) := by decide +kernel
theorem dX4_init_18 : decode cX4_init 18 = .ok (.iconst 0, 1) := by decide +kernel
theorem dX4_init_19 : decode cX4_init 19 = .ok (.putfield 19, 3) := by decide +kernel
theorem dX4_init_22 : decode cX4_init 22 = .ok (.return_, 1) := by decide +kernel
theorem dX4_become_0 : decode cX4_become 0 = .ok (.aload_n 0, 1) := by decide +kernel
theorem dX4_become_1 : decode cX4_become 1 = .ok (.iload_n 1, 1) := by decide +kernel
theorem dX4_become_2 : decode cX4_become 2 = .ok (.putfield 15, 3) := by decide +kernel
theorem dX4_become_5 : decode cX4_become 5 = .ok (.aload_n 0, 1) := by decide +kernel
theorem dX4_become_6 : decode cX4_become 6 = .ok (.iload_n 2, 1) := by decide +kernel
theorem dX4_become_7 : decode cX4_become 7 = .ok (.putfield 19, 3) := by decide +kernel
theorem dX4_become_10 : decode cX4_become 10 = .ok (.aload_n 0, 1) := by decide +kernel
theorem dX4_become_11 : decode cX4_become 11 = .ok (.getfield 9, 3) := by decide +kernel
theorem dX4_become_14 : decode cX4_become 14 = .ok (.iconst 0, 1) := by decide +kernel
theorem dX4_become_15 : decode cX4_become 15 = .ok (.invokestatic 22, 3) := by decide +kernel
theorem dX4_become_18 : decode cX4_become 18 = .ok (.return_, 1) := by decide +kernel
theorem dX4_isMissing_0 : decode cX4_isMissing 0 = .ok (.aload_n 0, 1) := by decide +kernel
theorem dX4_isMissing_1 : decode cX4_isMissing 1 = .ok (.getfield 15, 3) := by decide +kernel
theorem dX4_isMissing_4 : decode cX4_isMissing 4 = .ok (.iconst (-1), 1) := by decide +kernel
theorem dX4_isMissing_5 : decode cX4_isMissing 5 = .ok (.if_icmp .ne 7, 3) := by decide +kernel
theorem dX4_isMissing_8 : decode cX4_isMissing 8 = .ok (.iconst 1, 1) := by decide +kernel
theorem dX4_isMissing_9 : decode cX4_isMissing 9 = .ok (.goto 4, 3) := by decide +kernel
theorem dX4_isMissing_12 : decode cX4_isMissing 12 = .ok (.iconst 0, 1) := by decide +kernel
theorem dX4_isMissing_13 : decode cX4_isMissing 13 = .ok (.ireturn, 1) := by decide +kernel
theorem dX4_hasPlaces_0 : decode cX4_hasPlaces 0 = .ok (.iload_n 1, 1) := by decide +kernel
theorem dX4_hasPlaces_1 : decode cX4_hasPlaces 1 = .ok (.ifCond .lt 21, 3) := by decide +kernel
theorem dX4_hasPlaces_4 : decode cX4_hasPlaces 4 = .ok (.iload_n 2, 1) := by decide +kernel
theorem dX4_hasPlaces_5 : decode cX4_hasPlaces 5 = .ok (.ifCond .lt 17, 3) := by decide +kernel
theorem dX4_hasPlaces_8 : decode cX4_hasPlaces 8 = .ok (.iload_n 1, 1) := by decide +kernel
theorem dX4_hasPlaces_9 : decode cX4_hasPlaces 9 = .ok (.aload_n 0, 1) := by decide +kernel
theorem dX4_hasPlaces_10 : decode cX4_hasPlaces 10 = .ok (.getfield 19, 3) := by decide +kernel
theorem dX4_hasPlaces_13 : decode cX4_hasPlaces 13 = .ok (.iload_n 2, 1) := by decide +kernel
theorem dX4_hasPlaces_14 : decode cX4_hasPlaces 14 = .ok (.isub, 1) := by decide +kernel
theorem dX4_hasPlaces_15 : decode cX4_hasPlaces 15 = .ok (.if_icmp .gt 7, 3) := by decide +kernel
theorem dX4_hasPlaces_18 : decode cX4_hasPlaces 18 = .ok (.iconst 1, 1) := by decide +kernel
theorem dX4_hasPlaces_19 : decode cX4_hasPlaces 19 = .ok (.goto 4, 3) := by decide +kernel
theorem dX4_hasPlaces_22 : decode cX4_hasPlaces 22 = .ok (.iconst 0, 1) := by decide +kernel
theorem dX4_hasPlaces_23 : decode cX4_hasPlaces 23 = .ok (.ireturn, 1) := by decide +kernel
theorem dX4_write_0 : decode cX4_write 0 = .ok (.aload_n 0, 1) := by decide +kernel
theorem dX4_write_1 : decode cX4_write 1 = .ok (.getfield 9, 3) := by decide +kernel
theorem dX4_write_4 : decode cX4_write 4 = .ok (.iload_n 1, 1) := by decide +kernel
theorem dX4_write_5 : decode cX4_write 5 = .ok (.aload_n 0, 1) := by decide +kernel
theorem dX4_write_6 : decode cX4_write 6 = .ok (.iload_n 2, 1) := by decide +kernel
theorem dX4_write_7 : decode cX4_write 7 = .ok (.invokevirtual 28, 3) := by decide +kernel
theorem dX4_write_10 : decode cX4_write 10 = .ok (.iastore, 1) := by decide +kernel
theorem dX4_write_11 : decode cX4_write 11 = .ok (.return_, 1) := by decide +kernel
theorem dX4_cut_0 : decode cX4_cut 0 = .ok (.aload_n 0, 1) := by decide +kernel
theorem dX4_cut_1 : decode cX4_cut 1 = .ok (.getfield 15, 3) := by decide +kernel
theorem dX4_cut_4 : decode cX4_cut 4 = .ok (.lookupswitch 34 #[(0, 28), (1, 31)], 28) := by decide +kernel
theorem dX4_cut_32 : decode cX4_cut 32 = .ok (.iload_n 1, 1) := by decide +kernel
theorem dX4_cut_33 : decode cX4_cut 33 = .ok (.i2b, 1) := by decide +kernel
theorem dX4_cut_34 : decode cX4_cut 34 = .ok (.ireturn, 1) := by decide +kernel
theorem dX4_cut_35 : decode cX4_cut 35 = .ok (.iload_n 1, 1) := by decide +kernel
theorem dX4_cut_36 : decode cX4_cut 36 = .ok (.i2s, 1) := by decide +kernel
theorem dX4_cut_37 : decode cX4_cut 37 = .ok (.ireturn, 1) := by decide +kernel
theorem dX4_cut_38 : decode cX4_cut 38 = .ok (.iload_n 1, 1) := by decide +kernel
theorem dX4_cut_39 : decode cX4_cut 39 = .ok (.ireturn, 1) := by decide +kernel
theorem dX5_init_0 : decode cX5_init 0 = .ok (.aload_n 0, 1) := by decide +kernel
theorem dX5_init_1 : decode cX5_init 1 = .ok (.invokespecial 3, 3) := by decide +kernel
theorem dX5_init_4 : decode cX5_init 4 = .ok (.aload_n 0, 1) := by decide +kernel
theorem dX5_init_5 : decode cX5_init 5 = .ok (.bipush 10, 2) := by decide +kernel
theorem dX5_init_7 : decode cX5_init 7 = .ok (.newarray .int, 2) := by decide +kernel
theorem dX5_init_9 : decode cX5_init 9 = .ok (.putfield 9, 3) := by decide +kernel
theorem dX5_init_12 : decode cX5_init 12 = .ok (.aload_n 0, 1) := by decide +kernel
theorem dX5_init_13 : decode cX5_init 13 = .ok (.bipush 11, 2) := by decide +kernel
theorem dX5_init_15 : decode cX5_init 15 = .ok (.newarray .int, 2) := by decide +kernel
theorem dX5_init_17 : decode cX5_init 17 = .ok (.putfield 15, 3) := by decide +kernel
theorem dX5_init_20 : decode cX5_init 20 = .ok (.aload_n 0, 1) := by decide +kernel
theorem dX5_init_21 : decode cX5_init 21 = .ok (.bipush 11, 2) := by decide +kernel
theorem dX5_init_23 : decode cX5_init 23 = .ok (.newarray .int, 2) := by decide +kernel
theorem dX5_init_25 : decode cX5_init 25 = .ok (.putfield 18, 3) := by decide +kernel
theorem dX5_init_28 : decode cX5_init 28 = .ok (.aload_n 0, 1) := by decide +kernel
theorem dX5_init_29 : decode cX5_init 29 = .ok (.bipush 11, 2) := by decide +kernel
theorem dX5_init_31 : decode cX5_init 31 = .ok (.newarray .int, 2) := by decide +kernel
theorem dX5_init_33 : decode cX5_init 33 = .ok (.putfield 21, 3) := by decide +kernel
theorem dX5_init_36 : decode cX5_init 36 = .ok (.aload_n 0, 1) := by decide +kernel
theorem dX5_init_37 : decode cX5_init 37 = .ok (.bipush 10, 2) := by decide +kernel
theorem dX5_init_39 : decode cX5_init 39 = .ok (.newarray .int, 2) := by decide +kernel
theorem dX5_init_41 : decode cX5_init 41 = .ok (.putfield 24, 3) := by decide +kernel
theorem dX5_init_44 : decode cX5_init 44 = .ok (.aload_n 0, 1) := by decide +kernel
theorem dX5_init_45 : decode cX5_init 45 = .ok (.iconst 0, 1) := by decide +kernel
theorem dX5_init_46 : decode cX5_init 46 = .ok (.putfield 27, 3) := by decide +kernel
theorem dX5_init_49 : decode cX5_init 49 = .ok (.aload_n 0, 1) := by decide +kernel
theorem dX5_init_50 : decode cX5_init 50 = .ok (.iconst 0, 1) := by decide +kernel
theorem dX5_init_51 : decode cX5_init 51 = .ok (.putfield 31, 3) := by decide +kernel
theorem dX5_init_54 : decode cX5_init 54 = .ok (.aload_n 0, 1) := by decide +kernel
theorem dX5_init_55 : decode cX5_init 55 = .ok (.iconst 0, 1) := by decide +kernel
theorem dX5_init_56 : decode cX5_init 56 = .ok (.putfield 34, 3) := by decide +kernel
theorem dX5_init_59 : decode cX5_init 59 = .ok (.aload_n 0, 1) := by decide +kernel
theorem dX5_init_60 : decode cX5_init 60 = .ok (.bipush 20, 2) := by decide +kernel
theorem dX5_init_62 : decode cX5_init 62 = .ok (.newarray .int, 2) := by decide +kernel
theorem dX5_init_64 : decode cX5_init 64 = .ok (.putfield 37, 3) := by decide +kernel
theorem dX5_init_67 : decode cX5_init 67 = .ok (.aload_n 0, 1) := by decide +kernel
theorem dX5_init_68 : decode cX5_init 68 = .ok (.bipush 20, 2) := by decide +kernel
theorem dX5_init_70 : decode cX5_init 70 = .ok (.newarray .int, 2) := by decide +kernel
theorem dX5_init_72 : decode cX5_init 72 = .ok (.putfield 40, 3) := by decide +kernel
theorem dX5_init_75 : decode cX5_init 75 = .ok (.aload_n 0, 1) := by decide +kernel
theorem dX5_init_76 : decode cX5_init 76 = .ok (.getfield 15, 3) := by decide +kernel
theorem dX5_init_79 : decode cX5_init 79 = .ok (.iconst 1, 1) := by decide +kernel
theorem dX5_init_80 : decode cX5_init 80 = .ok (.invokestatic 43, 3) := by decide +kernel
theorem dX5_init_83 : decode cX5_init 83 = .ok (.aload_n 0, 1) := by decide +kernel
theorem dX5_init_84 : decode cX5_init 84 = .ok (.getfield 18, 3) := by decide +kernel
theorem dX5_init_87 : decode cX5_init 87 = .ok (.bipush 64, 2) := by decide +kernel
theorem dX5_init_89 : decode cX5_init 89 = .ok (.invokestatic 43, 3) := by decide +kernel
theorem dX5_init_92 : decode cX5_init 92 = .ok (.aload_n 0, 1) := by decide +kernel
theorem dX5_init_93 : decode cX5_init 93 = .ok (.getfield 21, 3) := by decide +kernel
theorem dX5_init_96 : decode cX5_init 96 = .ok (.bipush (-3), 2) := by decide +kernel
theorem dX5_init_98 : decode cX5_init 98 = .ok (.invokestatic 43, 3) := by decide +kernel
theorem dX5_init_101 : decode cX5_init 101 = .ok (.return_, 1) := by decide +kernel
theorem dX5_has_0 : decode cX5_has 0 = .ok (.iload_n 1, 1) := by decide +kernel
theorem dX5_has_1 : decode cX5_has 1 = .ok (.ifCond .lt 15, 3) := by decide +kernel
theorem dX5_has_4 : decode cX5_has 4 = .ok (.iload_n 1, 1) := by decide +kernel
theorem dX5_has_5 : decode cX5_has 5 = .ok (.aload_n 0, 1) := by decide +kernel
theorem dX5_has_6 : decode cX5_has 6 = .ok (.getfield 27, 3) := by decide +kernel
theorem dX5_has_9 : decode cX5_has 9 = .ok (.if_icmp .ge 7, 3) := by decide +kernel
theorem dX5_has_12 : decode cX5_has 12 = .ok (.iconst 1, 1) := by decide +kernel
theorem dX5_has_13 : decode cX5_has 13 = .ok (.goto 4, 3) := by decide +kernel
theorem dX5_has_16 : decode cX5_has 16 = .ok (.iconst 0, 1) := by decide +kernel
theorem dX5_has_17 : decode cX5_has 17 = .ok (.ireturn, 1) := by decide +kernel
theorem dX5_all_0 : decode cX5_all 0 = .ok (.aload_n 0, 1) := by decide +kernel
theorem dX5_all_1 : decode cX5_all 1 = .ok (.getfield 27, 3) := by decide +kernel
theorem dX5_all_4 : decode cX5_all 4 = .ok (.invokestatic 49, 3) := by decide +kernel
theorem dX5_all_7 : decode cX5_all 7 = .ok (.iconst 1, 1) := by decide +kernel
theorem dX5_all_8 : decode cX5_all 8 = .ok (.isub, 1) := by decide +kernel
theorem dX5_all_9 : decode cX5_all 9 = .ok (.ireturn, 1) := by decide +kernel
theorem dX5_add_0 : decode cX5_add 0 = .ok (.aload_n 0, 1) := by decide +kernel
theorem dX5_add_1 : decode cX5_add 1 = .ok (.getfield 27, 3) := by decide +kernel
theorem dX5_add_4 : decode cX5_add 4 = .ok (.istore 4, 2) := by decide +kernel
theorem dX5_add_6 : decode cX5_add 6 = .ok (.aload_n 0, 1) := by decide +kernel
theorem dX5_add_7 : decode cX5_add 7 = .ok (.bipush 10, 2) := by decide +kernel
theorem dX5_add_9 : decode cX5_add 9 = .ok (.iconst 0, 1) := by decide +kernel
theorem dX5_add_10 : decode cX5_add 10 = .ok (.invokevirtual 53, 3) := by decide +kernel
theorem dX5_add_13 : decode cX5_add 13 = .ok (.aload_n 0, 1) := by decide +kernel
theorem dX5_add_14 : decode cX5_add 14 = .ok (.getfield 9, 3) := by decide +kernel
theorem dX5_add_17 : decode cX5_add 17 = .ok (.iload 4, 2) := by decide +kernel
theorem dX5_add_19 : decode cX5_add 19 = .ok (.iload_n 1, 1) := by decide +kernel
theorem dX5_add_20 : decode cX5_add 20 = .ok (.iastore, 1) := by decide +kernel
theorem dX5_add_21 : decode cX5_add 21 = .ok (.aload_n 0, 1) := by decide +kernel
theorem dX5_add_22 : decode cX5_add 22 = .ok (.getfield 15, 3) := by decide +kernel
theorem dX5_add_25 : decode cX5_add 25 = .ok (.iload 4, 2) := by decide +kernel
theorem dX5_add_27 : decode cX5_add 27 = .ok (.iload_n 1, 1) := by decide +kernel
theorem dX5_add_28 : decode cX5_add 28 = .ok (.iconst 2, 1) := by decide +kernel
theorem dX5_add_29 : decode cX5_add 29 = .ok (.if_icmp .ne 7, 3) := by decide +kernel
theorem dX5_add_32 : decode cX5_add 32 = .ok (.iload_n 2, 1) := by decide +kernel
theorem dX5_add_33 : decode cX5_add 33 = .ok (.goto 4, 3) := by decide +kernel
theorem dX5_add_36 : decode cX5_add 36 = .ok (.iconst 1, 1) := by decide +kernel
theorem dX5_add_37 : decode cX5_add 37 = .ok (.iastore, 1) := by decide +kernel
theorem dX5_add_38 : decode cX5_add 38 = .ok (.aload_n 0, 1) := by decide +kernel
theorem dX5_add_39 : decode cX5_add 39 = .ok (.getfield 18, 3) := by decide +kernel
theorem dX5_add_42 : decode cX5_add 42 = .ok (.iload 4, 2) := by decide +kernel
theorem dX5_add_44 : decode cX5_add 44 = .ok (.iload_n 1, 1) := by decide +kernel
theorem dX5_add_45 : decode cX5_add 45 = .ok (.iconst 2, 1) := by decide +kernel
theorem dX5_add_46 : decode cX5_add 46 = .ok (.if_icmp .ne 7, 3) := by decide +kernel
theorem dX5_add_49 : decode cX5_add 49 = .ok (.iload_n 3, 1) := by decide +kernel
theorem dX5_add_50 : decode cX5_add 50 = .ok (.goto 14, 3) := by decide +kernel
theorem dX5_add_53 : decode cX5_add 53 = .ok (.iload_n 1, 1) := by decide +kernel
theorem dX5_add_54 : decode cX5_add 54 = .ok (.iconst 1, 1) := by decide +kernel
theorem dX5_add_55 : decode cX5_add 55 = .ok (.if_icmp .ne 7, 3) := by decide +kernel
theorem dX5_add_58 : decode cX5_add 58 = .ok (.iload_n 2, 1) := by decide +kernel
theorem dX5_add_59 : decode cX5_add 59 = .ok (.goto 5, 3) := by decide +kernel
theorem dX5_add_62 : decode cX5_add 62 = .ok (.bipush 64, 2) := by decide +kernel
theorem dX5_add_64 : decode cX5_add 64 = .ok (.iastore, 1) := by decide +kernel
theorem dX5_add_65 : decode cX5_add 65 = .ok (.aload_n 0, 1) := by decide +kernel
theorem dX5_add_66 : decode cX5_add 66 = .ok (.getfield 21, 3) := by decide +kernel
theorem dX5_add_69 : decode cX5_add 69 = .ok (.iload 4, 2) := by decide +kernel
theorem dX5_add_71 : decode cX5_add 71 = .ok (.iload_n 1, 1) := by decide +kernel
theorem dX5_add_72 : decode cX5_add 72 = .ok (.iconst 3, 1) := by decide +kernel
theorem dX5_add_73 : decode cX5_add 73 = .ok (.if_icmp .ne 7, 3) := by decide +kernel
theorem dX5_add_76 : decode cX5_add 76 = .ok (.iload_n 2, 1) := by decide +kernel
theorem dX5_add_77 : decode cX5_add 77 = .ok (.goto 5, 3) := by decide +kernel
theorem dX5_add_80 : decode cX5_add 80 = .ok (.bipush (-3), 2) := by decide +kernel
theorem dX5_add_82 : decode cX5_add 82 = .ok (.iastore, 1) := by decide +kernel
theorem dX5_add_83 : decode cX5_add 83 = .ok (.aload_n 0, 1) := by decide +kernel
theorem dX5_add_84 : decode cX5_add 84 = .ok (.getfield 24, 3) := by decide +kernel
theorem dX5_add_87 : decode cX5_add 87 = .ok (.iload 4, 2) := by decide +kernel
theorem dX5_add_89 : decode cX5_add 89 = .ok (.iconst 0, 1) := by decide +kernel
theorem dX5_add_90 : decode cX5_add 90 = .ok (.iastore, 1) := by decide +kernel
theorem dX5_add_91 : decode cX5_add 91 = .ok (.aload_n 0, 1) := by decide +kernel
theorem dX5_add_92 : decode cX5_add 92 = .ok (.dup, 1) := by decide +kernel
theorem dX5_add_93 : decode cX5_add 93 = .ok (.getfield 27, 3) := by decide +kernel
theorem dX5_add_96 : decode cX5_add 96 = .ok (.iconst 1, 1) := by decide +kernel
theorem dX5_add_97 : decode cX5_add 97 = .ok (.iadd, 1) := by decide +kernel
theorem dX5_add_98 : decode cX5_add 98 = .ok (.putfield 27, 3) := by decide +kernel
theorem dX5_add_101 : decode cX5_add 101 = .ok (.iload 4, 2) := by decide +kernel
theorem dX5_add_103 : decode cX5_add 103 = .ok (.ireturn, 1) := by decide +kernel
theorem dX5_waitForMore_0 : decode cX5_waitForMore 0 = .ok (.iload_n 2, 1) := by decide +kernel
theorem dX5_waitForMore_1 : decode cX5_waitForMore 1 = .ok (.aload_n 0, 1) := by decide +kernel
theorem dX5_waitForMore_2 : decode cX5_waitForMore 2 = .ok (.getfield 24, 3) := by decide +kernel
theorem dX5_waitForMore_5 : decode cX5_waitForMore 5 = .ok (.iload_n 1, 1) := by decide +kernel
theorem dX5_waitForMore_6 : decode cX5_waitForMore 6 = .ok (.iaload, 1) := by decide +kernel
theorem dX5_waitForMore_7 : decode cX5_waitForMore 7 = .ok (.iconst (-1), 1) := by decide +kernel
theorem dX5_waitForMore_8 : decode cX5_waitForMore 8 = .ok (.ixor, 1) := by decide +kernel
theorem dX5_waitForMore_9 : decode cX5_waitForMore 9 = .ok (.iand, 1) := by decide +kernel
theorem dX5_waitForMore_10 : decode cX5_waitForMore 10 = .ok (.istore_n 3, 1) := by decide +kernel
theorem dX5_waitForMore_11 : decode cX5_waitForMore 11 = .ok (.iload_n 3, 1) := by decide +kernel
theorem dX5_waitForMore_12 : decode cX5_waitForMore 12 = .ok (.ifCond .eq 24, 3) := by decide +kernel
theorem dX5_waitForMore_15 : decode cX5_waitForMore 15 = .ok (.aload_n 0, 1) := by decide +kernel
theorem dX5_waitForMore_16 : decode cX5_waitForMore 16 = .ok (.iload_n 1, 1) := by decide +kernel
theorem dX5_waitForMore_17 : decode cX5_waitForMore 17 = .ok (.aload_n 0, 1) := by decide +kernel
theorem dX5_waitForMore_18 : decode cX5_waitForMore 18 = .ok (.getfield 24, 3) := by decide +kernel
theorem dX5_waitForMore_21 : decode cX5_waitForMore 21 = .ok (.iload_n 1, 1) := by decide +kernel
theorem dX5_waitForMore_22 : decode cX5_waitForMore 22 = .ok (.iaload, 1) := by decide +kernel
theorem dX5_waitForMore_23 : decode cX5_waitForMore 23 = .ok (.invokevirtual 53, 3) := by decide +kernel
theorem dX5_waitForMore_26 : decode cX5_waitForMore 26 = .ok (.aload_n 0, 1) := by decide +kernel
theorem dX5_waitForMore_27 : decode cX5_waitForMore 27 = .ok (.getfield 24, 3) := by decide +kernel
theorem dX5_waitForMore_30 : decode cX5_waitForMore 30 = .ok (.iload_n 1, 1) := by decide +kernel
theorem dX5_waitForMore_31 : decode cX5_waitForMore 31 = .ok (.dup2, 1) := by decide +kernel
theorem dX5_waitForMore_32 : decode cX5_waitForMore 32 = .ok (.iaload, 1) := by decide +kernel
theorem dX5_waitForMore_33 : decode cX5_waitForMore 33 = .ok (.iload_n 3, 1) := by decide +kernel
theorem dX5_waitForMore_34 : decode cX5_waitForMore 34 = .ok (.ior, 1) := by decide +kernel
theorem dX5_waitForMore_35 : decode cX5_waitForMore 35 = .ok (.iastore, 1) := by decide +kernel
theorem dX5_waitForMore_36 : decode cX5_waitForMore 36 = .ok (.iload_n 3, 1) := by decide +kernel
theorem dX5_waitForMore_37 : decode cX5_waitForMore 37 = .ok (.invokestatic 57, 3) := by decide +kernel
theorem dX5_waitForMore_40 : decode cX5_waitForMore 40 = .ok (.ireturn, 1) := by decide +kernel
theorem dX5_waitNoMore_0 : decode cX5_waitNoMore 0 = .ok (.aload_n 0, 1) := by decide +kernel
theorem dX5_waitNoMore_1 : decode cX5_waitNoMore 1 = .ok (.getfield 24, 3) := by decide +kernel
theorem dX5_waitNoMore_4 : decode cX5_waitNoMore 4 = .ok (.iload_n 1, 1) := by decide +kernel
theorem dX5_waitNoMore_5 : decode cX5_waitNoMore 5 = .ok (.iaload, 1) := by decide +kernel
theorem dX5_waitNoMore_6 : decode cX5_waitNoMore 6 = .ok (.iload_n 2, 1) := by decide +kernel
theorem dX5_waitNoMore_7 : decode cX5_waitNoMore 7 = .ok (.invokestatic 62, 3) := by decide +kernel
theorem dX5_waitNoMore_10 : decode cX5_waitNoMore 10 = .ok (.ifCond .ne 5, 3) := by decide +kernel
theorem dX5_waitNoMore_13 : decode cX5_waitNoMore 13 = .ok (.iconst 0, 1) := by decide +kernel
theorem dX5_waitNoMore_14 : decode cX5_waitNoMore 14 = .ok (.ireturn, 1) := by decide +kernel
theorem dX5_waitNoMore_15 : decode cX5_waitNoMore 15 = .ok (.aload_n 0, 1) := by decide +kernel
theorem dX5_waitNoMore_16 : decode cX5_waitNoMore 16 = .ok (.iload_n 1, 1) := by decide +kernel
theorem dX5_waitNoMore_17 : decode cX5_waitNoMore 17 = .ok (.aload_n 0, 1) := by decide +kernel
theorem dX5_waitNoMore_18 : decode cX5_waitNoMore 18 = .ok (.getfield 24, 3) := by decide +kernel
theorem dX5_waitNoMore_21 : decode cX5_waitNoMore 21 = .ok (.iload_n 1, 1) := by decide +kernel
theorem dX5_waitNoMore_22 : decode cX5_waitNoMore 22 = .ok (.iaload, 1) := by decide +kernel
theorem dX5_waitNoMore_23 : decode cX5_waitNoMore 23 = .ok (.invokevirtual 53, 3) := by decide +kernel
theorem dX5_waitNoMore_26 : decode cX5_waitNoMore 26 = .ok (.aload_n 0, 1) := by decide +kernel
theorem dX5_waitNoMore_27 : decode cX5_waitNoMore 27 = .ok (.getfield 24, 3) := by decide +kernel
theorem dX5_waitNoMore_30 : decode cX5_waitNoMore 30 = .ok (.iload_n 1, 1) := by decide +kernel
theorem dX5_waitNoMore_31 : decode cX5_waitNoMore 31 = .ok (.dup2, 1) := by decide +kernel
theorem dX5_waitNoMore_32 : decode cX5_waitNoMore 32 = .ok (.iaload, 1) := by decide +kernel
theorem dX5_waitNoMore_33 : decode cX5_waitNoMore 33 = .ok (.iload_n 2, 1) := by decide +kernel
theorem dX5_waitNoMore_34 : decode cX5_waitNoMore 34 = .ok (.invokestatic 49, 3) := by decide +kernel
theorem dX5_waitNoMore_37 : decode cX5_waitNoMore 37 = .ok (.iconst (-1), 1) := by decide +kernel
theorem dX5_waitNoMore_38 : decode cX5_waitNoMore 38 = .ok (.ixor, 1) := by decide +kernel
theorem dX5_waitNoMore_39 : decode cX5_waitNoMore 39 = .ok (.iand, 1) := by decide +kernel
theorem dX5_waitNoMore_40 : decode cX5_waitNoMore 40 = .ok (.iastore, 1) := by decide +kernel
theorem dX5_waitNoMore_41 : decode cX5_waitNoMore 41 = .ok (.iconst 1, 1) := by decide +kernel
theorem dX5_waitNoMore_42 : decode cX5_waitNoMore 42 = .ok (.ireturn, 1) := by decide +kernel
theorem dX5_takeBack_0 : decode cX5_takeBack 0 = .ok (.aload_n 0, 1) := by decide +kernel
theorem dX5_takeBack_1 : decode cX5_takeBack 1 = .ok (.getfield 31, 3) := by decide +kernel
theorem dX5_takeBack_4 : decode cX5_takeBack 4 = .ok (.ifCond .ne 5, 3) := by decide +kernel
theorem dX5_takeBack_7 : decode cX5_takeBack 7 = .ok (.iconst 0, 1) := by decide +kernel
theorem dX5_takeBack_8 : decode cX5_takeBack 8 = .ok (.ireturn, 1) := by decide +kernel
theorem dX5_takeBack_9 : decode cX5_takeBack 9 = .ok (.aload_n 0, 1) := by decide +kernel
theorem dX5_takeBack_10 : decode cX5_takeBack 10 = .ok (.dup, 1) := by decide +kernel
theorem dX5_takeBack_11 : decode cX5_takeBack 11 = .ok (.getfield 31, 3) := by decide +kernel
theorem dX5_takeBack_14 : decode cX5_takeBack 14 = .ok (.iconst 1, 1) := by decide +kernel
theorem dX5_takeBack_15 : decode cX5_takeBack 15 = .ok (.isub, 1) := by decide +kernel
theorem dX5_takeBack_16 : decode cX5_takeBack 16 = .ok (.putfield 31, 3) := by decide +kernel
theorem dX5_takeBack_19 : decode cX5_takeBack 19 = .ok (.aload_n 0, 1) := by decide +kernel
theorem dX5_takeBack_20 : decode cX5_takeBack 20 = .ok (.dup, 1) := by decide +kernel
theorem dX5_takeBack_21 : decode cX5_takeBack 21 = .ok (.getfield 34, 3) := by decide +kernel
theorem dX5_takeBack_24 : decode cX5_takeBack 24 = .ok (.iconst 1, 1) := by decide +kernel
theorem dX5_takeBack_25 : decode cX5_takeBack 25 = .ok (.iadd, 1) := by decide +kernel
theorem dX5_takeBack_26 : decode cX5_takeBack 26 = .ok (.putfield 34, 3) := by decide +kernel
theorem dX5_takeBack_29 : decode cX5_takeBack 29 = .ok (.aload_n 0, 1) := by decide +kernel
theorem dX5_takeBack_30 : decode cX5_takeBack 30 = .ok (.getfield 37, 3) := by decide +kernel
theorem dX5_takeBack_33 : decode cX5_takeBack 33 = .ok (.aload_n 0, 1) := by decide +kernel
theorem dX5_takeBack_34 : decode cX5_takeBack 34 = .ok (.getfield 31, 3) := by decide +kernel
theorem dX5_takeBack_37 : decode cX5_takeBack 37 = .ok (.iaload, 1) := by decide +kernel
theorem dX5_takeBack_38 : decode cX5_takeBack 38 = .ok (.istore_n 1, 1) := by decide +kernel
theorem dX5_takeBack_39 : decode cX5_takeBack 39 = .ok (.iload_n 1, 1) := by decide +kernel
theorem dX5_takeBack_40 : decode cX5_takeBack 40 = .ok (.bipush 10, 2) := by decide +kernel
theorem dX5_takeBack_42 : decode cX5_takeBack 42 = .ok (.if_icmp .ne 16, 3) := by decide +kernel
theorem dX5_takeBack_45 : decode cX5_takeBack 45 = .ok (.aload_n 0, 1) := by decide +kernel
theorem dX5_takeBack_46 : decode cX5_takeBack 46 = .ok (.dup, 1) := by decide +kernel
theorem dX5_takeBack_47 : decode cX5_takeBack 47 = .ok (.getfield 27, 3) := by decide +kernel
theorem dX5_takeBack_50 : decode cX5_takeBack 50 = .ok (.iconst 1, 1) := by decide +kernel
theorem dX5_takeBack_51 : decode cX5_takeBack 51 = .ok (.isub, 1) := by decide +kernel
theorem dX5_takeBack_52 : decode cX5_takeBack 52 = .ok (.putfield 27, 3) := by decide +kernel
theorem dX5_takeBack_55 : decode cX5_takeBack 55 = .ok (.goto 18, 3) := by decide +kernel
theorem dX5_takeBack_58 : decode cX5_takeBack 58 = .ok (.aload_n 0, 1) := by decide +kernel
theorem dX5_takeBack_59 : decode cX5_takeBack 59 = .ok (.getfield 24, 3) := by decide +kernel
theorem dX5_takeBack_62 : decode cX5_takeBack 62 = .ok (.iload_n 1, 1) := by decide +kernel
theorem dX5_takeBack_63 : decode cX5_takeBack 63 = .ok (.aload_n 0, 1) := by decide +kernel
theorem dX5_takeBack_64 : decode cX5_takeBack 64 = .ok (.getfield 40, 3) := by decide +kernel
theorem dX5_takeBack_67 : decode cX5_takeBack 67 = .ok (.aload_n 0, 1) := by decide +kernel
theorem dX5_takeBack_68 : decode cX5_takeBack 68 = .ok (.getfield 31, 3) := by decide +kernel
theorem dX5_takeBack_71 : decode cX5_takeBack 71 = .ok (.iaload, 1) := by decide +kernel
theorem dX5_takeBack_72 : decode cX5_takeBack 72 = .ok (.iastore, 1) := by decide +kernel
theorem dX5_takeBack_73 : decode cX5_takeBack 73 = .ok (.iconst 1, 1) := by decide +kernel
theorem dX5_takeBack_74 : decode cX5_takeBack 74 = .ok (.ireturn, 1) := by decide +kernel
theorem dX5_note_0 : decode cX5_note 0 = .ok (.aload_n 0, 1) := by decide +kernel
theorem dX5_note_1 : decode cX5_note 1 = .ok (.getfield 31, 3) := by decide +kernel
theorem dX5_note_4 : decode cX5_note 4 = .ok (.bipush 20, 2) := by decide +kernel
theorem dX5_note_6 : decode cX5_note 6 = .ok (.if_icmp .ne 47, 3) := by decide +kernel
theorem dX5_note_9 : decode cX5_note 9 = .ok (.aload_n 0, 1) := by decide +kernel
theorem dX5_note_10 : decode cX5_note 10 = .ok (.dup, 1) := by decide +kernel
theorem dX5_note_11 : decode cX5_note 11 = .ok (.getfield 31, 3) := by decide +kernel
theorem dX5_note_14 : decode cX5_note 14 = .ok (.iconst 1, 1) := by decide +kernel
theorem dX5_note_15 : decode cX5_note 15 = .ok (.isub, 1) := by decide +kernel
theorem dX5_note_16 : decode cX5_note 16 = .ok (.putfield 31, 3) := by decide +kernel
theorem dX5_note_19 : decode cX5_note 19 = .ok (.aload_n 0, 1) := by decide +kernel
theorem dX5_note_20 : decode cX5_note 20 = .ok (.getfield 37, 3) := by decide +kernel
theorem dX5_note_23 : decode cX5_note 23 = .ok (.iconst 1, 1) := by decide +kernel
theorem dX5_note_24 : decode cX5_note 24 = .ok (.aload_n 0, 1) := by decide +kernel
theorem dX5_note_25 : decode cX5_note 25 = .ok (.getfield 37, 3) := by decide +kernel
theorem dX5_note_28 : decode cX5_note 28 = .ok (.iconst 0, 1) := by decide +kernel
theorem dX5_note_29 : decode cX5_note 29 = .ok (.aload_n 0, 1) := by decide +kernel
theorem dX5_note_30 : decode cX5_note 30 = .ok (.getfield 31, 3) := by decide +kernel
theorem dX5_note_33 : decode cX5_note 33 = .ok (.invokestatic 66, 3) := by decide +kernel
theorem dX5_note_36 : decode cX5_note 36 = .ok (.aload_n 0, 1) := by decide +kernel
theorem dX5_note_37 : decode cX5_note 37 = .ok (.getfield 40, 3) := by decide +kernel
theorem dX5_note_40 : decode cX5_note 40 = .ok (.iconst 1, 1) := by decide +kernel
theorem dX5_note_41 : decode cX5_note 41 = .ok (.aload_n 0, 1) := by decide +kernel
theorem dX5_note_42 : decode cX5_note 42 = .ok (.getfield 40, 3) := by decide +kernel
theorem dX5_note_45 : decode cX5_note 45 = .ok (.iconst 0, 1) := by decide +kernel
theorem dX5_note_46 : decode cX5_note 46 = .ok (.aload_n 0, 1) := by decide +kernel
theorem dX5_note_47 : decode cX5_note 47 = .ok (.getfield 31, 3) := by decide +kernel
theorem dX5_note_50 : decode cX5_note 50 = .ok (.invokestatic 66, 3) := by decide +kernel
theorem dX5_note_53 : decode cX5_note 53 = .ok (.aload_n 0, 1) := by decide +kernel
theorem dX5_note_54 : decode cX5_note 54 = .ok (.getfield 37, 3) := by decide +kernel
theorem dX5_note_57 : decode cX5_note 57 = .ok (.aload_n 0, 1) := by decide +kernel
theorem dX5_note_58 : decode cX5_note 58 = .ok (.getfield 31, 3) := by decide +kernel
theorem dX5_note_61 : decode cX5_note 61 = .ok (.iload_n 1, 1) := by decide +kernel
theorem dX5_note_62 : decode cX5_note 62 = .ok (.iastore, 1) := by decide +kernel
theorem dX5_note_63 : decode cX5_note 63 = .ok (.aload_n 0, 1) := by decide +kernel
theorem dX5_note_64 : decode cX5_note 64 = .ok (.getfield 40, 3) := by decide +kernel
theorem dX5_note_67 : decode cX5_note 67 = .ok (.aload_n 0, 1) := by decide +kernel
theorem dX5_note_68 : decode cX5_note 68 = .ok (.getfield 31, 3) := by decide +kernel
theorem dX5_note_71 : decode cX5_note 71 = .ok (.iload_n 2, 1) := by decide +kernel
theorem dX5_note_72 : decode cX5_note 72 = .ok (.iastore, 1) := by decide +kernel
theorem dX5_note_73 : decode cX5_note 73 = .ok (.aload_n 0, 1) := by decide +kernel
theorem dX5_note_74 : decode cX5_note 74 = .ok (.dup, 1) := by decide +kernel
theorem dX5_note_75 : decode cX5_note 75 = .ok (.getfield 31, 3) := by decide +kernel
theorem dX5_note_78 : decode cX5_note 78 = .ok (.iconst 1, 1) := by decide +kernel
theorem dX5_note_79 : decode cX5_note 79 = .ok (.iadd, 1) := by decide +kernel
theorem dX5_note_80 : decode cX5_note 80 = .ok (.putfield 31, 3) := by decide +kernel
theorem dX5_note_83 : decode cX5_note 83 = .ok (.aload_n 0, 1) := by decide +kernel
theorem dX5_note_84 : decode cX5_note 84 = .ok (.dup, 1) := by decide +kernel
theorem dX5_note_85 : decode cX5_note 85 = .ok (.getfield 34, 3) := by decide +kernel
theorem dX5_note_88 : decode cX5_note 88 = .ok (.iconst 1, 1) := by decide +kernel
theorem dX5_note_89 : decode cX5_note 89 = .ok (.iadd, 1) := by decide +kernel
theorem dX5_note_90 : decode cX5_note 90 = .ok (.putfield 34, 3) := by decide +kernel
theorem dX5_note_93 : decode cX5_note 93 = .ok (.return_, 1) := by decide +kernel
theorem dX5_beginOf_0 : decode cX5_beginOf 0 = .ok (.aload_n 0, 1) := by decide +kernel
theorem dX5_beginOf_1 : decode cX5_beginOf 1 = .ok (.getfield 9, 3) := by decide +kernel
theorem dX5_beginOf_4 : decode cX5_beginOf 4 = .ok (.iload_n 1, 1) := by decide +kernel
theorem dX5_beginOf_5 : decode cX5_beginOf 5 = .ok (.iaload, 1) := by decide +kernel
theorem dX5_beginOf_6 : decode cX5_beginOf 6 = .ok (.iconst 2, 1) := by decide +kernel
theorem dX5_beginOf_7 : decode cX5_beginOf 7 = .ok (.if_icmp .ne 12, 3) := by decide +kernel
theorem dX5_beginOf_10 : decode cX5_beginOf 10 = .ok (.aload_n 0, 1) := by decide +kernel
theorem dX5_beginOf_11 : decode cX5_beginOf 11 = .ok (.getfield 15, 3) := by decide +kernel
theorem dX5_beginOf_14 : decode cX5_beginOf 14 = .ok (.iload_n 1, 1) := by decide +kernel
theorem dX5_beginOf_15 : decode cX5_beginOf 15 = .ok (.iaload, 1) := by decide +kernel
theorem dX5_beginOf_16 : decode cX5_beginOf 16 = .ok (.goto 5, 3) := by decide +kernel
theorem dX5_beginOf_19 : decode cX5_beginOf 19 = .ok (.bipush (-3), 2) := by decide +kernel
theorem dX5_beginOf_21 : decode cX5_beginOf 21 = .ok (.ireturn, 1) := by decide +kernel
theorem dX5_endOf_0 : decode cX5_endOf 0 = .ok (.aload_n 0, 1) := by decide +kernel
theorem dX5_endOf_1 : decode cX5_endOf 1 = .ok (.getfield 18, 3) := by decide +kernel
theorem dX5_endOf_4 : decode cX5_endOf 4 = .ok (.iload_n 1, 1) := by decide +kernel
theorem dX5_endOf_5 : decode cX5_endOf 5 = .ok (.iaload, 1) := by decide +kernel
theorem dX5_endOf_6 : decode cX5_endOf 6 = .ok (.bipush 64, 2) := by decide +kernel
theorem dX5_endOf_8 : decode cX5_endOf 8 = .ok (.if_icmp .ne 8, 3) := by decide +kernel
theorem dX5_endOf_11 : decode cX5_endOf 11 = .ok (.bipush (-3), 2) := by decide +kernel
theorem dX5_endOf_13 : decode cX5_endOf 13 = .ok (.goto 9, 3) := by decide +kernel
theorem dX5_endOf_16 : decode cX5_endOf 16 = .ok (.aload_n 0, 1) := by decide +kernel
theorem dX5_endOf_17 : decode cX5_endOf 17 = .ok (.getfield 18, 3) := by decide +kernel
theorem dX5_endOf_20 : decode cX5_endOf 20 = .ok (.iload_n 1, 1) := by decide +kernel
theorem dX5_endOf_21 : decode cX5_endOf 21 = .ok (.iaload, 1) := by decide +kernel
theorem dX5_endOf_22 : decode cX5_endOf 22 = .ok (.ireturn, 1) := by decide +kernel
theorem dX5_ownedAlike_0 : decode cX5_ownedAlike 0 = .ok (.aload_n 0, 1) := by decide +kernel
theorem dX5_ownedAlike_1 : decode cX5_ownedAlike 1 = .ok (.getfield 21, 3) := by decide +kernel
theorem dX5_ownedAlike_4 : decode cX5_ownedAlike 4 = .ok (.iload_n 1, 1) := by decide +kernel
theorem dX5_ownedAlike_5 : decode cX5_ownedAlike 5 = .ok (.iaload, 1) := by decide +kernel
theorem dX5_ownedAlike_6 : decode cX5_ownedAlike 6 = .ok (.bipush (-3), 2) := by decide +kernel
theorem dX5_ownedAlike_8 : decode cX5_ownedAlike 8 = .ok (.if_icmp .eq 22, 3) := by decide +kernel
theorem dX5_ownedAlike_11 : decode cX5_ownedAlike 11 = .ok (.aload_n 0, 1) := by decide +kernel
theorem dX5_ownedAlike_12 : decode cX5_ownedAlike 12 = .ok (.getfield 21, 3) := by decide +kernel
theorem dX5_ownedAlike_15 : decode cX5_ownedAlike 15 = .ok (.iload_n 1, 1) := by decide +kernel
theorem dX5_ownedAlike_16 : decode cX5_ownedAlike 16 = .ok (.iaload, 1) := by decide +kernel
theorem dX5_ownedAlike_17 : decode cX5_ownedAlike 17 = .ok (.aload_n 0, 1) := by decide +kernel
theorem dX5_ownedAlike_18 : decode cX5_ownedAlike 18 = .ok (.getfield 21, 3) := by decide +kernel
theorem dX5_ownedAlike_21 : decode cX5_ownedAlike 21 = .ok (.iload_n 2, 1) := by decide +kernel
theorem dX5_ownedAlike_22 : decode cX5_ownedAlike 22 = .ok (.iaload, 1) := by decide +kernel
theorem dX5_ownedAlike_23 : decode cX5_ownedAlike 23 = .ok (.if_icmp .ne 7, 3) := by decide +kernel
theorem dX5_ownedAlike_26 : decode cX5_ownedAlike 26 = .ok (.iconst 1, 1) := by decide +kernel
theorem dX5_ownedAlike_27 : decode cX5_ownedAlike 27 = .ok (.goto 4, 3) := by decide +kernel
theorem dX5_ownedAlike_30 : decode cX5_ownedAlike 30 = .ok (.iconst 0, 1) := by decide +kernel
theorem dX5_ownedAlike_31 : decode cX5_ownedAlike 31 = .ok (.ireturn, 1) := by decide +kernel
theorem dX5_areTwins_0 : decode cX5_areTwins 0 = .ok (.aload_n 0, 1) := by decide +kernel
theorem dX5_areTwins_1 : decode cX5_areTwins 1 = .ok (.getfield 15, 3) := by decide +kernel
theorem dX5_areTwins_4 : decode cX5_areTwins 4 = .ok (.iload_n 1, 1) := by decide +kernel
theorem dX5_areTwins_5 : decode cX5_areTwins 5 = .ok (.iaload, 1) := by decide +kernel
theorem dX5_areTwins_6 : decode cX5_areTwins 6 = .ok (.aload_n 0, 1) := by decide +kernel
theorem dX5_areTwins_7 : decode cX5_areTwins 7 = .ok (.getfield 15, 3) := by decide +kernel
theorem dX5_areTwins_10 : decode cX5_areTwins 10 = .ok (.iload_n 2, 1) := by decide +kernel
theorem dX5_areTwins_11 : decode cX5_areTwins 11 = .ok (.iaload, 1) := by decide +kernel
theorem dX5_areTwins_12 : decode cX5_areTwins 12 = .ok (.if_icmp .ne 37, 3) := by decide +kernel
theorem dX5_areTwins_15 : decode cX5_areTwins 15 = .ok (.aload_n 0, 1) := by decide +kernel
theorem dX5_areTwins_16 : decode cX5_areTwins 16 = .ok (.getfield 18, 3) := by decide +kernel
theorem dX5_areTwins_19 : decode cX5_areTwins 19 = .ok (.iload_n 1, 1) := by decide +kernel
theorem dX5_areTwins_20 : decode cX5_areTwins 20 = .ok (.iaload, 1) := by decide +kernel
theorem dX5_areTwins_21 : decode cX5_areTwins 21 = .ok (.aload_n 0, 1) := by decide +kernel
theorem dX5_areTwins_22 : decode cX5_areTwins 22 = .ok (.getfield 18, 3) := by decide +kernel
theorem dX5_areTwins_25 : decode cX5_areTwins 25 = .ok (.iload_n 2, 1) := by decide +kernel
theorem dX5_areTwins_26 : decode cX5_areTwins 26 = .ok (.iaload, 1) := by decide +kernel
theorem dX5_areTwins_27 : decode cX5_areTwins 27 = .ok (.if_icmp .ne 22, 3) := by decide +kernel
theorem dX5_areTwins_30 : decode cX5_areTwins 30 = .ok (.aload_n 0, 1) := by decide +kernel
theorem dX5_areTwins_31 : decode cX5_areTwins 31 = .ok (.getfield 21, 3) := by decide +kernel
theorem dX5_areTwins_34 : decode cX5_areTwins 34 = .ok (.iload_n 1, 1) := by decide +kernel
theorem dX5_areTwins_35 : decode cX5_areTwins 35 = .ok (.iaload, 1) := by decide +kernel
theorem dX5_areTwins_36 : decode cX5_areTwins 36 = .ok (.aload_n 0, 1) := by decide +kernel
theorem dX5_areTwins_37 : decode cX5_areTwins 37 = .ok (.getfield 21, 3) := by decide +kernel
theorem dX5_areTwins_40 : decode cX5_areTwins 40 = .ok (.iload_n 2, 1) := by decide +kernel
theorem dX5_areTwins_41 : decode cX5_areTwins 41 = .ok (.iaload, 1) := by decide +kernel
theorem dX5_areTwins_42 : decode cX5_areTwins 42 = .ok (.if_icmp .ne 7, 3) := by decide +kernel
theorem dX5_areTwins_45 : decode cX5_areTwins 45 = .ok (.iconst 1, 1) := by decide +kernel
theorem dX5_areTwins_46 : decode cX5_areTwins 46 = .ok (.goto 4, 3) := by decide +kernel
theorem dX5_areTwins_49 : decode cX5_areTwins 49 = .ok (.iconst 0, 1) := by decide +kernel
theorem dX5_areTwins_50 : decode cX5_areTwins 50 = .ok (.ireturn, 1) := by decide +kernel
theorem dX5_countWaits_0 : decode cX5_countWaits 0 = .ok (.iconst 0, 1) := by decide +kernel
theorem dX5_countWaits_1 : decode cX5_countWaits 1 = .ok (.istore_n 1, 1) := by decide +kernel
theorem dX5_countWaits_2 : decode cX5_countWaits 2 = .ok (.iconst 0, 1) := by decide +kernel
theorem dX5_countWaits_3 : decode cX5_countWaits 3 = .ok (.istore_n 2, 1) := by decide +kernel
theorem dX5_countWaits_4 : decode cX5_countWaits 4 = .ok (.iload_n 2, 1) := by decide +kernel
theorem dX5_countWaits_5 : decode cX5_countWaits 5 = .ok (.aload_n 0, 1) := by decide +kernel
theorem dX5_countWaits_6 : decode cX5_countWaits 6 = .ok (.getfield 27, 3) := by decide +kernel
theorem dX5_countWaits_9 : decode cX5_countWaits 9 = .ok (.if_icmp .ge 21, 3) := by decide +kernel
theorem dX5_countWaits_12 : decode cX5_countWaits 12 = .ok (.iload_n 1, 1) := by decide +kernel
theorem dX5_countWaits_13 : decode cX5_countWaits 13 = .ok (.aload_n 0, 1) := by decide +kernel
theorem dX5_countWaits_14 : decode cX5_countWaits 14 = .ok (.getfield 24, 3) := by decide +kernel
theorem dX5_countWaits_17 : decode cX5_countWaits 17 = .ok (.iload_n 2, 1) := by decide +kernel
theorem dX5_countWaits_18 : decode cX5_countWaits 18 = .ok (.iaload, 1) := by decide +kernel
theorem dX5_countWaits_19 : decode cX5_countWaits 19 = .ok (.invokestatic 57, 3) := by decide +kernel
theorem dX5_countWaits_22 : decode cX5_countWaits 22 = .ok (.iadd, 1) := by decide +kernel
theorem dX5_countWaits_23 : decode cX5_countWaits 23 = .ok (.istore_n 1, 1) := by decide +kernel
theorem dX5_countWaits_24 : decode cX5_countWaits 24 = .ok (.iinc 2 1, 3) := by decide +kernel
theorem dX5_countWaits_27 : decode cX5_countWaits 27 = .ok (.goto (-23), 3) := by decide +kernel
theorem dX5_countWaits_30 : decode cX5_countWaits 30 = .ok (.iload_n 1, 1) := by decide +kernel
theorem dX5_countWaits_31 : decode cX5_countWaits 31 = .ok (.ireturn, 1) := by decide +kernel
theorem dX6_init_0 : decode cX6_init 0 = .ok (.aload_n 0, 1) := by decide +kernel
theorem dX6_init_1 : decode cX6_init 1 = .ok (.invokespecial 3, 3) := by decide +kernel
theorem dX6_init_4 : decode cX6_init 4 = .ok (.aload_n 0, 1) := by decide +kernel
theorem dX6_init_5 : decode cX6_init 5 = .ok (.bipush 6, 2) := by decide +kernel
theorem dX6_init_7 : decode cX6_init 7 = .ok (.anewarray 9, 3) := by decide +kernel
theorem dX6_init_10 : decode cX6_init 10 = .ok (.putfield 11, 3) := by decide +kernel
theorem dX6_init_13 : decode cX6_init 13 = .ok (.aload_n 0, 1) := by decide +kernel
theorem dX6_init_14 : decode cX6_init 14 = .ok (.new 15, 3) := by decide +kernel
theorem dX6_init_17 : decode cX6_init 17 = .ok (.dup, 1) := by decide +kernel
theorem dX6_init_18 : decode cX6_init 18 = .ok (.invokespecial 17, 3) := by decide +kernel
theorem dX6_init_21 : decode cX6_init 21 = .ok (.putfield 18, 3) := by decide +kernel
theorem dX6_init_24 : decode cX6_init 24 = .ok (.aload_n 0, 1) := by decide +kernel
theorem dX6_init_25 : decode cX6_init 25 = .ok (.new 22, 3) := by decide +kernel
theorem dX6_init_28 : decode cX6_init 28 = .ok (.dup, 1) := by decide +kernel
theorem dX6_init_29 : decode cX6_init 29 = .ok (.aload_n 0, 1) := by decide +kernel
theorem dX6_init_30 : decode cX6_init 30 = .ok (.getfield 18, 3) := by decide +kernel
theorem dX6_init_33 : decode cX6_init 33 = .ok (.invokespecial 24, 3) := by decide +kernel
theorem dX6_init_36 : decode cX6_init 36 = .ok (.putfield 27, 3) := by decide +kernel
theorem dX6_init_39 : decode cX6_init 39 = .ok (.aload_n 0, 1) := by decide +kernel
theorem dX6_init_40 : decode cX6_init 40 = .ok (.new 31, 3) := by decide +kernel
theorem dX6_init_43 : decode cX6_init 43 = .ok (.dup, 1) := by decide +kernel
theorem dX6_init_44 : decode cX6_init 44 = .ok (.aload_n 0, 1) := by decide +kernel
theorem dX6_init_45 : decode cX6_init 45 = .ok (.getfield 18, 3) := by decide +kernel
theorem dX6_init_48 : decode cX6_init 48 = .ok (.aload_n 0, 1) := by decide +kernel
theorem dX6_init_49 : decode cX6_init 49 = .ok (.getfield 27, 3) := by decide +kernel
theorem dX6_init_52 : decode cX6_init 52 = .ok (.invokespecial 33, 3) := by decide +kernel
theorem dX6_init_55 : decode cX6_init 55 = .ok (.putfield 36, 3) := by decide +kernel
theorem dX6_init_58 : decode cX6_init 58 = .ok (.aload_n 0, 1) := by decide +kernel
theorem dX6_init_59 : decode cX6_init 59 = .ok (.new 40, 3) := by decide +kernel
theorem dX6_init_62 : decode cX6_init 62 = .ok (.dup, 1) := by decide +kernel
theorem dX6_init_63 : decode cX6_init 63 = .ok (.aload_n 0, 1) := by decide +kernel
theorem dX6_init_64 : decode cX6_init 64 = .ok (.getfield 18, 3) := by decide +kernel
theorem dX6_init_67 : decode cX6_init 67 = .ok (.aload_n 0, 1) := by decide +kernel
theorem dX6_init_68 : decode cX6_init 68 = .ok (.getfield 27, 3) := by decide +kernel
theorem dX6_init_71 : decode cX6_init 71 = .ok (.invokespecial 42, 3) := by decide +kernel
theorem dX6_init_74 : decode cX6_init 74 = .ok (.putfield 43, 3) := by decide +kernel
theorem dX6_init_77 : decode cX6_init 77 = .ok (.aload_n 0, 1) := by decide +kernel
theorem dX6_init_78 : decode cX6_init 78 = .ok (.new 47, 3) := by decide +kernel
theorem dX6_init_81 : decode cX6_init 81 = .ok (.dup, 1) := by decide +kernel
theorem dX6_init_82 : decode cX6_init 82 = .ok (.aload_n 0, 1) := by decide +kernel
theorem dX6_init_83 : decode cX6_init 83 = .ok (.getfield 18, 3) := by decide +kernel
theorem dX6_init_86 : decode cX6_init 86 = .ok (.invokespecial 49, 3) := by decide +kernel
theorem dX6_init_89 : decode cX6_init 89 = .ok (.putfield 50, 3) := by decide +kernel
theorem dX6_init_92 : decode cX6_init 92 = .ok (.iconst 0, 1) := by decide +kernel
theorem dX6_init_93 : decode cX6_init 93 = .ok (.istore_n 1, 1) := by decide +kernel
theorem dX6_init_94 : decode cX6_init 94 = .ok (.iload_n 1, 1) := by decide +kernel
theorem dX6_init_95 : decode cX6_init 95 = .ok (.bipush 6, 2) := by decide +kernel
theorem dX6_init_97 : decode cX6_init 97 = .ok (.if_icmp .ge 22, 3) := by decide +kernel
theorem dX6_init_100 : decode cX6_init 100 = .ok (.aload_n 0, 1) := by decide +kernel
theorem dX6_init_101 : decode cX6_init 101 = .ok (.getfield 11, 3) := by decide +kernel
theorem dX6_init_104 : decode cX6_init 104 = .ok (.iload_n 1, 1) := by decide +kernel
theorem dX6_init_105 : decode cX6_init 105 = .ok (.new 9, 3) := by decide +kernel
theorem dX6_init_108 : decode cX6_init 108 = .ok (.dup, 1) := by decide +kernel
theorem dX6_init_109 : decode cX6_init 109 = .ok (.invokespecial 54, 3) := by decide +kernel
theorem dX6_init_112 : decode cX6_init 112 = .ok (.aastore, 1) := by decide +kernel
theorem dX6_init_113 : decode cX6_init 113 = .ok (.iinc 1 1, 3) := by decide +kernel
theorem dX6_init_116 : decode cX6_init 116 = .ok (.goto (-22), 3) := by decide +kernel
theorem dX6_init_119 : decode cX6_init 119 = .ok (.return_, 1) := by decide +kernel
theorem dX6_sheet_0 : decode cX6_sheet 0 = .ok (.iload_n 1, 1) := by decide +kernel
theorem dX6_sheet_1 : decode cX6_sheet 1 = .ok (.invokestatic 55, 3) := by decide +kernel
theorem dX6_sheet_4 : decode cX6_sheet 4 = .ok (.ifCond .eq 13, 3) := by decide +kernel
theorem dX6_sheet_7 : decode cX6_sheet 7 = .ok (.iload_n 2, 1) := by decide +kernel
theorem dX6_sheet_8 : decode cX6_sheet 8 = .ok (.iconst (-1), 1) := by decide +kernel
theorem dX6_sheet_9 : decode cX6_sheet 9 = .ok (.if_icmp .lt 8, 3) := by decide +kernel
theorem dX6_sheet_12 : decode cX6_sheet 12 = .ok (.iload_n 2, 1) := by decide +kernel
theorem dX6_sheet_13 : decode cX6_sheet 13 = .ok (.iconst 2, 1) := by decide +kernel
theorem dX6_sheet_14 : decode cX6_sheet 14 = .ok (.if_icmp .le 5, 3) := by decide +kernel
theorem dX6_sheet_17 : decode cX6_sheet 17 = .ok (.iconst (-1), 1) := by decide +kernel
theorem dX6_sheet_18 : decode cX6_sheet 18 = .ok (.ireturn, 1) := by decide +kernel
theorem dX6_sheet_19 : decode cX6_sheet 19 = .ok (.iload_n 2, 1) := by decide +kernel
theorem dX6_sheet_20 : decode cX6_sheet 20 = .ok (.iconst (-1), 1) := by decide +kernel
theorem dX6_sheet_21 : decode cX6_sheet 21 = .ok (.if_icmp .ne 16, 3) := by decide +kernel
theorem dX6_sheet_24 : decode cX6_sheet 24 = .ok (.aload_n 0, 1) := by decide +kernel
theorem dX6_sheet_25 : decode cX6_sheet 25 = .ok (.getfield 11, 3) := by decide +kernel
theorem dX6_sheet_28 : decode cX6_sheet 28 = .ok (.iload_n 1, 1) := by decide +kernel
theorem dX6_sheet_29 : decode cX6_sheet 29 = .ok (.aaload, 1) := by decide +kernel
theorem dX6_sheet_30 : decode cX6_sheet 30 = .ok (.iconst (-1), 1) := by decide +kernel
theorem dX6_sheet_31 : decode cX6_sheet 31 = .ok (.iconst 0, 1) := by decide +kernel
theorem dX6_sheet_32 : decode cX6_sheet 32 = .ok (.invokevirtual 59, 3) := by decide +kernel
theorem dX6_sheet_35 : decode cX6_sheet 35 = .ok (.iconst 0, 1) := by decide +kernel
theorem dX6_sheet_36 : decode cX6_sheet 36 = .ok (.ireturn, 1) := by decide +kernel
theorem dX6_sheet_37 : decode cX6_sheet 37 = .ok (.iload_n 3, 1) := by decide +kernel
theorem dX6_sheet_38 : decode cX6_sheet 38 = .ok (.bipush 16, 2) := by decide +kernel
theorem dX6_sheet_40 : decode cX6_sheet 40 = .ok (.if_icmp .le 5, 3) := by decide +kernel
theorem dX6_sheet_43 : decode cX6_sheet 43 = .ok (.iconst (-1), 1) := by decide +kernel
theorem dX6_sheet_44 : decode cX6_sheet 44 = .ok (.ireturn, 1) := by decide +kernel
theorem dX6_sheet_45 : decode cX6_sheet 45 = .ok (.iload_n 3, 1) := by decide +kernel
theorem dX6_sheet_46 : decode cX6_sheet 46 = .ok (.ifCond .ge 6, 3) := by decide +kernel
theorem dX6_sheet_49 : decode cX6_sheet 49 = .ok (.bipush (-13), 2) := by decide +kernel
theorem dX6_sheet_51 : decode cX6_sheet 51 = .ok (.ireturn, 1) := by decide +kernel
theorem dX6_sheet_52 : decode cX6_sheet 52 = .ok (.aload_n 0, 1) := by decide +kernel
theorem dX6_sheet_53 : decode cX6_sheet 53 = .ok (.getfield 11, 3) := by decide +kernel
theorem dX6_sheet_56 : decode cX6_sheet 56 = .ok (.iload_n 1, 1) := by decide +kernel
theorem dX6_sheet_57 : decode cX6_sheet 57 = .ok (.aaload, 1) := by decide +kernel
theorem dX6_sheet_58 : decode cX6_sheet 58 = .ok (.iload_n 2, 1) := by decide +kernel
theorem dX6_sheet_59 : decode cX6_sheet 59 = .ok (.iload_n 3, 1) := by decide +kernel
theorem dX6_sheet_60 : decode cX6_sheet 60 = .ok (.invokevirtual 59, 3) := by decide +kernel
theorem dX6_sheet_63 : decode cX6_sheet 63 = .ok (.iconst 0, 1) := by decide +kernel
theorem dX6_sheet_64 : decode cX6_sheet 64 = .ok (.ireturn, 1) := by decide +kernel
theorem dX6_put_0 : decode cX6_put 0 = .ok (.iload_n 1, 1) := by decide +kernel
theorem dX6_put_1 : decode cX6_put 1 = .ok (.invokestatic 55, 3) := by decide +kernel
theorem dX6_put_4 : decode cX6_put 4 = .ok (.ifCond .ne 5, 3) := by decide +kernel
theorem dX6_put_7 : decode cX6_put 7 = .ok (.iconst (-1), 1) := by decide +kernel
theorem dX6_put_8 : decode cX6_put 8 = .ok (.ireturn, 1) := by decide +kernel
theorem dX6_put_9 : decode cX6_put 9 = .ok (.aload_n 0, 1) := by decide +kernel
theorem dX6_put_10 : decode cX6_put 10 = .ok (.getfield 11, 3) := by decide +kernel
theorem dX6_put_13 : decode cX6_put 13 = .ok (.iload_n 1, 1) := by decide +kernel
theorem dX6_put_14 : decode cX6_put 14 = .ok (.aaload, 1) := by decide +kernel
theorem dX6_put_15 : decode cX6_put 15 = .ok (.astore 4, 2) := by decide +kernel
theorem dX6_put_17 : decode cX6_put 17 = .ok (.aload 4, 2) := by decide +kernel
theorem dX6_put_19 : decode cX6_put 19 = .ok (.invokevirtual 63, 3) := by decide +kernel
theorem dX6_put_22 : decode cX6_put 22 = .ok (.ifCond .eq 6, 3) := by decide +kernel
theorem dX6_put_25 : decode cX6_put 25 = .ok (.bipush (-11), 2) := by decide +kernel
theorem dX6_put_27 : decode cX6_put 27 = .ok (.ireturn, 1) := by decide +kernel
theorem dX6_put_28 : decode cX6_put 28 = .ok (.aload 4, 2) := by decide +kernel
theorem dX6_put_30 : decode cX6_put 30 = .ok (.iload_n 2, 1) := by decide +kernel
theorem dX6_put_31 : decode cX6_put 31 = .ok (.iconst 1, 1) := by decide +kernel
theorem dX6_put_32 : decode cX6_put 32 = .ok (.invokevirtual 67, 3) := by decide +kernel
theorem dX6_put_35 : decode cX6_put 35 = .ok (.ifCond .ne 6, 3) := by decide +kernel
theorem dX6_put_38 : decode cX6_put 38 = .ok (.bipush (-12), 2) := by decide +kernel
theorem dX6_put_40 : decode cX6_put 40 = .ok (.ireturn, 1) := by decide +kernel
theorem dX6_put_41 : decode cX6_put 41 = .ok (.aload 4, 2) := by decide +kernel
theorem dX6_put_43 : decode cX6_put 43 = .ok (.iload_n 2, 1) := by decide +kernel
theorem dX6_put_44 : decode cX6_put 44 = .ok (.iload_n 3, 1) := by decide +kernel
theorem dX6_put_45 : decode cX6_put 45 = .ok (.invokevirtual 71, 3) := by decide +kernel
theorem dX6_put_48 : decode cX6_put 48 = .ok (.iconst 0, 1) := by decide +kernel
theorem dX6_put_49 : decode cX6_put 49 = .ok (.ireturn, 1) := by decide +kernel
theorem dX6_copy_0 : decode cX6_copy 0 = .ok (.iload_n 1, 1) := by decide +kernel
theorem dX6_copy_1 : decode cX6_copy 1 = .ok (.invokestatic 55, 3) := by decide +kernel
theorem dX6_copy_4 : decode cX6_copy 4 = .ok (.ifCond .eq 10, 3) := by decide +kernel
theorem dX6_copy_7 : decode cX6_copy 7 = .ok (.iload_n 3, 1) := by decide +kernel
theorem dX6_copy_8 : decode cX6_copy 8 = .ok (.invokestatic 55, 3) := by decide +kernel
theorem dX6_copy_11 : decode cX6_copy 11 = .ok (.ifCond .ne 5, 3) := by decide +kernel
theorem dX6_copy_14 : decode cX6_copy 14 = .ok (.iconst (-1), 1) := by decide +kernel
theorem dX6_copy_15 : decode cX6_copy 15 = .ok (.ireturn, 1) := by decide +kernel
theorem dX6_copy_16 : decode cX6_copy 16 = .ok (.aload_n 0, 1) := by decide +kernel
theorem dX6_copy_17 : decode cX6_copy 17 = .ok (.getfield 11, 3) := by decide +kernel
theorem dX6_copy_20 : decode cX6_copy 20 = .ok (.iload_n 1, 1) := by decide +kernel
theorem dX6_copy_21 : decode cX6_copy 21 = .ok (.aaload, 1) := by decide +kernel
theorem dX6_copy_22 : decode cX6_copy 22 = .ok (.astore 6, 2) := by decide +kernel
theorem dX6_copy_24 : decode cX6_copy 24 = .ok (.aload_n 0, 1) := by decide +kernel
