theorem dX6_copy_25 : decode cX6_copy 25 = .ok (.getfield 11, 3) := by decide +kernel
theorem dX6_copy_28 : decode cX6_copy 28 = .ok (.iload_n 3, 1) := by decide +kernel
theorem dX6_copy_29 : decode cX6_copy 29 = .ok (.aaload, 1) := by decide +kernel
theorem dX6_copy_30 : decode cX6_copy 30 = .ok (.astore 7, 2) := by decide +kernel
theorem dX6_copy_32 : decode cX6_copy 32 = .ok (.aload 6, 2) := by decide +kernel
theorem dX6_copy_34 : decode cX6_copy 34 = .ok (.invokevirtual 63, 3) := by decide +kernel
theorem dX6_copy_37 : decode cX6_copy 37 = .ok (.ifCond .ne 11, 3) := by decide +kernel
theorem dX6_copy_40 : decode cX6_copy 40 = .ok (.aload 7, 2) := by decide +kernel
theorem dX6_copy_42 : decode cX6_copy 42 = .ok (.invokevirtual 63, 3) := by decide +kernel
theorem dX6_copy_45 : decode cX6_copy 45 = .ok (.ifCond .eq 6, 3) := by decide +kernel
theorem dX6_copy_48 : decode cX6_copy 48 = .ok (.bipush (-11), 2) := by decide +kernel
theorem dX6_copy_50 : decode cX6_copy 50 = .ok (.ireturn, 1) := by decide +kernel
theorem dX6_copy_51 : decode cX6_copy 51 = .ok (.aload 6, 2) := by decide +kernel
theorem dX6_copy_53 : decode cX6_copy 53 = .ok (.getfield 74, 3) := by decide +kernel
theorem dX6_copy_56 : decode cX6_copy 56 = .ok (.aload 7, 2) := by decide +kernel
theorem dX6_copy_58 : decode cX6_copy 58 = .ok (.getfield 74, 3) := by decide +kernel
theorem dX6_copy_61 : decode cX6_copy 61 = .ok (.if_icmp .eq 6, 3) := by decide +kernel
theorem dX6_copy_64 : decode cX6_copy 64 = .ok (.bipush (-14), 2) := by decide +kernel
theorem dX6_copy_66 : decode cX6_copy 66 = .ok (.ireturn, 1) := by decide +kernel
theorem dX6_copy_67 : decode cX6_copy 67 = .ok (.aload 6, 2) := by decide +kernel
theorem dX6_copy_69 : decode cX6_copy 69 = .ok (.iload_n 2, 1) := by decide +kernel
theorem dX6_copy_70 : decode cX6_copy 70 = .ok (.iload 5, 2) := by decide +kernel
theorem dX6_copy_72 : decode cX6_copy 72 = .ok (.invokevirtual 67, 3) := by decide +kernel
theorem dX6_copy_75 : decode cX6_copy 75 = .ok (.ifCond .eq 15, 3) := by decide +kernel
theorem dX6_copy_78 : decode cX6_copy 78 = .ok (.aload 7, 2) := by decide +kernel
theorem dX6_copy_80 : decode cX6_copy 80 = .ok (.iload 4, 2) := by decide +kernel
theorem dX6_copy_82 : decode cX6_copy 82 = .ok (.iload 5, 2) := by decide +kernel
theorem dX6_copy_84 : decode cX6_copy 84 = .ok (.invokevirtual 67, 3) := by decide +kernel
theorem dX6_copy_87 : decode cX6_copy 87 = .ok (.ifCond .ne 6, 3) := by decide +kernel
theorem dX6_copy_90 : decode cX6_copy 90 = .ok (.bipush (-12), 2) := by decide +kernel
theorem dX6_copy_92 : decode cX6_copy 92 = .ok (.ireturn, 1) := by decide +kernel
theorem dX6_copy_93 : decode cX6_copy 93 = .ok (.aload 6, 2) := by decide +kernel
theorem dX6_copy_95 : decode cX6_copy 95 = .ok (.getfield 78, 3) := by decide +kernel
theorem dX6_copy_98 : decode cX6_copy 98 = .ok (.iload_n 2, 1) := by decide +kernel
theorem dX6_copy_99 : decode cX6_copy 99 = .ok (.aload 7, 2) := by decide +kernel
theorem dX6_copy_101 : decode cX6_copy 101 = .ok (.getfield 78, 3) := by decide +kernel
theorem dX6_copy_104 : decode cX6_copy 104 = .ok (.iload 4, 2) := by decide +kernel
theorem dX6_copy_106 : decode cX6_copy 106 = .ok (.iload 5, 2) := by decide +kernel
theorem dX6_copy_108 : decode cX6_copy 108 = .ok (.invokestatic 82, 3) := by decide +kernel
theorem dX6_copy_111 : decode cX6_copy 111 = .ok (.iconst 0, 1) := by decide +kernel
theorem dX6_copy_112 : decode cX6_copy 112 = .ok (.ireturn, 1) := by decide +kernel
theorem dX6_told_0 : decode cX6_told 0 = .ok (.iload_n 1, 1) := by decide +kernel
theorem dX6_told_1 : decode cX6_told 1 = .ok (.invokestatic 55, 3) := by decide +kernel
theorem dX6_told_4 : decode cX6_told 4 = .ok (.ifCond .ne 7, 3) := by decide +kernel
theorem dX6_told_7 : decode cX6_told 7 = .ok (.ldc2_w 88, 3) := by decide +kernel
theorem dX6_told_10 : decode cX6_told 10 = .ok (.lreturn, 1) := by decide +kernel
theorem dX6_told_11 : decode cX6_told 11 = .ok (.aload_n 0, 1) := by decide +kernel
theorem dX6_told_12 : decode cX6_told 12 = .ok (.getfield 11, 3) := by decide +kernel
theorem dX6_told_15 : decode cX6_told 15 = .ok (.iload_n 1, 1) := by decide +kernel
theorem dX6_told_16 : decode cX6_told 16 = .ok (.aaload, 1) := by decide +kernel
theorem dX6_told_17 : decode cX6_told 17 = .ok (.astore_n 3, 1) := by decide +kernel
theorem dX6_told_18 : decode cX6_told 18 = .ok (.aload_n 3, 1) := by decide +kernel
theorem dX6_told_19 : decode cX6_told 19 = .ok (.invokevirtual 63, 3) := by decide +kernel
theorem dX6_told_22 : decode cX6_told 22 = .ok (.ifCond .eq 7, 3) := by decide +kernel
theorem dX6_told_25 : decode cX6_told 25 = .ok (.ldc2_w 90, 3) := by decide +kernel
theorem dX6_told_28 : decode cX6_told 28 = .ok (.lreturn, 1) := by decide +kernel
theorem dX6_told_29 : decode cX6_told 29 = .ok (.aload_n 3, 1) := by decide +kernel
theorem dX6_told_30 : decode cX6_told 30 = .ok (.iload_n 2, 1) := by decide +kernel
theorem dX6_told_31 : decode cX6_told 31 = .ok (.iconst 1, 1) := by decide +kernel
theorem dX6_told_32 : decode cX6_told 32 = .ok (.invokevirtual 67, 3) := by decide +kernel
theorem dX6_told_35 : decode cX6_told 35 = .ok (.ifCond .eq 13, 3) := by decide +kernel
theorem dX6_told_38 : decode cX6_told 38 = .ok (.aload_n 3, 1) := by decide +kernel
theorem dX6_told_39 : decode cX6_told 39 = .ok (.getfield 78, 3) := by decide +kernel
theorem dX6_told_42 : decode cX6_told 42 = .ok (.iload_n 2, 1) := by decide +kernel
theorem dX6_told_43 : decode cX6_told 43 = .ok (.iaload, 1) := by decide +kernel
theorem dX6_told_44 : decode cX6_told 44 = .ok (.i2l, 1) := by decide +kernel
theorem dX6_told_45 : decode cX6_told 45 = .ok (.goto 6, 3) := by decide +kernel
theorem dX6_told_48 : decode cX6_told 48 = .ok (.ldc2_w 92, 3) := by decide +kernel
theorem dX6_told_51 : decode cX6_told 51 = .ok (.lreturn, 1) := by decide +kernel
theorem dX6_isSheet_0 : decode cX6_isSheet 0 = .ok (.iload_n 0, 1) := by decide +kernel
theorem dX6_isSheet_1 : decode cX6_isSheet 1 = .ok (.ifCond .lt 13, 3) := by decide +kernel
theorem dX6_isSheet_4 : decode cX6_isSheet 4 = .ok (.iload_n 0, 1) := by decide +kernel
theorem dX6_isSheet_5 : decode cX6_isSheet 5 = .ok (.bipush 6, 2) := by decide +kernel
theorem dX6_isSheet_7 : decode cX6_isSheet 7 = .ok (.if_icmp .ge 7, 3) := by decide +kernel
theorem dX6_isSheet_10 : decode cX6_isSheet 10 = .ok (.iconst 1, 1) := by decide +kernel
theorem dX6_isSheet_11 : decode cX6_isSheet 11 = .ok (.goto 4, 3) := by decide +kernel
theorem dX6_isSheet_14 : decode cX6_isSheet 14 = .ok (.iconst 0, 1) := by decide +kernel
theorem dX6_isSheet_15 : decode cX6_isSheet 15 = .ok (.ireturn, 1) := by decide +kernel
theorem dX6_job_0 : decode cX6_job 0 = .ok (.iload_n 1, 1) := by decide +kernel
theorem dX6_job_1 : decode cX6_job 1 = .ok (.iload_n 2, 1) := by decide +kernel
theorem dX6_job_2 : decode cX6_job 2 = .ok (.iload_n 3, 1) := by decide +kernel
theorem dX6_job_3 : decode cX6_job 3 = .ok (.invokestatic 94, 3) := by decide +kernel
theorem dX6_job_6 : decode cX6_job 6 = .ok (.ifCond .ne 5, 3) := by decide +kernel
theorem dX6_job_9 : decode cX6_job 9 = .ok (.iconst (-1), 1) := by decide +kernel
theorem dX6_job_10 : decode cX6_job 10 = .ok (.ireturn, 1) := by decide +kernel
theorem dX6_job_11 : decode cX6_job 11 = .ok (.aload_n 0, 1) := by decide +kernel
theorem dX6_job_12 : decode cX6_job 12 = .ok (.getfield 18, 3) := by decide +kernel
theorem dX6_job_15 : decode cX6_job 15 = .ok (.getfield 98, 3) := by decide +kernel
theorem dX6_job_18 : decode cX6_job 18 = .ok (.bipush 10, 2) := by decide +kernel
theorem dX6_job_20 : decode cX6_job 20 = .ok (.if_icmp .ge 16, 3) := by decide +kernel
theorem dX6_job_23 : decode cX6_job 23 = .ok (.aload_n 0, 1) := by decide +kernel
theorem dX6_job_24 : decode cX6_job 24 = .ok (.getfield 18, 3) := by decide +kernel
theorem dX6_job_27 : decode cX6_job 27 = .ok (.iload_n 1, 1) := by decide +kernel
theorem dX6_job_28 : decode cX6_job 28 = .ok (.iload_n 2, 1) := by decide +kernel
theorem dX6_job_29 : decode cX6_job 29 = .ok (.iload_n 3, 1) := by decide +kernel
theorem dX6_job_30 : decode cX6_job 30 = .ok (.invokevirtual 101, 3) := by decide +kernel
theorem dX6_job_33 : decode cX6_job 33 = .ok (.goto 5, 3) := by decide +kernel
theorem dX6_job_36 : decode cX6_job 36 = .ok (.bipush (-2), 2) := by decide +kernel
theorem dX6_job_38 : decode cX6_job 38 = .ok (.ireturn, 1) := by decide +kernel
theorem dX6_after_0 : decode cX6_after 0 = .ok (.aload_n 0, 1) := by decide +kernel
theorem dX6_after_1 : decode cX6_after 1 = .ok (.getfield 18, 3) := by decide +kernel
theorem dX6_after_4 : decode cX6_after 4 = .ok (.iload_n 1, 1) := by decide +kernel
theorem dX6_after_5 : decode cX6_after 5 = .ok (.invokevirtual 105, 3) := by decide +kernel
theorem dX6_after_8 : decode cX6_after 8 = .ok (.ifCond .eq 14, 3) := by decide +kernel
theorem dX6_after_11 : decode cX6_after 11 = .ok (.aload_n 0, 1) := by decide +kernel
theorem dX6_after_12 : decode cX6_after 12 = .ok (.getfield 18, 3) := by decide +kernel
theorem dX6_after_15 : decode cX6_after 15 = .ok (.iload_n 2, 1) := by decide +kernel
theorem dX6_after_16 : decode cX6_after 16 = .ok (.invokevirtual 105, 3) := by decide +kernel
theorem dX6_after_19 : decode cX6_after 19 = .ok (.ifCond .ne 5, 3) := by decide +kernel
theorem dX6_after_22 : decode cX6_after 22 = .ok (.iconst (-1), 1) := by decide +kernel
theorem dX6_after_23 : decode cX6_after 23 = .ok (.ireturn, 1) := by decide +kernel
theorem dX6_after_24 : decode cX6_after 24 = .ok (.aload_n 0, 1) := by decide +kernel
theorem dX6_after_25 : decode cX6_after 25 = .ok (.iload_n 1, 1) := by decide +kernel
theorem dX6_after_26 : decode cX6_after 26 = .ok (.iload_n 2, 1) := by decide +kernel
theorem dX6_after_27 : decode cX6_after 27 = .ok (.invokevirtual 108, 3) := by decide +kernel
theorem dX6_after_30 : decode cX6_after 30 = .ok (.ifCond .eq 8, 3) := by decide +kernel
theorem dX6_after_33 : decode cX6_after 33 = .ok (.bipush (-4), 2) := by decide +kernel
theorem dX6_after_35 : decode cX6_after 35 = .ok (.goto 15, 3) := by decide +kernel
theorem dX6_after_38 : decode cX6_after 38 = .ok (.aload_n 0, 1) := by decide +kernel
theorem dX6_after_39 : decode cX6_after 39 = .ok (.getfield 18, 3) := by decide +kernel
theorem dX6_after_42 : decode cX6_after 42 = .ok (.iload_n 1, 1) := by decide +kernel
theorem dX6_after_43 : decode cX6_after 43 = .ok (.iload_n 2, 1) := by decide +kernel
theorem dX6_after_44 : decode cX6_after 44 = .ok (.invokestatic 111, 3) := by decide +kernel
theorem dX6_after_47 : decode cX6_after 47 = .ok (.invokevirtual 115, 3) := by decide +kernel
theorem dX6_after_50 : decode cX6_after 50 = .ok (.ireturn, 1) := by decide +kernel
theorem dX6_read_0 : decode cX6_read 0 = .ok (.aload_n 0, 1) := by decide +kernel
theorem dX6_read_1 : decode cX6_read 1 = .ok (.getfield 18, 3) := by decide +kernel
theorem dX6_read_4 : decode cX6_read 4 = .ok (.iload_n 1, 1) := by decide +kernel
theorem dX6_read_5 : decode cX6_read 5 = .ok (.invokevirtual 105, 3) := by decide +kernel
theorem dX6_read_8 : decode cX6_read 8 = .ok (.ifCond .eq 10, 3) := by decide +kernel
theorem dX6_read_11 : decode cX6_read 11 = .ok (.iload_n 2, 1) := by decide +kernel
theorem dX6_read_12 : decode cX6_read 12 = .ok (.invokestatic 55, 3) := by decide +kernel
theorem dX6_read_15 : decode cX6_read 15 = .ok (.ifCond .ne 5, 3) := by decide +kernel
theorem dX6_read_18 : decode cX6_read 18 = .ok (.iconst (-1), 1) := by decide +kernel
theorem dX6_read_19 : decode cX6_read 19 = .ok (.ireturn, 1) := by decide +kernel
theorem dX6_read_20 : decode cX6_read 20 = .ok (.aload_n 0, 1) := by decide +kernel
theorem dX6_read_21 : decode cX6_read 21 = .ok (.getfield 11, 3) := by decide +kernel
theorem dX6_read_24 : decode cX6_read 24 = .ok (.iload_n 2, 1) := by decide +kernel
theorem dX6_read_25 : decode cX6_read 25 = .ok (.aaload, 1) := by decide +kernel
theorem dX6_read_26 : decode cX6_read 26 = .ok (.astore 5, 2) := by decide +kernel
theorem dX6_read_28 : decode cX6_read 28 = .ok (.aload 5, 2) := by decide +kernel
theorem dX6_read_30 : decode cX6_read 30 = .ok (.invokevirtual 63, 3) := by decide +kernel
theorem dX6_read_33 : decode cX6_read 33 = .ok (.ifCond .eq 6, 3) := by decide +kernel
theorem dX6_read_36 : decode cX6_read 36 = .ok (.bipush (-11), 2) := by decide +kernel
theorem dX6_read_38 : decode cX6_read 38 = .ok (.ireturn, 1) := by decide +kernel
theorem dX6_read_39 : decode cX6_read 39 = .ok (.iload 4, 2) := by decide +kernel
theorem dX6_read_41 : decode cX6_read 41 = .ok (.ifCond .ge 6, 3) := by decide +kernel
theorem dX6_read_44 : decode cX6_read 44 = .ok (.bipush (-13), 2) := by decide +kernel
theorem dX6_read_46 : decode cX6_read 46 = .ok (.ireturn, 1) := by decide +kernel
theorem dX6_read_47 : decode cX6_read 47 = .ok (.aload 5, 2) := by decide +kernel
theorem dX6_read_49 : decode cX6_read 49 = .ok (.iload_n 3, 1) := by decide +kernel
theorem dX6_read_50 : decode cX6_read 50 = .ok (.iload 4, 2) := by decide +kernel
theorem dX6_read_52 : decode cX6_read 52 = .ok (.invokevirtual 67, 3) := by decide +kernel
theorem dX6_read_55 : decode cX6_read 55 = .ok (.ifCond .eq 16, 3) := by decide +kernel
theorem dX6_read_58 : decode cX6_read 58 = .ok (.aload_n 0, 1) := by decide +kernel
theorem dX6_read_59 : decode cX6_read 59 = .ok (.iload_n 1, 1) := by decide +kernel
theorem dX6_read_60 : decode cX6_read 60 = .ok (.aload 5, 2) := by decide +kernel
theorem dX6_read_62 : decode cX6_read 62 = .ok (.iload_n 3, 1) := by decide +kernel
theorem dX6_read_63 : decode cX6_read 63 = .ok (.iload 4, 2) := by decide +kernel
theorem dX6_read_65 : decode cX6_read 65 = .ok (.invokevirtual 119, 3) := by decide +kernel
theorem dX6_read_68 : decode cX6_read 68 = .ok (.goto 5, 3) := by decide +kernel
theorem dX6_read_71 : decode cX6_read 71 = .ok (.bipush (-12), 2) := by decide +kernel
theorem dX6_read_73 : decode cX6_read 73 = .ok (.ireturn, 1) := by decide +kernel
theorem dX6_free_0 : decode cX6_free 0 = .ok (.aload_n 0, 1) := by decide +kernel
theorem dX6_free_1 : decode cX6_free 1 = .ok (.getfield 18, 3) := by decide +kernel
theorem dX6_free_4 : decode cX6_free 4 = .ok (.iload_n 1, 1) := by decide +kernel
theorem dX6_free_5 : decode cX6_free 5 = .ok (.invokevirtual 105, 3) := by decide +kernel
theorem dX6_free_8 : decode cX6_free 8 = .ok (.ifCond .eq 14, 3) := by decide +kernel
theorem dX6_free_11 : decode cX6_free 11 = .ok (.aload_n 0, 1) := by decide +kernel
theorem dX6_free_12 : decode cX6_free 12 = .ok (.getfield 18, 3) := by decide +kernel
theorem dX6_free_15 : decode cX6_free 15 = .ok (.iload_n 2, 1) := by decide +kernel
theorem dX6_free_16 : decode cX6_free 16 = .ok (.invokevirtual 105, 3) := by decide +kernel
theorem dX6_free_19 : decode cX6_free 19 = .ok (.ifCond .ne 5, 3) := by decide +kernel
theorem dX6_free_22 : decode cX6_free 22 = .ok (.iconst (-1), 1) := by decide +kernel
theorem dX6_free_23 : decode cX6_free 23 = .ok (.ireturn, 1) := by decide +kernel
theorem dX6_free_24 : decode cX6_free 24 = .ok (.aload_n 0, 1) := by decide +kernel
theorem dX6_free_25 : decode cX6_free 25 = .ok (.getfield 18, 3) := by decide +kernel
theorem dX6_free_28 : decode cX6_free 28 = .ok (.iload_n 1, 1) := by decide +kernel
theorem dX6_free_29 : decode cX6_free 29 = .ok (.iload_n 2, 1) := by decide +kernel
theorem dX6_free_30 : decode cX6_free 30 = .ok (.invokevirtual 123, 3) := by decide +kernel
theorem dX6_free_33 : decode cX6_free 33 = .ok (.ireturn, 1) := by decide +kernel
theorem dX6_ring_0 : decode cX6_ring 0 = .ok (.iload_n 1, 1) := by decide +kernel
theorem dX6_ring_1 : decode cX6_ring 1 = .ok (.ifCond .ge 7, 3) := by decide +kernel
theorem dX6_ring_4 : decode cX6_ring 4 = .ok (.iconst (-1), 1) := by decide +kernel
theorem dX6_ring_5 : decode cX6_ring 5 = .ok (.goto 11, 3) := by decide +kernel
theorem dX6_ring_8 : decode cX6_ring 8 = .ok (.aload_n 0, 1) := by decide +kernel
theorem dX6_ring_9 : decode cX6_ring 9 = .ok (.getfield 50, 3) := by decide +kernel
theorem dX6_ring_12 : decode cX6_ring 12 = .ok (.iload_n 1, 1) := by decide +kernel
theorem dX6_ring_13 : decode cX6_ring 13 = .ok (.invokevirtual 126, 3) := by decide +kernel
theorem dX6_ring_16 : decode cX6_ring 16 = .ok (.ireturn, 1) := by decide +kernel
theorem dX6_about_0 : decode cX6_about 0 = .ok (.aload_n 0, 1) := by decide +kernel
theorem dX6_about_1 : decode cX6_about 1 = .ok (.getfield 18, 3) := by decide +kernel
theorem dX6_about_4 : decode cX6_about 4 = .ok (.iload_n 1, 1) := by decide +kernel
theorem dX6_about_5 : decode cX6_about 5 = .ok (.invokevirtual 105, 3) := by decide +kernel
theorem dX6_about_8 : decode cX6_about 8 = .ok (.ifCond .ne 6, 3) := by decide +kernel
theorem dX6_about_11 : decode cX6_about 11 = .ok (.bipush (-9), 2) := by decide +kernel
theorem dX6_about_13 : decode cX6_about 13 = .ok (.ireturn, 1) := by decide +kernel
theorem dX6_about_14 : decode cX6_about 14 = .ok (.iload_n 2, 1) := by decide +kernel
theorem dX6_about_15 : decode cX6_about 15 = .ok (.tableswitch 179 0 11 #[61, 71, 80, 89, 99, 109, 119, 129, 139, 149, 159, 169], 61) := by decide +kernel
theorem dX6_about_76 : decode cX6_about 76 = .ok (.aload_n 0, 1) := by decide +kernel
theorem dX6_about_77 : decode cX6_about 77 = .ok (.getfield 18, 3) := by decide +kernel
theorem dX6_about_80 : decode cX6_about 80 = .ok (.getfield 129, 3) := by decide +kernel
theorem dX6_about_83 : decode cX6_about 83 = .ok (.iload_n 1, 1) := by decide +kernel
theorem dX6_about_84 : decode cX6_about 84 = .ok (.iaload, 1) := by decide +kernel
theorem dX6_about_85 : decode cX6_about 85 = .ok (.ireturn, 1) := by decide +kernel
theorem dX6_about_86 : decode cX6_about 86 = .ok (.aload_n 0, 1) := by decide +kernel
theorem dX6_about_87 : decode cX6_about 87 = .ok (.getfield 18, 3) := by decide +kernel
theorem dX6_about_90 : decode cX6_about 90 = .ok (.iload_n 1, 1) := by decide +kernel
theorem dX6_about_91 : decode cX6_about 91 = .ok (.invokevirtual 132, 3) := by decide +kernel
theorem dX6_about_94 : decode cX6_about 94 = .ok (.ireturn, 1) := by decide +kernel
theorem dX6_about_95 : decode cX6_about 95 = .ok (.aload_n 0, 1) := by decide +kernel
theorem dX6_about_96 : decode cX6_about 96 = .ok (.getfield 18, 3) := by decide +kernel
theorem dX6_about_99 : decode cX6_about 99 = .ok (.iload_n 1, 1) := by decide +kernel
theorem dX6_about_100 : decode cX6_about 100 = .ok (.invokevirtual 135, 3) := by decide +kernel
theorem dX6_about_103 : decode cX6_about 103 = .ok (.ireturn, 1) := by decide +kernel
theorem dX6_about_104 : decode cX6_about 104 = .ok (.aload_n 0, 1) := by decide +kernel
theorem dX6_about_105 : decode cX6_about 105 = .ok (.getfield 18, 3) := by decide +kernel
theorem dX6_about_108 : decode cX6_about 108 = .ok (.getfield 138, 3) := by decide +kernel
theorem dX6_about_111 : decode cX6_about 111 = .ok (.iload_n 1, 1) := by decide +kernel
theorem dX6_about_112 : decode cX6_about 112 = .ok (.iaload, 1) := by decide +kernel
theorem dX6_about_113 : decode cX6_about 113 = .ok (.ireturn, 1) := by decide +kernel
theorem dX6_about_114 : decode cX6_about 114 = .ok (.aload_n 0, 1) := by decide +kernel
theorem dX6_about_115 : decode cX6_about 115 = .ok (.getfield 18, 3) := by decide +kernel
theorem dX6_about_118 : decode cX6_about 118 = .ok (.getfield 141, 3) := by decide +kernel
theorem dX6_about_121 : decode cX6_about 121 = .ok (.iload_n 1, 1) := by decide +kernel
theorem dX6_about_122 : decode cX6_about 122 = .ok (.iaload, 1) := by decide +kernel
theorem dX6_about_123 : decode cX6_about 123 = .ok (.ireturn, 1) := by decide +kernel
theorem dX6_about_124 : decode cX6_about 124 = .ok (.aload_n 0, 1) := by decide +kernel
theorem dX6_about_125 : decode cX6_about 125 = .ok (.invokevirtual 144, 3) := by decide +kernel
theorem dX6_about_128 : decode cX6_about 128 = .ok (.getfield 148, 3) := by decide +kernel
theorem dX6_about_131 : decode cX6_about 131 = .ok (.iload_n 1, 1) := by decide +kernel
theorem dX6_about_132 : decode cX6_about 132 = .ok (.iaload, 1) := by decide +kernel
theorem dX6_about_133 : decode cX6_about 133 = .ok (.ireturn, 1) := by decide +kernel
theorem dX6_about_134 : decode cX6_about 134 = .ok (.aload_n 0, 1) := by decide +kernel
theorem dX6_about_135 : decode cX6_about 135 = .ok (.invokevirtual 144, 3) := by decide +kernel
theorem dX6_about_138 : decode cX6_about 138 = .ok (.getfield 151, 3) := by decide +kernel
theorem dX6_about_141 : decode cX6_about 141 = .ok (.iload_n 1, 1) := by decide +kernel
theorem dX6_about_142 : decode cX6_about 142 = .ok (.iaload, 1) := by decide +kernel
theorem dX6_about_143 : decode cX6_about 143 = .ok (.ireturn, 1) := by decide +kernel
theorem dX6_about_144 : decode cX6_about 144 = .ok (.aload_n 0, 1) := by decide +kernel
theorem dX6_about_145 : decode cX6_about 145 = .ok (.invokevirtual 144, 3) := by decide +kernel
theorem dX6_about_148 : decode cX6_about 148 = .ok (.getfield 154, 3) := by decide +kernel
theorem dX6_about_151 : decode cX6_about 151 = .ok (.iload_n 1, 1) := by decide +kernel
theorem dX6_about_152 : decode cX6_about 152 = .ok (.iaload, 1) := by decide +kernel
theorem dX6_about_153 : decode cX6_about 153 = .ok (.ireturn, 1) := by decide +kernel
theorem dX6_about_154 : decode cX6_about 154 = .ok (.aload_n 0, 1) := by decide +kernel
theorem dX6_about_155 : decode cX6_about 155 = .ok (.invokevirtual 144, 3) := by decide +kernel
theorem dX6_about_158 : decode cX6_about 158 = .ok (.getfield 157, 3) := by decide +kernel
theorem dX6_about_161 : decode cX6_about 161 = .ok (.iload_n 1, 1) := by decide +kernel
theorem dX6_about_162 : decode cX6_about 162 = .ok (.iaload, 1) := by decide +kernel
theorem dX6_about_163 : decode cX6_about 163 = .ok (.ireturn, 1) := by decide +kernel
theorem dX6_about_164 : decode cX6_about 164 = .ok (.aload_n 0, 1) := by decide +kernel
theorem dX6_about_165 : decode cX6_about 165 = .ok (.invokevirtual 160, 3) := by decide +kernel
theorem dX6_about_168 : decode cX6_about 168 = .ok (.getfield 164, 3) := by decide +kernel
theorem dX6_about_171 : decode cX6_about 171 = .ok (.iload_n 1, 1) := by decide +kernel
theorem dX6_about_172 : decode cX6_about 172 = .ok (.iaload, 1) := by decide +kernel
theorem dX6_about_173 : decode cX6_about 173 = .ok (.ireturn, 1) := by decide +kernel
theorem dX6_about_174 : decode cX6_about 174 = .ok (.aload_n 0, 1) := by decide +kernel
theorem dX6_about_175 : decode cX6_about 175 = .ok (.invokevirtual 160, 3) := by decide +kernel
theorem dX6_about_178 : decode cX6_about 178 = .ok (.getfield 167, 3) := by decide +kernel
theorem dX6_about_181 : decode cX6_about 181 = .ok (.iload_n 1, 1) := by decide +kernel
theorem dX6_about_182 : decode cX6_about 182 = .ok (.iaload, 1) := by decide +kernel
theorem dX6_about_183 : decode cX6_about 183 = .ok (.ireturn, 1) := by decide +kernel
theorem dX6_about_184 : decode cX6_about 184 = .ok (.aload_n 0, 1) := by decide +kernel
theorem dX6_about_185 : decode cX6_about 185 = .ok (.invokevirtual 170, 3) := by decide +kernel
theorem dX6_about_188 : decode cX6_about 188 = .ok (.getfield 174, 3) := by decide +kernel
theorem dX6_about_191 : decode cX6_about 191 = .ok (.iload_n 1, 1) := by decide +kernel
theorem dX6_about_192 : decode cX6_about 192 = .ok (.iaload, 1) := by decide +kernel
theorem dX6_about_193 : decode cX6_about 193 = .ok (.ireturn, 1) := by decide +kernel
theorem dX6_about_194 : decode cX6_about 194 = .ok (.bipush (-9), 2) := by decide +kernel
theorem dX6_about_196 : decode cX6_about 196 = .ok (.ireturn, 1) := by decide +kernel
theorem dX6_undo_0 : decode cX6_undo 0 = .ok (.aload_n 0, 1) := by decide +kernel
theorem dX6_undo_1 : decode cX6_undo 1 = .ok (.getfield 18, 3) := by decide +kernel
theorem dX6_undo_4 : decode cX6_undo 4 = .ok (.invokevirtual 175, 3) := by decide +kernel
theorem dX6_undo_7 : decode cX6_undo 7 = .ok (.ifCond .eq 7, 3) := by decide +kernel
theorem dX6_undo_10 : decode cX6_undo 10 = .ok (.iconst 1, 1) := by decide +kernel
theorem dX6_undo_11 : decode cX6_undo 11 = .ok (.goto 5, 3) := by decide +kernel
theorem dX6_undo_14 : decode cX6_undo 14 = .ok (.bipush (-3), 2) := by decide +kernel
theorem dX6_undo_16 : decode cX6_undo 16 = .ok (.ireturn, 1) := by decide +kernel
theorem dX6_isKind_0 : decode cX6_isKind 0 = .ok (.iload_n 0, 1) := by decide +kernel
theorem dX6_isKind_1 : decode cX6_isKind 1 = .ok (.tableswitch 78 0 3 #[31, 33, 38, 63], 31) := by decide +kernel
theorem dX6_isKind_32 : decode cX6_isKind 32 = .ok (.iconst 1, 1) := by decide +kernel
theorem dX6_isKind_33 : decode cX6_isKind 33 = .ok (.ireturn, 1) := by decide +kernel
theorem dX6_isKind_34 : decode cX6_isKind 34 = .ok (.iload_n 1, 1) := by decide +kernel
theorem dX6_isKind_35 : decode cX6_isKind 35 = .ok (.invokestatic 178, 3) := by decide +kernel
theorem dX6_isKind_38 : decode cX6_isKind 38 = .ok (.ireturn, 1) := by decide +kernel
theorem dX6_isKind_39 : decode cX6_isKind 39 = .ok (.iload_n 1, 1) := by decide +kernel
theorem dX6_isKind_40 : decode cX6_isKind 40 = .ok (.invokestatic 178, 3) := by decide +kernel
theorem dX6_isKind_43 : decode cX6_isKind 43 = .ok (.ifCond .eq 19, 3) := by decide +kernel
theorem dX6_isKind_46 : decode cX6_isKind 46 = .ok (.iload_n 2, 1) := by decide +kernel
theorem dX6_isKind_47 : decode cX6_isKind 47 = .ok (.invokestatic 178, 3) := by decide +kernel
theorem dX6_isKind_50 : decode cX6_isKind 50 = .ok (.ifCond .eq 12, 3) := by decide +kernel
theorem dX6_isKind_53 : decode cX6_isKind 53 = .ok (.iload_n 1, 1) := by decide +kernel
theorem dX6_isKind_54 : decode cX6_isKind 54 = .ok (.iload_n 2, 1) := by decide +kernel
theorem dX6_isKind_55 : decode cX6_isKind 55 = .ok (.if_icmp .gt 7, 3) := by decide +kernel
theorem dX6_isKind_58 : decode cX6_isKind 58 = .ok (.iconst 1, 1) := by decide +kernel
theorem dX6_isKind_59 : decode cX6_isKind 59 = .ok (.goto 4, 3) := by decide +kernel
theorem dX6_isKind_62 : decode cX6_isKind 62 = .ok (.iconst 0, 1) := by decide +kernel
theorem dX6_isKind_63 : decode cX6_isKind 63 = .ok (.ireturn, 1) := by decide +kernel
theorem dX6_isKind_64 : decode cX6_isKind 64 = .ok (.iload_n 1, 1) := by decide +kernel
theorem dX6_isKind_65 : decode cX6_isKind 65 = .ok (.ifCond .eq 8, 3) := by decide +kernel
theorem dX6_isKind_68 : decode cX6_isKind 68 = .ok (.iload_n 1, 1) := by decide +kernel
theorem dX6_isKind_69 : decode cX6_isKind 69 = .ok (.iconst 1, 1) := by decide +kernel
theorem dX6_isKind_70 : decode cX6_isKind 70 = .ok (.if_icmp .ne 7, 3) := by decide +kernel
theorem dX6_isKind_73 : decode cX6_isKind 73 = .ok (.iconst 1, 1) := by decide +kernel
theorem dX6_isKind_74 : decode cX6_isKind 74 = .ok (.goto 4, 3) := by decide +kernel
theorem dX6_isKind_77 : decode cX6_isKind 77 = .ok (.iconst 0, 1) := by decide +kernel
theorem dX6_isKind_78 : decode cX6_isKind 78 = .ok (.ireturn, 1) := by decide +kernel
theorem dX6_isKind_79 : decode cX6_isKind 79 = .ok (.iconst 0, 1) := by decide +kernel
theorem dX6_isKind_80 : decode cX6_isKind 80 = .ok (.ireturn, 1) := by decide +kernel
theorem dX6_isBound_0 : decode cX6_isBound 0 = .ok (.iload_n 0, 1) := by decide +kernel
theorem dX6_isBound_1 : decode cX6_isBound 1 = .ok (.iconst 1, 1) := by decide +kernel
theorem dX6_isBound_2 : decode cX6_isBound 2 = .ok (.if_icmp .lt 13, 3) := by decide +kernel
theorem dX6_isBound_5 : decode cX6_isBound 5 = .ok (.iload_n 0, 1) := by decide +kernel
theorem dX6_isBound_6 : decode cX6_isBound 6 = .ok (.bipush 40, 2) := by decide +kernel
theorem dX6_isBound_8 : decode cX6_isBound 8 = .ok (.if_icmp .gt 7, 3) := by decide +kernel
theorem dX6_isBound_11 : decode cX6_isBound 11 = .ok (.iconst 1, 1) := by decide +kernel
theorem dX6_isBound_12 : decode cX6_isBound 12 = .ok (.goto 4, 3) := by decide +kernel
theorem dX6_isBound_15 : decode cX6_isBound 15 = .ok (.iconst 0, 1) := by decide +kernel
theorem dX6_isBound_16 : decode cX6_isBound 16 = .ok (.ireturn, 1) := by decide +kernel
theorem dX6_readPlaces_0 : decode cX6_readPlaces 0 = .ok (.iconst 0, 1) := by decide +kernel
theorem dX6_readPlaces_1 : decode cX6_readPlaces 1 = .ok (.istore 5, 2) := by decide +kernel
theorem dX6_readPlaces_3 : decode cX6_readPlaces 3 = .ok (.iconst 0, 1) := by decide +kernel
theorem dX6_readPlaces_4 : decode cX6_readPlaces 4 = .ok (.istore 6, 2) := by decide +kernel
theorem dX6_readPlaces_6 : decode cX6_readPlaces 6 = .ok (.iload 6, 2) := by decide +kernel
theorem dX6_readPlaces_8 : decode cX6_readPlaces 8 = .ok (.iload 4, 2) := by decide +kernel
theorem dX6_readPlaces_10 : decode cX6_readPlaces 10 = .ok (.if_icmp .ge 58, 3) := by decide +kernel
theorem dX6_readPlaces_13 : decode cX6_readPlaces 13 = .ok (.aload_n 2, 1) := by decide +kernel
theorem dX6_readPlaces_14 : decode cX6_readPlaces 14 = .ok (.getfield 78, 3) := by decide +kernel
theorem dX6_readPlaces_17 : decode cX6_readPlaces 17 = .ok (.iload_n 3, 1) := by decide +kernel
theorem dX6_readPlaces_18 : decode cX6_readPlaces 18 = .ok (.iload 6, 2) := by decide +kernel
theorem dX6_readPlaces_20 : decode cX6_readPlaces 20 = .ok (.iadd, 1) := by decide +kernel
theorem dX6_readPlaces_21 : decode cX6_readPlaces 21 = .ok (.iaload, 1) := by decide +kernel
theorem dX6_readPlaces_22 : decode cX6_readPlaces 22 = .ok (.istore 7, 2) := by decide +kernel
theorem dX6_readPlaces_24 : decode cX6_readPlaces 24 = .ok (.aload_n 0, 1) := by decide +kernel
theorem dX6_readPlaces_25 : decode cX6_readPlaces 25 = .ok (.getfield 18, 3) := by decide +kernel
theorem dX6_readPlaces_28 : decode cX6_readPlaces 28 = .ok (.iload 7, 2) := by decide +kernel
theorem dX6_readPlaces_30 : decode cX6_readPlaces 30 = .ok (.invokevirtual 105, 3) := by decide +kernel
theorem dX6_readPlaces_33 : decode cX6_readPlaces 33 = .ok (.ifCond .ne 6, 3) := by decide +kernel
theorem dX6_readPlaces_36 : decode cX6_readPlaces 36 = .ok (.bipush (-15), 2) := by decide +kernel
theorem dX6_readPlaces_38 : decode cX6_readPlaces 38 = .ok (.ireturn, 1) := by decide +kernel
theorem dX6_readPlaces_39 : decode cX6_readPlaces 39 = .ok (.aload_n 0, 1) := by decide +kernel
theorem dX6_readPlaces_40 : decode cX6_readPlaces 40 = .ok (.iload_n 1, 1) := by decide +kernel
theorem dX6_readPlaces_41 : decode cX6_readPlaces 41 = .ok (.iload 7, 2) := by decide +kernel
theorem dX6_readPlaces_43 : decode cX6_readPlaces 43 = .ok (.invokevirtual 108, 3) := by decide +kernel
theorem dX6_readPlaces_46 : decode cX6_readPlaces 46 = .ok (.ifCond .eq 6, 3) := by decide +kernel
theorem dX6_readPlaces_49 : decode cX6_readPlaces 49 = .ok (.bipush (-4), 2) := by decide +kernel
theorem dX6_readPlaces_51 : decode cX6_readPlaces 51 = .ok (.ireturn, 1) := by decide +kernel
theorem dX6_readPlaces_52 : decode cX6_readPlaces 52 = .ok (.iload 5, 2) := by decide +kernel
theorem dX6_readPlaces_54 : decode cX6_readPlaces 54 = .ok (.iload 7, 2) := by decide +kernel
theorem dX6_readPlaces_56 : decode cX6_readPlaces 56 = .ok (.invokestatic 111, 3) := by decide +kernel
theorem dX6_readPlaces_59 : decode cX6_readPlaces 59 = .ok (.ior, 1) := by decide +kernel
theorem dX6_readPlaces_60 : decode cX6_readPlaces 60 = .ok (.istore 5, 2) := by decide +kernel
theorem dX6_readPlaces_62 : decode cX6_readPlaces 62 = .ok (.iinc 6 1, 3) := by decide +kernel
theorem dX6_readPlaces_65 : decode cX6_readPlaces 65 = .ok (.goto (-59), 3) := by decide +kernel
theorem dX6_readPlaces_68 : decode cX6_readPlaces 68 = .ok (.aload_n 0, 1) := by decide +kernel
theorem dX6_readPlaces_69 : decode cX6_readPlaces 69 = .ok (.getfield 18, 3) := by decide +kernel
theorem dX6_readPlaces_72 : decode cX6_readPlaces 72 = .ok (.iload_n 1, 1) := by decide +kernel
theorem dX6_readPlaces_73 : decode cX6_readPlaces 73 = .ok (.iload 5, 2) := by decide +kernel
theorem dX6_readPlaces_75 : decode cX6_readPlaces 75 = .ok (.invokevirtual 115, 3) := by decide +kernel
theorem dX6_readPlaces_78 : decode cX6_readPlaces 78 = .ok (.ireturn, 1) := by decide +kernel
theorem dX6_isRefused_0 : decode cX6_isRefused 0 = .ok (.iload_n 1, 1) := by decide +kernel
theorem dX6_isRefused_1 : decode cX6_isRefused 1 = .ok (.iload_n 2, 1) := by decide +kernel
theorem dX6_isRefused_2 : decode cX6_isRefused 2 = .ok (.if_icmp .eq 21, 3) := by decide +kernel
theorem dX6_isRefused_5 : decode cX6_isRefused 5 = .ok (.aload_n 0, 1) := by decide +kernel
theorem dX6_isRefused_6 : decode cX6_isRefused 6 = .ok (.invokevirtual 144, 3) := by decide +kernel
theorem dX6_isRefused_9 : decode cX6_isRefused 9 = .ok (.getfield 148, 3) := by decide +kernel
theorem dX6_isRefused_12 : decode cX6_isRefused 12 = .ok (.iload_n 2, 1) := by decide +kernel
theorem dX6_isRefused_13 : decode cX6_isRefused 13 = .ok (.iaload, 1) := by decide +kernel
theorem dX6_isRefused_14 : decode cX6_isRefused 14 = .ok (.iload_n 1, 1) := by decide +kernel
theorem dX6_isRefused_15 : decode cX6_isRefused 15 = .ok (.invokestatic 181, 3) := by decide +kernel
theorem dX6_isRefused_18 : decode cX6_isRefused 18 = .ok (.ifCond .ne 5, 3) := by decide +kernel
theorem dX6_isRefused_21 : decode cX6_isRefused 21 = .ok (.iconst 0, 1) := by decide +kernel
theorem dX6_isRefused_22 : decode cX6_isRefused 22 = .ok (.ireturn, 1) := by decide +kernel
theorem dX6_isRefused_23 : decode cX6_isRefused 23 = .ok (.aload_n 0, 1) := by decide +kernel
theorem dX6_isRefused_24 : decode cX6_isRefused 24 = .ok (.getfield 50, 3) := by decide +kernel
theorem dX6_isRefused_27 : decode cX6_isRefused 27 = .ok (.iload_n 1, 1) := by decide +kernel
theorem dX6_isRefused_28 : decode cX6_isRefused 28 = .ok (.iload_n 2, 1) := by decide +kernel
theorem dX6_isRefused_29 : decode cX6_isRefused 29 = .ok (.invokevirtual 184, 3) := by decide +kernel
theorem dX6_isRefused_32 : decode cX6_isRefused 32 = .ok (.iconst 1, 1) := by decide +kernel
theorem dX6_isRefused_33 : decode cX6_isRefused 33 = .ok (.ireturn, 1) := by decide +kernel
theorem dX6_least_0 : decode cX6_least 0 = .ok (.aload_n 0, 1) := by decide +kernel
theorem dX6_least_1 : decode cX6_least 1 = .ok (.invokevirtual 160, 3) := by decide +kernel
theorem dX6_least_4 : decode cX6_least 4 = .ok (.getfield 187, 3) := by decide +kernel
theorem dX6_least_7 : decode cX6_least 7 = .ok (.ireturn, 1) := by decide +kernel
theorem dX6_day_0 : decode cX6_day 0 = .ok (.iload_n 1, 1) := by decide +kernel
theorem dX6_day_1 : decode cX6_day 1 = .ok (.iconst 1, 1) := by decide +kernel
theorem dX6_day_2 : decode cX6_day 2 = .ok (.if_icmp .lt 12, 3) := by decide +kernel
theorem dX6_day_5 : decode cX6_day 5 = .ok (.iload_n 2, 1) := by decide +kernel
theorem dX6_day_6 : decode cX6_day 6 = .ok (.ifCond .lt 8, 3) := by decide +kernel
theorem dX6_day_9 : decode cX6_day 9 = .ok (.iload_n 2, 1) := by decide +kernel
theorem dX6_day_10 : decode cX6_day 10 = .ok (.iconst 1, 1) := by decide +kernel
theorem dX6_day_11 : decode cX6_day 11 = .ok (.if_icmp .le 5, 3) := by decide +kernel
theorem dX6_day_14 : decode cX6_day 14 = .ok (.iconst (-1), 1) := by decide +kernel
theorem dX6_day_15 : decode cX6_day 15 = .ok (.ireturn, 1) := by decide +kernel
theorem dX6_day_16 : decode cX6_day 16 = .ok (.aload_n 0, 1) := by decide +kernel
theorem dX6_day_17 : decode cX6_day 17 = .ok (.invokevirtual 160, 3) := by decide +kernel
theorem dX6_day_20 : decode cX6_day 20 = .ok (.astore_n 3, 1) := by decide +kernel
theorem dX6_day_21 : decode cX6_day 21 = .ok (.iload_n 1, 1) := by decide +kernel
theorem dX6_day_22 : decode cX6_day 22 = .ok (.aload_n 3, 1) := by decide +kernel
theorem dX6_day_23 : decode cX6_day 23 = .ok (.getfield 187, 3) := by decide +kernel
theorem dX6_day_26 : decode cX6_day 26 = .ok (.if_icmp .le 6, 3) := by decide +kernel
theorem dX6_day_29 : decode cX6_day 29 = .ok (.bipush (-3), 2) := by decide +kernel
theorem dX6_day_31 : decode cX6_day 31 = .ok (.ireturn, 1) := by decide +kernel
theorem dX6_day_32 : decode cX6_day 32 = .ok (.iload_n 2, 1) := by decide +kernel
theorem dX6_day_33 : decode cX6_day 33 = .ok (.ifCond .ne 12, 3) := by decide +kernel
theorem dX6_day_36 : decode cX6_day 36 = .ok (.aload_n 3, 1) := by decide +kernel
theorem dX6_day_37 : decode cX6_day 37 = .ok (.getfield 190, 3) := by decide +kernel
theorem dX6_day_40 : decode cX6_day 40 = .ok (.iload_n 1, 1) := by decide +kernel
theorem dX6_day_41 : decode cX6_day 41 = .ok (.iaload, 1) := by decide +kernel
theorem dX6_day_42 : decode cX6_day 42 = .ok (.goto 9, 3) := by decide +kernel
theorem dX6_day_45 : decode cX6_day 45 = .ok (.aload_n 3, 1) := by decide +kernel
theorem dX6_day_46 : decode cX6_day 46 = .ok (.getfield 193, 3) := by decide +kernel
theorem dX6_day_49 : decode cX6_day 49 = .ok (.iload_n 1, 1) := by decide +kernel
theorem dX6_day_50 : decode cX6_day 50 = .ok (.iaload, 1) := by decide +kernel
theorem dX6_day_51 : decode cX6_day 51 = .ok (.ireturn, 1) := by decide +kernel
theorem dX6_idle_0 : decode cX6_idle 0 = .ok (.iload_n 1, 1) := by decide +kernel
theorem dX6_idle_1 : decode cX6_idle 1 = .ok (.ifCond .ge 7, 3) := by decide +kernel
theorem dX6_idle_4 : decode cX6_idle 4 = .ok (.iconst (-1), 1) := by decide +kernel
theorem dX6_idle_5 : decode cX6_idle 5 = .ok (.goto 11, 3) := by decide +kernel
theorem dX6_idle_8 : decode cX6_idle 8 = .ok (.aload_n 0, 1) := by decide +kernel
theorem dX6_idle_9 : decode cX6_idle 9 = .ok (.invokevirtual 160, 3) := by decide +kernel
theorem dX6_idle_12 : decode cX6_idle 12 = .ok (.iload_n 1, 1) := by decide +kernel
theorem dX6_idle_13 : decode cX6_idle 13 = .ok (.invokevirtual 196, 3) := by decide +kernel
theorem dX6_idle_16 : decode cX6_idle 16 = .ok (.ireturn, 1) := by decide +kernel
theorem dX6_pairs_0 : decode cX6_pairs 0 = .ok (.aload_n 0, 1) := by decide +kernel
theorem dX6_pairs_1 : decode cX6_pairs 1 = .ok (.getfield 18, 3) := by decide +kernel
theorem dX6_pairs_4 : decode cX6_pairs 4 = .ok (.getfield 98, 3) := by decide +kernel
theorem dX6_pairs_7 : decode cX6_pairs 7 = .ok (.aload_n 0, 1) := by decide +kernel
theorem dX6_pairs_8 : decode cX6_pairs 8 = .ok (.invokevirtual 160, 3) := by decide +kernel
theorem dX6_pairs_11 : decode cX6_pairs 11 = .ok (.getfield 187, 3) := by decide +kernel
theorem dX6_pairs_14 : decode cX6_pairs 14 = .ok (.isub, 1) := by decide +kernel
theorem dX6_pairs_15 : decode cX6_pairs 15 = .ok (.ireturn, 1) := by decide +kernel
theorem dX6_rest_0 : decode cX6_rest 0 = .ok (.iload_n 1, 1) := by decide +kernel
theorem dX6_rest_1 : decode cX6_rest 1 = .ok (.ifCond .ge 5, 3) := by decide +kernel
theorem dX6_rest_4 : decode cX6_rest 4 = .ok (.iconst (-1), 1) := by decide +kernel
theorem dX6_rest_5 : decode cX6_rest 5 = .ok (.ireturn, 1) := by decide +kernel
theorem dX6_rest_6 : decode cX6_rest 6 = .ok (.iconst 0, 1) := by decide +kernel
theorem dX6_rest_7 : decode cX6_rest 7 = .ok (.aload_n 0, 1) := by decide +kernel
theorem dX6_rest_8 : decode cX6_rest 8 = .ok (.invokevirtual 160, 3) := by decide +kernel
theorem dX6_rest_11 : decode cX6_rest 11 = .ok (.getfield 187, 3) := by decide +kernel
theorem dX6_rest_14 : decode cX6_rest 14 = .ok (.iload_n 1, 1) := by decide +kernel
theorem dX6_rest_15 : decode cX6_rest 15 = .ok (.isub, 1) := by decide +kernel
theorem dX6_rest_16 : decode cX6_rest 16 = .ok (.invokestatic 199, 3) := by decide +kernel
theorem dX6_rest_19 : decode cX6_rest 19 = .ok (.ireturn, 1) := by decide +kernel
theorem dX6_kept_0 : decode cX6_kept 0 = .ok (.aload_n 0, 1) := by decide +kernel
theorem dX6_kept_1 : decode cX6_kept 1 = .ok (.invokevirtual 170, 3) := by decide +kernel
theorem dX6_kept_4 : decode cX6_kept 4 = .ok (.getfield 204, 3) := by decide +kernel
theorem dX6_kept_7 : decode cX6_kept 7 = .ok (.ireturn, 1) := by decide +kernel
theorem dX6_code_0 : decode cX6_code 0 = .ok (.iload_n 1, 1) := by decide +kernel
theorem dX6_code_1 : decode cX6_code 1 = .ok (.iconst 1, 1) := by decide +kernel
theorem dX6_code_2 : decode cX6_code 2 = .ok (.if_icmp .ge 5, 3) := by decide +kernel
theorem dX6_code_5 : decode cX6_code 5 = .ok (.iconst (-1), 1) := by decide +kernel
theorem dX6_code_6 : decode cX6_code 6 = .ok (.ireturn, 1) := by decide +kernel
theorem dX6_code_7 : decode cX6_code 7 = .ok (.aload_n 0, 1) := by decide +kernel
theorem dX6_code_8 : decode cX6_code 8 = .ok (.invokevirtual 170, 3) := by decide +kernel
theorem dX6_code_11 : decode cX6_code 11 = .ok (.astore_n 2, 1) := by decide +kernel
theorem dX6_code_12 : decode cX6_code 12 = .ok (.iload_n 1, 1) := by decide +kernel
theorem dX6_code_13 : decode cX6_code 13 = .ok (.aload_n 2, 1) := by decide +kernel
theorem dX6_code_14 : decode cX6_code 14 = .ok (.getfield 204, 3) := by decide +kernel
theorem dX6_code_17 : decode cX6_code 17 = .ok (.if_icmp .gt 12, 3) := by decide +kernel
theorem dX6_code_20 : decode cX6_code 20 = .ok (.aload_n 2, 1) := by decide +kernel
theorem dX6_code_21 : decode cX6_code 21 = .ok (.getfield 205, 3) := by decide +kernel
theorem dX6_code_24 : decode cX6_code 24 = .ok (.iload_n 1, 1) := by decide +kernel
theorem dX6_code_25 : decode cX6_code 25 = .ok (.iaload, 1) := by decide +kernel
theorem dX6_code_26 : decode cX6_code 26 = .ok (.goto 5, 3) := by decide +kernel
theorem dX6_code_29 : decode cX6_code 29 = .ok (.bipush (-3), 2) := by decide +kernel
theorem dX6_code_31 : decode cX6_code 31 = .ok (.ireturn, 1) := by decide +kernel
theorem dX6_check_0 : decode cX6_check 0 = .ok (.aload_n 0, 1) := by decide +kernel
theorem dX6_check_1 : decode cX6_check 1 = .ok (.lload_n 1, 1) := by decide +kernel
theorem dX6_check_2 : decode cX6_check 2 = .ok (.invokevirtual 208, 3) := by decide +kernel
theorem dX6_check_5 : decode cX6_check 5 = .ok (.ifCond .ne 5, 3) := by decide +kernel
theorem dX6_check_8 : decode cX6_check 8 = .ok (.iconst 0, 1) := by decide +kernel
theorem dX6_check_9 : decode cX6_check 9 = .ok (.ireturn, 1) := by decide +kernel
theorem dX6_check_10 : decode cX6_check 10 = .ok (.aload_n 0, 1) := by decide +kernel
theorem dX6_check_11 : decode cX6_check 11 = .ok (.lload_n 1, 1) := by decide +kernel
theorem dX6_check_12 : decode cX6_check 12 = .ok (.invokevirtual 212, 3) := by decide +kernel
theorem dX6_check_15 : decode cX6_check 15 = .ok (.ifCond .eq 7, 3) := by decide +kernel
theorem dX6_check_18 : decode cX6_check 18 = .ok (.iconst 2, 1) := by decide +kernel
theorem dX6_check_19 : decode cX6_check 19 = .ok (.goto 4, 3) := by decide +kernel
theorem dX6_check_22 : decode cX6_check 22 = .ok (.iconst 1, 1) := by decide +kernel
theorem dX6_check_23 : decode cX6_check 23 = .ok (.ireturn, 1) := by decide +kernel
theorem dX6_count_0 : decode cX6_count 0 = .ok (.iload_n 1, 1) := by decide +kernel
theorem dX6_count_1 : decode cX6_count 1 = .ok (.tableswitch 75 0 4 #[35, 43, 51, 59, 67], 35) := by decide +kernel
theorem dX6_count_36 : decode cX6_count 36 = .ok (.aload_n 0, 1) := by decide +kernel
theorem dX6_count_37 : decode cX6_count 37 = .ok (.getfield 18, 3) := by decide +kernel
theorem dX6_count_40 : decode cX6_count 40 = .ok (.getfield 98, 3) := by decide +kernel
theorem dX6_count_43 : decode cX6_count 43 = .ok (.ireturn, 1) := by decide +kernel
theorem dX6_count_44 : decode cX6_count 44 = .ok (.aload_n 0, 1) := by decide +kernel
theorem dX6_count_45 : decode cX6_count 45 = .ok (.getfield 18, 3) := by decide +kernel
theorem dX6_count_48 : decode cX6_count 48 = .ok (.invokevirtual 215, 3) := by decide +kernel
theorem dX6_count_51 : decode cX6_count 51 = .ok (.ireturn, 1) := by decide +kernel
theorem dX6_count_52 : decode cX6_count 52 = .ok (.aload_n 0, 1) := by decide +kernel
theorem dX6_count_53 : decode cX6_count 53 = .ok (.getfield 18, 3) := by decide +kernel
theorem dX6_count_56 : decode cX6_count 56 = .ok (.getfield 219, 3) := by decide +kernel
theorem dX6_count_59 : decode cX6_count 59 = .ok (.ireturn, 1) := by decide +kernel
theorem dX6_count_60 : decode cX6_count 60 = .ok (.aload_n 0, 1) := by decide +kernel
theorem dX6_count_61 : decode cX6_count 61 = .ok (.invokevirtual 160, 3) := by decide +kernel
theorem dX6_count_64 : decode cX6_count 64 = .ok (.invokevirtual 222, 3) := by decide +kernel
theorem dX6_count_67 : decode cX6_count 67 = .ok (.ireturn, 1) := by decide +kernel
theorem dX6_count_68 : decode cX6_count 68 = .ok (.aload_n 0, 1) := by decide +kernel
theorem dX6_count_69 : decode cX6_count 69 = .ok (.invokevirtual 144, 3) := by decide +kernel
theorem dX6_count_72 : decode cX6_count 72 = .ok (.getfield 225, 3) := by decide +kernel
theorem dX6_count_75 : decode cX6_count 75 = .ok (.ireturn, 1) := by decide +kernel
theorem dX6_count_76 : decode cX6_count 76 = .ok (.iconst (-1), 1) := by decide +kernel
theorem dX6_count_77 : decode cX6_count 77 = .ok (.ireturn, 1) := by decide +kernel
theorem dX6_isDay_0 : decode cX6_isDay 0 = .ok (.iconst 0, 1) := by decide +kernel
theorem dX6_isDay_1 : decode cX6_isDay 1 = .ok (.istore_n 3, 1) := by decide +kernel
theorem dX6_isDay_2 : decode cX6_isDay 2 = .ok (.iload_n 3, 1) := by decide +kernel
theorem dX6_isDay_3 : decode cX6_isDay 3 = .ok (.aload_n 0, 1) := by decide +kernel
theorem dX6_isDay_4 : decode cX6_isDay 4 = .ok (.getfield 18, 3) := by decide +kernel
theorem dX6_isDay_7 : decode cX6_isDay 7 = .ok (.getfield 98, 3) := by decide +kernel
theorem dX6_isDay_10 : decode cX6_isDay 10 = .ok (.if_icmp .ge 99, 3) := by decide +kernel
theorem dX6_isDay_13 : decode cX6_isDay 13 = .ok (.lload_n 1, 1) := by decide +kernel
theorem dX6_isDay_14 : decode cX6_isDay 14 = .ok (.iload_n 3, 1) := by decide +kernel
theorem dX6_isDay_15 : decode cX6_isDay 15 = .ok (.invokestatic 228, 3) := by decide +kernel
theorem dX6_isDay_18 : decode cX6_isDay 18 = .ok (.istore 4, 2) := by decide +kernel
theorem dX6_isDay_20 : decode cX6_isDay 20 = .ok (.iload 4, 2) := by decide +kernel
theorem dX6_isDay_22 : decode cX6_isDay 22 = .ok (.ifCond .ne 5, 3) := by decide +kernel
theorem dX6_isDay_25 : decode cX6_isDay 25 = .ok (.iconst 0, 1) := by decide +kernel
theorem dX6_isDay_26 : decode cX6_isDay 26 = .ok (.ireturn, 1) := by decide +kernel
theorem dX6_isDay_27 : decode cX6_isDay 27 = .ok (.iconst 0, 1) := by decide +kernel
theorem dX6_isDay_28 : decode cX6_isDay 28 = .ok (.istore 5, 2) := by decide +kernel
theorem dX6_isDay_30 : decode cX6_isDay 30 = .ok (.iconst 0, 1) := by decide +kernel
theorem dX6_isDay_31 : decode cX6_isDay 31 = .ok (.istore 6, 2) := by decide +kernel
theorem dX6_isDay_33 : decode cX6_isDay 33 = .ok (.iload 6, 2) := by decide +kernel
theorem dX6_isDay_35 : decode cX6_isDay 35 = .ok (.aload_n 0, 1) := by decide +kernel
theorem dX6_isDay_36 : decode cX6_isDay 36 = .ok (.getfield 18, 3) := by decide +kernel
theorem dX6_isDay_39 : decode cX6_isDay 39 = .ok (.getfield 98, 3) := by decide +kernel
theorem dX6_isDay_42 : decode cX6_isDay 42 = .ok (.if_icmp .ge 53, 3) := by decide +kernel
theorem dX6_isDay_45 : decode cX6_isDay 45 = .ok (.lload_n 1, 1) := by decide +kernel
theorem dX6_isDay_46 : decode cX6_isDay 46 = .ok (.iload 6, 2) := by decide +kernel
theorem dX6_isDay_48 : decode cX6_isDay 48 = .ok (.invokestatic 228, 3) := by decide +kernel
theorem dX6_isDay_51 : decode cX6_isDay 51 = .ok (.istore 7, 2) := by decide +kernel
theorem dX6_isDay_53 : decode cX6_isDay 53 = .ok (.iload 7, 2) := by decide +kernel
theorem dX6_isDay_55 : decode cX6_isDay 55 = .ok (.iload 4, 2) := by decide +kernel
theorem dX6_isDay_57 : decode cX6_isDay 57 = .ok (.if_icmp .ne 6, 3) := by decide +kernel
theorem dX6_isDay_60 : decode cX6_isDay 60 = .ok (.iinc 5 1, 3) := by decide +kernel
theorem dX6_isDay_63 : decode cX6_isDay 63 = .ok (.aload_n 0, 1) := by decide +kernel
theorem dX6_isDay_64 : decode cX6_isDay 64 = .ok (.getfield 18, 3) := by decide +kernel
theorem dX6_isDay_67 : decode cX6_isDay 67 = .ok (.getfield 141, 3) := by decide +kernel
theorem dX6_isDay_70 : decode cX6_isDay 70 = .ok (.iload_n 3, 1) := by decide +kernel
theorem dX6_isDay_71 : decode cX6_isDay 71 = .ok (.iaload, 1) := by decide +kernel
theorem dX6_isDay_72 : decode cX6_isDay 72 = .ok (.iload 6, 2) := by decide +kernel
theorem dX6_isDay_74 : decode cX6_isDay 74 = .ok (.invokestatic 181, 3) := by decide +kernel
theorem dX6_isDay_77 : decode cX6_isDay 77 = .ok (.ifCond .eq 12, 3) := by decide +kernel
theorem dX6_isDay_80 : decode cX6_isDay 80 = .ok (.iload 7, 2) := by decide +kernel
theorem dX6_isDay_82 : decode cX6_isDay 82 = .ok (.iload 4, 2) := by decide +kernel
theorem dX6_isDay_84 : decode cX6_isDay 84 = .ok (.if_icmp .lt 5, 3) := by decide +kernel
theorem dX6_isDay_87 : decode cX6_isDay 87 = .ok (.iconst 0, 1) := by decide +kernel
theorem dX6_isDay_88 : decode cX6_isDay 88 = .ok (.ireturn, 1) := by decide +kernel
theorem dX6_isDay_89 : decode cX6_isDay 89 = .ok (.iinc 6 1, 3) := by decide +kernel
theorem dX6_isDay_92 : decode cX6_isDay 92 = .ok (.goto (-59), 3) := by decide +kernel
theorem dX6_isDay_95 : decode cX6_isDay 95 = .ok (.iload 5, 2) := by decide +kernel
theorem dX6_isDay_97 : decode cX6_isDay 97 = .ok (.iconst 2, 1) := by decide +kernel
theorem dX6_isDay_98 : decode cX6_isDay 98 = .ok (.if_icmp .le 5, 3) := by decide +kernel
theorem dX6_isDay_101 : decode cX6_isDay 101 = .ok (.iconst 0, 1) := by decide +kernel
theorem dX6_isDay_102 : decode cX6_isDay 102 = .ok (.ireturn, 1) := by decide +kernel
theorem dX6_isDay_103 : decode cX6_isDay 103 = .ok (.iinc 3 1, 3) := by decide +kernel
theorem dX6_isDay_106 : decode cX6_isDay 106 = .ok (.goto (-104), 3) := by decide +kernel
theorem dX6_isDay_109 : decode cX6_isDay 109 = .ok (.iconst 1, 1) := by decide +kernel
theorem dX6_isDay_110 : decode cX6_isDay 110 = .ok (.ireturn, 1) := by decide +kernel
theorem dX6_keepsToKinds_0 : decode cX6_keepsToKinds 0 = .ok (.iconst 0, 1) := by decide +kernel
theorem dX6_keepsToKinds_1 : decode cX6_keepsToKinds 1 = .ok (.istore_n 3, 1) := by decide +kernel
theorem dX6_keepsToKinds_2 : decode cX6_keepsToKinds 2 = .ok (.iload_n 3, 1) := by decide +kernel
theorem dX6_keepsToKinds_3 : decode cX6_keepsToKinds 3 = .ok (.aload_n 0, 1) := by decide +kernel
theorem dX6_keepsToKinds_4 : decode cX6_keepsToKinds 4 = .ok (.getfield 18, 3) := by decide +kernel
theorem dX6_keepsToKinds_7 : decode cX6_keepsToKinds 7 = .ok (.getfield 98, 3) := by decide +kernel
theorem dX6_keepsToKinds_10 : decode cX6_keepsToKinds 10 = .ok (.if_icmp .ge 87, 3) := by decide +kernel
theorem dX6_keepsToKinds_13 : decode cX6_keepsToKinds 13 = .ok (.lload_n 1, 1) := by decide +kernel
theorem dX6_keepsToKinds_14 : decode cX6_keepsToKinds 14 = .ok (.iload_n 3, 1) := by decide +kernel
theorem dX6_keepsToKinds_15 : decode cX6_keepsToKinds 15 = .ok (.invokestatic 228, 3) := by decide +kernel
theorem dX6_keepsToKinds_18 : decode cX6_keepsToKinds 18 = .ok (.istore 4, 2) := by decide +kernel
theorem dX6_keepsToKinds_20 : decode cX6_keepsToKinds 20 = .ok (.iload 4, 2) := by decide +kernel
theorem dX6_keepsToKinds_22 : decode cX6_keepsToKinds 22 = .ok (.aload_n 0, 1) := by decide +kernel
theorem dX6_keepsToKinds_23 : decode cX6_keepsToKinds 23 = .ok (.getfield 18, 3) := by decide +kernel
theorem dX6_keepsToKinds_26 : decode cX6_keepsToKinds 26 = .ok (.getfield 232, 3) := by decide +kernel
theorem dX6_keepsToKinds_29 : decode cX6_keepsToKinds 29 = .ok (.iload_n 3, 1) := by decide +kernel
theorem dX6_keepsToKinds_30 : decode cX6_keepsToKinds 30 = .ok (.iaload, 1) := by decide +kernel
theorem dX6_keepsToKinds_31 : decode cX6_keepsToKinds 31 = .ok (.if_icmp .lt 17, 3) := by decide +kernel
theorem dX6_keepsToKinds_34 : decode cX6_keepsToKinds 34 = .ok (.iload 4, 2) := by decide +kernel
theorem dX6_keepsToKinds_36 : decode cX6_keepsToKinds 36 = .ok (.aload_n 0, 1) := by decide +kernel
theorem dX6_keepsToKinds_37 : decode cX6_keepsToKinds 37 = .ok (.getfield 18, 3) := by decide +kernel
theorem dX6_keepsToKinds_40 : decode cX6_keepsToKinds 40 = .ok (.getfield 235, 3) := by decide +kernel
theorem dX6_keepsToKinds_43 : decode cX6_keepsToKinds 43 = .ok (.iload_n 3, 1) := by decide +kernel
theorem dX6_keepsToKinds_44 : decode cX6_keepsToKinds 44 = .ok (.iaload, 1) := by decide +kernel
theorem dX6_keepsToKinds_45 : decode cX6_keepsToKinds 45 = .ok (.if_icmp .le 5, 3) := by decide +kernel
theorem dX6_keepsToKinds_48 : decode cX6_keepsToKinds 48 = .ok (.iconst 0, 1) := by decide +kernel
theorem dX6_keepsToKinds_49 : decode cX6_keepsToKinds 49 = .ok (.ireturn, 1) := by decide +kernel
theorem dX6_keepsToKinds_50 : decode cX6_keepsToKinds 50 = .ok (.iconst 0, 1) := by decide +kernel
theorem dX6_keepsToKinds_51 : decode cX6_keepsToKinds 51 = .ok (.istore 5, 2) := by decide +kernel
theorem dX6_keepsToKinds_53 : decode cX6_keepsToKinds 53 = .ok (.iload 5, 2) := by decide +kernel
theorem dX6_keepsToKinds_55 : decode cX6_keepsToKinds 55 = .ok (.iload_n 3, 1) := by decide +kernel
theorem dX6_keepsToKinds_56 : decode cX6_keepsToKinds 56 = .ok (.if_icmp .ge 35, 3) := by decide +kernel
theorem dX6_keepsToKinds_59 : decode cX6_keepsToKinds 59 = .ok (.lload_n 1, 1) := by decide +kernel
theorem dX6_keepsToKinds_60 : decode cX6_keepsToKinds 60 = .ok (.iload 5, 2) := by decide +kernel
theorem dX6_keepsToKinds_62 : decode cX6_keepsToKinds 62 = .ok (.invokestatic 228, 3) := by decide +kernel
theorem dX6_keepsToKinds_65 : decode cX6_keepsToKinds 65 = .ok (.iload 4, 2) := by decide +kernel
theorem dX6_keepsToKinds_67 : decode cX6_keepsToKinds 67 = .ok (.if_icmp .ne 18, 3) := by decide +kernel
theorem dX6_keepsToKinds_70 : decode cX6_keepsToKinds 70 = .ok (.aload_n 0, 1) := by decide +kernel
theorem dX6_keepsToKinds_71 : decode cX6_keepsToKinds 71 = .ok (.getfield 18, 3) := by decide +kernel
theorem dX6_keepsToKinds_74 : decode cX6_keepsToKinds 74 = .ok (.iload_n 3, 1) := by decide +kernel
theorem dX6_keepsToKinds_75 : decode cX6_keepsToKinds 75 = .ok (.iload 5, 2) := by decide +kernel
theorem dX6_keepsToKinds_77 : decode cX6_keepsToKinds 77 = .ok (.invokevirtual 238, 3) := by decide +kernel
theorem dX6_keepsToKinds_80 : decode cX6_keepsToKinds 80 = .ok (.ifCond .eq 5, 3) := by decide +kernel
theorem dX6_keepsToKinds_83 : decode cX6_keepsToKinds 83 = .ok (.iconst 0, 1) := by decide +kernel
theorem dX6_keepsToKinds_84 : decode cX6_keepsToKinds 84 = .ok (.ireturn, 1) := by decide +kernel
theorem dX6_keepsToKinds_85 : decode cX6_keepsToKinds 85 = .ok (.iinc 5 1, 3) := by decide +kernel
theorem dX6_keepsToKinds_88 : decode cX6_keepsToKinds 88 = .ok (.goto (-35), 3) := by decide +kernel
theorem dX6_keepsToKinds_91 : decode cX6_keepsToKinds 91 = .ok (.iinc 3 1, 3) := by decide +kernel
theorem dX6_keepsToKinds_94 : decode cX6_keepsToKinds 94 = .ok (.goto (-92), 3) := by decide +kernel
theorem dX6_keepsToKinds_97 : decode cX6_keepsToKinds 97 = .ok (.iconst 1, 1) := by decide +kernel
theorem dX6_keepsToKinds_98 : decode cX6_keepsToKinds 98 = .ok (.ireturn, 1) := by decide +kernel
theorem dX6_hourIn_0 : decode cX6_hourIn 0 = .ok (.lload_n 0, 1) := by decide +kernel
theorem dX6_hourIn_1 : decode cX6_hourIn 1 = .ok (.bipush 6, 2) := by decide +kernel
theorem dX6_hourIn_3 : decode cX6_hourIn 3 = .ok (.iload_n 2, 1) := by decide +kernel
theorem dX6_hourIn_4 : decode cX6_hourIn 4 = .ok (.imul, 1) := by decide +kernel
theorem dX6_hourIn_5 : decode cX6_hourIn 5 = .ok (.lushr, 1) := by decide +kernel
theorem dX6_hourIn_6 : decode cX6_hourIn 6 = .ok (.l2i, 1) := by decide +kernel
theorem dX6_hourIn_7 : decode cX6_hourIn 7 = .ok (.bipush 63, 2) := by decide +kernel
theorem dX6_hourIn_9 : decode cX6_hourIn 9 = .ok (.iand, 1) := by decide +kernel
theorem dX6_hourIn_10 : decode cX6_hourIn 10 = .ok (.ireturn, 1) := by decide +kernel
theorem dX6_orderNow_0 : decode cX6_orderNow 0 = .ok (.aload_n 0, 1) := by decide +kernel
theorem dX6_orderNow_1 : decode cX6_orderNow 1 = .ok (.getfield 27, 3) := by decide +kernel
theorem dX6_orderNow_4 : decode cX6_orderNow 4 = .ok (.invokevirtual 241, 3) := by decide +kernel
theorem dX6_orderNow_7 : decode cX6_orderNow 7 = .ok (.aload_n 0, 1) := by decide +kernel
theorem dX6_orderNow_8 : decode cX6_orderNow 8 = .ok (.getfield 27, 3) := by decide +kernel
theorem dX6_orderNow_11 : decode cX6_orderNow 11 = .ok (.areturn, 1) := by decide +kernel
theorem dX6_labelDayNow_0 : decode cX6_labelDayNow 0 = .ok (.aload_n 0, 1) := by decide +kernel
theorem dX6_labelDayNow_1 : decode cX6_labelDayNow 1 = .ok (.getfield 36, 3) := by decide +kernel
theorem dX6_labelDayNow_4 : decode cX6_labelDayNow 4 = .ok (.invokevirtual 244, 3) := by decide +kernel
theorem dX6_labelDayNow_7 : decode cX6_labelDayNow 7 = .ok (.aload_n 0, 1) := by decide +kernel
theorem dX6_labelDayNow_8 : decode cX6_labelDayNow 8 = .ok (.getfield 36, 3) := by decide +kernel
theorem dX6_labelDayNow_11 : decode cX6_labelDayNow 11 = .ok (.areturn, 1) := by decide +kernel
theorem dX6_keptDayNow_0 : decode cX6_keptDayNow 0 = .ok (.aload_n 0, 1) := by decide +kernel
theorem dX6_keptDayNow_1 : decode cX6_keptDayNow 1 = .ok (.getfield 43, 3) := by decide +kernel
theorem dX6_keptDayNow_4 : decode cX6_keptDayNow 4 = .ok (.invokevirtual 245, 3) := by decide +kernel
theorem dX6_keptDayNow_7 : decode cX6_keptDayNow 7 = .ok (.aload_n 0, 1) := by decide +kernel
theorem dX6_keptDayNow_8 : decode cX6_keptDayNow 8 = .ok (.getfield 43, 3) := by decide +kernel
theorem dX6_keptDayNow_11 : decode cX6_keptDayNow 11 = .ok (.areturn, 1) := by decide +kernel
theorem dX6_bit_0 : decode cX6_bit 0 = .ok (.iconst 1, 1) := by decide +kernel
theorem dX6_bit_1 : decode cX6_bit 1 = .ok (.iload_n 0, 1) := by decide +kernel
theorem dX6_bit_2 : decode cX6_bit 2 = .ok (.ishl, 1) := by decide +kernel
theorem dX6_bit_3 : decode cX6_bit 3 = .ok (.ireturn, 1) := by decide +kernel
theorem dX6_holds_0 : decode cX6_holds 0 = .ok (.iload_n 0, 1) := by decide +kernel
theorem dX6_holds_1 : decode cX6_holds 1 = .ok (.iconst 1, 1) := by decide +kernel
theorem dX6_holds_2 : decode cX6_holds 2 = .ok (.iload_n 1, 1) := by decide +kernel
theorem dX6_holds_3 : decode cX6_holds 3 = .ok (.ishl, 1) := by decide +kernel
theorem dX6_holds_4 : decode cX6_holds 4 = .ok (.iand, 1) := by decide +kernel
theorem dX6_holds_5 : decode cX6_holds 5 = .ok (.ifCond .eq 7, 3) := by decide +kernel
theorem dX6_holds_8 : decode cX6_holds 8 = .ok (.iconst 1, 1) := by decide +kernel
theorem dX6_holds_9 : decode cX6_holds 9 = .ok (.goto 4, 3) := by decide +kernel
theorem dX6_holds_12 : decode cX6_holds 12 = .ok (.iconst 0, 1) := by decide +kernel
theorem dX6_holds_13 : decode cX6_holds 13 = .ok (.ireturn, 1) := by decide +kernel
theorem dX7_init_0 : decode cX7_init 0 = .ok (.aload_n 0, 1) := by decide +kernel
theorem dX7_init_1 : decode cX7_init 1 = .ok (.invokespecial 1, 3) := by decide +kernel
theorem dX7_init_4 : decode cX7_init 4 = .ok (.aload_n 0, 1) := by decide +kernel
theorem dX7_init_5 : decode cX7_init 5 = .ok (.bipush 6, 2) := by decide +kernel
theorem dX7_init_7 : decode cX7_init 7 = .ok (.newarray .int, 2) := by decide +kernel
theorem dX7_init_9 : decode cX7_init 9 = .ok (.putfield 7, 3) := by decide +kernel
theorem dX7_init_12 : decode cX7_init 12 = .ok (.aload_n 0, 1) := by decide +kernel
theorem dX7_init_13 : decode cX7_init 13 = .ok (.bipush 6, 2) := by decide +kernel
theorem dX7_init_15 : decode cX7_init 15 = .ok (.newarray .int, 2) := by decide +kernel
theorem dX7_init_17 : decode cX7_init 17 = .ok (.putfield 13, 3) := by decide +kernel
theorem dX7_init_20 : decode cX7_init 20 = .ok (.aload_n 0, 1) := by decide +kernel
theorem dX7_init_21 : decode cX7_init 21 = .ok (.bipush 96, 2) := by decide +kernel
theorem dX7_init_23 : decode cX7_init 23 = .ok (.newarray .int, 2) := by decide +kernel
theorem dX7_init_25 : decode cX7_init 25 = .ok (.putfield 16, 3) := by decide +kernel
theorem dX7_init_28 : decode cX7_init 28 = .ok (.aload_n 0, 1) := by decide +kernel
theorem dX7_init_29 : decode cX7_init 29 = .ok (.bipush 10, 2) := by decide +kernel
theorem dX7_init_31 : decode cX7_init 31 = .ok (.newarray .int, 2) := by decide +kernel
theorem dX7_init_33 : decode cX7_init 33 = .ok (.putfield 19, 3) := by decide +kernel
theorem dX7_init_36 : decode cX7_init 36 = .ok (.aload_n 0, 1) := by decide +kernel
theorem dX7_init_37 : decode cX7_init 37 = .ok (.bipush 10, 2) := by decide +kernel
theorem dX7_init_39 : decode cX7_init 39 = .ok (.newarray .int, 2) := by decide +kernel
theorem dX7_init_41 : decode cX7_init 41 = .ok (.putfield 22, 3) := by decide +kernel
theorem dX7_init_44 : decode cX7_init 44 = .ok (.aload_n 0, 1) := by decide +kernel
theorem dX7_init_45 : decode cX7_init 45 = .ok (.bipush 10, 2) := by decide +kernel
theorem dX7_init_47 : decode cX7_init 47 = .ok (.newarray .int, 2) := by decide +kernel
theorem dX7_init_49 : decode cX7_init 49 = .ok (.putfield 25, 3) := by decide +kernel
theorem dX7_init_52 : decode cX7_init 52 = .ok (.aload_n 0, 1) := by decide +kernel
theorem dX7_init_53 : decode cX7_init 53 = .ok (.bipush 10, 2) := by decide +kernel
theorem dX7_init_55 : decode cX7_init 55 = .ok (.newarray .int, 2) := by decide +kernel
theorem dX7_init_57 : decode cX7_init 57 = .ok (.putfield 28, 3) := by decide +kernel
theorem dX7_init_60 : decode cX7_init 60 = .ok (.aload_n 0, 1) := by decide +kernel
theorem dX7_init_61 : decode cX7_init 61 = .ok (.bipush 10, 2) := by decide +kernel
theorem dX7_init_63 : decode cX7_init 63 = .ok (.newarray .int, 2) := by decide +kernel
theorem dX7_init_65 : decode cX7_init 65 = .ok (.putfield 31, 3) := by decide +kernel
theorem dX7_init_68 : decode cX7_init 68 = .ok (.aload_n 0, 1) := by decide +kernel
theorem dX7_init_69 : decode cX7_init 69 = .ok (.sipush 1020, 3) := by decide +kernel
theorem dX7_init_72 : decode cX7_init 72 = .ok (.newarray .int, 2) := by decide +kernel
theorem dX7_init_74 : decode cX7_init 74 = .ok (.putfield 34, 3) := by decide +kernel
theorem dX7_init_77 : decode cX7_init 77 = .ok (.aload_n 0, 1) := by decide +kernel
theorem dX7_init_78 : decode cX7_init 78 = .ok (.bipush 10, 2) := by decide +kernel
theorem dX7_init_80 : decode cX7_init 80 = .ok (.newarray .int, 2) := by decide +kernel
theorem dX7_init_82 : decode cX7_init 82 = .ok (.putfield 37, 3) := by decide +kernel
theorem dX7_init_85 : decode cX7_init 85 = .ok (.aload_n 0, 1) := by decide +kernel
theorem dX7_init_86 : decode cX7_init 86 = .ok (.bipush 16, 2) := by decide +kernel
theorem dX7_init_88 : decode cX7_init 88 = .ok (.newarray .int, 2) := by decide +kernel
theorem dX7_init_90 : decode cX7_init 90 = .ok (.putfield 40, 3) := by decide +kernel
theorem dX7_init_93 : decode cX7_init 93 = .ok (.aload_n 0, 1) := by decide +kernel
theorem dX7_init_94 : decode cX7_init 94 = .ok (.bipush 10, 2) := by decide +kernel
theorem dX7_init_96 : decode cX7_init 96 = .ok (.newarray .int, 2) := by decide +kernel
theorem dX7_init_98 : decode cX7_init 98 = .ok (.putfield 43, 3) := by decide +kernel
theorem dX7_init_101 : decode cX7_init 101 = .ok (.aload_n 0, 1) := by decide +kernel
theorem dX7_init_102 : decode cX7_init 102 = .ok (.bipush 10, 2) := by decide +kernel
theorem dX7_init_104 : decode cX7_init 104 = .ok (.newarray .int, 2) := by decide +kernel
theorem dX7_init_106 : decode cX7_init 106 = .ok (.putfield 46, 3) := by decide +kernel
theorem dX7_init_109 : decode cX7_init 109 = .ok (.aload_n 0, 1) := by decide +kernel
theorem dX7_init_110 : decode cX7_init 110 = .ok (.bipush 10, 2) := by decide +kernel
theorem dX7_init_112 : decode cX7_init 112 = .ok (.newarray .int, 2) := by decide +kernel
theorem dX7_init_114 : decode cX7_init 114 = .ok (.putfield 49, 3) := by decide +kernel
theorem dX7_init_117 : decode cX7_init 117 = .ok (.aload_n 0, 1) := by decide +kernel
theorem dX7_init_118 : decode cX7_init 118 = .ok (.bipush 10, 2) := by decide +kernel
theorem dX7_init_120 : decode cX7_init 120 = .ok (.newarray .int, 2) := by decide +kernel
theorem dX7_init_122 : decode cX7_init 122 = .ok (.putfield 52, 3) := by decide +kernel
theorem dX7_init_125 : decode cX7_init 125 = .ok (.aload_n 0, 1) := by decide +kernel
theorem dX7_init_126 : decode cX7_init 126 = .ok (.bipush 10, 2) := by decide +kernel
theorem dX7_init_128 : decode cX7_init 128 = .ok (.newarray .int, 2) := by decide +kernel
theorem dX7_init_130 : decode cX7_init 130 = .ok (.putfield 55, 3) := by decide +kernel
theorem dX7_init_133 : decode cX7_init 133 = .ok (.aload_n 0, 1) := by decide +kernel
theorem dX7_init_134 : decode cX7_init 134 = .ok (.sipush 1024, 3) := by decide +kernel
theorem dX7_init_137 : decode cX7_init 137 = .ok (.newarray .int, 2) := by decide +kernel
theorem dX7_init_139 : decode cX7_init 139 = .ok (.putfield 58, 3) := by decide +kernel
theorem dX7_init_142 : decode cX7_init 142 = .ok (.aload_n 0, 1) := by decide +kernel
theorem dX7_init_143 : decode cX7_init 143 = .ok (.ldc 61, 2) := by decide +kernel
theorem dX7_init_145 : decode cX7_init 145 = .ok (.newarray .int, 2) := by decide +kernel
theorem dX7_init_147 : decode cX7_init 147 = .ok (.putfield 62, 3) := by decide +kernel
theorem dX7_init_150 : decode cX7_init 150 = .ok (.aload_n 0, 1) := by decide +kernel
theorem dX7_init_151 : decode cX7_init 151 = .ok (.bipush 61, 2) := by decide +kernel
theorem dX7_init_153 : decode cX7_init 153 = .ok (.newarray .int, 2) := by decide +kernel
theorem dX7_init_155 : decode cX7_init 155 = .ok (.putfield 65, 3) := by decide +kernel
theorem dX7_init_158 : decode cX7_init 158 = .ok (.aload_n 0, 1) := by decide +kernel
theorem dX7_init_159 : decode cX7_init 159 = .ok (.bipush 10, 2) := by decide +kernel
theorem dX7_init_161 : decode cX7_init 161 = .ok (.newarray .int, 2) := by decide +kernel
theorem dX7_init_163 : decode cX7_init 163 = .ok (.putfield 68, 3) := by decide +kernel
theorem dX7_init_166 : decode cX7_init 166 = .ok (.iconst 0, 1) := by decide +kernel
theorem dX7_init_167 : decode cX7_init 167 = .ok (.istore_n 1, 1) := by decide +kernel
theorem dX7_init_168 : decode cX7_init 168 = .ok (.iload_n 1, 1) := by decide +kernel
theorem dX7_init_169 : decode cX7_init 169 = .ok (.bipush 6, 2) := by decide +kernel
theorem dX7_init_171 : decode cX7_init 171 = .ok (.if_icmp .ge 16, 3) := by decide +kernel
theorem dX7_init_174 : decode cX7_init 174 = .ok (.aload_n 0, 1) := by decide +kernel
theorem dX7_init_175 : decode cX7_init 175 = .ok (.getfield 7, 3) := by decide +kernel
theorem dX7_init_178 : decode cX7_init 178 = .ok (.iload_n 1, 1) := by decide +kernel
theorem dX7_init_179 : decode cX7_init 179 = .ok (.iconst (-1), 1) := by decide +kernel
theorem dX7_init_180 : decode cX7_init 180 = .ok (.iastore, 1) := by decide +kernel
theorem dX7_init_181 : decode cX7_init 181 = .ok (.iinc 1 1, 3) := by decide +kernel
theorem dX7_init_184 : decode cX7_init 184 = .ok (.goto (-16), 3) := by decide +kernel
theorem dX7_init_187 : decode cX7_init 187 = .ok (.return_, 1) := by decide +kernel
theorem dX7_in_0 : decode cX7_in 0 = .ok (.lload_n 0, 1) := by decide +kernel
theorem dX7_in_1 : decode cX7_in 1 = .ok (.lload_n 2, 1) := by decide +kernel
theorem dX7_in_2 : decode cX7_in 2 = .ok (.lcmp, 1) := by decide +kernel
theorem dX7_in_3 : decode cX7_in 3 = .ok (.ifCond .lt 14, 3) := by decide +kernel
theorem dX7_in_6 : decode cX7_in 6 = .ok (.lload_n 0, 1) := by decide +kernel
theorem dX7_in_7 : decode cX7_in 7 = .ok (.lload 4, 2) := by decide +kernel
theorem dX7_in_9 : decode cX7_in 9 = .ok (.lcmp, 1) := by decide +kernel
theorem dX7_in_10 : decode cX7_in 10 = .ok (.ifCond .gt 7, 3) := by decide +kernel
theorem dX7_in_13 : decode cX7_in 13 = .ok (.iconst 1, 1) := by decide +kernel
theorem dX7_in_14 : decode cX7_in 14 = .ok (.goto 4, 3) := by decide +kernel
theorem dX7_in_17 : decode cX7_in 17 = .ok (.iconst 0, 1) := by decide +kernel
theorem dX7_in_18 : decode cX7_in 18 = .ok (.ireturn, 1) := by decide +kernel
theorem dX7_isSheet_0 : decode cX7_isSheet 0 = .ok (.iload_n 0, 1) := by decide +kernel
theorem dX7_isSheet_1 : decode cX7_isSheet 1 = .ok (.i2l, 1) := by decide +kernel
theorem dX7_isSheet_2 : decode cX7_isSheet 2 = .ok (.lconst 0, 1) := by decide +kernel
theorem dX7_isSheet_3 : decode cX7_isSheet 3 = .ok (.ldc2_w 71, 3) := by decide +kernel
theorem dX7_isSheet_6 : decode cX7_isSheet 6 = .ok (.invokestatic 73, 3) := by decide +kernel
theorem dX7_isSheet_9 : decode cX7_isSheet 9 = .ok (.ireturn, 1) := by decide +kernel
theorem dX7_sheet_0 : decode cX7_sheet 0 = .ok (.iload_n 1, 1) := by decide +kernel
theorem dX7_sheet_1 : decode cX7_sheet 1 = .ok (.invokestatic 77, 3) := by decide +kernel
theorem dX7_sheet_4 : decode cX7_sheet 4 = .ok (.ifCond .eq 27, 3) := by decide +kernel
theorem dX7_sheet_7 : decode cX7_sheet 7 = .ok (.iload_n 2, 1) := by decide +kernel
theorem dX7_sheet_8 : decode cX7_sheet 8 = .ok (.i2l, 1) := by decide +kernel
theorem dX7_sheet_9 : decode cX7_sheet 9 = .ok (.ldc2_w 81, 3) := by decide +kernel
theorem dX7_sheet_12 : decode cX7_sheet 12 = .ok (.ldc2_w 83, 3) := by decide +kernel
theorem dX7_sheet_15 : decode cX7_sheet 15 = .ok (.invokestatic 73, 3) := by decide +kernel
theorem dX7_sheet_18 : decode cX7_sheet 18 = .ok (.ifCond .eq 13, 3) := by decide +kernel
theorem dX7_sheet_21 : decode cX7_sheet 21 = .ok (.iload_n 2, 1) := by decide +kernel
theorem dX7_sheet_22 : decode cX7_sheet 22 = .ok (.ifCond .lt 11, 3) := by decide +kernel
theorem dX7_sheet_25 : decode cX7_sheet 25 = .ok (.iload_n 3, 1) := by decide +kernel
theorem dX7_sheet_26 : decode cX7_sheet 26 = .ok (.bipush 16, 2) := by decide +kernel
theorem dX7_sheet_28 : decode cX7_sheet 28 = .ok (.if_icmp .le 5, 3) := by decide +kernel
theorem dX7_sheet_31 : decode cX7_sheet 31 = .ok (.iconst (-1), 1) := by decide +kernel
theorem dX7_sheet_32 : decode cX7_sheet 32 = .ok (.ireturn, 1) := by decide +kernel
theorem dX7_sheet_33 : decode cX7_sheet 33 = .ok (.iload_n 2, 1) := by decide +kernel
theorem dX7_sheet_34 : decode cX7_sheet 34 = .ok (.ifCond .lt 10, 3) := by decide +kernel
theorem dX7_sheet_37 : decode cX7_sheet 37 = .ok (.iload_n 3, 1) := by decide +kernel
theorem dX7_sheet_38 : decode cX7_sheet 38 = .ok (.ifCond .ge 6, 3) := by decide +kernel
theorem dX7_sheet_41 : decode cX7_sheet 41 = .ok (.bipush (-13), 2) := by decide +kernel
theorem dX7_sheet_43 : decode cX7_sheet 43 = .ok (.ireturn, 1) := by decide +kernel
theorem dX7_sheet_44 : decode cX7_sheet 44 = .ok (.aload_n 0, 1) := by decide +kernel
theorem dX7_sheet_45 : decode cX7_sheet 45 = .ok (.getfield 7, 3) := by decide +kernel
theorem dX7_sheet_48 : decode cX7_sheet 48 = .ok (.iload_n 1, 1) := by decide +kernel
theorem dX7_sheet_49 : decode cX7_sheet 49 = .ok (.iload_n 2, 1) := by decide +kernel
theorem dX7_sheet_50 : decode cX7_sheet 50 = .ok (.iastore, 1) := by decide +kernel
theorem dX7_sheet_51 : decode cX7_sheet 51 = .ok (.aload_n 0, 1) := by decide +kernel
theorem dX7_sheet_52 : decode cX7_sheet 52 = .ok (.getfield 13, 3) := by decide +kernel
theorem dX7_sheet_55 : decode cX7_sheet 55 = .ok (.iload_n 1, 1) := by decide +kernel
theorem dX7_sheet_56 : decode cX7_sheet 56 = .ok (.iload_n 2, 1) := by decide +kernel
theorem dX7_sheet_57 : decode cX7_sheet 57 = .ok (.ifCond .ge 7, 3) := by decide +kernel
theorem dX7_sheet_60 : decode cX7_sheet 60 = .ok (.iconst 0, 1) := by decide +kernel
theorem dX7_sheet_61 : decode cX7_sheet 61 = .ok (.goto 4, 3) := by decide +kernel
theorem dX7_sheet_64 : decode cX7_sheet 64 = .ok (.iload_n 3, 1) := by decide +kernel
theorem dX7_sheet_65 : decode cX7_sheet 65 = .ok (.iastore, 1) := by decide +kernel
theorem dX7_sheet_66 : decode cX7_sheet 66 = .ok (.iconst 0, 1) := by decide +kernel
theorem dX7_sheet_67 : decode cX7_sheet 67 = .ok (.istore 4, 2) := by decide +kernel
theorem dX7_sheet_69 : decode cX7_sheet 69 = .ok (.iload 4, 2) := by decide +kernel
theorem dX7_sheet_71 : decode cX7_sheet 71 = .ok (.bipush 16, 2) := by decide +kernel
theorem dX7_sheet_73 : decode cX7_sheet 73 = .ok (.if_icmp .ge 22, 3) := by decide +kernel
theorem dX7_sheet_76 : decode cX7_sheet 76 = .ok (.aload_n 0, 1) := by decide +kernel
theorem dX7_sheet_77 : decode cX7_sheet 77 = .ok (.getfield 16, 3) := by decide +kernel
theorem dX7_sheet_80 : decode cX7_sheet 80 = .ok (.bipush 16, 2) := by decide +kernel
theorem dX7_sheet_82 : decode cX7_sheet 82 = .ok (.iload_n 1, 1) := by decide +kernel
theorem dX7_sheet_83 : decode cX7_sheet 83 = .ok (.imul, 1) := by decide +kernel
theorem dX7_sheet_84 : decode cX7_sheet 84 = .ok (.iload 4, 2) := by decide +kernel
theorem dX7_sheet_86 : decode cX7_sheet 86 = .ok (.iadd, 1) := by decide +kernel
theorem dX7_sheet_87 : decode cX7_sheet 87 = .ok (.iconst 0, 1) := by decide +kernel
theorem dX7_sheet_88 : decode cX7_sheet 88 = .ok (.iastore, 1) := by decide +kernel
theorem dX7_sheet_89 : decode cX7_sheet 89 = .ok (.iinc 4 1, 3) := by decide +kernel
theorem dX7_sheet_92 : decode cX7_sheet 92 = .ok (.goto (-23), 3) := by decide +kernel
theorem dX7_sheet_95 : decode cX7_sheet 95 = .ok (.iconst 0, 1) := by decide +kernel
theorem dX7_sheet_96 : decode cX7_sheet 96 = .ok (.ireturn, 1) := by decide +kernel
theorem dX7_against_0 : decode cX7_against 0 = .ok (.iload_n 1, 1) := by decide +kernel
theorem dX7_against_1 : decode cX7_against 1 = .ok (.invokestatic 77, 3) := by decide +kernel
theorem dX7_against_4 : decode cX7_against 4 = .ok (.ifCond .ne 7, 3) := by decide +kernel
theorem dX7_against_7 : decode cX7_against 7 = .ok (.iconst (-1), 1) := by decide +kernel
theorem dX7_against_8 : decode cX7_against 8 = .ok (.goto 41, 3) := by decide +kernel
theorem dX7_against_11 : decode cX7_against 11 = .ok (.aload_n 0, 1) := by decide +kernel
theorem dX7_against_12 : decode cX7_against 12 = .ok (.getfield 7, 3) := by decide +kernel
theorem dX7_against_15 : decode cX7_against 15 = .ok (.iload_n 1, 1) := by decide +kernel
theorem dX7_against_16 : decode cX7_against 16 = .ok (.iaload, 1) := by decide +kernel
theorem dX7_against_17 : decode cX7_against 17 = .ok (.ifCond .ge 8, 3) := by decide +kernel
theorem dX7_against_20 : decode cX7_against 20 = .ok (.bipush (-11), 2) := by decide +kernel
theorem dX7_against_22 : decode cX7_against 22 = .ok (.goto 27, 3) := by decide +kernel
theorem dX7_against_25 : decode cX7_against 25 = .ok (.iload_n 2, 1) := by decide +kernel
theorem dX7_against_26 : decode cX7_against 26 = .ok (.i2l, 1) := by decide +kernel
theorem dX7_against_27 : decode cX7_against 27 = .ok (.lconst 0, 1) := by decide +kernel
theorem dX7_against_28 : decode cX7_against 28 = .ok (.aload_n 0, 1) := by decide +kernel
theorem dX7_against_29 : decode cX7_against 29 = .ok (.getfield 13, 3) := by decide +kernel
theorem dX7_against_32 : decode cX7_against 32 = .ok (.iload_n 1, 1) := by decide +kernel
theorem dX7_against_33 : decode cX7_against 33 = .ok (.iaload, 1) := by decide +kernel
theorem dX7_against_34 : decode cX7_against 34 = .ok (.iconst 1, 1) := by decide +kernel
theorem dX7_against_35 : decode cX7_against 35 = .ok (.isub, 1) := by decide +kernel
theorem dX7_against_36 : decode cX7_against 36 = .ok (.i2l, 1) := by decide +kernel
theorem dX7_against_37 : decode cX7_against 37 = .ok (.invokestatic 73, 3) := by decide +kernel
theorem dX7_against_40 : decode cX7_against 40 = .ok (.ifCond .ne 8, 3) := by decide +kernel
theorem dX7_against_43 : decode cX7_against 43 = .ok (.bipush (-12), 2) := by decide +kernel
theorem dX7_against_45 : decode cX7_against 45 = .ok (.goto 4, 3) := by decide +kernel
theorem dX7_against_48 : decode cX7_against 48 = .ok (.iconst 0, 1) := by decide +kernel
theorem dX7_against_49 : decode cX7_against 49 = .ok (.ireturn, 1) := by decide +kernel
theorem dX7_put_0 : decode cX7_put 0 = .ok (.aload_n 0, 1) := by decide +kernel
theorem dX7_put_1 : decode cX7_put 1 = .ok (.iload_n 1, 1) := by decide +kernel
theorem dX7_put_2 : decode cX7_put 2 = .ok (.iload_n 2, 1) := by decide +kernel
theorem dX7_put_3 : decode cX7_put 3 = .ok (.invokevirtual 85, 3) := by decide +kernel
theorem dX7_put_6 : decode cX7_put 6 = .ok (.istore 4, 2) := by decide +kernel
theorem dX7_put_8 : decode cX7_put 8 = .ok (.iload 4, 2) := by decide +kernel
theorem dX7_put_10 : decode cX7_put 10 = .ok (.ifCond .ne 44, 3) := by decide +kernel
theorem dX7_put_13 : decode cX7_put 13 = .ok (.aload_n 0, 1) := by decide +kernel
theorem dX7_put_14 : decode cX7_put 14 = .ok (.getfield 16, 3) := by decide +kernel
theorem dX7_put_17 : decode cX7_put 17 = .ok (.bipush 16, 2) := by decide +kernel
theorem dX7_put_19 : decode cX7_put 19 = .ok (.iload_n 1, 1) := by decide +kernel
theorem dX7_put_20 : decode cX7_put 20 = .ok (.imul, 1) := by decide +kernel
theorem dX7_put_21 : decode cX7_put 21 = .ok (.iload_n 2, 1) := by decide +kernel
theorem dX7_put_22 : decode cX7_put 22 = .ok (.iadd, 1) := by decide +kernel
theorem dX7_put_23 : decode cX7_put 23 = .ok (.aload_n 0, 1) := by decide +kernel
theorem dX7_put_24 : decode cX7_put 24 = .ok (.getfield 7, 3) := by decide +kernel
theorem dX7_put_27 : decode cX7_put 27 = .ok (.iload_n 1, 1) := by decide +kernel
theorem dX7_put_28 : decode cX7_put 28 = .ok (.iaload, 1) := by decide +kernel
theorem dX7_put_29 : decode cX7_put 29 = .ok (.ifCond .ne 8, 3) := by decide +kernel
theorem dX7_put_32 : decode cX7_put 32 = .ok (.iload_n 3, 1) := by decide +kernel
theorem dX7_put_33 : decode cX7_put 33 = .ok (.i2b, 1) := by decide +kernel
theorem dX7_put_34 : decode cX7_put 34 = .ok (.goto 19, 3) := by decide +kernel
theorem dX7_put_37 : decode cX7_put 37 = .ok (.aload_n 0, 1) := by decide +kernel
theorem dX7_put_38 : decode cX7_put 38 = .ok (.getfield 7, 3) := by decide +kernel
theorem dX7_put_41 : decode cX7_put 41 = .ok (.iload_n 1, 1) := by decide +kernel
theorem dX7_put_42 : decode cX7_put 42 = .ok (.iaload, 1) := by decide +kernel
theorem dX7_put_43 : decode cX7_put 43 = .ok (.iconst 1, 1) := by decide +kernel
theorem dX7_put_44 : decode cX7_put 44 = .ok (.if_icmp .ne 8, 3) := by decide +kernel
theorem dX7_put_47 : decode cX7_put 47 = .ok (.iload_n 3, 1) := by decide +kernel
theorem dX7_put_48 : decode cX7_put 48 = .ok (.i2s, 1) := by decide +kernel
theorem dX7_put_49 : decode cX7_put 49 = .ok (.goto 4, 3) := by decide +kernel
theorem dX7_put_52 : decode cX7_put 52 = .ok (.iload_n 3, 1) := by decide +kernel
theorem dX7_put_53 : decode cX7_put 53 = .ok (.iastore, 1) := by decide +kernel
theorem dX7_put_54 : decode cX7_put 54 = .ok (.iload 4, 2) := by decide +kernel
theorem dX7_put_56 : decode cX7_put 56 = .ok (.ireturn, 1) := by decide +kernel
theorem dX7_copy_0 : decode cX7_copy 0 = .ok (.iload_n 1, 1) := by decide +kernel
theorem dX7_copy_1 : decode cX7_copy 1 = .ok (.invokestatic 77, 3) := by decide +kernel
theorem dX7_copy_4 : decode cX7_copy 4 = .ok (.ifCond .eq 10, 3) := by decide +kernel
theorem dX7_copy_7 : decode cX7_copy 7 = .ok (.iload_n 3, 1) := by decide +kernel
theorem dX7_copy_8 : decode cX7_copy 8 = .ok (.invokestatic 77, 3) := by decide +kernel
theorem dX7_copy_11 : decode cX7_copy 11 = .ok (.ifCond .ne 5, 3) := by decide +kernel
theorem dX7_copy_14 : decode cX7_copy 14 = .ok (.iconst (-1), 1) := by decide +kernel
theorem dX7_copy_15 : decode cX7_copy 15 = .ok (.ireturn, 1) := by decide +kernel
theorem dX7_copy_16 : decode cX7_copy 16 = .ok (.aload_n 0, 1) := by decide +kernel
theorem dX7_copy_17 : decode cX7_copy 17 = .ok (.getfield 7, 3) := by decide +kernel
theorem dX7_copy_20 : decode cX7_copy 20 = .ok (.iload_n 1, 1) := by decide +kernel
theorem dX7_copy_21 : decode cX7_copy 21 = .ok (.iaload, 1) := by decide +kernel
theorem dX7_copy_22 : decode cX7_copy 22 = .ok (.ifCond .lt 12, 3) := by decide +kernel
theorem dX7_copy_25 : decode cX7_copy 25 = .ok (.aload_n 0, 1) := by decide +kernel
theorem dX7_copy_26 : decode cX7_copy 26 = .ok (.getfield 7, 3) := by decide +kernel
theorem dX7_copy_29 : decode cX7_copy 29 = .ok (.iload_n 3, 1) := by decide +kernel
theorem dX7_copy_30 : decode cX7_copy 30 = .ok (.iaload, 1) := by decide +kernel
theorem dX7_copy_31 : decode cX7_copy 31 = .ok (.ifCond .ge 6, 3) := by decide +kernel
theorem dX7_copy_34 : decode cX7_copy 34 = .ok (.bipush (-11), 2) := by decide +kernel
theorem dX7_copy_36 : decode cX7_copy 36 = .ok (.ireturn, 1) := by decide +kernel
theorem dX7_copy_37 : decode cX7_copy 37 = .ok (.aload_n 0, 1) := by decide +kernel
theorem dX7_copy_38 : decode cX7_copy 38 = .ok (.getfield 7, 3) := by decide +kernel
theorem dX7_copy_41 : decode cX7_copy 41 = .ok (.iload_n 1, 1) := by decide +kernel
theorem dX7_copy_42 : decode cX7_copy 42 = .ok (.iaload, 1) := by decide +kernel
theorem dX7_copy_43 : decode cX7_copy 43 = .ok (.aload_n 0, 1) := by decide +kernel
theorem dX7_copy_44 : decode cX7_copy 44 = .ok (.getfield 7, 3) := by decide +kernel
theorem dX7_copy_47 : decode cX7_copy 47 = .ok (.iload_n 3, 1) := by decide +kernel
theorem dX7_copy_48 : decode cX7_copy 48 = .ok (.iaload, 1) := by decide +kernel
theorem dX7_copy_49 : decode cX7_copy 49 = .ok (.if_icmp .eq 6, 3) := by decide +kernel
theorem dX7_copy_52 : decode cX7_copy 52 = .ok (.bipush (-14), 2) := by decide +kernel
theorem dX7_copy_54 : decode cX7_copy 54 = .ok (.ireturn, 1) := by decide +kernel
theorem dX7_copy_55 : decode cX7_copy 55 = .ok (.iload 5, 2) := by decide +kernel
theorem dX7_copy_57 : decode cX7_copy 57 = .ok (.ifCond .lt 47, 3) := by decide +kernel
theorem dX7_copy_60 : decode cX7_copy 60 = .ok (.iload_n 2, 1) := by decide +kernel
theorem dX7_copy_61 : decode cX7_copy 61 = .ok (.ifCond .lt 43, 3) := by decide +kernel
theorem dX7_copy_64 : decode cX7_copy 64 = .ok (.iload 4, 2) := by decide +kernel
theorem dX7_copy_66 : decode cX7_copy 66 = .ok (.ifCond .lt 38, 3) := by decide +kernel
theorem dX7_copy_69 : decode cX7_copy 69 = .ok (.iload_n 2, 1) := by decide +kernel
theorem dX7_copy_70 : decode cX7_copy 70 = .ok (.i2l, 1) := by decide +kernel
theorem dX7_copy_71 : decode cX7_copy 71 = .ok (.iload 5, 2) := by decide +kernel
theorem dX7_copy_73 : decode cX7_copy 73 = .ok (.i2l, 1) := by decide +kernel
theorem dX7_copy_74 : decode cX7_copy 74 = .ok (.ladd, 1) := by decide +kernel
theorem dX7_copy_75 : decode cX7_copy 75 = .ok (.aload_n 0, 1) := by decide +kernel
theorem dX7_copy_76 : decode cX7_copy 76 = .ok (.getfield 13, 3) := by decide +kernel
theorem dX7_copy_79 : decode cX7_copy 79 = .ok (.iload_n 1, 1) := by decide +kernel
theorem dX7_copy_80 : decode cX7_copy 80 = .ok (.iaload, 1) := by decide +kernel
theorem dX7_copy_81 : decode cX7_copy 81 = .ok (.i2l, 1) := by decide +kernel
theorem dX7_copy_82 : decode cX7_copy 82 = .ok (.lcmp, 1) := by decide +kernel
theorem dX7_copy_83 : decode cX7_copy 83 = .ok (.ifCond .gt 21, 3) := by decide +kernel
theorem dX7_copy_86 : decode cX7_copy 86 = .ok (.iload 4, 2) := by decide +kernel
theorem dX7_copy_88 : decode cX7_copy 88 = .ok (.i2l, 1) := by decide +kernel
theorem dX7_copy_89 : decode cX7_copy 89 = .ok (.iload 5, 2) := by decide +kernel
theorem dX7_copy_91 : decode cX7_copy 91 = .ok (.i2l, 1) := by decide +kernel
theorem dX7_copy_92 : decode cX7_copy 92 = .ok (.ladd, 1) := by decide +kernel
theorem dX7_copy_93 : decode cX7_copy 93 = .ok (.aload_n 0, 1) := by decide +kernel
theorem dX7_copy_94 : decode cX7_copy 94 = .ok (.getfield 13, 3) := by decide +kernel
theorem dX7_copy_97 : decode cX7_copy 97 = .ok (.iload_n 3, 1) := by decide +kernel
theorem dX7_copy_98 : decode cX7_copy 98 = .ok (.iaload, 1) := by decide +kernel
theorem dX7_copy_99 : decode cX7_copy 99 = .ok (.i2l, 1) := by decide +kernel
theorem dX7_copy_100 : decode cX7_copy 100 = .ok (.lcmp, 1) := by decide +kernel
theorem dX7_copy_101 : decode cX7_copy 101 = .ok (.ifCond .le 6, 3) := by decide +kernel
theorem dX7_copy_104 : decode cX7_copy 104 = .ok (.bipush (-12), 2) := by decide +kernel
theorem dX7_copy_106 : decode cX7_copy 106 = .ok (.ireturn, 1) := by decide +kernel
theorem dX7_copy_107 : decode cX7_copy 107 = .ok (.iconst 0, 1) := by decide +kernel
theorem dX7_copy_108 : decode cX7_copy 108 = .ok (.istore 6, 2) := by decide +kernel
theorem dX7_copy_110 : decode cX7_copy 110 = .ok (.iload 6, 2) := by decide +kernel
theorem dX7_copy_112 : decode cX7_copy 112 = .ok (.iload 5, 2) := by decide +kernel
theorem dX7_copy_114 : decode cX7_copy 114 = .ok (.if_icmp .ge 30, 3) := by decide +kernel
theorem dX7_copy_117 : decode cX7_copy 117 = .ok (.aload_n 0, 1) := by decide +kernel
theorem dX7_copy_118 : decode cX7_copy 118 = .ok (.getfield 40, 3) := by decide +kernel
theorem dX7_copy_121 : decode cX7_copy 121 = .ok (.iload 6, 2) := by decide +kernel
theorem dX7_copy_123 : decode cX7_copy 123 = .ok (.aload_n 0, 1) := by decide +kernel
theorem dX7_copy_124 : decode cX7_copy 124 = .ok (.getfield 16, 3) := by decide +kernel
theorem dX7_copy_127 : decode cX7_copy 127 = .ok (.bipush 16, 2) := by decide +kernel
theorem dX7_copy_129 : decode cX7_copy 129 = .ok (.iload_n 1, 1) := by decide +kernel
theorem dX7_copy_130 : decode cX7_copy 130 = .ok (.imul, 1) := by decide +kernel
theorem dX7_copy_131 : decode cX7_copy 131 = .ok (.iload_n 2, 1) := by decide +kernel
theorem dX7_copy_132 : decode cX7_copy 132 = .ok (.iadd, 1) := by decide +kernel
theorem dX7_copy_133 : decode cX7_copy 133 = .ok (.iload 6, 2) := by decide +kernel
theorem dX7_copy_135 : decode cX7_copy 135 = .ok (.iadd, 1) := by decide +kernel
theorem dX7_copy_136 : decode cX7_copy 136 = .ok (.iaload, 1) := by decide +kernel
theorem dX7_copy_137 : decode cX7_copy 137 = .ok (.iastore, 1) := by decide +kernel
theorem dX7_copy_138 : decode cX7_copy 138 = .ok (.iinc 6 1, 3) := by decide +kernel
theorem dX7_copy_141 : decode cX7_copy 141 = .ok (.goto (-31), 3) := by decide +kernel
theorem dX7_copy_144 : decode cX7_copy 144 = .ok (.iconst 0, 1) := by decide +kernel
theorem dX7_copy_145 : decode cX7_copy 145 = .ok (.istore 6, 2) := by decide +kernel
theorem dX7_copy_147 : decode cX7_copy 147 = .ok (.iload 6, 2) := by decide +kernel
theorem dX7_copy_149 : decode cX7_copy 149 = .ok (.iload 5, 2) := by decide +kernel
theorem dX7_copy_151 : decode cX7_copy 151 = .ok (.if_icmp .ge 31, 3) := by decide +kernel
theorem dX7_copy_154 : decode cX7_copy 154 = .ok (.aload_n 0, 1) := by decide +kernel
theorem dX7_copy_155 : decode cX7_copy 155 = .ok (.getfield 16, 3) := by decide +kernel
theorem dX7_copy_158 : decode cX7_copy 158 = .ok (.bipush 16, 2) := by decide +kernel
theorem dX7_copy_160 : decode cX7_copy 160 = .ok (.iload_n 3, 1) := by decide +kernel
theorem dX7_copy_161 : decode cX7_copy 161 = .ok (.imul, 1) := by decide +kernel
theorem dX7_copy_162 : decode cX7_copy 162 = .ok (.iload 4, 2) := by decide +kernel
theorem dX7_copy_164 : decode cX7_copy 164 = .ok (.iadd, 1) := by decide +kernel
theorem dX7_copy_165 : decode cX7_copy 165 = .ok (.iload 6, 2) := by decide +kernel
theorem dX7_copy_167 : decode cX7_copy 167 = .ok (.iadd, 1) := by decide +kernel
theorem dX7_copy_168 : decode cX7_copy 168 = .ok (.aload_n 0, 1) := by decide +kernel
theorem dX7_copy_169 : decode cX7_copy 169 = .ok (.getfield 40, 3) := by decide +kernel
theorem dX7_copy_172 : decode cX7_copy 172 = .ok (.iload 6, 2) := by decide +kernel
theorem dX7_copy_174 : decode cX7_copy 174 = .ok (.iaload, 1) := by decide +kernel
theorem dX7_copy_175 : decode cX7_copy 175 = .ok (.iastore, 1) := by decide +kernel
theorem dX7_copy_176 : decode cX7_copy 176 = .ok (.iinc 6 1, 3) := by decide +kernel
theorem dX7_copy_179 : decode cX7_copy 179 = .ok (.goto (-32), 3) := by decide +kernel
theorem dX7_copy_182 : decode cX7_copy 182 = .ok (.iconst 0, 1) := by decide +kernel
theorem dX7_copy_183 : decode cX7_copy 183 = .ok (.ireturn, 1) := by decide +kernel
theorem dX7_told_0 : decode cX7_told 0 = .ok (.aload_n 0, 1) := by decide +kernel
theorem dX7_told_1 : decode cX7_told 1 = .ok (.iload_n 1, 1) := by decide +kernel
theorem dX7_told_2 : decode cX7_told 2 = .ok (.iload_n 2, 1) := by decide +kernel
theorem dX7_told_3 : decode cX7_told 3 = .ok (.invokevirtual 85, 3) := by decide +kernel
theorem dX7_told_6 : decode cX7_told 6 = .ok (.istore_n 3, 1) := by decide +kernel
theorem dX7_told_7 : decode cX7_told 7 = .ok (.iload_n 3, 1) := by decide +kernel
theorem dX7_told_8 : decode cX7_told 8 = .ok (.ifCond .ne 18, 3) := by decide +kernel
theorem dX7_told_11 : decode cX7_told 11 = .ok (.aload_n 0, 1) := by decide +kernel
theorem dX7_told_12 : decode cX7_told 12 = .ok (.getfield 16, 3) := by decide +kernel
theorem dX7_told_15 : decode cX7_told 15 = .ok (.bipush 16, 2) := by decide +kernel
theorem dX7_told_17 : decode cX7_told 17 = .ok (.iload_n 1, 1) := by decide +kernel
theorem dX7_told_18 : decode cX7_told 18 = .ok (.imul, 1) := by decide +kernel
theorem dX7_told_19 : decode cX7_told 19 = .ok (.iload_n 2, 1) := by decide +kernel
theorem dX7_told_20 : decode cX7_told 20 = .ok (.iadd, 1) := by decide +kernel
theorem dX7_told_21 : decode cX7_told 21 = .ok (.iaload, 1) := by decide +kernel
theorem dX7_told_22 : decode cX7_told 22 = .ok (.i2l, 1) := by decide +kernel
theorem dX7_told_23 : decode cX7_told 23 = .ok (.goto 9, 3) := by decide +kernel
theorem dX7_told_26 : decode cX7_told 26 = .ok (.ldc2_w 89, 3) := by decide +kernel
theorem dX7_told_29 : decode cX7_told 29 = .ok (.iload_n 3, 1) := by decide +kernel
theorem dX7_told_30 : decode cX7_told 30 = .ok (.i2l, 1) := by decide +kernel
theorem dX7_told_31 : decode cX7_told 31 = .ok (.lsub, 1) := by decide +kernel
theorem dX7_told_32 : decode cX7_told 32 = .ok (.lreturn, 1) := by decide +kernel
theorem dX7_isJob_0 : decode cX7_isJob 0 = .ok (.iload_n 1, 1) := by decide +kernel
theorem dX7_isJob_1 : decode cX7_isJob 1 = .ok (.i2l, 1) := by decide +kernel
theorem dX7_isJob_2 : decode cX7_isJob 2 = .ok (.lconst 0, 1) := by decide +kernel
theorem dX7_isJob_3 : decode cX7_isJob 3 = .ok (.aload_n 0, 1) := by decide +kernel
theorem dX7_isJob_4 : decode cX7_isJob 4 = .ok (.getfield 91, 3) := by decide +kernel
theorem dX7_isJob_7 : decode cX7_isJob 7 = .ok (.iconst 1, 1) := by decide +kernel
theorem dX7_isJob_8 : decode cX7_isJob 8 = .ok (.isub, 1) := by decide +kernel
theorem dX7_isJob_9 : decode cX7_isJob 9 = .ok (.i2l, 1) := by decide +kernel
theorem dX7_isJob_10 : decode cX7_isJob 10 = .ok (.invokestatic 73, 3) := by decide +kernel
theorem dX7_isJob_13 : decode cX7_isJob 13 = .ok (.ireturn, 1) := by decide +kernel
theorem dX7_keep_0 : decode cX7_keep 0 = .ok (.aload_n 0, 1) := by decide +kernel
theorem dX7_keep_1 : decode cX7_keep 1 = .ok (.getfield 95, 3) := by decide +kernel
theorem dX7_keep_4 : decode cX7_keep 4 = .ok (.bipush 20, 2) := by decide +kernel
theorem dX7_keep_6 : decode cX7_keep 6 = .ok (.if_icmp .ne 43, 3) := by decide +kernel
theorem dX7_keep_9 : decode cX7_keep 9 = .ok (.iconst 0, 1) := by decide +kernel
theorem dX7_keep_10 : decode cX7_keep 10 = .ok (.istore_n 1, 1) := by decide +kernel
theorem dX7_keep_11 : decode cX7_keep 11 = .ok (.iload_n 1, 1) := by decide +kernel
theorem dX7_keep_12 : decode cX7_keep 12 = .ok (.sipush 969, 3) := by decide +kernel
theorem dX7_keep_15 : decode cX7_keep 15 = .ok (.if_icmp .ge 24, 3) := by decide +kernel
theorem dX7_keep_18 : decode cX7_keep 18 = .ok (.aload_n 0, 1) := by decide +kernel
theorem dX7_keep_19 : decode cX7_keep 19 = .ok (.getfield 34, 3) := by decide +kernel
theorem dX7_keep_22 : decode cX7_keep 22 = .ok (.iload_n 1, 1) := by decide +kernel
theorem dX7_keep_23 : decode cX7_keep 23 = .ok (.aload_n 0, 1) := by decide +kernel
theorem dX7_keep_24 : decode cX7_keep 24 = .ok (.getfield 34, 3) := by decide +kernel
theorem dX7_keep_27 : decode cX7_keep 27 = .ok (.iload_n 1, 1) := by decide +kernel
theorem dX7_keep_28 : decode cX7_keep 28 = .ok (.bipush 51, 2) := by decide +kernel
theorem dX7_keep_30 : decode cX7_keep 30 = .ok (.iadd, 1) := by decide +kernel
theorem dX7_keep_31 : decode cX7_keep 31 = .ok (.iaload, 1) := by decide +kernel
theorem dX7_keep_32 : decode cX7_keep 32 = .ok (.iastore, 1) := by decide +kernel
theorem dX7_keep_33 : decode cX7_keep 33 = .ok (.iinc 1 1, 3) := by decide +kernel
theorem dX7_keep_36 : decode cX7_keep 36 = .ok (.goto (-25), 3) := by decide +kernel
theorem dX7_keep_39 : decode cX7_keep 39 = .ok (.aload_n 0, 1) := by decide +kernel
theorem dX7_keep_40 : decode cX7_keep 40 = .ok (.dup, 1) := by decide +kernel
theorem dX7_keep_41 : decode cX7_keep 41 = .ok (.getfield 95, 3) := by decide +kernel
theorem dX7_keep_44 : decode cX7_keep 44 = .ok (.iconst 1, 1) := by decide +kernel
theorem dX7_keep_45 : decode cX7_keep 45 = .ok (.isub, 1) := by decide +kernel
theorem dX7_keep_46 : decode cX7_keep 46 = .ok (.putfield 95, 3) := by decide +kernel
theorem dX7_keep_49 : decode cX7_keep 49 = .ok (.bipush 51, 2) := by decide +kernel
theorem dX7_keep_51 : decode cX7_keep 51 = .ok (.aload_n 0, 1) := by decide +kernel
theorem dX7_keep_52 : decode cX7_keep 52 = .ok (.getfield 95, 3) := by decide +kernel
theorem dX7_keep_55 : decode cX7_keep 55 = .ok (.imul, 1) := by decide +kernel
theorem dX7_keep_56 : decode cX7_keep 56 = .ok (.istore_n 1, 1) := by decide +kernel
theorem dX7_keep_57 : decode cX7_keep 57 = .ok (.aload_n 0, 1) := by decide +kernel
theorem dX7_keep_58 : decode cX7_keep 58 = .ok (.getfield 34, 3) := by decide +kernel
theorem dX7_keep_61 : decode cX7_keep 61 = .ok (.iload_n 1, 1) := by decide +kernel
theorem dX7_keep_62 : decode cX7_keep 62 = .ok (.aload_n 0, 1) := by decide +kernel
theorem dX7_keep_63 : decode cX7_keep 63 = .ok (.getfield 91, 3) := by decide +kernel
theorem dX7_keep_66 : decode cX7_keep 66 = .ok (.iastore, 1) := by decide +kernel
theorem dX7_keep_67 : decode cX7_keep 67 = .ok (.iconst 0, 1) := by decide +kernel
theorem dX7_keep_68 : decode cX7_keep 68 = .ok (.istore_n 2, 1) := by decide +kernel
theorem dX7_keep_69 : decode cX7_keep 69 = .ok (.iload_n 2, 1) := by decide +kernel
theorem dX7_keep_70 : decode cX7_keep 70 = .ok (.bipush 10, 2) := by decide +kernel
theorem dX7_keep_72 : decode cX7_keep 72 = .ok (.if_icmp .ge 99, 3) := by decide +kernel
theorem dX7_keep_75 : decode cX7_keep 75 = .ok (.aload_n 0, 1) := by decide +kernel
theorem dX7_keep_76 : decode cX7_keep 76 = .ok (.getfield 34, 3) := by decide +kernel
theorem dX7_keep_79 : decode cX7_keep 79 = .ok (.iload_n 1, 1) := by decide +kernel
theorem dX7_keep_80 : decode cX7_keep 80 = .ok (.iconst 1, 1) := by decide +kernel
theorem dX7_keep_81 : decode cX7_keep 81 = .ok (.iadd, 1) := by decide +kernel
theorem dX7_keep_82 : decode cX7_keep 82 = .ok (.iconst 5, 1) := by decide +kernel
theorem dX7_keep_83 : decode cX7_keep 83 = .ok (.iload_n 2, 1) := by decide +kernel
theorem dX7_keep_84 : decode cX7_keep 84 = .ok (.imul, 1) := by decide +kernel
theorem dX7_keep_85 : decode cX7_keep 85 = .ok (.iadd, 1) := by decide +kernel
theorem dX7_keep_86 : decode cX7_keep 86 = .ok (.aload_n 0, 1) := by decide +kernel
theorem dX7_keep_87 : decode cX7_keep 87 = .ok (.getfield 19, 3) := by decide +kernel
theorem dX7_keep_90 : decode cX7_keep 90 = .ok (.iload_n 2, 1) := by decide +kernel
theorem dX7_keep_91 : decode cX7_keep 91 = .ok (.iaload, 1) := by decide +kernel
theorem dX7_keep_92 : decode cX7_keep 92 = .ok (.iastore, 1) := by decide +kernel
theorem dX7_keep_93 : decode cX7_keep 93 = .ok (.aload_n 0, 1) := by decide +kernel
theorem dX7_keep_94 : decode cX7_keep 94 = .ok (.getfield 34, 3) := by decide +kernel
theorem dX7_keep_97 : decode cX7_keep 97 = .ok (.iload_n 1, 1) := by decide +kernel
theorem dX7_keep_98 : decode cX7_keep 98 = .ok (.iconst 2, 1) := by decide +kernel
theorem dX7_keep_99 : decode cX7_keep 99 = .ok (.iadd, 1) := by decide +kernel
theorem dX7_keep_100 : decode cX7_keep 100 = .ok (.iconst 5, 1) := by decide +kernel
theorem dX7_keep_101 : decode cX7_keep 101 = .ok (.iload_n 2, 1) := by decide +kernel
theorem dX7_keep_102 : decode cX7_keep 102 = .ok (.imul, 1) := by decide +kernel
theorem dX7_keep_103 : decode cX7_keep 103 = .ok (.iadd, 1) := by decide +kernel
theorem dX7_keep_104 : decode cX7_keep 104 = .ok (.aload_n 0, 1) := by decide +kernel
theorem dX7_keep_105 : decode cX7_keep 105 = .ok (.getfield 22, 3) := by decide +kernel
theorem dX7_keep_108 : decode cX7_keep 108 = .ok (.iload_n 2, 1) := by decide +kernel
theorem dX7_keep_109 : decode cX7_keep 109 = .ok (.iaload, 1) := by decide +kernel
theorem dX7_keep_110 : decode cX7_keep 110 = .ok (.iastore, 1) := by decide +kernel
theorem dX7_keep_111 : decode cX7_keep 111 = .ok (.aload_n 0, 1) := by decide +kernel
theorem dX7_keep_112 : decode cX7_keep 112 = .ok (.getfield 34, 3) := by decide +kernel
theorem dX7_keep_115 : decode cX7_keep 115 = .ok (.iload_n 1, 1) := by decide +kernel
theorem dX7_keep_116 : decode cX7_keep 116 = .ok (.iconst 3, 1) := by decide +kernel
theorem dX7_keep_117 : decode cX7_keep 117 = .ok (.iadd, 1) := by decide +kernel
theorem dX7_keep_118 : decode cX7_keep 118 = .ok (.iconst 5, 1) := by decide +kernel
theorem dX7_keep_119 : decode cX7_keep 119 = .ok (.iload_n 2, 1) := by decide +kernel
theorem dX7_keep_120 : decode cX7_keep 120 = .ok (.imul, 1) := by decide +kernel
theorem dX7_keep_121 : decode cX7_keep 121 = .ok (.iadd, 1) := by decide +kernel
theorem dX7_keep_122 : decode cX7_keep 122 = .ok (.aload_n 0, 1) := by decide +kernel
theorem dX7_keep_123 : decode cX7_keep 123 = .ok (.getfield 25, 3) := by decide +kernel
theorem dX7_keep_126 : decode cX7_keep 126 = .ok (.iload_n 2, 1) := by decide +kernel
theorem dX7_keep_127 : decode cX7_keep 127 = .ok (.iaload, 1) := by decide +kernel
theorem dX7_keep_128 : decode cX7_keep 128 = .ok (.iastore, 1) := by decide +kernel
theorem dX7_keep_129 : decode cX7_keep 129 = .ok (.aload_n 0, 1) := by decide +kernel
theorem dX7_keep_130 : decode cX7_keep 130 = .ok (.getfield 34, 3) := by decide +kernel
theorem dX7_keep_133 : decode cX7_keep 133 = .ok (.iload_n 1, 1) := by decide +kernel
theorem dX7_keep_134 : decode cX7_keep 134 = .ok (.iconst 4, 1) := by decide +kernel
theorem dX7_keep_135 : decode cX7_keep 135 = .ok (.iadd, 1) := by decide +kernel
theorem dX7_keep_136 : decode cX7_keep 136 = .ok (.iconst 5, 1) := by decide +kernel
theorem dX7_keep_137 : decode cX7_keep 137 = .ok (.iload_n 2, 1) := by decide +kernel
theorem dX7_keep_138 : decode cX7_keep 138 = .ok (.imul, 1) := by decide +kernel
theorem dX7_keep_139 : decode cX7_keep 139 = .ok (.iadd, 1) := by decide +kernel
theorem dX7_keep_140 : decode cX7_keep 140 = .ok (.aload_n 0, 1) := by decide +kernel
theorem dX7_keep_141 : decode cX7_keep 141 = .ok (.getfield 28, 3) := by decide +kernel
theorem dX7_keep_144 : decode cX7_keep 144 = .ok (.iload_n 2, 1) := by decide +kernel
theorem dX7_keep_145 : decode cX7_keep 145 = .ok (.iaload, 1) := by decide +kernel
theorem dX7_keep_146 : decode cX7_keep 146 = .ok (.iastore, 1) := by decide +kernel
theorem dX7_keep_147 : decode cX7_keep 147 = .ok (.aload_n 0, 1) := by decide +kernel
theorem dX7_keep_148 : decode cX7_keep 148 = .ok (.getfield 34, 3) := by decide +kernel
theorem dX7_keep_151 : decode cX7_keep 151 = .ok (.iload_n 1, 1) := by decide +kernel
theorem dX7_keep_152 : decode cX7_keep 152 = .ok (.iconst 5, 1) := by decide +kernel
theorem dX7_keep_153 : decode cX7_keep 153 = .ok (.iadd, 1) := by decide +kernel
theorem dX7_keep_154 : decode cX7_keep 154 = .ok (.iconst 5, 1) := by decide +kernel
theorem dX7_keep_155 : decode cX7_keep 155 = .ok (.iload_n 2, 1) := by decide +kernel
theorem dX7_keep_156 : decode cX7_keep 156 = .ok (.imul, 1) := by decide +kernel
theorem dX7_keep_157 : decode cX7_keep 157 = .ok (.iadd, 1) := by decide +kernel
theorem dX7_keep_158 : decode cX7_keep 158 = .ok (.aload_n 0, 1) := by decide +kernel
theorem dX7_keep_159 : decode cX7_keep 159 = .ok (.getfield 31, 3) := by decide +kernel
theorem dX7_keep_162 : decode cX7_keep 162 = .ok (.iload_n 2, 1) := by decide +kernel
theorem dX7_keep_163 : decode cX7_keep 163 = .ok (.iaload, 1) := by decide +kernel
theorem dX7_keep_164 : decode cX7_keep 164 = .ok (.iastore, 1) := by decide +kernel
theorem dX7_keep_165 : decode cX7_keep 165 = .ok (.iinc 2 1, 3) := by decide +kernel
theorem dX7_keep_168 : decode cX7_keep 168 = .ok (.goto (-99), 3) := by decide +kernel
theorem dX7_keep_171 : decode cX7_keep 171 = .ok (.aload_n 0, 1) := by decide +kernel
theorem dX7_keep_172 : decode cX7_keep 172 = .ok (.dup, 1) := by decide +kernel
theorem dX7_keep_173 : decode cX7_keep 173 = .ok (.getfield 95, 3) := by decide +kernel
theorem dX7_keep_176 : decode cX7_keep 176 = .ok (.iconst 1, 1) := by decide +kernel
theorem dX7_keep_177 : decode cX7_keep 177 = .ok (.iadd, 1) := by decide +kernel
theorem dX7_keep_178 : decode cX7_keep 178 = .ok (.putfield 95, 3) := by decide +kernel
theorem dX7_keep_181 : decode cX7_keep 181 = .ok (.aload_n 0, 1) := by decide +kernel
theorem dX7_keep_182 : decode cX7_keep 182 = .ok (.iconst 0, 1) := by decide +kernel
theorem dX7_keep_183 : decode cX7_keep 183 = .ok (.putfield 98, 3) := by decide +kernel
theorem dX7_keep_186 : decode cX7_keep 186 = .ok (.return_, 1) := by decide +kernel
theorem dX7_undo_0 : decode cX7_undo 0 = .ok (.aload_n 0, 1) := by decide +kernel
theorem dX7_undo_1 : decode cX7_undo 1 = .ok (.getfield 95, 3) := by decide +kernel
theorem dX7_undo_4 : decode cX7_undo 4 = .ok (.ifCond .ne 6, 3) := by decide +kernel
theorem dX7_undo_7 : decode cX7_undo 7 = .ok (.bipush (-3), 2) := by decide +kernel
theorem dX7_undo_9 : decode cX7_undo 9 = .ok (.ireturn, 1) := by decide +kernel
theorem dX7_undo_10 : decode cX7_undo 10 = .ok (.aload_n 0, 1) := by decide +kernel
theorem dX7_undo_11 : decode cX7_undo 11 = .ok (.dup, 1) := by decide +kernel
theorem dX7_undo_12 : decode cX7_undo 12 = .ok (.getfield 95, 3) := by decide +kernel
theorem dX7_undo_15 : decode cX7_undo 15 = .ok (.iconst 1, 1) := by decide +kernel
theorem dX7_undo_16 : decode cX7_undo 16 = .ok (.isub, 1) := by decide +kernel
theorem dX7_undo_17 : decode cX7_undo 17 = .ok (.putfield 95, 3) := by decide +kernel
theorem dX7_undo_20 : decode cX7_undo 20 = .ok (.bipush 51, 2) := by decide +kernel
theorem dX7_undo_22 : decode cX7_undo 22 = .ok (.aload_n 0, 1) := by decide +kernel
theorem dX7_undo_23 : decode cX7_undo 23 = .ok (.getfield 95, 3) := by decide +kernel
theorem dX7_undo_26 : decode cX7_undo 26 = .ok (.imul, 1) := by decide +kernel
theorem dX7_undo_27 : decode cX7_undo 27 = .ok (.istore_n 1, 1) := by decide +kernel
theorem dX7_undo_28 : decode cX7_undo 28 = .ok (.aload_n 0, 1) := by decide +kernel
theorem dX7_undo_29 : decode cX7_undo 29 = .ok (.aload_n 0, 1) := by decide +kernel
theorem dX7_undo_30 : decode cX7_undo 30 = .ok (.getfield 34, 3) := by decide +kernel
theorem dX7_undo_33 : decode cX7_undo 33 = .ok (.iload_n 1, 1) := by decide +kernel
theorem dX7_undo_34 : decode cX7_undo 34 = .ok (.iaload, 1) := by decide +kernel
theorem dX7_undo_35 : decode cX7_undo 35 = .ok (.putfield 91, 3) := by decide +kernel
theorem dX7_undo_38 : decode cX7_undo 38 = .ok (.iconst 0, 1) := by decide +kernel
theorem dX7_undo_39 : decode cX7_undo 39 = .ok (.istore_n 2, 1) := by decide +kernel
theorem dX7_undo_40 : decode cX7_undo 40 = .ok (.iload_n 2, 1) := by decide +kernel
theorem dX7_undo_41 : decode cX7_undo 41 = .ok (.bipush 10, 2) := by decide +kernel
theorem dX7_undo_43 : decode cX7_undo 43 = .ok (.if_icmp .ge 99, 3) := by decide +kernel
theorem dX7_undo_46 : decode cX7_undo 46 = .ok (.aload_n 0, 1) := by decide +kernel
theorem dX7_undo_47 : decode cX7_undo 47 = .ok (.getfield 19, 3) := by decide +kernel
theorem dX7_undo_50 : decode cX7_undo 50 = .ok (.iload_n 2, 1) := by decide +kernel
theorem dX7_undo_51 : decode cX7_undo 51 = .ok (.aload_n 0, 1) := by decide +kernel
theorem dX7_undo_52 : decode cX7_undo 52 = .ok (.getfield 34, 3) := by decide +kernel
theorem dX7_undo_55 : decode cX7_undo 55 = .ok (.iload_n 1, 1) := by decide +kernel
theorem dX7_undo_56 : decode cX7_undo 56 = .ok (.iconst 1, 1) := by decide +kernel
theorem dX7_undo_57 : decode cX7_undo 57 = .ok (.iadd, 1) := by decide +kernel
theorem dX7_undo_58 : decode cX7_undo 58 = .ok (.iconst 5, 1) := by decide +kernel
theorem dX7_undo_59 : decode cX7_undo 59 = .ok (.iload_n 2, 1) := by decide +kernel
theorem dX7_undo_60 : decode cX7_undo 60 = .ok (.imul, 1) := by decide +kernel
theorem dX7_undo_61 : decode cX7_undo 61 = .ok (.iadd, 1) := by decide +kernel
theorem dX7_undo_62 : decode cX7_undo 62 = .ok (.iaload, 1) := by decide +kernel
theorem dX7_undo_63 : decode cX7_undo 63 = .ok (.iastore, 1) := by decide +kernel
theorem dX7_undo_64 : decode cX7_undo 64 = .ok (.aload_n 0, 1) := by decide +kernel
theorem dX7_undo_65 : decode cX7_undo 65 = .ok (.getfield 22, 3) := by decide +kernel
theorem dX7_undo_68 : decode cX7_undo 68 = .ok (.iload_n 2, 1) := by decide +kernel
theorem dX7_undo_69 : decode cX7_undo 69 = .ok (.aload_n 0, 1) := by decide +kernel
theorem dX7_undo_70 : decode cX7_undo 70 = .ok (.getfield 34, 3) := by decide +kernel
theorem dX7_undo_73 : decode cX7_undo 73 = .ok (.iload_n 1, 1) := by decide +kernel
theorem dX7_undo_74 : decode cX7_undo 74 = .ok (.iconst 2, 1) := by decide +kernel
theorem dX7_undo_75 : decode cX7_undo 75 = .ok (.iadd, 1) := by decide +kernel
theorem dX7_undo_76 : decode cX7_undo 76 = .ok (.iconst 5, 1) := by decide +kernel
theorem dX7_undo_77 : decode cX7_undo 77 = .ok (.iload_n 2, 1) := by decide +kernel
theorem dX7_undo_78 : decode cX7_undo 78 = .ok (.imul, 1) := by decide +kernel
theorem dX7_undo_79 : decode cX7_undo 79 = .ok (.iadd, 1) := by decide +kernel
theorem dX7_undo_80 : decode cX7_undo 80 = .ok (.iaload, 1) := by decide +kernel
theorem dX7_undo_81 : decode cX7_undo 81 = .ok (.iastore, 1) := by decide +kernel
theorem dX7_undo_82 : decode cX7_undo 82 = .ok (.aload_n 0, 1) := by decide +kernel
theorem dX7_undo_83 : decode cX7_undo 83 = .ok (.getfield 25, 3) := by decide +kernel
theorem dX7_undo_86 : decode cX7_undo 86 = .ok (.iload_n 2, 1) := by decide +kernel
theorem dX7_undo_87 : decode cX7_undo 87 = .ok (.aload_n 0, 1) := by decide +kernel
theorem dX7_undo_88 : decode cX7_undo 88 = .ok (.getfield 34, 3) := by decide +kernel
theorem dX7_undo_91 : decode cX7_undo 91 = .ok (.iload_n 1, 1) := by decide +kernel
theorem dX7_undo_92 : decode cX7_undo 92 = .ok (.iconst 3, 1) := by decide +kernel
theorem dX7_undo_93 : decode cX7_undo 93 = .ok (.iadd, 1) := by decide +kernel
theorem dX7_undo_94 : decode cX7_undo 94 = .ok (.iconst 5, 1) := by decide +kernel
theorem dX7_undo_95 : decode cX7_undo 95 = .ok (.iload_n 2, 1) := by decide +kernel
theorem dX7_undo_96 : decode cX7_undo 96 = .ok (.imul, 1) := by decide +kernel
theorem dX7_undo_97 : decode cX7_undo 97 = .ok (.iadd, 1) := by decide +kernel
theorem dX7_undo_98 : decode cX7_undo 98 = .ok (.iaload, 1) := by decide +kernel
theorem dX7_undo_99 : decode cX7_undo 99 = .ok (.iastore, 1) := by decide +kernel
theorem dX7_undo_100 : decode cX7_undo 100 = .ok (.aload_n 0, 1) := by decide +kernel
theorem dX7_undo_101 : decode cX7_undo 101 = .ok (.getfield 28, 3) := by decide +kernel
theorem dX7_undo_104 : decode cX7_undo 104 = .ok (.iload_n 2, 1) := by decide +kernel
theorem dX7_undo_105 : decode cX7_undo 105 = .ok (.aload_n 0, 1) := by decide +kernel
theorem dX7_undo_106 : decode cX7_undo 106 = .ok (.getfield 34, 3) := by decide +kernel
theorem dX7_undo_109 : decode cX7_undo 109 = .ok (.iload_n 1, 1) := by decide +kernel
theorem dX7_undo_110 : decode cX7_undo 110 = .ok (.iconst 4, 1) := by decide +kernel
theorem dX7_undo_111 : decode cX7_undo 111 = .ok (.iadd, 1) := by decide +kernel
theorem dX7_undo_112 : decode cX7_undo 112 = .ok (.iconst 5, 1) := by decide +kernel
theorem dX7_undo_113 : decode cX7_undo 113 = .ok (.iload_n 2, 1) := by decide +kernel
theorem dX7_undo_114 : decode cX7_undo 114 = .ok (.imul, 1) := by decide +kernel
theorem dX7_undo_115 : decode cX7_undo 115 = .ok (.iadd, 1) := by decide +kernel
theorem dX7_undo_116 : decode cX7_undo 116 = .ok (.iaload, 1) := by decide +kernel
theorem dX7_undo_117 : decode cX7_undo 117 = .ok (.iastore, 1) := by decide +kernel
theorem dX7_undo_118 : decode cX7_undo 118 = .ok (.aload_n 0, 1) := by decide +kernel
theorem dX7_undo_119 : decode cX7_undo 119 = .ok (.getfield 31, 3) := by decide +kernel
theorem dX7_undo_122 : decode cX7_undo 122 = .ok (.iload_n 2, 1) := by decide +kernel
theorem dX7_undo_123 : decode cX7_undo 123 = .ok (.aload_n 0, 1) := by decide +kernel
theorem dX7_undo_124 : decode cX7_undo 124 = .ok (.getfield 34, 3) := by decide +kernel
theorem dX7_undo_127 : decode cX7_undo 127 = .ok (.iload_n 1, 1) := by decide +kernel
theorem dX7_undo_128 : decode cX7_undo 128 = .ok (.iconst 5, 1) := by decide +kernel
theorem dX7_undo_129 : decode cX7_undo 129 = .ok (.iadd, 1) := by decide +kernel
theorem dX7_undo_130 : decode cX7_undo 130 = .ok (.iconst 5, 1) := by decide +kernel
theorem dX7_undo_131 : decode cX7_undo 131 = .ok (.iload_n 2, 1) := by decide +kernel
theorem dX7_undo_132 : decode cX7_undo 132 = .ok (.imul, 1) := by decide +kernel
theorem dX7_undo_133 : decode cX7_undo 133 = .ok (.iadd, 1) := by decide +kernel
theorem dX7_undo_134 : decode cX7_undo 134 = .ok (.iaload, 1) := by decide +kernel
theorem dX7_undo_135 : decode cX7_undo 135 = .ok (.iastore, 1) := by decide +kernel
theorem dX7_undo_136 : decode cX7_undo 136 = .ok (.iinc 2 1, 3) := by decide +kernel
theorem dX7_undo_139 : decode cX7_undo 139 = .ok (.goto (-99), 3) := by decide +kernel
theorem dX7_undo_142 : decode cX7_undo 142 = .ok (.aload_n 0, 1) := by decide +kernel
theorem dX7_undo_143 : decode cX7_undo 143 = .ok (.iconst 0, 1) := by decide +kernel
theorem dX7_undo_144 : decode cX7_undo 144 = .ok (.putfield 98, 3) := by decide +kernel
theorem dX7_undo_147 : decode cX7_undo 147 = .ok (.iconst 1, 1) := by decide +kernel
theorem dX7_undo_148 : decode cX7_undo 148 = .ok (.ireturn, 1) := by decide +kernel
theorem dX7_isHour_0 : decode cX7_isHour 0 = .ok (.iload_n 0, 1) := by decide +kernel
theorem dX7_isHour_1 : decode cX7_isHour 1 = .ok (.i2l, 1) := by decide +kernel
theorem dX7_isHour_2 : decode cX7_isHour 2 = .ok (.lconst 1, 1) := by decide +kernel
theorem dX7_isHour_3 : decode cX7_isHour 3 = .ok (.ldc2_w 102, 3) := by decide +kernel
theorem dX7_isHour_6 : decode cX7_isHour 6 = .ok (.invokestatic 73, 3) := by decide +kernel
theorem dX7_isHour_9 : decode cX7_isHour 9 = .ok (.ireturn, 1) := by decide +kernel
theorem dX7_job_0 : decode cX7_job 0 = .ok (.iload_n 1, 1) := by decide +kernel
theorem dX7_job_1 : decode cX7_job 1 = .ok (.iconst 1, 1) := by decide +kernel
theorem dX7_job_2 : decode cX7_job 2 = .ok (.if_icmp .ne 10, 3) := by decide +kernel
theorem dX7_job_5 : decode cX7_job 5 = .ok (.iload_n 2, 1) := by decide +kernel
theorem dX7_job_6 : decode cX7_job 6 = .ok (.invokestatic 104, 3) := by decide +kernel
theorem dX7_job_9 : decode cX7_job 9 = .ok (.ifCond .eq 42, 3) := by decide +kernel
theorem dX7_job_12 : decode cX7_job 12 = .ok (.iload_n 1, 1) := by decide +kernel
theorem dX7_job_13 : decode cX7_job 13 = .ok (.iconst 2, 1) := by decide +kernel
theorem dX7_job_14 : decode cX7_job 14 = .ok (.if_icmp .ne 22, 3) := by decide +kernel
theorem dX7_job_17 : decode cX7_job 17 = .ok (.iload_n 2, 1) := by decide +kernel
theorem dX7_job_18 : decode cX7_job 18 = .ok (.invokestatic 104, 3) := by decide +kernel
theorem dX7_job_21 : decode cX7_job 21 = .ok (.ifCond .eq 30, 3) := by decide +kernel
theorem dX7_job_24 : decode cX7_job 24 = .ok (.iload_n 3, 1) := by decide +kernel
theorem dX7_job_25 : decode cX7_job 25 = .ok (.invokestatic 104, 3) := by decide +kernel
theorem dX7_job_28 : decode cX7_job 28 = .ok (.ifCond .eq 23, 3) := by decide +kernel
theorem dX7_job_31 : decode cX7_job 31 = .ok (.iload_n 2, 1) := by decide +kernel
theorem dX7_job_32 : decode cX7_job 32 = .ok (.iload_n 3, 1) := by decide +kernel
theorem dX7_job_33 : decode cX7_job 33 = .ok (.if_icmp .gt 18, 3) := by decide +kernel
theorem dX7_job_36 : decode cX7_job 36 = .ok (.iload_n 1, 1) := by decide +kernel
theorem dX7_job_37 : decode cX7_job 37 = .ok (.iconst 3, 1) := by decide +kernel
theorem dX7_job_38 : decode cX7_job 38 = .ok (.if_icmp .ne 17, 3) := by decide +kernel
theorem dX7_job_41 : decode cX7_job 41 = .ok (.iload_n 2, 1) := by decide +kernel
theorem dX7_job_42 : decode cX7_job 42 = .ok (.i2l, 1) := by decide +kernel
theorem dX7_job_43 : decode cX7_job 43 = .ok (.lconst 0, 1) := by decide +kernel
theorem dX7_job_44 : decode cX7_job 44 = .ok (.lconst 1, 1) := by decide +kernel
theorem dX7_job_45 : decode cX7_job 45 = .ok (.invokestatic 73, 3) := by decide +kernel
theorem dX7_job_48 : decode cX7_job 48 = .ok (.ifCond .ne 7, 3) := by decide +kernel
theorem dX7_job_51 : decode cX7_job 51 = .ok (.iconst 1, 1) := by decide +kernel
theorem dX7_job_52 : decode cX7_job 52 = .ok (.goto 4, 3) := by decide +kernel
theorem dX7_job_55 : decode cX7_job 55 = .ok (.iconst 0, 1) := by decide +kernel
theorem dX7_job_56 : decode cX7_job 56 = .ok (.istore 4, 2) := by decide +kernel
theorem dX7_job_58 : decode cX7_job 58 = .ok (.iload_n 1, 1) := by decide +kernel
theorem dX7_job_59 : decode cX7_job 59 = .ok (.i2l, 1) := by decide +kernel
theorem dX7_job_60 : decode cX7_job 60 = .ok (.lconst 0, 1) := by decide +kernel
theorem dX7_job_61 : decode cX7_job 61 = .ok (.ldc2_w 107, 3) := by decide +kernel
theorem dX7_job_64 : decode cX7_job 64 = .ok (.invokestatic 73, 3) := by decide +kernel
theorem dX7_job_67 : decode cX7_job 67 = .ok (.ifCond .eq 8, 3) := by decide +kernel
theorem dX7_job_70 : decode cX7_job 70 = .ok (.iload 4, 2) := by decide +kernel
theorem dX7_job_72 : decode cX7_job 72 = .ok (.ifCond .eq 5, 3) := by decide +kernel
theorem dX7_job_75 : decode cX7_job 75 = .ok (.iconst (-1), 1) := by decide +kernel
theorem dX7_job_76 : decode cX7_job 76 = .ok (.ireturn, 1) := by decide +kernel
theorem dX7_job_77 : decode cX7_job 77 = .ok (.aload_n 0, 1) := by decide +kernel
theorem dX7_job_78 : decode cX7_job 78 = .ok (.getfield 91, 3) := by decide +kernel
theorem dX7_job_81 : decode cX7_job 81 = .ok (.bipush 10, 2) := by decide +kernel
theorem dX7_job_83 : decode cX7_job 83 = .ok (.if_icmp .ne 6, 3) := by decide +kernel
theorem dX7_job_86 : decode cX7_job 86 = .ok (.bipush (-2), 2) := by decide +kernel
theorem dX7_job_88 : decode cX7_job 88 = .ok (.ireturn, 1) := by decide +kernel
theorem dX7_job_89 : decode cX7_job 89 = .ok (.aload_n 0, 1) := by decide +kernel
theorem dX7_job_90 : decode cX7_job 90 = .ok (.invokevirtual 109, 3) := by decide +kernel
theorem dX7_job_93 : decode cX7_job 93 = .ok (.aload_n 0, 1) := by decide +kernel
theorem dX7_job_94 : decode cX7_job 94 = .ok (.getfield 19, 3) := by decide +kernel
theorem dX7_job_97 : decode cX7_job 97 = .ok (.aload_n 0, 1) := by decide +kernel
theorem dX7_job_98 : decode cX7_job 98 = .ok (.getfield 91, 3) := by decide +kernel
theorem dX7_job_101 : decode cX7_job 101 = .ok (.iload_n 1, 1) := by decide +kernel
theorem dX7_job_102 : decode cX7_job 102 = .ok (.iastore, 1) := by decide +kernel
theorem dX7_job_103 : decode cX7_job 103 = .ok (.aload_n 0, 1) := by decide +kernel
theorem dX7_job_104 : decode cX7_job 104 = .ok (.getfield 22, 3) := by decide +kernel
theorem dX7_job_107 : decode cX7_job 107 = .ok (.aload_n 0, 1) := by decide +kernel
theorem dX7_job_108 : decode cX7_job 108 = .ok (.getfield 91, 3) := by decide +kernel
theorem dX7_job_111 : decode cX7_job 111 = .ok (.iload_n 1, 1) := by decide +kernel
theorem dX7_job_112 : decode cX7_job 112 = .ok (.iconst 2, 1) := by decide +kernel
theorem dX7_job_113 : decode cX7_job 113 = .ok (.if_icmp .ne 7, 3) := by decide +kernel
theorem dX7_job_116 : decode cX7_job 116 = .ok (.iload_n 2, 1) := by decide +kernel
theorem dX7_job_117 : decode cX7_job 117 = .ok (.goto 5, 3) := by decide +kernel
theorem dX7_job_120 : decode cX7_job 120 = .ok (.bipush (-3), 2) := by decide +kernel
theorem dX7_job_122 : decode cX7_job 122 = .ok (.iastore, 1) := by decide +kernel
theorem dX7_job_123 : decode cX7_job 123 = .ok (.aload_n 0, 1) := by decide +kernel
theorem dX7_job_124 : decode cX7_job 124 = .ok (.getfield 25, 3) := by decide +kernel
theorem dX7_job_127 : decode cX7_job 127 = .ok (.aload_n 0, 1) := by decide +kernel
theorem dX7_job_128 : decode cX7_job 128 = .ok (.getfield 91, 3) := by decide +kernel
theorem dX7_job_131 : decode cX7_job 131 = .ok (.iload_n 1, 1) := by decide +kernel
theorem dX7_job_132 : decode cX7_job 132 = .ok (.iconst 1, 1) := by decide +kernel
theorem dX7_job_133 : decode cX7_job 133 = .ok (.if_icmp .ne 7, 3) := by decide +kernel
theorem dX7_job_136 : decode cX7_job 136 = .ok (.iload_n 2, 1) := by decide +kernel
theorem dX7_job_137 : decode cX7_job 137 = .ok (.goto 14, 3) := by decide +kernel
theorem dX7_job_140 : decode cX7_job 140 = .ok (.iload_n 1, 1) := by decide +kernel
theorem dX7_job_141 : decode cX7_job 141 = .ok (.iconst 2, 1) := by decide +kernel
theorem dX7_job_142 : decode cX7_job 142 = .ok (.if_icmp .ne 7, 3) := by decide +kernel
theorem dX7_job_145 : decode cX7_job 145 = .ok (.iload_n 3, 1) := by decide +kernel
theorem dX7_job_146 : decode cX7_job 146 = .ok (.goto 5, 3) := by decide +kernel
theorem dX7_job_149 : decode cX7_job 149 = .ok (.bipush (-3), 2) := by decide +kernel
theorem dX7_job_151 : decode cX7_job 151 = .ok (.iastore, 1) := by decide +kernel
theorem dX7_job_152 : decode cX7_job 152 = .ok (.aload_n 0, 1) := by decide +kernel
theorem dX7_job_153 : decode cX7_job 153 = .ok (.getfield 28, 3) := by decide +kernel
theorem dX7_job_156 : decode cX7_job 156 = .ok (.aload_n 0, 1) := by decide +kernel
theorem dX7_job_157 : decode cX7_job 157 = .ok (.getfield 91, 3) := by decide +kernel
theorem dX7_job_160 : decode cX7_job 160 = .ok (.iload_n 1, 1) := by decide +kernel
theorem dX7_job_161 : decode cX7_job 161 = .ok (.iconst 3, 1) := by decide +kernel
theorem dX7_job_162 : decode cX7_job 162 = .ok (.if_icmp .ne 7, 3) := by decide +kernel
theorem dX7_job_165 : decode cX7_job 165 = .ok (.iload_n 2, 1) := by decide +kernel
theorem dX7_job_166 : decode cX7_job 166 = .ok (.goto 5, 3) := by decide +kernel
theorem dX7_job_169 : decode cX7_job 169 = .ok (.bipush (-3), 2) := by decide +kernel
theorem dX7_job_171 : decode cX7_job 171 = .ok (.iastore, 1) := by decide +kernel
theorem dX7_job_172 : decode cX7_job 172 = .ok (.aload_n 0, 1) := by decide +kernel
theorem dX7_job_173 : decode cX7_job 173 = .ok (.getfield 31, 3) := by decide +kernel
theorem dX7_job_176 : decode cX7_job 176 = .ok (.aload_n 0, 1) := by decide +kernel
theorem dX7_job_177 : decode cX7_job 177 = .ok (.getfield 91, 3) := by decide +kernel
theorem dX7_job_180 : decode cX7_job 180 = .ok (.iconst 0, 1) := by decide +kernel
theorem dX7_job_181 : decode cX7_job 181 = .ok (.iastore, 1) := by decide +kernel
theorem dX7_job_182 : decode cX7_job 182 = .ok (.aload_n 0, 1) := by decide +kernel
theorem dX7_job_183 : decode cX7_job 183 = .ok (.dup, 1) := by decide +kernel
theorem dX7_job_184 : decode cX7_job 184 = .ok (.getfield 91, 3) := by decide +kernel
theorem dX7_job_187 : decode cX7_job 187 = .ok (.iconst 1, 1) := by decide +kernel
theorem dX7_job_188 : decode cX7_job 188 = .ok (.iadd, 1) := by decide +kernel
theorem dX7_job_189 : decode cX7_job 189 = .ok (.putfield 91, 3) := by decide +kernel
theorem dX7_job_192 : decode cX7_job 192 = .ok (.aload_n 0, 1) := by decide +kernel
theorem dX7_job_193 : decode cX7_job 193 = .ok (.getfield 91, 3) := by decide +kernel
theorem dX7_job_196 : decode cX7_job 196 = .ok (.iconst 1, 1) := by decide +kernel
theorem dX7_job_197 : decode cX7_job 197 = .ok (.isub, 1) := by decide +kernel
theorem dX7_job_198 : decode cX7_job 198 = .ok (.ireturn, 1) := by decide +kernel
theorem dX7_layBehind_0 : decode cX7_layBehind 0 = .ok (.iconst 0, 1) := by decide +kernel
theorem dX7_layBehind_1 : decode cX7_layBehind 1 = .ok (.istore_n 1, 1) := by decide +kernel
theorem dX7_layBehind_2 : decode cX7_layBehind 2 = .ok (.iload_n 1, 1) := by decide +kernel
theorem dX7_layBehind_3 : decode cX7_layBehind 3 = .ok (.bipush 10, 2) := by decide +kernel
theorem dX7_layBehind_5 : decode cX7_layBehind 5 = .ok (.if_icmp .ge 33, 3) := by decide +kernel
theorem dX7_layBehind_8 : decode cX7_layBehind 8 = .ok (.aload_n 0, 1) := by decide +kernel
theorem dX7_layBehind_9 : decode cX7_layBehind 9 = .ok (.getfield 43, 3) := by decide +kernel
theorem dX7_layBehind_12 : decode cX7_layBehind 12 = .ok (.iload_n 1, 1) := by decide +kernel
theorem dX7_layBehind_13 : decode cX7_layBehind 13 = .ok (.iload_n 1, 1) := by decide +kernel
theorem dX7_layBehind_14 : decode cX7_layBehind 14 = .ok (.aload_n 0, 1) := by decide +kernel
theorem dX7_layBehind_15 : decode cX7_layBehind 15 = .ok (.getfield 91, 3) := by decide +kernel
theorem dX7_layBehind_18 : decode cX7_layBehind 18 = .ok (.if_icmp .ge 12, 3) := by decide +kernel
theorem dX7_layBehind_21 : decode cX7_layBehind 21 = .ok (.aload_n 0, 1) := by decide +kernel
theorem dX7_layBehind_22 : decode cX7_layBehind 22 = .ok (.getfield 31, 3) := by decide +kernel
theorem dX7_layBehind_25 : decode cX7_layBehind 25 = .ok (.iload_n 1, 1) := by decide +kernel
theorem dX7_layBehind_26 : decode cX7_layBehind 26 = .ok (.iaload, 1) := by decide +kernel
theorem dX7_layBehind_27 : decode cX7_layBehind 27 = .ok (.goto 4, 3) := by decide +kernel
theorem dX7_layBehind_30 : decode cX7_layBehind 30 = .ok (.iconst 0, 1) := by decide +kernel
theorem dX7_layBehind_31 : decode cX7_layBehind 31 = .ok (.iastore, 1) := by decide +kernel
theorem dX7_layBehind_32 : decode cX7_layBehind 32 = .ok (.iinc 1 1, 3) := by decide +kernel
theorem dX7_layBehind_35 : decode cX7_layBehind 35 = .ok (.goto (-33), 3) := by decide +kernel
theorem dX7_layBehind_38 : decode cX7_layBehind 38 = .ok (.iconst 0, 1) := by decide +kernel
theorem dX7_layBehind_39 : decode cX7_layBehind 39 = .ok (.istore_n 1, 1) := by decide +kernel
theorem dX7_layBehind_40 : decode cX7_layBehind 40 = .ok (.iload_n 1, 1) := by decide +kernel
theorem dX7_layBehind_41 : decode cX7_layBehind 41 = .ok (.aload_n 0, 1) := by decide +kernel
theorem dX7_layBehind_42 : decode cX7_layBehind 42 = .ok (.getfield 91, 3) := by decide +kernel
theorem dX7_layBehind_45 : decode cX7_layBehind 45 = .ok (.if_icmp .ge 58, 3) := by decide +kernel
theorem dX7_layBehind_48 : decode cX7_layBehind 48 = .ok (.iconst 0, 1) := by decide +kernel
theorem dX7_layBehind_49 : decode cX7_layBehind 49 = .ok (.istore_n 2, 1) := by decide +kernel
theorem dX7_layBehind_50 : decode cX7_layBehind 50 = .ok (.iload_n 2, 1) := by decide +kernel
theorem dX7_layBehind_51 : decode cX7_layBehind 51 = .ok (.aload_n 0, 1) := by decide +kernel
theorem dX7_layBehind_52 : decode cX7_layBehind 52 = .ok (.getfield 91, 3) := by decide +kernel
theorem dX7_layBehind_55 : decode cX7_layBehind 55 = .ok (.if_icmp .ge 42, 3) := by decide +kernel
theorem dX7_layBehind_58 : decode cX7_layBehind 58 = .ok (.aload_n 0, 1) := by decide +kernel
theorem dX7_layBehind_59 : decode cX7_layBehind 59 = .ok (.getfield 43, 3) := by decide +kernel
theorem dX7_layBehind_62 : decode cX7_layBehind 62 = .ok (.iload_n 2, 1) := by decide +kernel
theorem dX7_layBehind_63 : decode cX7_layBehind 63 = .ok (.dup2, 1) := by decide +kernel
theorem dX7_layBehind_64 : decode cX7_layBehind 64 = .ok (.iaload, 1) := by decide +kernel
theorem dX7_layBehind_65 : decode cX7_layBehind 65 = .ok (.aload_n 0, 1) := by decide +kernel
theorem dX7_layBehind_66 : decode cX7_layBehind 66 = .ok (.getfield 43, 3) := by decide +kernel
theorem dX7_layBehind_69 : decode cX7_layBehind 69 = .ok (.iload_n 2, 1) := by decide +kernel
theorem dX7_layBehind_70 : decode cX7_layBehind 70 = .ok (.iaload, 1) := by decide +kernel
theorem dX7_layBehind_71 : decode cX7_layBehind 71 = .ok (.iload_n 1, 1) := by decide +kernel
theorem dX7_layBehind_72 : decode cX7_layBehind 72 = .ok (.ishr, 1) := by decide +kernel
theorem dX7_layBehind_73 : decode cX7_layBehind 73 = .ok (.iconst 1, 1) := by decide +kernel
theorem dX7_layBehind_74 : decode cX7_layBehind 74 = .ok (.iand, 1) := by decide +kernel
theorem dX7_layBehind_75 : decode cX7_layBehind 75 = .ok (.iconst 1, 1) := by decide +kernel
theorem dX7_layBehind_76 : decode cX7_layBehind 76 = .ok (.if_icmp .ne 12, 3) := by decide +kernel
theorem dX7_layBehind_79 : decode cX7_layBehind 79 = .ok (.aload_n 0, 1) := by decide +kernel
theorem dX7_layBehind_80 : decode cX7_layBehind 80 = .ok (.getfield 43, 3) := by decide +kernel
theorem dX7_layBehind_83 : decode cX7_layBehind 83 = .ok (.iload_n 1, 1) := by decide +kernel
theorem dX7_layBehind_84 : decode cX7_layBehind 84 = .ok (.iaload, 1) := by decide +kernel
theorem dX7_layBehind_85 : decode cX7_layBehind 85 = .ok (.goto 4, 3) := by decide +kernel
theorem dX7_layBehind_88 : decode cX7_layBehind 88 = .ok (.iconst 0, 1) := by decide +kernel
theorem dX7_layBehind_89 : decode cX7_layBehind 89 = .ok (.ior, 1) := by decide +kernel
theorem dX7_layBehind_90 : decode cX7_layBehind 90 = .ok (.iastore, 1) := by decide +kernel
theorem dX7_layBehind_91 : decode cX7_layBehind 91 = .ok (.iinc 2 1, 3) := by decide +kernel
theorem dX7_layBehind_94 : decode cX7_layBehind 94 = .ok (.goto (-44), 3) := by decide +kernel
theorem dX7_layBehind_97 : decode cX7_layBehind 97 = .ok (.iinc 1 1, 3) := by decide +kernel
theorem dX7_layBehind_100 : decode cX7_layBehind 100 = .ok (.goto (-60), 3) := by decide +kernel
theorem dX7_layBehind_103 : decode cX7_layBehind 103 = .ok (.return_, 1) := by decide +kernel
theorem dX7_isBehind_0 : decode cX7_isBehind 0 = .ok (.aload_n 0, 1) := by decide +kernel
theorem dX7_isBehind_1 : decode cX7_isBehind 1 = .ok (.getfield 43, 3) := by decide +kernel
theorem dX7_isBehind_4 : decode cX7_isBehind 4 = .ok (.iload_n 1, 1) := by decide +kernel
theorem dX7_isBehind_5 : decode cX7_isBehind 5 = .ok (.iaload, 1) := by decide +kernel
theorem dX7_isBehind_6 : decode cX7_isBehind 6 = .ok (.iload_n 2, 1) := by decide +kernel
theorem dX7_isBehind_7 : decode cX7_isBehind 7 = .ok (.ishr, 1) := by decide +kernel
theorem dX7_isBehind_8 : decode cX7_isBehind 8 = .ok (.iconst 1, 1) := by decide +kernel
theorem dX7_isBehind_9 : decode cX7_isBehind 9 = .ok (.iand, 1) := by decide +kernel
theorem dX7_isBehind_10 : decode cX7_isBehind 10 = .ok (.iconst 1, 1) := by decide +kernel
theorem dX7_isBehind_11 : decode cX7_isBehind 11 = .ok (.if_icmp .ne 7, 3) := by decide +kernel
theorem dX7_isBehind_14 : decode cX7_isBehind 14 = .ok (.iconst 1, 1) := by decide +kernel
theorem dX7_isBehind_15 : decode cX7_isBehind 15 = .ok (.goto 4, 3) := by decide +kernel
theorem dX7_isBehind_18 : decode cX7_isBehind 18 = .ok (.iconst 0, 1) := by decide +kernel
theorem dX7_isBehind_19 : decode cX7_isBehind 19 = .ok (.ireturn, 1) := by decide +kernel
theorem dX7_layRing_0 : decode cX7_layRing 0 = .ok (.aload_n 0, 1) := by decide +kernel
theorem dX7_layRing_1 : decode cX7_layRing 1 = .ok (.getfield 37, 3) := by decide +kernel
theorem dX7_layRing_4 : decode cX7_layRing 4 = .ok (.iconst 0, 1) := by decide +kernel
theorem dX7_layRing_5 : decode cX7_layRing 5 = .ok (.iload_n 1, 1) := by decide +kernel
theorem dX7_layRing_6 : decode cX7_layRing 6 = .ok (.iastore, 1) := by decide +kernel
theorem dX7_layRing_7 : decode cX7_layRing 7 = .ok (.aload_n 0, 1) := by decide +kernel
theorem dX7_layRing_8 : decode cX7_layRing 8 = .ok (.iconst 1, 1) := by decide +kernel
theorem dX7_layRing_9 : decode cX7_layRing 9 = .ok (.putfield 112, 3) := by decide +kernel
theorem dX7_layRing_12 : decode cX7_layRing 12 = .ok (.iload_n 1, 1) := by decide +kernel
theorem dX7_layRing_13 : decode cX7_layRing 13 = .ok (.iload_n 2, 1) := by decide +kernel
theorem dX7_layRing_14 : decode cX7_layRing 14 = .ok (.if_icmp .ne 4, 3) := by decide +kernel
theorem dX7_layRing_17 : decode cX7_layRing 17 = .ok (.return_, 1) := by decide +kernel
theorem dX7_layRing_18 : decode cX7_layRing 18 = .ok (.iconst 0, 1) := by decide +kernel
theorem dX7_layRing_19 : decode cX7_layRing 19 = .ok (.istore_n 3, 1) := by decide +kernel
theorem dX7_layRing_20 : decode cX7_layRing 20 = .ok (.iload_n 3, 1) := by decide +kernel
theorem dX7_layRing_21 : decode cX7_layRing 21 = .ok (.bipush 10, 2) := by decide +kernel
theorem dX7_layRing_23 : decode cX7_layRing 23 = .ok (.if_icmp .ge 26, 3) := by decide +kernel
theorem dX7_layRing_26 : decode cX7_layRing 26 = .ok (.aload_n 0, 1) := by decide +kernel
theorem dX7_layRing_27 : decode cX7_layRing 27 = .ok (.getfield 46, 3) := by decide +kernel
theorem dX7_layRing_30 : decode cX7_layRing 30 = .ok (.iload_n 3, 1) := by decide +kernel
theorem dX7_layRing_31 : decode cX7_layRing 31 = .ok (.iload_n 3, 1) := by decide +kernel
theorem dX7_layRing_32 : decode cX7_layRing 32 = .ok (.iload_n 1, 1) := by decide +kernel
theorem dX7_layRing_33 : decode cX7_layRing 33 = .ok (.if_icmp .ne 7, 3) := by decide +kernel
theorem dX7_layRing_36 : decode cX7_layRing 36 = .ok (.iconst 0, 1) := by decide +kernel
theorem dX7_layRing_37 : decode cX7_layRing 37 = .ok (.goto 5, 3) := by decide +kernel
theorem dX7_layRing_40 : decode cX7_layRing 40 = .ok (.bipush 99, 2) := by decide +kernel
theorem dX7_layRing_42 : decode cX7_layRing 42 = .ok (.iastore, 1) := by decide +kernel
theorem dX7_layRing_43 : decode cX7_layRing 43 = .ok (.iinc 3 1, 3) := by decide +kernel
theorem dX7_layRing_46 : decode cX7_layRing 46 = .ok (.goto (-26), 3) := by decide +kernel
theorem dX7_layRing_49 : decode cX7_layRing 49 = .ok (.iconst 0, 1) := by decide +kernel
theorem dX7_layRing_50 : decode cX7_layRing 50 = .ok (.istore_n 3, 1) := by decide +kernel
theorem dX7_layRing_51 : decode cX7_layRing 51 = .ok (.iload_n 3, 1) := by decide +kernel
theorem dX7_layRing_52 : decode cX7_layRing 52 = .ok (.bipush 10, 2) := by decide +kernel
theorem dX7_layRing_54 : decode cX7_layRing 54 = .ok (.if_icmp .ge 96, 3) := by decide +kernel
theorem dX7_layRing_57 : decode cX7_layRing 57 = .ok (.iconst 0, 1) := by decide +kernel
theorem dX7_layRing_58 : decode cX7_layRing 58 = .ok (.istore 4, 2) := by decide +kernel
theorem dX7_layRing_60 : decode cX7_layRing 60 = .ok (.iload 4, 2) := by decide +kernel
theorem dX7_layRing_62 : decode cX7_layRing 62 = .ok (.aload_n 0, 1) := by decide +kernel
theorem dX7_layRing_63 : decode cX7_layRing 63 = .ok (.getfield 91, 3) := by decide +kernel
theorem dX7_layRing_66 : decode cX7_layRing 66 = .ok (.if_icmp .ge 78, 3) := by decide +kernel
theorem dX7_layRing_69 : decode cX7_layRing 69 = .ok (.iconst 0, 1) := by decide +kernel
theorem dX7_layRing_70 : decode cX7_layRing 70 = .ok (.istore 5, 2) := by decide +kernel
theorem dX7_layRing_72 : decode cX7_layRing 72 = .ok (.iload 5, 2) := by decide +kernel
theorem dX7_layRing_74 : decode cX7_layRing 74 = .ok (.aload_n 0, 1) := by decide +kernel
theorem dX7_layRing_75 : decode cX7_layRing 75 = .ok (.getfield 91, 3) := by decide +kernel
theorem dX7_layRing_78 : decode cX7_layRing 78 = .ok (.if_icmp .ge 60, 3) := by decide +kernel
theorem dX7_layRing_81 : decode cX7_layRing 81 = .ok (.aload_n 0, 1) := by decide +kernel
theorem dX7_layRing_82 : decode cX7_layRing 82 = .ok (.getfield 31, 3) := by decide +kernel
theorem dX7_layRing_85 : decode cX7_layRing 85 = .ok (.iload 4, 2) := by decide +kernel
theorem dX7_layRing_87 : decode cX7_layRing 87 = .ok (.iaload, 1) := by decide +kernel
theorem dX7_layRing_88 : decode cX7_layRing 88 = .ok (.iload 5, 2) := by decide +kernel
theorem dX7_layRing_90 : decode cX7_layRing 90 = .ok (.ishr, 1) := by decide +kernel
theorem dX7_layRing_91 : decode cX7_layRing 91 = .ok (.iconst 1, 1) := by decide +kernel
theorem dX7_layRing_92 : decode cX7_layRing 92 = .ok (.iand, 1) := by decide +kernel
theorem dX7_layRing_93 : decode cX7_layRing 93 = .ok (.iconst 1, 1) := by decide +kernel
theorem dX7_layRing_94 : decode cX7_layRing 94 = .ok (.if_icmp .ne 38, 3) := by decide +kernel
theorem dX7_layRing_97 : decode cX7_layRing 97 = .ok (.aload_n 0, 1) := by decide +kernel
theorem dX7_layRing_98 : decode cX7_layRing 98 = .ok (.getfield 46, 3) := by decide +kernel
theorem dX7_layRing_101 : decode cX7_layRing 101 = .ok (.iload 5, 2) := by decide +kernel
theorem dX7_layRing_103 : decode cX7_layRing 103 = .ok (.iaload, 1) := by decide +kernel
theorem dX7_layRing_104 : decode cX7_layRing 104 = .ok (.iconst 1, 1) := by decide +kernel
theorem dX7_layRing_105 : decode cX7_layRing 105 = .ok (.iadd, 1) := by decide +kernel
theorem dX7_layRing_106 : decode cX7_layRing 106 = .ok (.aload_n 0, 1) := by decide +kernel
theorem dX7_layRing_107 : decode cX7_layRing 107 = .ok (.getfield 46, 3) := by decide +kernel
theorem dX7_layRing_110 : decode cX7_layRing 110 = .ok (.iload 4, 2) := by decide +kernel
theorem dX7_layRing_112 : decode cX7_layRing 112 = .ok (.iaload, 1) := by decide +kernel
theorem dX7_layRing_113 : decode cX7_layRing 113 = .ok (.if_icmp .ge 19, 3) := by decide +kernel
theorem dX7_layRing_116 : decode cX7_layRing 116 = .ok (.aload_n 0, 1) := by decide +kernel
theorem dX7_layRing_117 : decode cX7_layRing 117 = .ok (.getfield 46, 3) := by decide +kernel
theorem dX7_layRing_120 : decode cX7_layRing 120 = .ok (.iload 4, 2) := by decide +kernel
theorem dX7_layRing_122 : decode cX7_layRing 122 = .ok (.aload_n 0, 1) := by decide +kernel
theorem dX7_layRing_123 : decode cX7_layRing 123 = .ok (.getfield 46, 3) := by decide +kernel
theorem dX7_layRing_126 : decode cX7_layRing 126 = .ok (.iload 5, 2) := by decide +kernel
theorem dX7_layRing_128 : decode cX7_layRing 128 = .ok (.iaload, 1) := by decide +kernel
theorem dX7_layRing_129 : decode cX7_layRing 129 = .ok (.iconst 1, 1) := by decide +kernel
theorem dX7_layRing_130 : decode cX7_layRing 130 = .ok (.iadd, 1) := by decide +kernel
theorem dX7_layRing_131 : decode cX7_layRing 131 = .ok (.iastore, 1) := by decide +kernel
theorem dX7_layRing_132 : decode cX7_layRing 132 = .ok (.iinc 5 1, 3) := by decide +kernel
theorem dX7_layRing_135 : decode cX7_layRing 135 = .ok (.goto (-63), 3) := by decide +kernel
theorem dX7_layRing_138 : decode cX7_layRing 138 = .ok (.iinc 4 1, 3) := by decide +kernel
theorem dX7_layRing_141 : decode cX7_layRing 141 = .ok (.goto (-81), 3) := by decide +kernel
theorem dX7_layRing_144 : decode cX7_layRing 144 = .ok (.iinc 3 1, 3) := by decide +kernel
theorem dX7_layRing_147 : decode cX7_layRing 147 = .ok (.goto (-96), 3) := by decide +kernel
theorem dX7_layRing_150 : decode cX7_layRing 150 = .ok (.iload_n 2, 1) := by decide +kernel
theorem dX7_layRing_151 : decode cX7_layRing 151 = .ok (.istore_n 3, 1) := by decide +kernel
theorem dX7_layRing_152 : decode cX7_layRing 152 = .ok (.iload_n 3, 1) := by decide +kernel
theorem dX7_layRing_153 : decode cX7_layRing 153 = .ok (.iload_n 1, 1) := by decide +kernel
theorem dX7_layRing_154 : decode cX7_layRing 154 = .ok (.if_icmp .eq 94, 3) := by decide +kernel
theorem dX7_layRing_157 : decode cX7_layRing 157 = .ok (.aload_n 0, 1) := by decide +kernel
theorem dX7_layRing_158 : decode cX7_layRing 158 = .ok (.getfield 37, 3) := by decide +kernel
theorem dX7_layRing_161 : decode cX7_layRing 161 = .ok (.aload_n 0, 1) := by decide +kernel
theorem dX7_layRing_162 : decode cX7_layRing 162 = .ok (.getfield 112, 3) := by decide +kernel
theorem dX7_layRing_165 : decode cX7_layRing 165 = .ok (.iload_n 3, 1) := by decide +kernel
theorem dX7_layRing_166 : decode cX7_layRing 166 = .ok (.iastore, 1) := by decide +kernel
theorem dX7_layRing_167 : decode cX7_layRing 167 = .ok (.aload_n 0, 1) := by decide +kernel
theorem dX7_layRing_168 : decode cX7_layRing 168 = .ok (.dup, 1) := by decide +kernel
theorem dX7_layRing_169 : decode cX7_layRing 169 = .ok (.getfield 112, 3) := by decide +kernel
theorem dX7_layRing_172 : decode cX7_layRing 172 = .ok (.iconst 1, 1) := by decide +kernel
theorem dX7_layRing_173 : decode cX7_layRing 173 = .ok (.iadd, 1) := by decide +kernel
theorem dX7_layRing_174 : decode cX7_layRing 174 = .ok (.putfield 112, 3) := by decide +kernel
theorem dX7_layRing_177 : decode cX7_layRing 177 = .ok (.bipush (-3), 2) := by decide +kernel
theorem dX7_layRing_179 : decode cX7_layRing 179 = .ok (.istore 4, 2) := by decide +kernel
theorem dX7_layRing_181 : decode cX7_layRing 181 = .ok (.aload_n 0, 1) := by decide +kernel
theorem dX7_layRing_182 : decode cX7_layRing 182 = .ok (.getfield 91, 3) := by decide +kernel
theorem dX7_layRing_185 : decode cX7_layRing 185 = .ok (.iconst 1, 1) := by decide +kernel
theorem dX7_layRing_186 : decode cX7_layRing 186 = .ok (.isub, 1) := by decide +kernel
theorem dX7_layRing_187 : decode cX7_layRing 187 = .ok (.istore 5, 2) := by decide +kernel
theorem dX7_layRing_189 : decode cX7_layRing 189 = .ok (.iload 5, 2) := by decide +kernel
theorem dX7_layRing_191 : decode cX7_layRing 191 = .ok (.ifCond .lt 51, 3) := by decide +kernel
theorem dX7_layRing_194 : decode cX7_layRing 194 = .ok (.aload_n 0, 1) := by decide +kernel
theorem dX7_layRing_195 : decode cX7_layRing 195 = .ok (.getfield 31, 3) := by decide +kernel
theorem dX7_layRing_198 : decode cX7_layRing 198 = .ok (.iload_n 3, 1) := by decide +kernel
theorem dX7_layRing_199 : decode cX7_layRing 199 = .ok (.iaload, 1) := by decide +kernel
theorem dX7_layRing_200 : decode cX7_layRing 200 = .ok (.iload 5, 2) := by decide +kernel
theorem dX7_layRing_202 : decode cX7_layRing 202 = .ok (.ishr, 1) := by decide +kernel
theorem dX7_layRing_203 : decode cX7_layRing 203 = .ok (.iconst 1, 1) := by decide +kernel
theorem dX7_layRing_204 : decode cX7_layRing 204 = .ok (.iand, 1) := by decide +kernel
theorem dX7_layRing_205 : decode cX7_layRing 205 = .ok (.iconst 1, 1) := by decide +kernel
theorem dX7_layRing_206 : decode cX7_layRing 206 = .ok (.if_icmp .ne 26, 3) := by decide +kernel
theorem dX7_layRing_209 : decode cX7_layRing 209 = .ok (.aload_n 0, 1) := by decide +kernel
theorem dX7_layRing_210 : decode cX7_layRing 210 = .ok (.getfield 46, 3) := by decide +kernel
theorem dX7_layRing_213 : decode cX7_layRing 213 = .ok (.iload 5, 2) := by decide +kernel
theorem dX7_layRing_215 : decode cX7_layRing 215 = .ok (.iaload, 1) := by decide +kernel
theorem dX7_layRing_216 : decode cX7_layRing 216 = .ok (.aload_n 0, 1) := by decide +kernel
theorem dX7_layRing_217 : decode cX7_layRing 217 = .ok (.getfield 46, 3) := by decide +kernel
theorem dX7_layRing_220 : decode cX7_layRing 220 = .ok (.iload_n 3, 1) := by decide +kernel
theorem dX7_layRing_221 : decode cX7_layRing 221 = .ok (.iaload, 1) := by decide +kernel
theorem dX7_layRing_222 : decode cX7_layRing 222 = .ok (.iconst 1, 1) := by decide +kernel
theorem dX7_layRing_223 : decode cX7_layRing 223 = .ok (.isub, 1) := by decide +kernel
theorem dX7_layRing_224 : decode cX7_layRing 224 = .ok (.if_icmp .ne 8, 3) := by decide +kernel
theorem dX7_layRing_227 : decode cX7_layRing 227 = .ok (.iload 5, 2) := by decide +kernel
theorem dX7_layRing_229 : decode cX7_layRing 229 = .ok (.goto 5, 3) := by decide +kernel
theorem dX7_layRing_232 : decode cX7_layRing 232 = .ok (.iload 4, 2) := by decide +kernel
theorem dX7_layRing_234 : decode cX7_layRing 234 = .ok (.istore 4, 2) := by decide +kernel
theorem dX7_layRing_236 : decode cX7_layRing 236 = .ok (.iinc 5 (-1), 3) := by decide +kernel
theorem dX7_layRing_239 : decode cX7_layRing 239 = .ok (.goto (-50), 3) := by decide +kernel
theorem dX7_layRing_242 : decode cX7_layRing 242 = .ok (.iload 4, 2) := by decide +kernel
theorem dX7_layRing_244 : decode cX7_layRing 244 = .ok (.istore_n 3, 1) := by decide +kernel
theorem dX7_layRing_245 : decode cX7_layRing 245 = .ok (.goto (-93), 3) := by decide +kernel
theorem dX7_layRing_248 : decode cX7_layRing 248 = .ok (.return_, 1) := by decide +kernel
theorem dX7_wouldRing_0 : decode cX7_wouldRing 0 = .ok (.aload_n 0, 1) := by decide +kernel
theorem dX7_wouldRing_1 : decode cX7_wouldRing 1 = .ok (.invokevirtual 115, 3) := by decide +kernel
theorem dX7_wouldRing_4 : decode cX7_wouldRing 4 = .ok (.iload_n 1, 1) := by decide +kernel
theorem dX7_wouldRing_5 : decode cX7_wouldRing 5 = .ok (.iload_n 2, 1) := by decide +kernel
theorem dX7_wouldRing_6 : decode cX7_wouldRing 6 = .ok (.if_icmp .eq 12, 3) := by decide +kernel
theorem dX7_wouldRing_9 : decode cX7_wouldRing 9 = .ok (.aload_n 0, 1) := by decide +kernel
theorem dX7_wouldRing_10 : decode cX7_wouldRing 10 = .ok (.iload_n 2, 1) := by decide +kernel
theorem dX7_wouldRing_11 : decode cX7_wouldRing 11 = .ok (.iload_n 1, 1) := by decide +kernel
theorem dX7_wouldRing_12 : decode cX7_wouldRing 12 = .ok (.invokevirtual 118, 3) := by decide +kernel
theorem dX7_wouldRing_15 : decode cX7_wouldRing 15 = .ok (.ifCond .eq 7, 3) := by decide +kernel
theorem dX7_wouldRing_18 : decode cX7_wouldRing 18 = .ok (.iconst 1, 1) := by decide +kernel
theorem dX7_wouldRing_19 : decode cX7_wouldRing 19 = .ok (.goto 4, 3) := by decide +kernel
theorem dX7_wouldRing_22 : decode cX7_wouldRing 22 = .ok (.iconst 0, 1) := by decide +kernel
theorem dX7_wouldRing_23 : decode cX7_wouldRing 23 = .ok (.ireturn, 1) := by decide +kernel
theorem dX7_after_0 : decode cX7_after 0 = .ok (.aload_n 0, 1) := by decide +kernel
theorem dX7_after_1 : decode cX7_after 1 = .ok (.iload_n 1, 1) := by decide +kernel
theorem dX7_after_2 : decode cX7_after 2 = .ok (.invokevirtual 122, 3) := by decide +kernel
theorem dX7_after_5 : decode cX7_after 5 = .ok (.ifCond .eq 11, 3) := by decide +kernel
theorem dX7_after_8 : decode cX7_after 8 = .ok (.aload_n 0, 1) := by decide +kernel
theorem dX7_after_9 : decode cX7_after 9 = .ok (.iload_n 2, 1) := by decide +kernel
theorem dX7_after_10 : decode cX7_after 10 = .ok (.invokevirtual 122, 3) := by decide +kernel
theorem dX7_after_13 : decode cX7_after 13 = .ok (.ifCond .ne 5, 3) := by decide +kernel
theorem dX7_after_16 : decode cX7_after 16 = .ok (.iconst (-1), 1) := by decide +kernel
theorem dX7_after_17 : decode cX7_after 17 = .ok (.ireturn, 1) := by decide +kernel
theorem dX7_after_18 : decode cX7_after 18 = .ok (.aload_n 0, 1) := by decide +kernel
theorem dX7_after_19 : decode cX7_after 19 = .ok (.getfield 31, 3) := by decide +kernel
theorem dX7_after_22 : decode cX7_after 22 = .ok (.iload_n 1, 1) := by decide +kernel
theorem dX7_after_23 : decode cX7_after 23 = .ok (.iaload, 1) := by decide +kernel
theorem dX7_after_24 : decode cX7_after 24 = .ok (.iload_n 2, 1) := by decide +kernel
theorem dX7_after_25 : decode cX7_after 25 = .ok (.ishr, 1) := by decide +kernel
theorem dX7_after_26 : decode cX7_after 26 = .ok (.iconst 1, 1) := by decide +kernel
theorem dX7_after_27 : decode cX7_after 27 = .ok (.iand, 1) := by decide +kernel
theorem dX7_after_28 : decode cX7_after 28 = .ok (.iconst 1, 1) := by decide +kernel
theorem dX7_after_29 : decode cX7_after 29 = .ok (.if_icmp .ne 5, 3) := by decide +kernel
theorem dX7_after_32 : decode cX7_after 32 = .ok (.iconst 0, 1) := by decide +kernel
theorem dX7_after_33 : decode cX7_after 33 = .ok (.ireturn, 1) := by decide +kernel
theorem dX7_after_34 : decode cX7_after 34 = .ok (.aload_n 0, 1) := by decide +kernel
theorem dX7_after_35 : decode cX7_after 35 = .ok (.iload_n 1, 1) := by decide +kernel
theorem dX7_after_36 : decode cX7_after 36 = .ok (.iload_n 2, 1) := by decide +kernel
theorem dX7_after_37 : decode cX7_after 37 = .ok (.invokevirtual 125, 3) := by decide +kernel
theorem dX7_after_40 : decode cX7_after 40 = .ok (.ifCond .eq 12, 3) := by decide +kernel
theorem dX7_after_43 : decode cX7_after 43 = .ok (.aload_n 0, 1) := by decide +kernel
theorem dX7_after_44 : decode cX7_after 44 = .ok (.iload_n 1, 1) := by decide +kernel
theorem dX7_after_45 : decode cX7_after 45 = .ok (.iload_n 2, 1) := by decide +kernel
theorem dX7_after_46 : decode cX7_after 46 = .ok (.invokevirtual 128, 3) := by decide +kernel
theorem dX7_after_49 : decode cX7_after 49 = .ok (.bipush (-4), 2) := by decide +kernel
theorem dX7_after_51 : decode cX7_after 51 = .ok (.ireturn, 1) := by decide +kernel
theorem dX7_after_52 : decode cX7_after 52 = .ok (.aload_n 0, 1) := by decide +kernel
theorem dX7_after_53 : decode cX7_after 53 = .ok (.invokevirtual 109, 3) := by decide +kernel
theorem dX7_after_56 : decode cX7_after 56 = .ok (.aload_n 0, 1) := by decide +kernel
theorem dX7_after_57 : decode cX7_after 57 = .ok (.getfield 31, 3) := by decide +kernel
theorem dX7_after_60 : decode cX7_after 60 = .ok (.iload_n 1, 1) := by decide +kernel
theorem dX7_after_61 : decode cX7_after 61 = .ok (.dup2, 1) := by decide +kernel
theorem dX7_after_62 : decode cX7_after 62 = .ok (.iaload, 1) := by decide +kernel
theorem dX7_after_63 : decode cX7_after 63 = .ok (.iconst 1, 1) := by decide +kernel
theorem dX7_after_64 : decode cX7_after 64 = .ok (.iload_n 2, 1) := by decide +kernel
theorem dX7_after_65 : decode cX7_after 65 = .ok (.ishl, 1) := by decide +kernel
theorem dX7_after_66 : decode cX7_after 66 = .ok (.ior, 1) := by decide +kernel
theorem dX7_after_67 : decode cX7_after 67 = .ok (.iastore, 1) := by decide +kernel
theorem dX7_after_68 : decode cX7_after 68 = .ok (.iconst 1, 1) := by decide +kernel
theorem dX7_after_69 : decode cX7_after 69 = .ok (.ireturn, 1) := by decide +kernel
theorem dX7_read_0 : decode cX7_read 0 = .ok (.aload_n 0, 1) := by decide +kernel
theorem dX7_read_1 : decode cX7_read 1 = .ok (.iload_n 1, 1) := by decide +kernel
theorem dX7_read_2 : decode cX7_read 2 = .ok (.invokevirtual 122, 3) := by decide +kernel
theorem dX7_read_5 : decode cX7_read 5 = .ok (.ifCond .eq 10, 3) := by decide +kernel
theorem dX7_read_8 : decode cX7_read 8 = .ok (.iload_n 2, 1) := by decide +kernel
theorem dX7_read_9 : decode cX7_read 9 = .ok (.invokestatic 77, 3) := by decide +kernel
theorem dX7_read_12 : decode cX7_read 12 = .ok (.ifCond .ne 5, 3) := by decide +kernel
theorem dX7_read_15 : decode cX7_read 15 = .ok (.iconst (-1), 1) := by decide +kernel
theorem dX7_read_16 : decode cX7_read 16 = .ok (.ireturn, 1) := by decide +kernel
theorem dX7_read_17 : decode cX7_read 17 = .ok (.aload_n 0, 1) := by decide +kernel
theorem dX7_read_18 : decode cX7_read 18 = .ok (.getfield 7, 3) := by decide +kernel
theorem dX7_read_21 : decode cX7_read 21 = .ok (.iload_n 2, 1) := by decide +kernel
theorem dX7_read_22 : decode cX7_read 22 = .ok (.iaload, 1) := by decide +kernel
theorem dX7_read_23 : decode cX7_read 23 = .ok (.ifCond .ge 6, 3) := by decide +kernel
theorem dX7_read_26 : decode cX7_read 26 = .ok (.bipush (-11), 2) := by decide +kernel
theorem dX7_read_28 : decode cX7_read 28 = .ok (.ireturn, 1) := by decide +kernel
theorem dX7_read_29 : decode cX7_read 29 = .ok (.iload 4, 2) := by decide +kernel
theorem dX7_read_31 : decode cX7_read 31 = .ok (.ifCond .ge 6, 3) := by decide +kernel
theorem dX7_read_34 : decode cX7_read 34 = .ok (.bipush (-13), 2) := by decide +kernel
theorem dX7_read_36 : decode cX7_read 36 = .ok (.ireturn, 1) := by decide +kernel
theorem dX7_read_37 : decode cX7_read 37 = .ok (.iload_n 3, 1) := by decide +kernel
theorem dX7_read_38 : decode cX7_read 38 = .ok (.ifCond .lt 20, 3) := by decide +kernel
theorem dX7_read_41 : decode cX7_read 41 = .ok (.iload_n 3, 1) := by decide +kernel
theorem dX7_read_42 : decode cX7_read 42 = .ok (.i2l, 1) := by decide +kernel
theorem dX7_read_43 : decode cX7_read 43 = .ok (.iload 4, 2) := by decide +kernel
theorem dX7_read_45 : decode cX7_read 45 = .ok (.i2l, 1) := by decide +kernel
theorem dX7_read_46 : decode cX7_read 46 = .ok (.ladd, 1) := by decide +kernel
theorem dX7_read_47 : decode cX7_read 47 = .ok (.aload_n 0, 1) := by decide +kernel
theorem dX7_read_48 : decode cX7_read 48 = .ok (.getfield 13, 3) := by decide +kernel
theorem dX7_read_51 : decode cX7_read 51 = .ok (.iload_n 2, 1) := by decide +kernel
theorem dX7_read_52 : decode cX7_read 52 = .ok (.iaload, 1) := by decide +kernel
theorem dX7_read_53 : decode cX7_read 53 = .ok (.i2l, 1) := by decide +kernel
theorem dX7_read_54 : decode cX7_read 54 = .ok (.lcmp, 1) := by decide +kernel
theorem dX7_read_55 : decode cX7_read 55 = .ok (.ifCond .le 6, 3) := by decide +kernel
theorem dX7_read_58 : decode cX7_read 58 = .ok (.bipush (-12), 2) := by decide +kernel
theorem dX7_read_60 : decode cX7_read 60 = .ok (.ireturn, 1) := by decide +kernel
theorem dX7_read_61 : decode cX7_read 61 = .ok (.aload_n 0, 1) := by decide +kernel
theorem dX7_read_62 : decode cX7_read 62 = .ok (.getfield 31, 3) := by decide +kernel
theorem dX7_read_65 : decode cX7_read 65 = .ok (.iload_n 1, 1) := by decide +kernel
theorem dX7_read_66 : decode cX7_read 66 = .ok (.iaload, 1) := by decide +kernel
theorem dX7_read_67 : decode cX7_read 67 = .ok (.istore 5, 2) := by decide +kernel
theorem dX7_read_69 : decode cX7_read 69 = .ok (.iconst 0, 1) := by decide +kernel
theorem dX7_read_70 : decode cX7_read 70 = .ok (.istore 6, 2) := by decide +kernel
theorem dX7_read_72 : decode cX7_read 72 = .ok (.iconst 0, 1) := by decide +kernel
theorem dX7_read_73 : decode cX7_read 73 = .ok (.istore 7, 2) := by decide +kernel
theorem dX7_read_75 : decode cX7_read 75 = .ok (.iload 7, 2) := by decide +kernel
theorem dX7_read_77 : decode cX7_read 77 = .ok (.iload 4, 2) := by decide +kernel
theorem dX7_read_79 : decode cX7_read 79 = .ok (.if_icmp .ge 97, 3) := by decide +kernel
theorem dX7_read_82 : decode cX7_read 82 = .ok (.iload 6, 2) := by decide +kernel
theorem dX7_read_84 : decode cX7_read 84 = .ok (.ifCond .ne 92, 3) := by decide +kernel
theorem dX7_read_87 : decode cX7_read 87 = .ok (.aload_n 0, 1) := by decide +kernel
theorem dX7_read_88 : decode cX7_read 88 = .ok (.getfield 16, 3) := by decide +kernel
theorem dX7_read_91 : decode cX7_read 91 = .ok (.bipush 16, 2) := by decide +kernel
theorem dX7_read_93 : decode cX7_read 93 = .ok (.iload_n 2, 1) := by decide +kernel
theorem dX7_read_94 : decode cX7_read 94 = .ok (.imul, 1) := by decide +kernel
theorem dX7_read_95 : decode cX7_read 95 = .ok (.iload_n 3, 1) := by decide +kernel
theorem dX7_read_96 : decode cX7_read 96 = .ok (.iadd, 1) := by decide +kernel
theorem dX7_read_97 : decode cX7_read 97 = .ok (.iload 7, 2) := by decide +kernel
theorem dX7_read_99 : decode cX7_read 99 = .ok (.iadd, 1) := by decide +kernel
theorem dX7_read_100 : decode cX7_read 100 = .ok (.iaload, 1) := by decide +kernel
theorem dX7_read_101 : decode cX7_read 101 = .ok (.istore 8, 2) := by decide +kernel
theorem dX7_read_103 : decode cX7_read 103 = .ok (.aload_n 0, 1) := by decide +kernel
theorem dX7_read_104 : decode cX7_read 104 = .ok (.iload 8, 2) := by decide +kernel
theorem dX7_read_106 : decode cX7_read 106 = .ok (.invokevirtual 122, 3) := by decide +kernel
theorem dX7_read_109 : decode cX7_read 109 = .ok (.ifCond .ne 10, 3) := by decide +kernel
theorem dX7_read_112 : decode cX7_read 112 = .ok (.bipush (-15), 2) := by decide +kernel
theorem dX7_read_114 : decode cX7_read 114 = .ok (.istore 6, 2) := by decide +kernel
theorem dX7_read_116 : decode cX7_read 116 = .ok (.goto 54, 3) := by decide +kernel
theorem dX7_read_119 : decode cX7_read 119 = .ok (.aload_n 0, 1) := by decide +kernel
theorem dX7_read_120 : decode cX7_read 120 = .ok (.getfield 31, 3) := by decide +kernel
theorem dX7_read_123 : decode cX7_read 123 = .ok (.iload_n 1, 1) := by decide +kernel
theorem dX7_read_124 : decode cX7_read 124 = .ok (.iaload, 1) := by decide +kernel
theorem dX7_read_125 : decode cX7_read 125 = .ok (.iload 8, 2) := by decide +kernel
theorem dX7_read_127 : decode cX7_read 127 = .ok (.ishr, 1) := by decide +kernel
theorem dX7_read_128 : decode cX7_read 128 = .ok (.iconst 1, 1) := by decide +kernel
theorem dX7_read_129 : decode cX7_read 129 = .ok (.iand, 1) := by decide +kernel
theorem dX7_read_130 : decode cX7_read 130 = .ok (.ifCond .ne 40, 3) := by decide +kernel
theorem dX7_read_133 : decode cX7_read 133 = .ok (.aload_n 0, 1) := by decide +kernel
theorem dX7_read_134 : decode cX7_read 134 = .ok (.iload_n 1, 1) := by decide +kernel
theorem dX7_read_135 : decode cX7_read 135 = .ok (.iload 8, 2) := by decide +kernel
theorem dX7_read_137 : decode cX7_read 137 = .ok (.invokevirtual 125, 3) := by decide +kernel
theorem dX7_read_140 : decode cX7_read 140 = .ok (.ifCond .eq 17, 3) := by decide +kernel
theorem dX7_read_143 : decode cX7_read 143 = .ok (.aload_n 0, 1) := by decide +kernel
theorem dX7_read_144 : decode cX7_read 144 = .ok (.iload_n 1, 1) := by decide +kernel
theorem dX7_read_145 : decode cX7_read 145 = .ok (.iload 8, 2) := by decide +kernel
theorem dX7_read_147 : decode cX7_read 147 = .ok (.invokevirtual 128, 3) := by decide +kernel
theorem dX7_read_150 : decode cX7_read 150 = .ok (.bipush (-4), 2) := by decide +kernel
theorem dX7_read_152 : decode cX7_read 152 = .ok (.istore 6, 2) := by decide +kernel
theorem dX7_read_154 : decode cX7_read 154 = .ok (.goto 16, 3) := by decide +kernel
theorem dX7_read_157 : decode cX7_read 157 = .ok (.aload_n 0, 1) := by decide +kernel
theorem dX7_read_158 : decode cX7_read 158 = .ok (.getfield 31, 3) := by decide +kernel
theorem dX7_read_161 : decode cX7_read 161 = .ok (.iload_n 1, 1) := by decide +kernel
theorem dX7_read_162 : decode cX7_read 162 = .ok (.dup2, 1) := by decide +kernel
theorem dX7_read_163 : decode cX7_read 163 = .ok (.iaload, 1) := by decide +kernel
theorem dX7_read_164 : decode cX7_read 164 = .ok (.iconst 1, 1) := by decide +kernel
theorem dX7_read_165 : decode cX7_read 165 = .ok (.iload 8, 2) := by decide +kernel
theorem dX7_read_167 : decode cX7_read 167 = .ok (.ishl, 1) := by decide +kernel
theorem dX7_read_168 : decode cX7_read 168 = .ok (.ior, 1) := by decide +kernel
theorem dX7_read_169 : decode cX7_read 169 = .ok (.iastore, 1) := by decide +kernel
theorem dX7_read_170 : decode cX7_read 170 = .ok (.iinc 7 1, 3) := by decide +kernel
theorem dX7_read_173 : decode cX7_read 173 = .ok (.goto (-98), 3) := by decide +kernel
theorem dX7_read_176 : decode cX7_read 176 = .ok (.aload_n 0, 1) := by decide +kernel
theorem dX7_read_177 : decode cX7_read 177 = .ok (.getfield 31, 3) := by decide +kernel
theorem dX7_read_180 : decode cX7_read 180 = .ok (.iload_n 1, 1) := by decide +kernel
theorem dX7_read_181 : decode cX7_read 181 = .ok (.iaload, 1) := by decide +kernel
theorem dX7_read_182 : decode cX7_read 182 = .ok (.istore 7, 2) := by decide +kernel
theorem dX7_read_184 : decode cX7_read 184 = .ok (.aload_n 0, 1) := by decide +kernel
theorem dX7_read_185 : decode cX7_read 185 = .ok (.getfield 31, 3) := by decide +kernel
theorem dX7_read_188 : decode cX7_read 188 = .ok (.iload_n 1, 1) := by decide +kernel
theorem dX7_read_189 : decode cX7_read 189 = .ok (.iload 5, 2) := by decide +kernel
theorem dX7_read_191 : decode cX7_read 191 = .ok (.iastore, 1) := by decide +kernel
theorem dX7_read_192 : decode cX7_read 192 = .ok (.iload 6, 2) := by decide +kernel
theorem dX7_read_194 : decode cX7_read 194 = .ok (.ifCond .ne 10, 3) := by decide +kernel
theorem dX7_read_197 : decode cX7_read 197 = .ok (.iload 7, 2) := by decide +kernel
theorem dX7_read_199 : decode cX7_read 199 = .ok (.iload 5, 2) := by decide +kernel
theorem dX7_read_201 : decode cX7_read 201 = .ok (.if_icmp .ne 6, 3) := by decide +kernel
theorem dX7_read_204 : decode cX7_read 204 = .ok (.iload 6, 2) := by decide +kernel
theorem dX7_read_206 : decode cX7_read 206 = .ok (.ireturn, 1) := by decide +kernel
theorem dX7_read_207 : decode cX7_read 207 = .ok (.aload_n 0, 1) := by decide +kernel
theorem dX7_read_208 : decode cX7_read 208 = .ok (.invokevirtual 109, 3) := by decide +kernel
theorem dX7_read_211 : decode cX7_read 211 = .ok (.aload_n 0, 1) := by decide +kernel
theorem dX7_read_212 : decode cX7_read 212 = .ok (.getfield 31, 3) := by decide +kernel
theorem dX7_read_215 : decode cX7_read 215 = .ok (.iload_n 1, 1) := by decide +kernel
theorem dX7_read_216 : decode cX7_read 216 = .ok (.iload 7, 2) := by decide +kernel
theorem dX7_read_218 : decode cX7_read 218 = .ok (.iastore, 1) := by decide +kernel
theorem dX7_read_219 : decode cX7_read 219 = .ok (.iload 7, 2) := by decide +kernel
theorem dX7_read_221 : decode cX7_read 221 = .ok (.iload 5, 2) := by decide +kernel
theorem dX7_read_223 : decode cX7_read 223 = .ok (.iconst (-1), 1) := by decide +kernel
theorem dX7_read_224 : decode cX7_read 224 = .ok (.ixor, 1) := by decide +kernel
theorem dX7_read_225 : decode cX7_read 225 = .ok (.iand, 1) := by decide +kernel
theorem dX7_read_226 : decode cX7_read 226 = .ok (.invokestatic 132, 3) := by decide +kernel
theorem dX7_read_229 : decode cX7_read 229 = .ok (.ireturn, 1) := by decide +kernel
theorem dX7_bits_0 : decode cX7_bits 0 = .ok (.iconst 0, 1) := by decide +kernel
theorem dX7_bits_1 : decode cX7_bits 1 = .ok (.istore_n 1, 1) := by decide +kernel
theorem dX7_bits_2 : decode cX7_bits 2 = .ok (.iconst 0, 1) := by decide +kernel
theorem dX7_bits_3 : decode cX7_bits 3 = .ok (.istore_n 2, 1) := by decide +kernel
theorem dX7_bits_4 : decode cX7_bits 4 = .ok (.iload_n 2, 1) := by decide +kernel
theorem dX7_bits_5 : decode cX7_bits 5 = .ok (.bipush 10, 2) := by decide +kernel
theorem dX7_bits_7 : decode cX7_bits 7 = .ok (.if_icmp .ge 17, 3) := by decide +kernel
theorem dX7_bits_10 : decode cX7_bits 10 = .ok (.iload_n 1, 1) := by decide +kernel
theorem dX7_bits_11 : decode cX7_bits 11 = .ok (.iload_n 0, 1) := by decide +kernel
theorem dX7_bits_12 : decode cX7_bits 12 = .ok (.iload_n 2, 1) := by decide +kernel
theorem dX7_bits_13 : decode cX7_bits 13 = .ok (.ishr, 1) := by decide +kernel
theorem dX7_bits_14 : decode cX7_bits 14 = .ok (.iconst 1, 1) := by decide +kernel
theorem dX7_bits_15 : decode cX7_bits 15 = .ok (.iand, 1) := by decide +kernel
theorem dX7_bits_16 : decode cX7_bits 16 = .ok (.iadd, 1) := by decide +kernel
theorem dX7_bits_17 : decode cX7_bits 17 = .ok (.istore_n 1, 1) := by decide +kernel
theorem dX7_bits_18 : decode cX7_bits 18 = .ok (.iinc 2 1, 3) := by decide +kernel
theorem dX7_bits_21 : decode cX7_bits 21 = .ok (.goto (-17), 3) := by decide +kernel
theorem dX7_bits_24 : decode cX7_bits 24 = .ok (.iload_n 1, 1) := by decide +kernel
theorem dX7_bits_25 : decode cX7_bits 25 = .ok (.ireturn, 1) := by decide +kernel
theorem dX7_free_0 : decode cX7_free 0 = .ok (.aload_n 0, 1) := by decide +kernel
theorem dX7_free_1 : decode cX7_free 1 = .ok (.iload_n 1, 1) := by decide +kernel
theorem dX7_free_2 : decode cX7_free 2 = .ok (.invokevirtual 122, 3) := by decide +kernel
theorem dX7_free_5 : decode cX7_free 5 = .ok (.ifCond .eq 11, 3) := by decide +kernel
theorem dX7_free_8 : decode cX7_free 8 = .ok (.aload_n 0, 1) := by decide +kernel
theorem dX7_free_9 : decode cX7_free 9 = .ok (.iload_n 2, 1) := by decide +kernel
theorem dX7_free_10 : decode cX7_free 10 = .ok (.invokevirtual 122, 3) := by decide +kernel
theorem dX7_free_13 : decode cX7_free 13 = .ok (.ifCond .ne 5, 3) := by decide +kernel
theorem dX7_free_16 : decode cX7_free 16 = .ok (.iconst (-1), 1) := by decide +kernel
theorem dX7_free_17 : decode cX7_free 17 = .ok (.ireturn, 1) := by decide +kernel
theorem dX7_free_18 : decode cX7_free 18 = .ok (.aload_n 0, 1) := by decide +kernel
theorem dX7_free_19 : decode cX7_free 19 = .ok (.getfield 31, 3) := by decide +kernel
theorem dX7_free_22 : decode cX7_free 22 = .ok (.iload_n 1, 1) := by decide +kernel
theorem dX7_free_23 : decode cX7_free 23 = .ok (.iaload, 1) := by decide +kernel
theorem dX7_free_24 : decode cX7_free 24 = .ok (.iload_n 2, 1) := by decide +kernel
theorem dX7_free_25 : decode cX7_free 25 = .ok (.ishr, 1) := by decide +kernel
theorem dX7_free_26 : decode cX7_free 26 = .ok (.iconst 1, 1) := by decide +kernel
theorem dX7_free_27 : decode cX7_free 27 = .ok (.iand, 1) := by decide +kernel
theorem dX7_free_28 : decode cX7_free 28 = .ok (.ifCond .ne 5, 3) := by decide +kernel
theorem dX7_free_31 : decode cX7_free 31 = .ok (.iconst 0, 1) := by decide +kernel
theorem dX7_free_32 : decode cX7_free 32 = .ok (.ireturn, 1) := by decide +kernel
theorem dX7_free_33 : decode cX7_free 33 = .ok (.aload_n 0, 1) := by decide +kernel
theorem dX7_free_34 : decode cX7_free 34 = .ok (.invokevirtual 109, 3) := by decide +kernel
theorem dX7_free_37 : decode cX7_free 37 = .ok (.aload_n 0, 1) := by decide +kernel
theorem dX7_free_38 : decode cX7_free 38 = .ok (.getfield 31, 3) := by decide +kernel
theorem dX7_free_41 : decode cX7_free 41 = .ok (.iload_n 1, 1) := by decide +kernel
theorem dX7_free_42 : decode cX7_free 42 = .ok (.dup2, 1) := by decide +kernel
theorem dX7_free_43 : decode cX7_free 43 = .ok (.iaload, 1) := by decide +kernel
theorem dX7_free_44 : decode cX7_free 44 = .ok (.iconst 1, 1) := by decide +kernel
theorem dX7_free_45 : decode cX7_free 45 = .ok (.iload_n 2, 1) := by decide +kernel
theorem dX7_free_46 : decode cX7_free 46 = .ok (.ishl, 1) := by decide +kernel
theorem dX7_free_47 : decode cX7_free 47 = .ok (.iconst (-1), 1) := by decide +kernel
theorem dX7_free_48 : decode cX7_free 48 = .ok (.ixor, 1) := by decide +kernel
theorem dX7_free_49 : decode cX7_free 49 = .ok (.iand, 1) := by decide +kernel
theorem dX7_free_50 : decode cX7_free 50 = .ok (.iastore, 1) := by decide +kernel
theorem dX7_free_51 : decode cX7_free 51 = .ok (.iconst 1, 1) := by decide +kernel
theorem dX7_free_52 : decode cX7_free 52 = .ok (.ireturn, 1) := by decide +kernel
theorem dX7_ring_0 : decode cX7_ring 0 = .ok (.iload_n 1, 1) := by decide +kernel
theorem dX7_ring_1 : decode cX7_ring 1 = .ok (.ifCond .ge 7, 3) := by decide +kernel
theorem dX7_ring_4 : decode cX7_ring 4 = .ok (.iconst (-1), 1) := by decide +kernel
theorem dX7_ring_5 : decode cX7_ring 5 = .ok (.goto 22, 3) := by decide +kernel
theorem dX7_ring_8 : decode cX7_ring 8 = .ok (.iload_n 1, 1) := by decide +kernel
theorem dX7_ring_9 : decode cX7_ring 9 = .ok (.aload_n 0, 1) := by decide +kernel
theorem dX7_ring_10 : decode cX7_ring 10 = .ok (.getfield 112, 3) := by decide +kernel
theorem dX7_ring_13 : decode cX7_ring 13 = .ok (.if_icmp .ge 12, 3) := by decide +kernel
theorem dX7_ring_16 : decode cX7_ring 16 = .ok (.aload_n 0, 1) := by decide +kernel
theorem dX7_ring_17 : decode cX7_ring 17 = .ok (.getfield 37, 3) := by decide +kernel
theorem dX7_ring_20 : decode cX7_ring 20 = .ok (.iload_n 1, 1) := by decide +kernel
theorem dX7_ring_21 : decode cX7_ring 21 = .ok (.iaload, 1) := by decide +kernel
theorem dX7_ring_22 : decode cX7_ring 22 = .ok (.goto 5, 3) := by decide +kernel
theorem dX7_ring_25 : decode cX7_ring 25 = .ok (.bipush (-3), 2) := by decide +kernel
theorem dX7_ring_27 : decode cX7_ring 27 = .ok (.ireturn, 1) := by decide +kernel
theorem dX7_nextOf_0 : decode cX7_nextOf 0 = .ok (.iconst 0, 1) := by decide +kernel
theorem dX7_nextOf_1 : decode cX7_nextOf 1 = .ok (.istore_n 3, 1) := by decide +kernel
theorem dX7_nextOf_2 : decode cX7_nextOf 2 = .ok (.iconst 0, 1) := by decide +kernel
theorem dX7_nextOf_3 : decode cX7_nextOf 3 = .ok (.istore 4, 2) := by decide +kernel
theorem dX7_nextOf_5 : decode cX7_nextOf 5 = .ok (.iload 4, 2) := by decide +kernel
theorem dX7_nextOf_7 : decode cX7_nextOf 7 = .ok (.aload_n 0, 1) := by decide +kernel
theorem dX7_nextOf_8 : decode cX7_nextOf 8 = .ok (.getfield 91, 3) := by decide +kernel
theorem dX7_nextOf_11 : decode cX7_nextOf 11 = .ok (.if_icmp .ge 40, 3) := by decide +kernel
theorem dX7_nextOf_14 : decode cX7_nextOf 14 = .ok (.iload_n 3, 1) := by decide +kernel
theorem dX7_nextOf_15 : decode cX7_nextOf 15 = .ok (.iload_n 2, 1) := by decide +kernel
theorem dX7_nextOf_16 : decode cX7_nextOf 16 = .ok (.iload 4, 2) := by decide +kernel
theorem dX7_nextOf_18 : decode cX7_nextOf 18 = .ok (.ishr, 1) := by decide +kernel
theorem dX7_nextOf_19 : decode cX7_nextOf 19 = .ok (.iconst 1, 1) := by decide +kernel
theorem dX7_nextOf_20 : decode cX7_nextOf 20 = .ok (.iand, 1) := by decide +kernel
theorem dX7_nextOf_21 : decode cX7_nextOf 21 = .ok (.iconst 1, 1) := by decide +kernel
theorem dX7_nextOf_22 : decode cX7_nextOf 22 = .ok (.if_icmp .ne 20, 3) := by decide +kernel
theorem dX7_nextOf_25 : decode cX7_nextOf 25 = .ok (.aload_n 0, 1) := by decide +kernel
theorem dX7_nextOf_26 : decode cX7_nextOf 26 = .ok (.iload 4, 2) := by decide +kernel
theorem dX7_nextOf_28 : decode cX7_nextOf 28 = .ok (.iload_n 1, 1) := by decide +kernel
theorem dX7_nextOf_29 : decode cX7_nextOf 29 = .ok (.invokevirtual 118, 3) := by decide +kernel
theorem dX7_nextOf_32 : decode cX7_nextOf 32 = .ok (.ifCond .eq 10, 3) := by decide +kernel
theorem dX7_nextOf_35 : decode cX7_nextOf 35 = .ok (.iconst 1, 1) := by decide +kernel
theorem dX7_nextOf_36 : decode cX7_nextOf 36 = .ok (.iload 4, 2) := by decide +kernel
theorem dX7_nextOf_38 : decode cX7_nextOf 38 = .ok (.ishl, 1) := by decide +kernel
theorem dX7_nextOf_39 : decode cX7_nextOf 39 = .ok (.goto 4, 3) := by decide +kernel
theorem dX7_nextOf_42 : decode cX7_nextOf 42 = .ok (.iconst 0, 1) := by decide +kernel
theorem dX7_nextOf_43 : decode cX7_nextOf 43 = .ok (.ior, 1) := by decide +kernel
theorem dX7_nextOf_44 : decode cX7_nextOf 44 = .ok (.istore_n 3, 1) := by decide +kernel
theorem dX7_nextOf_45 : decode cX7_nextOf 45 = .ok (.iinc 4 1, 3) := by decide +kernel
theorem dX7_nextOf_48 : decode cX7_nextOf 48 = .ok (.goto (-43), 3) := by decide +kernel
theorem dX7_nextOf_51 : decode cX7_nextOf 51 = .ok (.iconst 0, 1) := by decide +kernel
theorem dX7_nextOf_52 : decode cX7_nextOf 52 = .ok (.istore 4, 2) := by decide +kernel
theorem dX7_nextOf_54 : decode cX7_nextOf 54 = .ok (.iconst 0, 1) := by decide +kernel
theorem dX7_nextOf_55 : decode cX7_nextOf 55 = .ok (.istore 5, 2) := by decide +kernel
theorem dX7_nextOf_57 : decode cX7_nextOf 57 = .ok (.iload 5, 2) := by decide +kernel
theorem dX7_nextOf_59 : decode cX7_nextOf 59 = .ok (.aload_n 0, 1) := by decide +kernel
theorem dX7_nextOf_60 : decode cX7_nextOf 60 = .ok (.getfield 91, 3) := by decide +kernel
theorem dX7_nextOf_63 : decode cX7_nextOf 63 = .ok (.if_icmp .ge 44, 3) := by decide +kernel
theorem dX7_nextOf_66 : decode cX7_nextOf 66 = .ok (.iload 4, 2) := by decide +kernel
theorem dX7_nextOf_68 : decode cX7_nextOf 68 = .ok (.iload_n 3, 1) := by decide +kernel
theorem dX7_nextOf_69 : decode cX7_nextOf 69 = .ok (.iload 5, 2) := by decide +kernel
theorem dX7_nextOf_71 : decode cX7_nextOf 71 = .ok (.ishr, 1) := by decide +kernel
theorem dX7_nextOf_72 : decode cX7_nextOf 72 = .ok (.iconst 1, 1) := by decide +kernel
theorem dX7_nextOf_73 : decode cX7_nextOf 73 = .ok (.iand, 1) := by decide +kernel
theorem dX7_nextOf_74 : decode cX7_nextOf 74 = .ok (.iconst 1, 1) := by decide +kernel
theorem dX7_nextOf_75 : decode cX7_nextOf 75 = .ok (.if_icmp .ne 22, 3) := by decide +kernel
theorem dX7_nextOf_78 : decode cX7_nextOf 78 = .ok (.aload_n 0, 1) := by decide +kernel
theorem dX7_nextOf_79 : decode cX7_nextOf 79 = .ok (.getfield 43, 3) := by decide +kernel
theorem dX7_nextOf_82 : decode cX7_nextOf 82 = .ok (.iload 5, 2) := by decide +kernel
theorem dX7_nextOf_84 : decode cX7_nextOf 84 = .ok (.iaload, 1) := by decide +kernel
theorem dX7_nextOf_85 : decode cX7_nextOf 85 = .ok (.iload_n 3, 1) := by decide +kernel
theorem dX7_nextOf_86 : decode cX7_nextOf 86 = .ok (.iand, 1) := by decide +kernel
theorem dX7_nextOf_87 : decode cX7_nextOf 87 = .ok (.ifCond .ne 10, 3) := by decide +kernel
