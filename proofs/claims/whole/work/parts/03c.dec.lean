theorem dX9_init_0 : decode cX9_init 0 = .ok (.aload_n 0, 1) := by decide +kernel
theorem dX9_init_1 : decode cX9_init 1 = .ok (.invokespecial 1, 3) := by decide +kernel
theorem dX9_init_4 : decode cX9_init 4 = .ok (.new 7, 3) := by decide +kernel
theorem dX9_init_7 : decode cX9_init 7 = .ok (.dup, 1) := by decide +kernel
theorem dX9_init_8 : decode cX9_init 8 = .ok (.invokespecial 9, 3) := by decide +kernel
theorem dX9_init_11 : decode cX9_init 11 = .ok (.astore_n 1, 1) := by decide +kernel
theorem dX9_init_12 : decode cX9_init 12 = .ok (.aload_n 0, 1) := by decide +kernel
theorem dX9_init_13 : decode cX9_init 13 = .ok (.aload_n 1, 1) := by decide +kernel
theorem dX9_init_14 : decode cX9_init 14 = .ok (.putfield 10, 3) := by decide +kernel
theorem dX9_init_17 : decode cX9_init 17 = .ok (.aload_n 0, 1) := by decide +kernel
theorem dX9_init_18 : decode cX9_init 18 = .ok (.new 16, 3) := by decide +kernel
theorem dX9_init_21 : decode cX9_init 21 = .ok (.dup, 1) := by decide +kernel
theorem dX9_init_22 : decode cX9_init 22 = .ok (.invokespecial 18, 3) := by decide +kernel
theorem dX9_init_25 : decode cX9_init 25 = .ok (.putfield 19, 3) := by decide +kernel
theorem dX9_init_28 : decode cX9_init 28 = .ok (.aload_n 0, 1) := by decide +kernel
theorem dX9_init_29 : decode cX9_init 29 = .ok (.new 23, 3) := by decide +kernel
theorem dX9_init_32 : decode cX9_init 32 = .ok (.dup, 1) := by decide +kernel
theorem dX9_init_33 : decode cX9_init 33 = .ok (.aload_n 1, 1) := by decide +kernel
theorem dX9_init_34 : decode cX9_init 34 = .ok (.invokespecial 25, 3) := by decide +kernel
theorem dX9_init_37 : decode cX9_init 37 = .ok (.putfield 28, 3) := by decide +kernel
theorem dX9_init_40 : decode cX9_init 40 = .ok (.aload_n 0, 1) := by decide +kernel
theorem dX9_init_41 : decode cX9_init 41 = .ok (.new 32, 3) := by decide +kernel
theorem dX9_init_44 : decode cX9_init 44 = .ok (.dup, 1) := by decide +kernel
theorem dX9_init_45 : decode cX9_init 45 = .ok (.invokespecial 34, 3) := by decide +kernel
theorem dX9_init_48 : decode cX9_init 48 = .ok (.putfield 35, 3) := by decide +kernel
theorem dX9_init_51 : decode cX9_init 51 = .ok (.aload_n 0, 1) := by decide +kernel
theorem dX9_init_52 : decode cX9_init 52 = .ok (.new 39, 3) := by decide +kernel
theorem dX9_init_55 : decode cX9_init 55 = .ok (.dup, 1) := by decide +kernel
theorem dX9_init_56 : decode cX9_init 56 = .ok (.invokespecial 41, 3) := by decide +kernel
theorem dX9_init_59 : decode cX9_init 59 = .ok (.putfield 42, 3) := by decide +kernel
theorem dX9_init_62 : decode cX9_init 62 = .ok (.aload_n 0, 1) := by decide +kernel
theorem dX9_init_63 : decode cX9_init 63 = .ok (.new 46, 3) := by decide +kernel
theorem dX9_init_66 : decode cX9_init 66 = .ok (.dup, 1) := by decide +kernel
theorem dX9_init_67 : decode cX9_init 67 = .ok (.invokespecial 48, 3) := by decide +kernel
theorem dX9_init_70 : decode cX9_init 70 = .ok (.putfield 49, 3) := by decide +kernel
theorem dX9_init_73 : decode cX9_init 73 = .ok (.aload_n 0, 1) := by decide +kernel
theorem dX9_init_74 : decode cX9_init 74 = .ok (.bipush 6, 2) := by decide +kernel
theorem dX9_init_76 : decode cX9_init 76 = .ok (.anewarray 53, 3) := by decide +kernel
theorem dX9_init_79 : decode cX9_init 79 = .ok (.putfield 55, 3) := by decide +kernel
theorem dX9_init_82 : decode cX9_init 82 = .ok (.iconst 0, 1) := by decide +kernel
theorem dX9_init_83 : decode cX9_init 83 = .ok (.istore_n 2, 1) := by decide +kernel
theorem dX9_init_84 : decode cX9_init 84 = .ok (.iload_n 2, 1) := by decide +kernel
theorem dX9_init_85 : decode cX9_init 85 = .ok (.bipush 6, 2) := by decide +kernel
theorem dX9_init_87 : decode cX9_init 87 = .ok (.if_icmp .ge 22, 3) := by decide +kernel
theorem dX9_init_90 : decode cX9_init 90 = .ok (.aload_n 0, 1) := by decide +kernel
theorem dX9_init_91 : decode cX9_init 91 = .ok (.getfield 55, 3) := by decide +kernel
theorem dX9_init_94 : decode cX9_init 94 = .ok (.iload_n 2, 1) := by decide +kernel
theorem dX9_init_95 : decode cX9_init 95 = .ok (.new 53, 3) := by decide +kernel
theorem dX9_init_98 : decode cX9_init 98 = .ok (.dup, 1) := by decide +kernel
theorem dX9_init_99 : decode cX9_init 99 = .ok (.invokespecial 59, 3) := by decide +kernel
theorem dX9_init_102 : decode cX9_init 102 = .ok (.aastore, 1) := by decide +kernel
theorem dX9_init_103 : decode cX9_init 103 = .ok (.iinc 2 1, 3) := by decide +kernel
theorem dX9_init_106 : decode cX9_init 106 = .ok (.goto (-22), 3) := by decide +kernel
theorem dX9_init_109 : decode cX9_init 109 = .ok (.aload_n 0, 1) := by decide +kernel
theorem dX9_init_110 : decode cX9_init 110 = .ok (.new 60, 3) := by decide +kernel
theorem dX9_init_113 : decode cX9_init 113 = .ok (.dup, 1) := by decide +kernel
theorem dX9_init_114 : decode cX9_init 114 = .ok (.invokespecial 62, 3) := by decide +kernel
theorem dX9_init_117 : decode cX9_init 117 = .ok (.putfield 63, 3) := by decide +kernel
theorem dX9_init_120 : decode cX9_init 120 = .ok (.aload_n 0, 1) := by decide +kernel
theorem dX9_init_121 : decode cX9_init 121 = .ok (.iconst 0, 1) := by decide +kernel
theorem dX9_init_122 : decode cX9_init 122 = .ok (.putfield 67, 3) := by decide +kernel
theorem dX9_init_125 : decode cX9_init 125 = .ok (.return_, 1) := by decide +kernel
theorem dX9_house_0 : decode cX9_house 0 = .ok (.iload_n 1, 1) := by decide +kernel
theorem dX9_house_1 : decode cX9_house 1 = .ok (.getstatic 71, 3) := by decide +kernel
theorem dX9_house_4 : decode cX9_house 4 = .ok (.iconst 3, 1) := by decide +kernel
theorem dX9_house_5 : decode cX9_house 5 = .ok (.iaload, 1) := by decide +kernel
theorem dX9_house_6 : decode cX9_house 6 = .ok (.invokestatic 75, 3) := by decide +kernel
theorem dX9_house_9 : decode cX9_house 9 = .ok (.ifCond .eq 15, 3) := by decide +kernel
theorem dX9_house_12 : decode cX9_house 12 = .ok (.iload_n 2, 1) := by decide +kernel
theorem dX9_house_13 : decode cX9_house 13 = .ok (.getstatic 71, 3) := by decide +kernel
theorem dX9_house_16 : decode cX9_house 16 = .ok (.iconst 4, 1) := by decide +kernel
theorem dX9_house_17 : decode cX9_house 17 = .ok (.iaload, 1) := by decide +kernel
theorem dX9_house_18 : decode cX9_house 18 = .ok (.invokestatic 75, 3) := by decide +kernel
theorem dX9_house_21 : decode cX9_house 21 = .ok (.ifCond .ne 5, 3) := by decide +kernel
theorem dX9_house_24 : decode cX9_house 24 = .ok (.iconst (-1), 1) := by decide +kernel
theorem dX9_house_25 : decode cX9_house 25 = .ok (.ireturn, 1) := by decide +kernel
theorem dX9_house_26 : decode cX9_house 26 = .ok (.aload_n 0, 1) := by decide +kernel
theorem dX9_house_27 : decode cX9_house 27 = .ok (.getfield 10, 3) := by decide +kernel
theorem dX9_house_30 : decode cX9_house 30 = .ok (.iload_n 1, 1) := by decide +kernel
theorem dX9_house_31 : decode cX9_house 31 = .ok (.iload_n 2, 1) := by decide +kernel
theorem dX9_house_32 : decode cX9_house 32 = .ok (.sipush 4095, 3) := by decide +kernel
theorem dX9_house_35 : decode cX9_house 35 = .ok (.invokevirtual 79, 3) := by decide +kernel
theorem dX9_house_38 : decode cX9_house 38 = .ok (.ireturn, 1) := by decide +kernel
theorem dX9_houses_0 : decode cX9_houses 0 = .ok (.iload_n 1, 1) := by decide +kernel
theorem dX9_houses_1 : decode cX9_houses 1 = .ok (.invokestatic 83, 3) := by decide +kernel
theorem dX9_houses_4 : decode cX9_houses 4 = .ok (.ifCond .eq 14, 3) := by decide +kernel
theorem dX9_houses_7 : decode cX9_houses 7 = .ok (.iload_n 3, 1) := by decide +kernel
theorem dX9_houses_8 : decode cX9_houses 8 = .ok (.iconst 1, 1) := by decide +kernel
theorem dX9_houses_9 : decode cX9_houses 9 = .ok (.if_icmp .lt 9, 3) := by decide +kernel
theorem dX9_houses_12 : decode cX9_houses 12 = .ok (.iload_n 3, 1) := by decide +kernel
theorem dX9_houses_13 : decode cX9_houses 13 = .ok (.bipush 8, 2) := by decide +kernel
theorem dX9_houses_15 : decode cX9_houses 15 = .ok (.if_icmp .le 5, 3) := by decide +kernel
theorem dX9_houses_18 : decode cX9_houses 18 = .ok (.iconst (-1), 1) := by decide +kernel
theorem dX9_houses_19 : decode cX9_houses 19 = .ok (.ireturn, 1) := by decide +kernel
theorem dX9_houses_20 : decode cX9_houses 20 = .ok (.aload_n 0, 1) := by decide +kernel
theorem dX9_houses_21 : decode cX9_houses 21 = .ok (.getfield 55, 3) := by decide +kernel
theorem dX9_houses_24 : decode cX9_houses 24 = .ok (.iload_n 1, 1) := by decide +kernel
theorem dX9_houses_25 : decode cX9_houses 25 = .ok (.aaload, 1) := by decide +kernel
theorem dX9_houses_26 : decode cX9_houses 26 = .ok (.astore 4, 2) := by decide +kernel
theorem dX9_houses_28 : decode cX9_houses 28 = .ok (.aload 4, 2) := by decide +kernel
theorem dX9_houses_30 : decode cX9_houses 30 = .ok (.getfield 87, 3) := by decide +kernel
theorem dX9_houses_33 : decode cX9_houses 33 = .ok (.bipush (-2), 2) := by decide +kernel
theorem dX9_houses_35 : decode cX9_houses 35 = .ok (.if_icmp .eq 15, 3) := by decide +kernel
theorem dX9_houses_38 : decode cX9_houses 38 = .ok (.aload 4, 2) := by decide +kernel
theorem dX9_houses_40 : decode cX9_houses 40 = .ok (.getfield 87, 3) := by decide +kernel
theorem dX9_houses_43 : decode cX9_houses 43 = .ok (.iconst 1, 1) := by decide +kernel
theorem dX9_houses_44 : decode cX9_houses 44 = .ok (.if_icmp .eq 6, 3) := by decide +kernel
theorem dX9_houses_47 : decode cX9_houses 47 = .ok (.bipush (-12), 2) := by decide +kernel
theorem dX9_houses_49 : decode cX9_houses 49 = .ok (.ireturn, 1) := by decide +kernel
theorem dX9_houses_50 : decode cX9_houses 50 = .ok (.iconst 0, 1) := by decide +kernel
theorem dX9_houses_51 : decode cX9_houses 51 = .ok (.istore 5, 2) := by decide +kernel
theorem dX9_houses_53 : decode cX9_houses 53 = .ok (.iload 5, 2) := by decide +kernel
theorem dX9_houses_55 : decode cX9_houses 55 = .ok (.iload_n 3, 1) := by decide +kernel
theorem dX9_houses_56 : decode cX9_houses 56 = .ok (.if_icmp .ge 21, 3) := by decide +kernel
theorem dX9_houses_59 : decode cX9_houses 59 = .ok (.aload_n 0, 1) := by decide +kernel
theorem dX9_houses_60 : decode cX9_houses 60 = .ok (.aload 4, 2) := by decide +kernel
theorem dX9_houses_62 : decode cX9_houses 62 = .ok (.iload_n 2, 1) := by decide +kernel
theorem dX9_houses_63 : decode cX9_houses 63 = .ok (.iload 5, 2) := by decide +kernel
theorem dX9_houses_65 : decode cX9_houses 65 = .ok (.invokevirtual 91, 3) := by decide +kernel
theorem dX9_houses_68 : decode cX9_houses 68 = .ok (.ifCond .eq 9, 3) := by decide +kernel
theorem dX9_houses_71 : decode cX9_houses 71 = .ok (.iinc 5 1, 3) := by decide +kernel
theorem dX9_houses_74 : decode cX9_houses 74 = .ok (.goto (-21), 3) := by decide +kernel
theorem dX9_houses_77 : decode cX9_houses 77 = .ok (.iload 5, 2) := by decide +kernel
theorem dX9_houses_79 : decode cX9_houses 79 = .ok (.ireturn, 1) := by decide +kernel
theorem dX9_mend_0 : decode cX9_mend 0 = .ok (.aload_n 0, 1) := by decide +kernel
theorem dX9_mend_1 : decode cX9_mend 1 = .ok (.getfield 10, 3) := by decide +kernel
theorem dX9_mend_4 : decode cX9_mend 4 = .ok (.iload_n 1, 1) := by decide +kernel
theorem dX9_mend_5 : decode cX9_mend 5 = .ok (.iload_n 2, 1) := by decide +kernel
theorem dX9_mend_6 : decode cX9_mend 6 = .ok (.invokevirtual 95, 3) := by decide +kernel
theorem dX9_mend_9 : decode cX9_mend 9 = .ok (.ifCond .eq 15, 3) := by decide +kernel
theorem dX9_mend_12 : decode cX9_mend 12 = .ok (.iload_n 3, 1) := by decide +kernel
theorem dX9_mend_13 : decode cX9_mend 13 = .ok (.getstatic 71, 3) := by decide +kernel
theorem dX9_mend_16 : decode cX9_mend 16 = .ok (.iload_n 2, 1) := by decide +kernel
theorem dX9_mend_17 : decode cX9_mend 17 = .ok (.iaload, 1) := by decide +kernel
theorem dX9_mend_18 : decode cX9_mend 18 = .ok (.invokestatic 75, 3) := by decide +kernel
theorem dX9_mend_21 : decode cX9_mend 21 = .ok (.ifCond .ne 5, 3) := by decide +kernel
theorem dX9_mend_24 : decode cX9_mend 24 = .ok (.iconst (-1), 1) := by decide +kernel
theorem dX9_mend_25 : decode cX9_mend 25 = .ok (.ireturn, 1) := by decide +kernel
theorem dX9_mend_26 : decode cX9_mend 26 = .ok (.aload_n 0, 1) := by decide +kernel
theorem dX9_mend_27 : decode cX9_mend 27 = .ok (.getfield 10, 3) := by decide +kernel
theorem dX9_mend_30 : decode cX9_mend 30 = .ok (.iload_n 1, 1) := by decide +kernel
theorem dX9_mend_31 : decode cX9_mend 31 = .ok (.iload_n 2, 1) := by decide +kernel
theorem dX9_mend_32 : decode cX9_mend 32 = .ok (.invokevirtual 98, 3) := by decide +kernel
theorem dX9_mend_35 : decode cX9_mend 35 = .ok (.istore 4, 2) := by decide +kernel
theorem dX9_mend_37 : decode cX9_mend 37 = .ok (.iload 4, 2) := by decide +kernel
theorem dX9_mend_39 : decode cX9_mend 39 = .ok (.iload_n 3, 1) := by decide +kernel
theorem dX9_mend_40 : decode cX9_mend 40 = .ok (.if_icmp .eq 25, 3) := by decide +kernel
theorem dX9_mend_43 : decode cX9_mend 43 = .ok (.aload_n 0, 1) := by decide +kernel
theorem dX9_mend_44 : decode cX9_mend 44 = .ok (.getfield 10, 3) := by decide +kernel
theorem dX9_mend_47 : decode cX9_mend 47 = .ok (.iload_n 1, 1) := by decide +kernel
theorem dX9_mend_48 : decode cX9_mend 48 = .ok (.iload_n 2, 1) := by decide +kernel
theorem dX9_mend_49 : decode cX9_mend 49 = .ok (.iload_n 3, 1) := by decide +kernel
theorem dX9_mend_50 : decode cX9_mend 50 = .ok (.invokevirtual 102, 3) := by decide +kernel
theorem dX9_mend_53 : decode cX9_mend 53 = .ok (.aload_n 0, 1) := by decide +kernel
theorem dX9_mend_54 : decode cX9_mend 54 = .ok (.getfield 42, 3) := by decide +kernel
theorem dX9_mend_57 : decode cX9_mend 57 = .ok (.iload_n 1, 1) := by decide +kernel
theorem dX9_mend_58 : decode cX9_mend 58 = .ok (.iload_n 2, 1) := by decide +kernel
theorem dX9_mend_59 : decode cX9_mend 59 = .ok (.iload 4, 2) := by decide +kernel
theorem dX9_mend_61 : decode cX9_mend 61 = .ok (.iload_n 3, 1) := by decide +kernel
theorem dX9_mend_62 : decode cX9_mend 62 = .ok (.invokevirtual 106, 3) := by decide +kernel
theorem dX9_mend_65 : decode cX9_mend 65 = .ok (.iload 4, 2) := by decide +kernel
theorem dX9_mend_67 : decode cX9_mend 67 = .ok (.ireturn, 1) := by decide +kernel
theorem dX9_of_0 : decode cX9_of 0 = .ok (.aload_n 0, 1) := by decide +kernel
theorem dX9_of_1 : decode cX9_of 1 = .ok (.getfield 10, 3) := by decide +kernel
theorem dX9_of_4 : decode cX9_of 4 = .ok (.iload_n 1, 1) := by decide +kernel
theorem dX9_of_5 : decode cX9_of 5 = .ok (.iload_n 2, 1) := by decide +kernel
theorem dX9_of_6 : decode cX9_of 6 = .ok (.invokevirtual 95, 3) := by decide +kernel
theorem dX9_of_9 : decode cX9_of 9 = .ok (.ifCond .eq 15, 3) := by decide +kernel
theorem dX9_of_12 : decode cX9_of 12 = .ok (.aload_n 0, 1) := by decide +kernel
theorem dX9_of_13 : decode cX9_of 13 = .ok (.getfield 10, 3) := by decide +kernel
theorem dX9_of_16 : decode cX9_of 16 = .ok (.iload_n 1, 1) := by decide +kernel
theorem dX9_of_17 : decode cX9_of 17 = .ok (.iload_n 2, 1) := by decide +kernel
theorem dX9_of_18 : decode cX9_of 18 = .ok (.invokevirtual 98, 3) := by decide +kernel
theorem dX9_of_21 : decode cX9_of 21 = .ok (.goto 4, 3) := by decide +kernel
theorem dX9_of_24 : decode cX9_of 24 = .ok (.iconst (-1), 1) := by decide +kernel
theorem dX9_of_25 : decode cX9_of 25 = .ok (.ireturn, 1) := by decide +kernel
theorem dX9_feed_0 : decode cX9_feed 0 = .ok (.iload_n 1, 1) := by decide +kernel
theorem dX9_feed_1 : decode cX9_feed 1 = .ok (.sipush 255, 3) := by decide +kernel
theorem dX9_feed_4 : decode cX9_feed 4 = .ok (.invokestatic 75, 3) := by decide +kernel
theorem dX9_feed_7 : decode cX9_feed 7 = .ok (.ifCond .ne 5, 3) := by decide +kernel
theorem dX9_feed_10 : decode cX9_feed 10 = .ok (.iconst (-1), 1) := by decide +kernel
theorem dX9_feed_11 : decode cX9_feed 11 = .ok (.ireturn, 1) := by decide +kernel
theorem dX9_feed_12 : decode cX9_feed 12 = .ok (.aload_n 0, 1) := by decide +kernel
theorem dX9_feed_13 : decode cX9_feed 13 = .ok (.getfield 19, 3) := by decide +kernel
theorem dX9_feed_16 : decode cX9_feed 16 = .ok (.iload_n 1, 1) := by decide +kernel
theorem dX9_feed_17 : decode cX9_feed 17 = .ok (.invokevirtual 110, 3) := by decide +kernel
theorem dX9_feed_20 : decode cX9_feed 20 = .ok (.ifCond .eq 13, 3) := by decide +kernel
theorem dX9_feed_23 : decode cX9_feed 23 = .ok (.aload_n 0, 1) := by decide +kernel
theorem dX9_feed_24 : decode cX9_feed 24 = .ok (.getfield 19, 3) := by decide +kernel
theorem dX9_feed_27 : decode cX9_feed 27 = .ok (.getfield 113, 3) := by decide +kernel
theorem dX9_feed_30 : decode cX9_feed 30 = .ok (.goto 5, 3) := by decide +kernel
theorem dX9_feed_33 : decode cX9_feed 33 = .ok (.bipush (-3), 2) := by decide +kernel
theorem dX9_feed_35 : decode cX9_feed 35 = .ok (.ireturn, 1) := by decide +kernel
theorem dX9_law_0 : decode cX9_law 0 = .ok (.aload_n 0, 1) := by decide +kernel
theorem dX9_law_1 : decode cX9_law 1 = .ok (.getfield 19, 3) := by decide +kernel
theorem dX9_law_4 : decode cX9_law 4 = .ok (.aload_n 0, 1) := by decide +kernel
theorem dX9_law_5 : decode cX9_law 5 = .ok (.getfield 10, 3) := by decide +kernel
theorem dX9_law_8 : decode cX9_law 8 = .ok (.getfield 116, 3) := by decide +kernel
theorem dX9_law_11 : decode cX9_law 11 = .ok (.invokevirtual 120, 3) := by decide +kernel
theorem dX9_law_14 : decode cX9_law 14 = .ok (.istore_n 1, 1) := by decide +kernel
theorem dX9_law_15 : decode cX9_law 15 = .ok (.aload_n 0, 1) := by decide +kernel
theorem dX9_law_16 : decode cX9_law 16 = .ok (.getfield 19, 3) := by decide +kernel
theorem dX9_law_19 : decode cX9_law 19 = .ok (.iconst 0, 1) := by decide +kernel
theorem dX9_law_20 : decode cX9_law 20 = .ok (.putfield 113, 3) := by decide +kernel
theorem dX9_law_23 : decode cX9_law 23 = .ok (.iload_n 1, 1) := by decide +kernel
theorem dX9_law_24 : decode cX9_law 24 = .ok (.ifCond .lt 8, 3) := by decide +kernel
theorem dX9_law_27 : decode cX9_law 27 = .ok (.bipush (-100), 2) := by decide +kernel
theorem dX9_law_29 : decode cX9_law 29 = .ok (.iload_n 1, 1) := by decide +kernel
theorem dX9_law_30 : decode cX9_law 30 = .ok (.isub, 1) := by decide +kernel
theorem dX9_law_31 : decode cX9_law 31 = .ok (.ireturn, 1) := by decide +kernel
theorem dX9_law_32 : decode cX9_law 32 = .ok (.aload_n 0, 1) := by decide +kernel
theorem dX9_law_33 : decode cX9_law 33 = .ok (.getfield 10, 3) := by decide +kernel
theorem dX9_law_36 : decode cX9_law 36 = .ok (.invokevirtual 124, 3) := by decide +kernel
theorem dX9_law_39 : decode cX9_law 39 = .ok (.iconst 1, 1) := by decide +kernel
theorem dX9_law_40 : decode cX9_law 40 = .ok (.ireturn, 1) := by decide +kernel
theorem dX9_later_0 : decode cX9_later 0 = .ok (.iload_n 1, 1) := by decide +kernel
theorem dX9_later_1 : decode cX9_later 1 = .ok (.bipush 48, 2) := by decide +kernel
theorem dX9_later_3 : decode cX9_later 3 = .ok (.invokestatic 75, 3) := by decide +kernel
theorem dX9_later_6 : decode cX9_later 6 = .ok (.ifCond .eq 18, 3) := by decide +kernel
theorem dX9_later_9 : decode cX9_later 9 = .ok (.iload_n 2, 1) := by decide +kernel
theorem dX9_later_10 : decode cX9_later 10 = .ok (.invokestatic 127, 3) := by decide +kernel
theorem dX9_later_13 : decode cX9_later 13 = .ok (.ifCond .eq 11, 3) := by decide +kernel
theorem dX9_later_16 : decode cX9_later 16 = .ok (.iload_n 3, 1) := by decide +kernel
theorem dX9_later_17 : decode cX9_later 17 = .ok (.iconst 3, 1) := by decide +kernel
theorem dX9_later_18 : decode cX9_later 18 = .ok (.invokestatic 75, 3) := by decide +kernel
theorem dX9_later_21 : decode cX9_later 21 = .ok (.ifCond .ne 5, 3) := by decide +kernel
theorem dX9_later_24 : decode cX9_later 24 = .ok (.iconst (-1), 1) := by decide +kernel
theorem dX9_later_25 : decode cX9_later 25 = .ok (.ireturn, 1) := by decide +kernel
theorem dX9_later_26 : decode cX9_later 26 = .ok (.aload_n 0, 1) := by decide +kernel
theorem dX9_later_27 : decode cX9_later 27 = .ok (.getfield 28, 3) := by decide +kernel
theorem dX9_later_30 : decode cX9_later 30 = .ok (.iload_n 1, 1) := by decide +kernel
theorem dX9_later_31 : decode cX9_later 31 = .ok (.invokevirtual 130, 3) := by decide +kernel
theorem dX9_later_34 : decode cX9_later 34 = .ok (.astore 4, 2) := by decide +kernel
theorem dX9_later_36 : decode cX9_later 36 = .ok (.iload_n 3, 1) := by decide +kernel
theorem dX9_later_37 : decode cX9_later 37 = .ok (.ifCond .ne 19, 3) := by decide +kernel
theorem dX9_later_40 : decode cX9_later 40 = .ok (.aload_n 0, 1) := by decide +kernel
theorem dX9_later_41 : decode cX9_later 41 = .ok (.getfield 10, 3) := by decide +kernel
theorem dX9_later_44 : decode cX9_later 44 = .ok (.getfield 134, 3) := by decide +kernel
theorem dX9_later_47 : decode cX9_later 47 = .ok (.aload 4, 2) := by decide +kernel
theorem dX9_later_49 : decode cX9_later 49 = .ok (.iload_n 2, 1) := by decide +kernel
theorem dX9_later_50 : decode cX9_later 50 = .ok (.invokevirtual 137, 3) := by decide +kernel
theorem dX9_later_53 : decode cX9_later 53 = .ok (.goto 12, 3) := by decide +kernel
theorem dX9_later_56 : decode cX9_later 56 = .ok (.aload 4, 2) := by decide +kernel
theorem dX9_later_58 : decode cX9_later 58 = .ok (.iload_n 2, 1) := by decide +kernel
theorem dX9_later_59 : decode cX9_later 59 = .ok (.iload_n 3, 1) := by decide +kernel
theorem dX9_later_60 : decode cX9_later 60 = .ok (.iconst 1, 1) := by decide +kernel
theorem dX9_later_61 : decode cX9_later 61 = .ok (.isub, 1) := by decide +kernel
theorem dX9_later_62 : decode cX9_later 62 = .ok (.invokevirtual 143, 3) := by decide +kernel
theorem dX9_later_65 : decode cX9_later 65 = .ok (.ireturn, 1) := by decide +kernel
theorem dX9_cold_0 : decode cX9_cold 0 = .ok (.iload_n 1, 1) := by decide +kernel
theorem dX9_cold_1 : decode cX9_cold 1 = .ok (.bipush 48, 2) := by decide +kernel
theorem dX9_cold_3 : decode cX9_cold 3 = .ok (.invokestatic 75, 3) := by decide +kernel
theorem dX9_cold_6 : decode cX9_cold 6 = .ok (.ifCond .eq 11, 3) := by decide +kernel
theorem dX9_cold_9 : decode cX9_cold 9 = .ok (.iload_n 2, 1) := by decide +kernel
theorem dX9_cold_10 : decode cX9_cold 10 = .ok (.iconst 1, 1) := by decide +kernel
theorem dX9_cold_11 : decode cX9_cold 11 = .ok (.invokestatic 75, 3) := by decide +kernel
theorem dX9_cold_14 : decode cX9_cold 14 = .ok (.ifCond .ne 5, 3) := by decide +kernel
theorem dX9_cold_17 : decode cX9_cold 17 = .ok (.iconst (-1), 1) := by decide +kernel
theorem dX9_cold_18 : decode cX9_cold 18 = .ok (.ireturn, 1) := by decide +kernel
theorem dX9_cold_19 : decode cX9_cold 19 = .ok (.aload_n 0, 1) := by decide +kernel
theorem dX9_cold_20 : decode cX9_cold 20 = .ok (.getfield 28, 3) := by decide +kernel
theorem dX9_cold_23 : decode cX9_cold 23 = .ok (.iload_n 1, 1) := by decide +kernel
theorem dX9_cold_24 : decode cX9_cold 24 = .ok (.invokevirtual 130, 3) := by decide +kernel
theorem dX9_cold_27 : decode cX9_cold 27 = .ok (.astore_n 3, 1) := by decide +kernel
theorem dX9_cold_28 : decode cX9_cold 28 = .ok (.iload_n 2, 1) := by decide +kernel
theorem dX9_cold_29 : decode cX9_cold 29 = .ok (.ifCond .ne 14, 3) := by decide +kernel
theorem dX9_cold_32 : decode cX9_cold 32 = .ok (.aload_n 0, 1) := by decide +kernel
theorem dX9_cold_33 : decode cX9_cold 33 = .ok (.getfield 10, 3) := by decide +kernel
theorem dX9_cold_36 : decode cX9_cold 36 = .ok (.aload_n 3, 1) := by decide +kernel
theorem dX9_cold_37 : decode cX9_cold 37 = .ok (.invokevirtual 146, 3) := by decide +kernel
theorem dX9_cold_40 : decode cX9_cold 40 = .ok (.goto 11, 3) := by decide +kernel
theorem dX9_cold_43 : decode cX9_cold 43 = .ok (.aload_n 0, 1) := by decide +kernel
theorem dX9_cold_44 : decode cX9_cold 44 = .ok (.getfield 10, 3) := by decide +kernel
theorem dX9_cold_47 : decode cX9_cold 47 = .ok (.aload_n 3, 1) := by decide +kernel
theorem dX9_cold_48 : decode cX9_cold 48 = .ok (.invokevirtual 150, 3) := by decide +kernel
theorem dX9_cold_51 : decode cX9_cold 51 = .ok (.ireturn, 1) := by decide +kernel
theorem dX9_first_0 : decode cX9_first 0 = .ok (.aload_n 0, 1) := by decide +kernel
theorem dX9_first_1 : decode cX9_first 1 = .ok (.getfield 10, 3) := by decide +kernel
theorem dX9_first_4 : decode cX9_first 4 = .ok (.iload_n 1, 1) := by decide +kernel
theorem dX9_first_5 : decode cX9_first 5 = .ok (.invokevirtual 153, 3) := by decide +kernel
theorem dX9_first_8 : decode cX9_first 8 = .ok (.ifCond .eq 14, 3) := by decide +kernel
theorem dX9_first_11 : decode cX9_first 11 = .ok (.aload_n 0, 1) := by decide +kernel
theorem dX9_first_12 : decode cX9_first 12 = .ok (.getfield 28, 3) := by decide +kernel
theorem dX9_first_15 : decode cX9_first 15 = .ok (.iload_n 1, 1) := by decide +kernel
theorem dX9_first_16 : decode cX9_first 16 = .ok (.invokevirtual 156, 3) := by decide +kernel
theorem dX9_first_19 : decode cX9_first 19 = .ok (.goto 4, 3) := by decide +kernel
theorem dX9_first_22 : decode cX9_first 22 = .ok (.iconst (-1), 1) := by decide +kernel
theorem dX9_first_23 : decode cX9_first 23 = .ok (.ireturn, 1) := by decide +kernel
theorem dX9_often_0 : decode cX9_often 0 = .ok (.aload_n 0, 1) := by decide +kernel
theorem dX9_often_1 : decode cX9_often 1 = .ok (.getfield 10, 3) := by decide +kernel
theorem dX9_often_4 : decode cX9_often 4 = .ok (.iload_n 1, 1) := by decide +kernel
theorem dX9_often_5 : decode cX9_often 5 = .ok (.invokevirtual 153, 3) := by decide +kernel
theorem dX9_often_8 : decode cX9_often 8 = .ok (.ifCond .eq 12, 3) := by decide +kernel
theorem dX9_often_11 : decode cX9_often 11 = .ok (.iload_n 2, 1) := by decide +kernel
theorem dX9_often_12 : decode cX9_often 12 = .ok (.bipush 48, 2) := by decide +kernel
theorem dX9_often_14 : decode cX9_often 14 = .ok (.invokestatic 75, 3) := by decide +kernel
theorem dX9_often_17 : decode cX9_often 17 = .ok (.ifCond .ne 5, 3) := by decide +kernel
theorem dX9_often_20 : decode cX9_often 20 = .ok (.iconst (-1), 1) := by decide +kernel
theorem dX9_often_21 : decode cX9_often 21 = .ok (.ireturn, 1) := by decide +kernel
theorem dX9_often_22 : decode cX9_often 22 = .ok (.aload_n 0, 1) := by decide +kernel
theorem dX9_often_23 : decode cX9_often 23 = .ok (.getfield 28, 3) := by decide +kernel
theorem dX9_often_26 : decode cX9_often 26 = .ok (.iload_n 1, 1) := by decide +kernel
theorem dX9_often_27 : decode cX9_often 27 = .ok (.iload_n 2, 1) := by decide +kernel
theorem dX9_often_28 : decode cX9_often 28 = .ok (.invokevirtual 160, 3) := by decide +kernel
theorem dX9_often_31 : decode cX9_often 31 = .ok (.ireturn, 1) := by decide +kernel
theorem dX9_pulls_0 : decode cX9_pulls 0 = .ok (.aload_n 0, 1) := by decide +kernel
theorem dX9_pulls_1 : decode cX9_pulls 1 = .ok (.getfield 10, 3) := by decide +kernel
theorem dX9_pulls_4 : decode cX9_pulls 4 = .ok (.iload_n 1, 1) := by decide +kernel
theorem dX9_pulls_5 : decode cX9_pulls 5 = .ok (.invokevirtual 153, 3) := by decide +kernel
theorem dX9_pulls_8 : decode cX9_pulls 8 = .ok (.ifCond .eq 8, 3) := by decide +kernel
theorem dX9_pulls_11 : decode cX9_pulls 11 = .ok (.iload_n 2, 1) := by decide +kernel
theorem dX9_pulls_12 : decode cX9_pulls 12 = .ok (.iconst (-1), 1) := by decide +kernel
theorem dX9_pulls_13 : decode cX9_pulls 13 = .ok (.if_icmp .ge 5, 3) := by decide +kernel
theorem dX9_pulls_16 : decode cX9_pulls 16 = .ok (.iconst (-1), 1) := by decide +kernel
theorem dX9_pulls_17 : decode cX9_pulls 17 = .ok (.ireturn, 1) := by decide +kernel
theorem dX9_pulls_18 : decode cX9_pulls 18 = .ok (.aload_n 0, 1) := by decide +kernel
theorem dX9_pulls_19 : decode cX9_pulls 19 = .ok (.getfield 28, 3) := by decide +kernel
theorem dX9_pulls_22 : decode cX9_pulls 22 = .ok (.iload_n 1, 1) := by decide +kernel
theorem dX9_pulls_23 : decode cX9_pulls 23 = .ok (.invokevirtual 163, 3) := by decide +kernel
theorem dX9_pulls_26 : decode cX9_pulls 26 = .ok (.istore_n 3, 1) := by decide +kernel
theorem dX9_pulls_27 : decode cX9_pulls 27 = .ok (.iload_n 2, 1) := by decide +kernel
theorem dX9_pulls_28 : decode cX9_pulls 28 = .ok (.ifCond .lt 7, 3) := by decide +kernel
theorem dX9_pulls_31 : decode cX9_pulls 31 = .ok (.iload_n 3, 1) := by decide +kernel
theorem dX9_pulls_32 : decode cX9_pulls 32 = .ok (.ifCond .ge 5, 3) := by decide +kernel
theorem dX9_pulls_35 : decode cX9_pulls 35 = .ok (.iload_n 3, 1) := by decide +kernel
theorem dX9_pulls_36 : decode cX9_pulls 36 = .ok (.ireturn, 1) := by decide +kernel
theorem dX9_pulls_37 : decode cX9_pulls 37 = .ok (.iload_n 2, 1) := by decide +kernel
theorem dX9_pulls_38 : decode cX9_pulls 38 = .ok (.iload_n 3, 1) := by decide +kernel
theorem dX9_pulls_39 : decode cX9_pulls 39 = .ok (.if_icmp .ge 15, 3) := by decide +kernel
theorem dX9_pulls_42 : decode cX9_pulls 42 = .ok (.aload_n 0, 1) := by decide +kernel
theorem dX9_pulls_43 : decode cX9_pulls 43 = .ok (.getfield 28, 3) := by decide +kernel
theorem dX9_pulls_46 : decode cX9_pulls 46 = .ok (.getfield 166, 3) := by decide +kernel
theorem dX9_pulls_49 : decode cX9_pulls 49 = .ok (.iload_n 2, 1) := by decide +kernel
theorem dX9_pulls_50 : decode cX9_pulls 50 = .ok (.iaload, 1) := by decide +kernel
theorem dX9_pulls_51 : decode cX9_pulls 51 = .ok (.goto 5, 3) := by decide +kernel
theorem dX9_pulls_54 : decode cX9_pulls 54 = .ok (.bipush (-2), 2) := by decide +kernel
theorem dX9_pulls_56 : decode cX9_pulls 56 = .ok (.ireturn, 1) := by decide +kernel
theorem dX9_shakes_0 : decode cX9_shakes 0 = .ok (.iload_n 1, 1) := by decide +kernel
theorem dX9_shakes_1 : decode cX9_shakes 1 = .ok (.iconst 1, 1) := by decide +kernel
theorem dX9_shakes_2 : decode cX9_shakes 2 = .ok (.invokestatic 75, 3) := by decide +kernel
theorem dX9_shakes_5 : decode cX9_shakes 5 = .ok (.ifCond .ne 5, 3) := by decide +kernel
theorem dX9_shakes_8 : decode cX9_shakes 8 = .ok (.iconst (-1), 1) := by decide +kernel
theorem dX9_shakes_9 : decode cX9_shakes 9 = .ok (.ireturn, 1) := by decide +kernel
theorem dX9_shakes_10 : decode cX9_shakes 10 = .ok (.aload_n 0, 1) := by decide +kernel
theorem dX9_shakes_11 : decode cX9_shakes 11 = .ok (.getfield 28, 3) := by decide +kernel
theorem dX9_shakes_14 : decode cX9_shakes 14 = .ok (.invokevirtual 169, 3) := by decide +kernel
theorem dX9_shakes_17 : decode cX9_shakes 17 = .ok (.iload_n 1, 1) := by decide +kernel
theorem dX9_shakes_18 : decode cX9_shakes 18 = .ok (.ifCond .ne 13, 3) := by decide +kernel
theorem dX9_shakes_21 : decode cX9_shakes 21 = .ok (.aload_n 0, 1) := by decide +kernel
theorem dX9_shakes_22 : decode cX9_shakes 22 = .ok (.getfield 28, 3) := by decide +kernel
theorem dX9_shakes_25 : decode cX9_shakes 25 = .ok (.getfield 172, 3) := by decide +kernel
theorem dX9_shakes_28 : decode cX9_shakes 28 = .ok (.goto 10, 3) := by decide +kernel
theorem dX9_shakes_31 : decode cX9_shakes 31 = .ok (.aload_n 0, 1) := by decide +kernel
theorem dX9_shakes_32 : decode cX9_shakes 32 = .ok (.getfield 28, 3) := by decide +kernel
theorem dX9_shakes_35 : decode cX9_shakes 35 = .ok (.getfield 175, 3) := by decide +kernel
theorem dX9_shakes_38 : decode cX9_shakes 38 = .ok (.ireturn, 1) := by decide +kernel
theorem dX9_stuffs_0 : decode cX9_stuffs 0 = .ok (.iload_n 1, 1) := by decide +kernel
theorem dX9_stuffs_1 : decode cX9_stuffs 1 = .ok (.iconst 2, 1) := by decide +kernel
theorem dX9_stuffs_2 : decode cX9_stuffs 2 = .ok (.invokestatic 75, 3) := by decide +kernel
theorem dX9_stuffs_5 : decode cX9_stuffs 5 = .ok (.ifCond .eq 11, 3) := by decide +kernel
theorem dX9_stuffs_8 : decode cX9_stuffs 8 = .ok (.iload_n 2, 1) := by decide +kernel
theorem dX9_stuffs_9 : decode cX9_stuffs 9 = .ok (.iconst 1, 1) := by decide +kernel
theorem dX9_stuffs_10 : decode cX9_stuffs 10 = .ok (.invokestatic 75, 3) := by decide +kernel
theorem dX9_stuffs_13 : decode cX9_stuffs 13 = .ok (.ifCond .ne 5, 3) := by decide +kernel
theorem dX9_stuffs_16 : decode cX9_stuffs 16 = .ok (.iconst (-1), 1) := by decide +kernel
theorem dX9_stuffs_17 : decode cX9_stuffs 17 = .ok (.ireturn, 1) := by decide +kernel
theorem dX9_stuffs_18 : decode cX9_stuffs 18 = .ok (.aload_n 0, 1) := by decide +kernel
theorem dX9_stuffs_19 : decode cX9_stuffs 19 = .ok (.getfield 28, 3) := by decide +kernel
theorem dX9_stuffs_22 : decode cX9_stuffs 22 = .ok (.iload_n 1, 1) := by decide +kernel
theorem dX9_stuffs_23 : decode cX9_stuffs 23 = .ok (.invokevirtual 178, 3) := by decide +kernel
theorem dX9_stuffs_26 : decode cX9_stuffs 26 = .ok (.iload_n 2, 1) := by decide +kernel
theorem dX9_stuffs_27 : decode cX9_stuffs 27 = .ok (.ifCond .ne 13, 3) := by decide +kernel
theorem dX9_stuffs_30 : decode cX9_stuffs 30 = .ok (.aload_n 0, 1) := by decide +kernel
theorem dX9_stuffs_31 : decode cX9_stuffs 31 = .ok (.getfield 28, 3) := by decide +kernel
theorem dX9_stuffs_34 : decode cX9_stuffs 34 = .ok (.getfield 175, 3) := by decide +kernel
theorem dX9_stuffs_37 : decode cX9_stuffs 37 = .ok (.goto 10, 3) := by decide +kernel
theorem dX9_stuffs_40 : decode cX9_stuffs 40 = .ok (.aload_n 0, 1) := by decide +kernel
theorem dX9_stuffs_41 : decode cX9_stuffs 41 = .ok (.getfield 28, 3) := by decide +kernel
theorem dX9_stuffs_44 : decode cX9_stuffs 44 = .ok (.getfield 172, 3) := by decide +kernel
theorem dX9_stuffs_47 : decode cX9_stuffs 47 = .ok (.ireturn, 1) := by decide +kernel
theorem dX9_judge_0 : decode cX9_judge 0 = .ok (.aload_n 0, 1) := by decide +kernel
theorem dX9_judge_1 : decode cX9_judge 1 = .ok (.iload_n 1, 1) := by decide +kernel
theorem dX9_judge_2 : decode cX9_judge 2 = .ok (.invokevirtual 182, 3) := by decide +kernel
theorem dX9_judge_5 : decode cX9_judge 5 = .ok (.istore_n 2, 1) := by decide +kernel
theorem dX9_judge_6 : decode cX9_judge 6 = .ok (.iload_n 2, 1) := by decide +kernel
theorem dX9_judge_7 : decode cX9_judge 7 = .ok (.ifCond .ge 7, 3) := by decide +kernel
theorem dX9_judge_10 : decode cX9_judge 10 = .ok (.iload_n 2, 1) := by decide +kernel
theorem dX9_judge_11 : decode cX9_judge 11 = .ok (.goto 23, 3) := by decide +kernel
theorem dX9_judge_14 : decode cX9_judge 14 = .ok (.aload_n 0, 1) := by decide +kernel
theorem dX9_judge_15 : decode cX9_judge 15 = .ok (.getfield 28, 3) := by decide +kernel
theorem dX9_judge_18 : decode cX9_judge 18 = .ok (.aload_n 0, 1) := by decide +kernel
theorem dX9_judge_19 : decode cX9_judge 19 = .ok (.getfield 55, 3) := by decide +kernel
theorem dX9_judge_22 : decode cX9_judge 22 = .ok (.iload_n 1, 1) := by decide +kernel
theorem dX9_judge_23 : decode cX9_judge 23 = .ok (.bipush 100, 2) := by decide +kernel
theorem dX9_judge_25 : decode cX9_judge 25 = .ok (.idiv, 1) := by decide +kernel
theorem dX9_judge_26 : decode cX9_judge 26 = .ok (.aaload, 1) := by decide +kernel
theorem dX9_judge_27 : decode cX9_judge 27 = .ok (.iload_n 1, 1) := by decide +kernel
theorem dX9_judge_28 : decode cX9_judge 28 = .ok (.bipush 100, 2) := by decide +kernel
theorem dX9_judge_30 : decode cX9_judge 30 = .ok (.irem, 1) := by decide +kernel
theorem dX9_judge_31 : decode cX9_judge 31 = .ok (.invokevirtual 185, 3) := by decide +kernel
theorem dX9_judge_34 : decode cX9_judge 34 = .ok (.ireturn, 1) := by decide +kernel
theorem dX9_felt_0 : decode cX9_felt 0 = .ok (.iload_n 2, 1) := by decide +kernel
theorem dX9_felt_1 : decode cX9_felt 1 = .ok (.invokestatic 127, 3) := by decide +kernel
theorem dX9_felt_4 : decode cX9_felt 4 = .ok (.ifCond .eq 11, 3) := by decide +kernel
theorem dX9_felt_7 : decode cX9_felt 7 = .ok (.iload_n 3, 1) := by decide +kernel
theorem dX9_felt_8 : decode cX9_felt 8 = .ok (.iconst 4, 1) := by decide +kernel
theorem dX9_felt_9 : decode cX9_felt 9 = .ok (.invokestatic 75, 3) := by decide +kernel
theorem dX9_felt_12 : decode cX9_felt 12 = .ok (.ifCond .ne 5, 3) := by decide +kernel
theorem dX9_felt_15 : decode cX9_felt 15 = .ok (.iconst (-1), 1) := by decide +kernel
theorem dX9_felt_16 : decode cX9_felt 16 = .ok (.ireturn, 1) := by decide +kernel
theorem dX9_felt_17 : decode cX9_felt 17 = .ok (.aload_n 0, 1) := by decide +kernel
theorem dX9_felt_18 : decode cX9_felt 18 = .ok (.iload_n 1, 1) := by decide +kernel
theorem dX9_felt_19 : decode cX9_felt 19 = .ok (.invokevirtual 182, 3) := by decide +kernel
theorem dX9_felt_22 : decode cX9_felt 22 = .ok (.istore 4, 2) := by decide +kernel
theorem dX9_felt_24 : decode cX9_felt 24 = .ok (.iload 4, 2) := by decide +kernel
theorem dX9_felt_26 : decode cX9_felt 26 = .ok (.ifCond .ge 6, 3) := by decide +kernel
theorem dX9_felt_29 : decode cX9_felt 29 = .ok (.iload 4, 2) := by decide +kernel
theorem dX9_felt_31 : decode cX9_felt 31 = .ok (.ireturn, 1) := by decide +kernel
theorem dX9_felt_32 : decode cX9_felt 32 = .ok (.aload_n 0, 1) := by decide +kernel
theorem dX9_felt_33 : decode cX9_felt 33 = .ok (.getfield 28, 3) := by decide +kernel
theorem dX9_felt_36 : decode cX9_felt 36 = .ok (.aload_n 0, 1) := by decide +kernel
theorem dX9_felt_37 : decode cX9_felt 37 = .ok (.getfield 55, 3) := by decide +kernel
theorem dX9_felt_40 : decode cX9_felt 40 = .ok (.iload_n 1, 1) := by decide +kernel
theorem dX9_felt_41 : decode cX9_felt 41 = .ok (.bipush 100, 2) := by decide +kernel
theorem dX9_felt_43 : decode cX9_felt 43 = .ok (.idiv, 1) := by decide +kernel
theorem dX9_felt_44 : decode cX9_felt 44 = .ok (.aaload, 1) := by decide +kernel
theorem dX9_felt_45 : decode cX9_felt 45 = .ok (.iload_n 1, 1) := by decide +kernel
theorem dX9_felt_46 : decode cX9_felt 46 = .ok (.bipush 100, 2) := by decide +kernel
theorem dX9_felt_48 : decode cX9_felt 48 = .ok (.irem, 1) := by decide +kernel
theorem dX9_felt_49 : decode cX9_felt 49 = .ok (.iload_n 2, 1) := by decide +kernel
theorem dX9_felt_50 : decode cX9_felt 50 = .ok (.iload_n 3, 1) := by decide +kernel
theorem dX9_felt_51 : decode cX9_felt 51 = .ok (.iconst 1, 1) := by decide +kernel
theorem dX9_felt_52 : decode cX9_felt 52 = .ok (.iadd, 1) := by decide +kernel
theorem dX9_felt_53 : decode cX9_felt 53 = .ok (.iconst 2, 1) := by decide +kernel
theorem dX9_felt_54 : decode cX9_felt 54 = .ok (.idiv, 1) := by decide +kernel
theorem dX9_felt_55 : decode cX9_felt 55 = .ok (.invokevirtual 189, 3) := by decide +kernel
theorem dX9_felt_58 : decode cX9_felt 58 = .ok (.istore 5, 2) := by decide +kernel
theorem dX9_felt_60 : decode cX9_felt 60 = .ok (.iload_n 3, 1) := by decide +kernel
theorem dX9_felt_61 : decode cX9_felt 61 = .ok (.ifCond .ne 6, 3) := by decide +kernel
theorem dX9_felt_64 : decode cX9_felt 64 = .ok (.iload 5, 2) := by decide +kernel
theorem dX9_felt_66 : decode cX9_felt 66 = .ok (.ireturn, 1) := by decide +kernel
theorem dX9_felt_67 : decode cX9_felt 67 = .ok (.iload_n 3, 1) := by decide +kernel
theorem dX9_felt_68 : decode cX9_felt 68 = .ok (.iconst 2, 1) := by decide +kernel
theorem dX9_felt_69 : decode cX9_felt 69 = .ok (.irem, 1) := by decide +kernel
theorem dX9_felt_70 : decode cX9_felt 70 = .ok (.iconst 1, 1) := by decide +kernel
theorem dX9_felt_71 : decode cX9_felt 71 = .ok (.if_icmp .ne 9, 3) := by decide +kernel
theorem dX9_felt_74 : decode cX9_felt 74 = .ok (.iload 5, 2) := by decide +kernel
theorem dX9_felt_76 : decode cX9_felt 76 = .ok (.invokestatic 193, 3) := by decide +kernel
theorem dX9_felt_79 : decode cX9_felt 79 = .ok (.ireturn, 1) := by decide +kernel
theorem dX9_felt_80 : decode cX9_felt 80 = .ok (.iload 5, 2) := by decide +kernel
theorem dX9_felt_82 : decode cX9_felt 82 = .ok (.ifCond .ne 8, 3) := by decide +kernel
theorem dX9_felt_85 : decode cX9_felt 85 = .ok (.bipush (-2), 2) := by decide +kernel
theorem dX9_felt_87 : decode cX9_felt 87 = .ok (.goto 8, 3) := by decide +kernel
theorem dX9_felt_90 : decode cX9_felt 90 = .ok (.iload 5, 2) := by decide +kernel
theorem dX9_felt_92 : decode cX9_felt 92 = .ok (.invokestatic 198, 3) := by decide +kernel
theorem dX9_felt_95 : decode cX9_felt 95 = .ok (.ireturn, 1) := by decide +kernel
theorem dX9_walk_0 : decode cX9_walk 0 = .ok (.iload_n 1, 1) := by decide +kernel
theorem dX9_walk_1 : decode cX9_walk 1 = .ok (.ifCond .lt 31, 3) := by decide +kernel
theorem dX9_walk_4 : decode cX9_walk 4 = .ok (.iload_n 1, 1) := by decide +kernel
theorem dX9_walk_5 : decode cX9_walk 5 = .ok (.bipush 100, 2) := by decide +kernel
theorem dX9_walk_7 : decode cX9_walk 7 = .ok (.idiv, 1) := by decide +kernel
theorem dX9_walk_8 : decode cX9_walk 8 = .ok (.invokestatic 127, 3) := by decide +kernel
theorem dX9_walk_11 : decode cX9_walk 11 = .ok (.ifCond .eq 21, 3) := by decide +kernel
theorem dX9_walk_14 : decode cX9_walk 14 = .ok (.iload_n 1, 1) := by decide +kernel
theorem dX9_walk_15 : decode cX9_walk 15 = .ok (.bipush 100, 2) := by decide +kernel
theorem dX9_walk_17 : decode cX9_walk 17 = .ok (.irem, 1) := by decide +kernel
theorem dX9_walk_18 : decode cX9_walk 18 = .ok (.invokestatic 127, 3) := by decide +kernel
theorem dX9_walk_21 : decode cX9_walk 21 = .ok (.ifCond .eq 11, 3) := by decide +kernel
theorem dX9_walk_24 : decode cX9_walk 24 = .ok (.iload_n 2, 1) := by decide +kernel
theorem dX9_walk_25 : decode cX9_walk 25 = .ok (.iconst 1, 1) := by decide +kernel
theorem dX9_walk_26 : decode cX9_walk 26 = .ok (.invokestatic 75, 3) := by decide +kernel
theorem dX9_walk_29 : decode cX9_walk 29 = .ok (.ifCond .ne 5, 3) := by decide +kernel
theorem dX9_walk_32 : decode cX9_walk 32 = .ok (.iconst (-1), 1) := by decide +kernel
theorem dX9_walk_33 : decode cX9_walk 33 = .ok (.ireturn, 1) := by decide +kernel
theorem dX9_walk_34 : decode cX9_walk 34 = .ok (.iconst 0, 1) := by decide +kernel
theorem dX9_walk_35 : decode cX9_walk 35 = .ok (.istore_n 3, 1) := by decide +kernel
theorem dX9_walk_36 : decode cX9_walk 36 = .ok (.iload_n 3, 1) := by decide +kernel
theorem dX9_walk_37 : decode cX9_walk 37 = .ok (.bipush 30, 2) := by decide +kernel
theorem dX9_walk_39 : decode cX9_walk 39 = .ok (.if_icmp .ge 36, 3) := by decide +kernel
theorem dX9_walk_42 : decode cX9_walk 42 = .ok (.aload_n 0, 1) := by decide +kernel
theorem dX9_walk_43 : decode cX9_walk 43 = .ok (.getfield 35, 3) := by decide +kernel
theorem dX9_walk_46 : decode cX9_walk 46 = .ok (.getfield 201, 3) := by decide +kernel
theorem dX9_walk_49 : decode cX9_walk 49 = .ok (.iload_n 3, 1) := by decide +kernel
theorem dX9_walk_50 : decode cX9_walk 50 = .ok (.aload_n 0, 1) := by decide +kernel
theorem dX9_walk_51 : decode cX9_walk 51 = .ok (.getfield 10, 3) := by decide +kernel
theorem dX9_walk_54 : decode cX9_walk 54 = .ok (.getfield 134, 3) := by decide +kernel
theorem dX9_walk_57 : decode cX9_walk 57 = .ok (.aload_n 0, 1) := by decide +kernel
theorem dX9_walk_58 : decode cX9_walk 58 = .ok (.getfield 10, 3) := by decide +kernel
theorem dX9_walk_61 : decode cX9_walk 61 = .ok (.getfield 204, 3) := by decide +kernel
theorem dX9_walk_64 : decode cX9_walk 64 = .ok (.iload_n 3, 1) := by decide +kernel
theorem dX9_walk_65 : decode cX9_walk 65 = .ok (.invokevirtual 137, 3) := by decide +kernel
theorem dX9_walk_68 : decode cX9_walk 68 = .ok (.iastore, 1) := by decide +kernel
theorem dX9_walk_69 : decode cX9_walk 69 = .ok (.iinc 3 1, 3) := by decide +kernel
theorem dX9_walk_72 : decode cX9_walk 72 = .ok (.goto (-36), 3) := by decide +kernel
theorem dX9_walk_75 : decode cX9_walk 75 = .ok (.aload_n 0, 1) := by decide +kernel
theorem dX9_walk_76 : decode cX9_walk 76 = .ok (.getfield 35, 3) := by decide +kernel
theorem dX9_walk_79 : decode cX9_walk 79 = .ok (.iload_n 1, 1) := by decide +kernel
theorem dX9_walk_80 : decode cX9_walk 80 = .ok (.bipush 100, 2) := by decide +kernel
theorem dX9_walk_82 : decode cX9_walk 82 = .ok (.idiv, 1) := by decide +kernel
theorem dX9_walk_83 : decode cX9_walk 83 = .ok (.iload_n 1, 1) := by decide +kernel
theorem dX9_walk_84 : decode cX9_walk 84 = .ok (.bipush 100, 2) := by decide +kernel
theorem dX9_walk_86 : decode cX9_walk 86 = .ok (.irem, 1) := by decide +kernel
theorem dX9_walk_87 : decode cX9_walk 87 = .ok (.invokevirtual 207, 3) := by decide +kernel
theorem dX9_walk_90 : decode cX9_walk 90 = .ok (.iload_n 2, 1) := by decide +kernel
theorem dX9_walk_91 : decode cX9_walk 91 = .ok (.ifCond .ne 13, 3) := by decide +kernel
theorem dX9_walk_94 : decode cX9_walk 94 = .ok (.aload_n 0, 1) := by decide +kernel
theorem dX9_walk_95 : decode cX9_walk 95 = .ok (.getfield 35, 3) := by decide +kernel
theorem dX9_walk_98 : decode cX9_walk 98 = .ok (.getfield 211, 3) := by decide +kernel
theorem dX9_walk_101 : decode cX9_walk 101 = .ok (.goto 10, 3) := by decide +kernel
theorem dX9_walk_104 : decode cX9_walk 104 = .ok (.aload_n 0, 1) := by decide +kernel
theorem dX9_walk_105 : decode cX9_walk 105 = .ok (.getfield 35, 3) := by decide +kernel
theorem dX9_walk_108 : decode cX9_walk 108 = .ok (.getfield 214, 3) := by decide +kernel
theorem dX9_walk_111 : decode cX9_walk 111 = .ok (.ireturn, 1) := by decide +kernel
theorem dX9_patches_0 : decode cX9_patches 0 = .ok (.iload_n 1, 1) := by decide +kernel
theorem dX9_patches_1 : decode cX9_patches 1 = .ok (.iconst 1, 1) := by decide +kernel
theorem dX9_patches_2 : decode cX9_patches 2 = .ok (.invokestatic 75, 3) := by decide +kernel
theorem dX9_patches_5 : decode cX9_patches 5 = .ok (.ifCond .ne 5, 3) := by decide +kernel
theorem dX9_patches_8 : decode cX9_patches 8 = .ok (.iconst (-1), 1) := by decide +kernel
theorem dX9_patches_9 : decode cX9_patches 9 = .ok (.ireturn, 1) := by decide +kernel
theorem dX9_patches_10 : decode cX9_patches 10 = .ok (.aload_n 0, 1) := by decide +kernel
theorem dX9_patches_11 : decode cX9_patches 11 = .ok (.getfield 35, 3) := by decide +kernel
theorem dX9_patches_14 : decode cX9_patches 14 = .ok (.aload_n 0, 1) := by decide +kernel
theorem dX9_patches_15 : decode cX9_patches 15 = .ok (.getfield 10, 3) := by decide +kernel
theorem dX9_patches_18 : decode cX9_patches 18 = .ok (.getfield 204, 3) := by decide +kernel
theorem dX9_patches_21 : decode cX9_patches 21 = .ok (.invokevirtual 217, 3) := by decide +kernel
theorem dX9_patches_24 : decode cX9_patches 24 = .ok (.iload_n 1, 1) := by decide +kernel
theorem dX9_patches_25 : decode cX9_patches 25 = .ok (.ifCond .ne 13, 3) := by decide +kernel
theorem dX9_patches_28 : decode cX9_patches 28 = .ok (.aload_n 0, 1) := by decide +kernel
theorem dX9_patches_29 : decode cX9_patches 29 = .ok (.getfield 35, 3) := by decide +kernel
theorem dX9_patches_32 : decode cX9_patches 32 = .ok (.getfield 221, 3) := by decide +kernel
theorem dX9_patches_35 : decode cX9_patches 35 = .ok (.goto 10, 3) := by decide +kernel
theorem dX9_patches_38 : decode cX9_patches 38 = .ok (.aload_n 0, 1) := by decide +kernel
theorem dX9_patches_39 : decode cX9_patches 39 = .ok (.getfield 35, 3) := by decide +kernel
theorem dX9_patches_42 : decode cX9_patches 42 = .ok (.getfield 224, 3) := by decide +kernel
theorem dX9_patches_45 : decode cX9_patches 45 = .ok (.ireturn, 1) := by decide +kernel
theorem dX9_byTurns_0 : decode cX9_byTurns 0 = .ok (.iload_n 1, 1) := by decide +kernel
theorem dX9_byTurns_1 : decode cX9_byTurns 1 = .ok (.ifCond .lt 42, 3) := by decide +kernel
theorem dX9_byTurns_4 : decode cX9_byTurns 4 = .ok (.aload_n 0, 1) := by decide +kernel
theorem dX9_byTurns_5 : decode cX9_byTurns 5 = .ok (.getfield 10, 3) := by decide +kernel
theorem dX9_byTurns_8 : decode cX9_byTurns 8 = .ok (.iload_n 1, 1) := by decide +kernel
theorem dX9_byTurns_9 : decode cX9_byTurns 9 = .ok (.bipush 10, 2) := by decide +kernel
theorem dX9_byTurns_11 : decode cX9_byTurns 11 = .ok (.idiv, 1) := by decide +kernel
theorem dX9_byTurns_12 : decode cX9_byTurns 12 = .ok (.invokevirtual 153, 3) := by decide +kernel
theorem dX9_byTurns_15 : decode cX9_byTurns 15 = .ok (.ifCond .eq 28, 3) := by decide +kernel
theorem dX9_byTurns_18 : decode cX9_byTurns 18 = .ok (.aload_n 0, 1) := by decide +kernel
theorem dX9_byTurns_19 : decode cX9_byTurns 19 = .ok (.getfield 10, 3) := by decide +kernel
theorem dX9_byTurns_22 : decode cX9_byTurns 22 = .ok (.iload_n 1, 1) := by decide +kernel
theorem dX9_byTurns_23 : decode cX9_byTurns 23 = .ok (.bipush 10, 2) := by decide +kernel
theorem dX9_byTurns_25 : decode cX9_byTurns 25 = .ok (.irem, 1) := by decide +kernel
theorem dX9_byTurns_26 : decode cX9_byTurns 26 = .ok (.invokevirtual 153, 3) := by decide +kernel
theorem dX9_byTurns_29 : decode cX9_byTurns 29 = .ok (.ifCond .eq 14, 3) := by decide +kernel
theorem dX9_byTurns_32 : decode cX9_byTurns 32 = .ok (.iload_n 1, 1) := by decide +kernel
theorem dX9_byTurns_33 : decode cX9_byTurns 33 = .ok (.bipush 10, 2) := by decide +kernel
theorem dX9_byTurns_35 : decode cX9_byTurns 35 = .ok (.idiv, 1) := by decide +kernel
theorem dX9_byTurns_36 : decode cX9_byTurns 36 = .ok (.iload_n 1, 1) := by decide +kernel
theorem dX9_byTurns_37 : decode cX9_byTurns 37 = .ok (.bipush 10, 2) := by decide +kernel
theorem dX9_byTurns_39 : decode cX9_byTurns 39 = .ok (.irem, 1) := by decide +kernel
theorem dX9_byTurns_40 : decode cX9_byTurns 40 = .ok (.if_icmp .ne 6, 3) := by decide +kernel
theorem dX9_byTurns_43 : decode cX9_byTurns 43 = .ok (.ldc 227, 2) := by decide +kernel
theorem dX9_byTurns_45 : decode cX9_byTurns 45 = .ok (.ireturn, 1) := by decide +kernel
theorem dX9_byTurns_46 : decode cX9_byTurns 46 = .ok (.iload_n 2, 1) := by decide +kernel
theorem dX9_byTurns_47 : decode cX9_byTurns 47 = .ok (.ifCond .lt 30, 3) := by decide +kernel
theorem dX9_byTurns_50 : decode cX9_byTurns 50 = .ok (.iload_n 2, 1) := by decide +kernel
theorem dX9_byTurns_51 : decode cX9_byTurns 51 = .ok (.bipush 10, 2) := by decide +kernel
theorem dX9_byTurns_53 : decode cX9_byTurns 53 = .ok (.idiv, 1) := by decide +kernel
theorem dX9_byTurns_54 : decode cX9_byTurns 54 = .ok (.iconst 5, 1) := by decide +kernel
theorem dX9_byTurns_55 : decode cX9_byTurns 55 = .ok (.if_icmp .ge 22, 3) := by decide +kernel
theorem dX9_byTurns_58 : decode cX9_byTurns 58 = .ok (.iload_n 2, 1) := by decide +kernel
theorem dX9_byTurns_59 : decode cX9_byTurns 59 = .ok (.bipush 10, 2) := by decide +kernel
theorem dX9_byTurns_61 : decode cX9_byTurns 61 = .ok (.irem, 1) := by decide +kernel
theorem dX9_byTurns_62 : decode cX9_byTurns 62 = .ok (.iconst 5, 1) := by decide +kernel
theorem dX9_byTurns_63 : decode cX9_byTurns 63 = .ok (.if_icmp .ge 14, 3) := by decide +kernel
theorem dX9_byTurns_66 : decode cX9_byTurns 66 = .ok (.iload_n 2, 1) := by decide +kernel
theorem dX9_byTurns_67 : decode cX9_byTurns 67 = .ok (.bipush 10, 2) := by decide +kernel
theorem dX9_byTurns_69 : decode cX9_byTurns 69 = .ok (.idiv, 1) := by decide +kernel
theorem dX9_byTurns_70 : decode cX9_byTurns 70 = .ok (.iload_n 2, 1) := by decide +kernel
theorem dX9_byTurns_71 : decode cX9_byTurns 71 = .ok (.bipush 10, 2) := by decide +kernel
theorem dX9_byTurns_73 : decode cX9_byTurns 73 = .ok (.irem, 1) := by decide +kernel
theorem dX9_byTurns_74 : decode cX9_byTurns 74 = .ok (.if_icmp .ne 6, 3) := by decide +kernel
theorem dX9_byTurns_77 : decode cX9_byTurns 77 = .ok (.ldc 227, 2) := by decide +kernel
theorem dX9_byTurns_79 : decode cX9_byTurns 79 = .ok (.ireturn, 1) := by decide +kernel
theorem dX9_byTurns_80 : decode cX9_byTurns 80 = .ok (.iload_n 3, 1) := by decide +kernel
theorem dX9_byTurns_81 : decode cX9_byTurns 81 = .ok (.iconst 1, 1) := by decide +kernel
theorem dX9_byTurns_82 : decode cX9_byTurns 82 = .ok (.if_icmp .lt 17, 3) := by decide +kernel
theorem dX9_byTurns_85 : decode cX9_byTurns 85 = .ok (.iload_n 3, 1) := by decide +kernel
theorem dX9_byTurns_86 : decode cX9_byTurns 86 = .ok (.iconst 4, 1) := by decide +kernel
theorem dX9_byTurns_87 : decode cX9_byTurns 87 = .ok (.if_icmp .gt 12, 3) := by decide +kernel
theorem dX9_byTurns_90 : decode cX9_byTurns 90 = .ok (.iload 4, 2) := by decide +kernel
theorem dX9_byTurns_92 : decode cX9_byTurns 92 = .ok (.iconst 1, 1) := by decide +kernel
theorem dX9_byTurns_93 : decode cX9_byTurns 93 = .ok (.invokestatic 75, 3) := by decide +kernel
theorem dX9_byTurns_96 : decode cX9_byTurns 96 = .ok (.ifCond .ne 6, 3) := by decide +kernel
theorem dX9_byTurns_99 : decode cX9_byTurns 99 = .ok (.ldc 227, 2) := by decide +kernel
theorem dX9_byTurns_101 : decode cX9_byTurns 101 = .ok (.ireturn, 1) := by decide +kernel
theorem dX9_byTurns_102 : decode cX9_byTurns 102 = .ok (.aload_n 0, 1) := by decide +kernel
theorem dX9_byTurns_103 : decode cX9_byTurns 103 = .ok (.getfield 28, 3) := by decide +kernel
theorem dX9_byTurns_106 : decode cX9_byTurns 106 = .ok (.iload_n 1, 1) := by decide +kernel
theorem dX9_byTurns_107 : decode cX9_byTurns 107 = .ok (.iload_n 2, 1) := by decide +kernel
theorem dX9_byTurns_108 : decode cX9_byTurns 108 = .ok (.iload_n 3, 1) := by decide +kernel
theorem dX9_byTurns_109 : decode cX9_byTurns 109 = .ok (.invokevirtual 228, 3) := by decide +kernel
theorem dX9_byTurns_112 : decode cX9_byTurns 112 = .ok (.istore 5, 2) := by decide +kernel
theorem dX9_byTurns_114 : decode cX9_byTurns 114 = .ok (.iload 4, 2) := by decide +kernel
theorem dX9_byTurns_116 : decode cX9_byTurns 116 = .ok (.ifCond .ne 8, 3) := by decide +kernel
theorem dX9_byTurns_119 : decode cX9_byTurns 119 = .ok (.iload 5, 2) := by decide +kernel
theorem dX9_byTurns_121 : decode cX9_byTurns 121 = .ok (.goto 10, 3) := by decide +kernel
theorem dX9_byTurns_124 : decode cX9_byTurns 124 = .ok (.aload_n 0, 1) := by decide +kernel
theorem dX9_byTurns_125 : decode cX9_byTurns 125 = .ok (.getfield 28, 3) := by decide +kernel
theorem dX9_byTurns_128 : decode cX9_byTurns 128 = .ok (.getfield 231, 3) := by decide +kernel
theorem dX9_byTurns_131 : decode cX9_byTurns 131 = .ok (.ireturn, 1) := by decide +kernel
theorem dX9_drawn_0 : decode cX9_drawn 0 = .ok (.iload_n 2, 1) := by decide +kernel
theorem dX9_drawn_1 : decode cX9_drawn 1 = .ok (.ifCond .lt 19, 3) := by decide +kernel
theorem dX9_drawn_4 : decode cX9_drawn 4 = .ok (.iload_n 3, 1) := by decide +kernel
theorem dX9_drawn_5 : decode cX9_drawn 5 = .ok (.iconst (-1), 1) := by decide +kernel
theorem dX9_drawn_6 : decode cX9_drawn 6 = .ok (.if_icmp .eq 16, 3) := by decide +kernel
theorem dX9_drawn_9 : decode cX9_drawn 9 = .ok (.aload_n 0, 1) := by decide +kernel
theorem dX9_drawn_10 : decode cX9_drawn 10 = .ok (.getfield 10, 3) := by decide +kernel
theorem dX9_drawn_13 : decode cX9_drawn 13 = .ok (.iload_n 3, 1) := by decide +kernel
theorem dX9_drawn_14 : decode cX9_drawn 14 = .ok (.invokevirtual 153, 3) := by decide +kernel
theorem dX9_drawn_17 : decode cX9_drawn 17 = .ok (.ifCond .ne 5, 3) := by decide +kernel
theorem dX9_drawn_20 : decode cX9_drawn 20 = .ok (.iconst (-1), 1) := by decide +kernel
theorem dX9_drawn_21 : decode cX9_drawn 21 = .ok (.ireturn, 1) := by decide +kernel
theorem dX9_drawn_22 : decode cX9_drawn 22 = .ok (.iload_n 2, 1) := by decide +kernel
theorem dX9_drawn_23 : decode cX9_drawn 23 = .ok (.bipush 100, 2) := by decide +kernel
theorem dX9_drawn_25 : decode cX9_drawn 25 = .ok (.idiv, 1) := by decide +kernel
theorem dX9_drawn_26 : decode cX9_drawn 26 = .ok (.istore 4, 2) := by decide +kernel
theorem dX9_drawn_28 : decode cX9_drawn 28 = .ok (.iload_n 2, 1) := by decide +kernel
theorem dX9_drawn_29 : decode cX9_drawn 29 = .ok (.bipush 100, 2) := by decide +kernel
theorem dX9_drawn_31 : decode cX9_drawn 31 = .ok (.irem, 1) := by decide +kernel
theorem dX9_drawn_32 : decode cX9_drawn 32 = .ok (.istore 5, 2) := by decide +kernel
theorem dX9_drawn_34 : decode cX9_drawn 34 = .ok (.iload 4, 2) := by decide +kernel
theorem dX9_drawn_36 : decode cX9_drawn 36 = .ok (.iconst 1, 1) := by decide +kernel
theorem dX9_drawn_37 : decode cX9_drawn 37 = .ok (.if_icmp .lt 23, 3) := by decide +kernel
theorem dX9_drawn_40 : decode cX9_drawn 40 = .ok (.iload 4, 2) := by decide +kernel
theorem dX9_drawn_42 : decode cX9_drawn 42 = .ok (.bipush 30, 2) := by decide +kernel
theorem dX9_drawn_44 : decode cX9_drawn 44 = .ok (.if_icmp .gt 16, 3) := by decide +kernel
theorem dX9_drawn_47 : decode cX9_drawn 47 = .ok (.iload 5, 2) := by decide +kernel
theorem dX9_drawn_49 : decode cX9_drawn 49 = .ok (.iconst 1, 1) := by decide +kernel
theorem dX9_drawn_50 : decode cX9_drawn 50 = .ok (.if_icmp .lt 10, 3) := by decide +kernel
theorem dX9_drawn_53 : decode cX9_drawn 53 = .ok (.iload 5, 2) := by decide +kernel
theorem dX9_drawn_55 : decode cX9_drawn 55 = .ok (.bipush 24, 2) := by decide +kernel
theorem dX9_drawn_57 : decode cX9_drawn 57 = .ok (.if_icmp .le 5, 3) := by decide +kernel
theorem dX9_drawn_60 : decode cX9_drawn 60 = .ok (.iconst (-1), 1) := by decide +kernel
theorem dX9_drawn_61 : decode cX9_drawn 61 = .ok (.ireturn, 1) := by decide +kernel
theorem dX9_drawn_62 : decode cX9_drawn 62 = .ok (.aload_n 0, 1) := by decide +kernel
theorem dX9_drawn_63 : decode cX9_drawn 63 = .ok (.getfield 28, 3) := by decide +kernel
theorem dX9_drawn_66 : decode cX9_drawn 66 = .ok (.iload_n 1, 1) := by decide +kernel
theorem dX9_drawn_67 : decode cX9_drawn 67 = .ok (.iload 4, 2) := by decide +kernel
theorem dX9_drawn_69 : decode cX9_drawn 69 = .ok (.iload 5, 2) := by decide +kernel
theorem dX9_drawn_71 : decode cX9_drawn 71 = .ok (.iload_n 3, 1) := by decide +kernel
theorem dX9_drawn_72 : decode cX9_drawn 72 = .ok (.invokevirtual 234, 3) := by decide +kernel
theorem dX9_drawn_75 : decode cX9_drawn 75 = .ok (.ireturn, 1) := by decide +kernel
theorem dX9_month_0 : decode cX9_month 0 = .ok (.aload_n 0, 1) := by decide +kernel
theorem dX9_month_1 : decode cX9_month 1 = .ok (.getfield 10, 3) := by decide +kernel
theorem dX9_month_4 : decode cX9_month 4 = .ok (.aload_n 0, 1) := by decide +kernel
theorem dX9_month_5 : decode cX9_month 5 = .ok (.getfield 10, 3) := by decide +kernel
theorem dX9_month_8 : decode cX9_month 8 = .ok (.getfield 204, 3) := by decide +kernel
theorem dX9_month_11 : decode cX9_month 11 = .ok (.invokevirtual 146, 3) := by decide +kernel
theorem dX9_month_14 : decode cX9_month 14 = .ok (.invokestatic 193, 3) := by decide +kernel
theorem dX9_month_17 : decode cX9_month 17 = .ok (.istore_n 1, 1) := by decide +kernel
theorem dX9_month_18 : decode cX9_month 18 = .ok (.aload_n 0, 1) := by decide +kernel
theorem dX9_month_19 : decode cX9_month 19 = .ok (.getfield 10, 3) := by decide +kernel
theorem dX9_month_22 : decode cX9_month 22 = .ok (.getfield 204, 3) := by decide +kernel
theorem dX9_month_25 : decode cX9_month 25 = .ok (.getfield 238, 3) := by decide +kernel
theorem dX9_month_28 : decode cX9_month 28 = .ok (.iconst 4, 1) := by decide +kernel
theorem dX9_month_29 : decode cX9_month 29 = .ok (.dup2, 1) := by decide +kernel
theorem dX9_month_30 : decode cX9_month 30 = .ok (.iaload, 1) := by decide +kernel
theorem dX9_month_31 : decode cX9_month 31 = .ok (.iload_n 1, 1) := by decide +kernel
theorem dX9_month_32 : decode cX9_month 32 = .ok (.iadd, 1) := by decide +kernel
theorem dX9_month_33 : decode cX9_month 33 = .ok (.iastore, 1) := by decide +kernel
theorem dX9_month_34 : decode cX9_month 34 = .ok (.aload_n 0, 1) := by decide +kernel
theorem dX9_month_35 : decode cX9_month 35 = .ok (.getfield 10, 3) := by decide +kernel
theorem dX9_month_38 : decode cX9_month 38 = .ok (.getfield 204, 3) := by decide +kernel
theorem dX9_month_41 : decode cX9_month 41 = .ok (.aload_n 0, 1) := by decide +kernel
theorem dX9_month_42 : decode cX9_month 42 = .ok (.getfield 10, 3) := by decide +kernel
theorem dX9_month_45 : decode cX9_month 45 = .ok (.getfield 241, 3) := by decide +kernel
theorem dX9_month_48 : decode cX9_month 48 = .ok (.invokevirtual 244, 3) := by decide +kernel
theorem dX9_month_51 : decode cX9_month 51 = .ok (.iload_n 1, 1) := by decide +kernel
theorem dX9_month_52 : decode cX9_month 52 = .ok (.ireturn, 1) := by decide +kernel
theorem dX9_pull_0 : decode cX9_pull 0 = .ok (.iload_n 1, 1) := by decide +kernel
theorem dX9_pull_1 : decode cX9_pull 1 = .ok (.bipush 9, 2) := by decide +kernel
theorem dX9_pull_3 : decode cX9_pull 3 = .ok (.invokestatic 75, 3) := by decide +kernel
theorem dX9_pull_6 : decode cX9_pull 6 = .ok (.ifCond .ne 5, 3) := by decide +kernel
theorem dX9_pull_9 : decode cX9_pull 9 = .ok (.iconst (-1), 1) := by decide +kernel
theorem dX9_pull_10 : decode cX9_pull 10 = .ok (.ireturn, 1) := by decide +kernel
theorem dX9_pull_11 : decode cX9_pull 11 = .ok (.iload_n 1, 1) := by decide +kernel
theorem dX9_pull_12 : decode cX9_pull 12 = .ok (.iconst 2, 1) := by decide +kernel
theorem dX9_pull_13 : decode cX9_pull 13 = .ok (.idiv, 1) := by decide +kernel
theorem dX9_pull_14 : decode cX9_pull 14 = .ok (.istore_n 2, 1) := by decide +kernel
theorem dX9_pull_15 : decode cX9_pull 15 = .ok (.aload_n 0, 1) := by decide +kernel
theorem dX9_pull_16 : decode cX9_pull 16 = .ok (.getfield 10, 3) := by decide +kernel
theorem dX9_pull_19 : decode cX9_pull 19 = .ok (.getfield 204, 3) := by decide +kernel
theorem dX9_pull_22 : decode cX9_pull 22 = .ok (.iload_n 2, 1) := by decide +kernel
theorem dX9_pull_23 : decode cX9_pull 23 = .ok (.iload_n 1, 1) := by decide +kernel
theorem dX9_pull_24 : decode cX9_pull 24 = .ok (.iconst 2, 1) := by decide +kernel
theorem dX9_pull_25 : decode cX9_pull 25 = .ok (.irem, 1) := by decide +kernel
theorem dX9_pull_26 : decode cX9_pull 26 = .ok (.invokevirtual 247, 3) := by decide +kernel
theorem dX9_pull_29 : decode cX9_pull 29 = .ok (.aload_n 0, 1) := by decide +kernel
theorem dX9_pull_30 : decode cX9_pull 30 = .ok (.getfield 10, 3) := by decide +kernel
theorem dX9_pull_33 : decode cX9_pull 33 = .ok (.getfield 204, 3) := by decide +kernel
theorem dX9_pull_36 : decode cX9_pull 36 = .ok (.getfield 238, 3) := by decide +kernel
theorem dX9_pull_39 : decode cX9_pull 39 = .ok (.iconst 1, 1) := by decide +kernel
theorem dX9_pull_40 : decode cX9_pull 40 = .ok (.dup2, 1) := by decide +kernel
theorem dX9_pull_41 : decode cX9_pull 41 = .ok (.iaload, 1) := by decide +kernel
theorem dX9_pull_42 : decode cX9_pull 42 = .ok (.iconst 1, 1) := by decide +kernel
theorem dX9_pull_43 : decode cX9_pull 43 = .ok (.iadd, 1) := by decide +kernel
theorem dX9_pull_44 : decode cX9_pull 44 = .ok (.iastore, 1) := by decide +kernel
theorem dX9_pull_45 : decode cX9_pull 45 = .ok (.aload_n 0, 1) := by decide +kernel
theorem dX9_pull_46 : decode cX9_pull 46 = .ok (.getfield 10, 3) := by decide +kernel
theorem dX9_pull_49 : decode cX9_pull 49 = .ok (.getfield 204, 3) := by decide +kernel
theorem dX9_pull_52 : decode cX9_pull 52 = .ok (.getfield 250, 3) := by decide +kernel
theorem dX9_pull_55 : decode cX9_pull 55 = .ok (.iload_n 2, 1) := by decide +kernel
theorem dX9_pull_56 : decode cX9_pull 56 = .ok (.bipush 6, 2) := by decide +kernel
theorem dX9_pull_58 : decode cX9_pull 58 = .ok (.imul, 1) := by decide +kernel
theorem dX9_pull_59 : decode cX9_pull 59 = .ok (.iaload, 1) := by decide +kernel
theorem dX9_pull_60 : decode cX9_pull 60 = .ok (.ireturn, 1) := by decide +kernel
theorem dX9_shake_0 : decode cX9_shake 0 = .ok (.iload_n 1, 1) := by decide +kernel
theorem dX9_shake_1 : decode cX9_shake 1 = .ok (.invokestatic 127, 3) := by decide +kernel
theorem dX9_shake_4 : decode cX9_shake 4 = .ok (.ifCond .eq 10, 3) := by decide +kernel
theorem dX9_shake_7 : decode cX9_shake 7 = .ok (.iload_n 1, 1) := by decide +kernel
theorem dX9_shake_8 : decode cX9_shake 8 = .ok (.invokestatic 253, 3) := by decide +kernel
theorem dX9_shake_11 : decode cX9_shake 11 = .ok (.ifCond .ne 5, 3) := by decide +kernel
theorem dX9_shake_14 : decode cX9_shake 14 = .ok (.iconst (-1), 1) := by decide +kernel
theorem dX9_shake_15 : decode cX9_shake 15 = .ok (.ireturn, 1) := by decide +kernel
theorem dX9_shake_16 : decode cX9_shake 16 = .ok (.aload_n 0, 1) := by decide +kernel
theorem dX9_shake_17 : decode cX9_shake 17 = .ok (.getfield 10, 3) := by decide +kernel
theorem dX9_shake_20 : decode cX9_shake 20 = .ok (.getfield 204, 3) := by decide +kernel
theorem dX9_shake_23 : decode cX9_shake 23 = .ok (.iload_n 1, 1) := by decide +kernel
theorem dX9_shake_24 : decode cX9_shake 24 = .ok (.invokevirtual 256, 3) := by decide +kernel
theorem dX9_shake_27 : decode cX9_shake 27 = .ok (.aload_n 0, 1) := by decide +kernel
theorem dX9_shake_28 : decode cX9_shake 28 = .ok (.getfield 10, 3) := by decide +kernel
theorem dX9_shake_31 : decode cX9_shake 31 = .ok (.getfield 204, 3) := by decide +kernel
theorem dX9_shake_34 : decode cX9_shake 34 = .ok (.getfield 238, 3) := by decide +kernel
theorem dX9_shake_37 : decode cX9_shake 37 = .ok (.iconst 2, 1) := by decide +kernel
theorem dX9_shake_38 : decode cX9_shake 38 = .ok (.dup2, 1) := by decide +kernel
theorem dX9_shake_39 : decode cX9_shake 39 = .ok (.iaload, 1) := by decide +kernel
theorem dX9_shake_40 : decode cX9_shake 40 = .ok (.iconst 1, 1) := by decide +kernel
theorem dX9_shake_41 : decode cX9_shake 41 = .ok (.iadd, 1) := by decide +kernel
theorem dX9_shake_42 : decode cX9_shake 42 = .ok (.iastore, 1) := by decide +kernel
theorem dX9_shake_43 : decode cX9_shake 43 = .ok (.aload_n 0, 1) := by decide +kernel
theorem dX9_shake_44 : decode cX9_shake 44 = .ok (.getfield 10, 3) := by decide +kernel
theorem dX9_shake_47 : decode cX9_shake 47 = .ok (.getfield 204, 3) := by decide +kernel
theorem dX9_shake_50 : decode cX9_shake 50 = .ok (.getfield 259, 3) := by decide +kernel
theorem dX9_shake_53 : decode cX9_shake 53 = .ok (.iload_n 1, 1) := by decide +kernel
theorem dX9_shake_54 : decode cX9_shake 54 = .ok (.iaload, 1) := by decide +kernel
theorem dX9_shake_55 : decode cX9_shake 55 = .ok (.ireturn, 1) := by decide +kernel
theorem dX9_stuff_0 : decode cX9_stuff 0 = .ok (.iload_n 1, 1) := by decide +kernel
theorem dX9_stuff_1 : decode cX9_stuff 1 = .ok (.invokestatic 127, 3) := by decide +kernel
theorem dX9_stuff_4 : decode cX9_stuff 4 = .ok (.ifCond .eq 7, 3) := by decide +kernel
theorem dX9_stuff_7 : decode cX9_stuff 7 = .ok (.iload_n 2, 1) := by decide +kernel
theorem dX9_stuff_8 : decode cX9_stuff 8 = .ok (.ifCond .ge 5, 3) := by decide +kernel
theorem dX9_stuff_11 : decode cX9_stuff 11 = .ok (.iconst (-1), 1) := by decide +kernel
theorem dX9_stuff_12 : decode cX9_stuff 12 = .ok (.ireturn, 1) := by decide +kernel
theorem dX9_stuff_13 : decode cX9_stuff 13 = .ok (.iload_n 2, 1) := by decide +kernel
theorem dX9_stuff_14 : decode cX9_stuff 14 = .ok (.bipush 10, 2) := by decide +kernel
theorem dX9_stuff_16 : decode cX9_stuff 16 = .ok (.idiv, 1) := by decide +kernel
theorem dX9_stuff_17 : decode cX9_stuff 17 = .ok (.istore_n 3, 1) := by decide +kernel
theorem dX9_stuff_18 : decode cX9_stuff 18 = .ok (.iload_n 2, 1) := by decide +kernel
theorem dX9_stuff_19 : decode cX9_stuff 19 = .ok (.bipush 10, 2) := by decide +kernel
theorem dX9_stuff_21 : decode cX9_stuff 21 = .ok (.irem, 1) := by decide +kernel
theorem dX9_stuff_22 : decode cX9_stuff 22 = .ok (.istore 4, 2) := by decide +kernel
theorem dX9_stuff_24 : decode cX9_stuff 24 = .ok (.iload_n 3, 1) := by decide +kernel
theorem dX9_stuff_25 : decode cX9_stuff 25 = .ok (.iconst 1, 1) := by decide +kernel
theorem dX9_stuff_26 : decode cX9_stuff 26 = .ok (.if_icmp .lt 18, 3) := by decide +kernel
theorem dX9_stuff_29 : decode cX9_stuff 29 = .ok (.iload_n 3, 1) := by decide +kernel
theorem dX9_stuff_30 : decode cX9_stuff 30 = .ok (.getstatic 71, 3) := by decide +kernel
theorem dX9_stuff_33 : decode cX9_stuff 33 = .ok (.iconst 0, 1) := by decide +kernel
theorem dX9_stuff_34 : decode cX9_stuff 34 = .ok (.iaload, 1) := by decide +kernel
theorem dX9_stuff_35 : decode cX9_stuff 35 = .ok (.if_icmp .gt 9, 3) := by decide +kernel
theorem dX9_stuff_38 : decode cX9_stuff 38 = .ok (.iload 4, 2) := by decide +kernel
theorem dX9_stuff_40 : decode cX9_stuff 40 = .ok (.iconst 1, 1) := by decide +kernel
theorem dX9_stuff_41 : decode cX9_stuff 41 = .ok (.if_icmp .ge 5, 3) := by decide +kernel
theorem dX9_stuff_44 : decode cX9_stuff 44 = .ok (.iconst (-1), 1) := by decide +kernel
theorem dX9_stuff_45 : decode cX9_stuff 45 = .ok (.ireturn, 1) := by decide +kernel
theorem dX9_stuff_46 : decode cX9_stuff 46 = .ok (.aload_n 0, 1) := by decide +kernel
theorem dX9_stuff_47 : decode cX9_stuff 47 = .ok (.getfield 10, 3) := by decide +kernel
theorem dX9_stuff_50 : decode cX9_stuff 50 = .ok (.getfield 204, 3) := by decide +kernel
theorem dX9_stuff_53 : decode cX9_stuff 53 = .ok (.getfield 250, 3) := by decide +kernel
theorem dX9_stuff_56 : decode cX9_stuff 56 = .ok (.iload_n 1, 1) := by decide +kernel
theorem dX9_stuff_57 : decode cX9_stuff 57 = .ok (.iaload, 1) := by decide +kernel
theorem dX9_stuff_58 : decode cX9_stuff 58 = .ok (.istore 5, 2) := by decide +kernel
theorem dX9_stuff_60 : decode cX9_stuff 60 = .ok (.aload_n 0, 1) := by decide +kernel
theorem dX9_stuff_61 : decode cX9_stuff 61 = .ok (.getfield 10, 3) := by decide +kernel
theorem dX9_stuff_64 : decode cX9_stuff 64 = .ok (.getfield 204, 3) := by decide +kernel
theorem dX9_stuff_67 : decode cX9_stuff 67 = .ok (.iload_n 1, 1) := by decide +kernel
theorem dX9_stuff_68 : decode cX9_stuff 68 = .ok (.iload_n 3, 1) := by decide +kernel
theorem dX9_stuff_69 : decode cX9_stuff 69 = .ok (.iload 4, 2) := by decide +kernel
theorem dX9_stuff_71 : decode cX9_stuff 71 = .ok (.iconst 0, 1) := by decide +kernel
theorem dX9_stuff_72 : decode cX9_stuff 72 = .ok (.invokevirtual 262, 3) := by decide +kernel
theorem dX9_stuff_75 : decode cX9_stuff 75 = .ok (.aload_n 0, 1) := by decide +kernel
theorem dX9_stuff_76 : decode cX9_stuff 76 = .ok (.getfield 10, 3) := by decide +kernel
theorem dX9_stuff_79 : decode cX9_stuff 79 = .ok (.getfield 204, 3) := by decide +kernel
theorem dX9_stuff_82 : decode cX9_stuff 82 = .ok (.getfield 238, 3) := by decide +kernel
theorem dX9_stuff_85 : decode cX9_stuff 85 = .ok (.iconst 3, 1) := by decide +kernel
theorem dX9_stuff_86 : decode cX9_stuff 86 = .ok (.dup2, 1) := by decide +kernel
theorem dX9_stuff_87 : decode cX9_stuff 87 = .ok (.iaload, 1) := by decide +kernel
theorem dX9_stuff_88 : decode cX9_stuff 88 = .ok (.iconst 1, 1) := by decide +kernel
theorem dX9_stuff_89 : decode cX9_stuff 89 = .ok (.iadd, 1) := by decide +kernel
theorem dX9_stuff_90 : decode cX9_stuff 90 = .ok (.iastore, 1) := by decide +kernel
theorem dX9_stuff_91 : decode cX9_stuff 91 = .ok (.iload 5, 2) := by decide +kernel
theorem dX9_stuff_93 : decode cX9_stuff 93 = .ok (.ireturn, 1) := by decide +kernel
theorem dX9_led_0 : decode cX9_led 0 = .ok (.iload_n 1, 1) := by decide +kernel
theorem dX9_led_1 : decode cX9_led 1 = .ok (.iconst 4, 1) := by decide +kernel
theorem dX9_led_2 : decode cX9_led 2 = .ok (.invokestatic 75, 3) := by decide +kernel
theorem dX9_led_5 : decode cX9_led 5 = .ok (.ifCond .eq 18, 3) := by decide +kernel
theorem dX9_led_8 : decode cX9_led 8 = .ok (.aload_n 0, 1) := by decide +kernel
theorem dX9_led_9 : decode cX9_led 9 = .ok (.getfield 10, 3) := by decide +kernel
theorem dX9_led_12 : decode cX9_led 12 = .ok (.getfield 204, 3) := by decide +kernel
theorem dX9_led_15 : decode cX9_led 15 = .ok (.getfield 238, 3) := by decide +kernel
theorem dX9_led_18 : decode cX9_led 18 = .ok (.iload_n 1, 1) := by decide +kernel
theorem dX9_led_19 : decode cX9_led 19 = .ok (.iaload, 1) := by decide +kernel
theorem dX9_led_20 : decode cX9_led 20 = .ok (.goto 4, 3) := by decide +kernel
theorem dX9_led_23 : decode cX9_led 23 = .ok (.iconst (-1), 1) := by decide +kernel
theorem dX9_led_24 : decode cX9_led 24 = .ok (.ireturn, 1) := by decide +kernel
theorem dX9_image_0 : decode cX9_image 0 = .ok (.aload_n 0, 1) := by decide +kernel
theorem dX9_image_1 : decode cX9_image 1 = .ok (.getfield 63, 3) := by decide +kernel
theorem dX9_image_4 : decode cX9_image 4 = .ok (.aload_n 0, 1) := by decide +kernel
theorem dX9_image_5 : decode cX9_image 5 = .ok (.getfield 10, 3) := by decide +kernel
theorem dX9_image_8 : decode cX9_image 8 = .ok (.getfield 204, 3) := by decide +kernel
theorem dX9_image_11 : decode cX9_image 11 = .ok (.invokevirtual 265, 3) := by decide +kernel
theorem dX9_image_14 : decode cX9_image 14 = .ok (.aload_n 0, 1) := by decide +kernel
theorem dX9_image_15 : decode cX9_image 15 = .ok (.iconst 1, 1) := by decide +kernel
theorem dX9_image_16 : decode cX9_image 16 = .ok (.putfield 67, 3) := by decide +kernel
theorem dX9_image_19 : decode cX9_image 19 = .ok (.aload_n 0, 1) := by decide +kernel
theorem dX9_image_20 : decode cX9_image 20 = .ok (.getfield 10, 3) := by decide +kernel
theorem dX9_image_23 : decode cX9_image 23 = .ok (.getfield 204, 3) := by decide +kernel
theorem dX9_image_26 : decode cX9_image 26 = .ok (.getfield 238, 3) := by decide +kernel
theorem dX9_image_29 : decode cX9_image 29 = .ok (.iconst 0, 1) := by decide +kernel
theorem dX9_image_30 : decode cX9_image 30 = .ok (.iaload, 1) := by decide +kernel
theorem dX9_image_31 : decode cX9_image 31 = .ok (.ireturn, 1) := by decide +kernel
theorem dX9_back_0 : decode cX9_back 0 = .ok (.aload_n 0, 1) := by decide +kernel
theorem dX9_back_1 : decode cX9_back 1 = .ok (.getfield 67, 3) := by decide +kernel
theorem dX9_back_4 : decode cX9_back 4 = .ok (.ifCond .ne 6, 3) := by decide +kernel
theorem dX9_back_7 : decode cX9_back 7 = .ok (.bipush (-5), 2) := by decide +kernel
theorem dX9_back_9 : decode cX9_back 9 = .ok (.ireturn, 1) := by decide +kernel
theorem dX9_back_10 : decode cX9_back 10 = .ok (.aload_n 0, 1) := by decide +kernel
theorem dX9_back_11 : decode cX9_back 11 = .ok (.getfield 10, 3) := by decide +kernel
theorem dX9_back_14 : decode cX9_back 14 = .ok (.getfield 204, 3) := by decide +kernel
theorem dX9_back_17 : decode cX9_back 17 = .ok (.aload_n 0, 1) := by decide +kernel
theorem dX9_back_18 : decode cX9_back 18 = .ok (.getfield 63, 3) := by decide +kernel
theorem dX9_back_21 : decode cX9_back 21 = .ok (.invokevirtual 265, 3) := by decide +kernel
theorem dX9_back_24 : decode cX9_back 24 = .ok (.aload_n 0, 1) := by decide +kernel
theorem dX9_back_25 : decode cX9_back 25 = .ok (.getfield 10, 3) := by decide +kernel
theorem dX9_back_28 : decode cX9_back 28 = .ok (.getfield 204, 3) := by decide +kernel
theorem dX9_back_31 : decode cX9_back 31 = .ok (.getfield 238, 3) := by decide +kernel
theorem dX9_back_34 : decode cX9_back 34 = .ok (.iconst 0, 1) := by decide +kernel
theorem dX9_back_35 : decode cX9_back 35 = .ok (.iaload, 1) := by decide +kernel
theorem dX9_back_36 : decode cX9_back 36 = .ok (.ireturn, 1) := by decide +kernel
theorem dX9_undo_0 : decode cX9_undo 0 = .ok (.aload_n 0, 1) := by decide +kernel
theorem dX9_undo_1 : decode cX9_undo 1 = .ok (.getfield 42, 3) := by decide +kernel
theorem dX9_undo_4 : decode cX9_undo 4 = .ok (.getfield 268, 3) := by decide +kernel
theorem dX9_undo_7 : decode cX9_undo 7 = .ok (.ifCond .ne 6, 3) := by decide +kernel
theorem dX9_undo_10 : decode cX9_undo 10 = .ok (.bipush (-5), 2) := by decide +kernel
theorem dX9_undo_12 : decode cX9_undo 12 = .ok (.ireturn, 1) := by decide +kernel
theorem dX9_undo_13 : decode cX9_undo 13 = .ok (.aload_n 0, 1) := by decide +kernel
theorem dX9_undo_14 : decode cX9_undo 14 = .ok (.getfield 42, 3) := by decide +kernel
theorem dX9_undo_17 : decode cX9_undo 17 = .ok (.aload_n 0, 1) := by decide +kernel
theorem dX9_undo_18 : decode cX9_undo 18 = .ok (.getfield 10, 3) := by decide +kernel
theorem dX9_undo_21 : decode cX9_undo 21 = .ok (.invokevirtual 271, 3) := by decide +kernel
theorem dX9_undo_24 : decode cX9_undo 24 = .ok (.aload_n 0, 1) := by decide +kernel
theorem dX9_undo_25 : decode cX9_undo 25 = .ok (.getfield 42, 3) := by decide +kernel
theorem dX9_undo_28 : decode cX9_undo 28 = .ok (.getfield 268, 3) := by decide +kernel
theorem dX9_undo_31 : decode cX9_undo 31 = .ok (.ireturn, 1) := by decide +kernel
theorem dX9_redo_0 : decode cX9_redo 0 = .ok (.aload_n 0, 1) := by decide +kernel
theorem dX9_redo_1 : decode cX9_redo 1 = .ok (.getfield 42, 3) := by decide +kernel
theorem dX9_redo_4 : decode cX9_redo 4 = .ok (.getfield 274, 3) := by decide +kernel
theorem dX9_redo_7 : decode cX9_redo 7 = .ok (.ifCond .ne 6, 3) := by decide +kernel
theorem dX9_redo_10 : decode cX9_redo 10 = .ok (.bipush (-5), 2) := by decide +kernel
theorem dX9_redo_12 : decode cX9_redo 12 = .ok (.ireturn, 1) := by decide +kernel
theorem dX9_redo_13 : decode cX9_redo 13 = .ok (.aload_n 0, 1) := by decide +kernel
theorem dX9_redo_14 : decode cX9_redo 14 = .ok (.getfield 42, 3) := by decide +kernel
theorem dX9_redo_17 : decode cX9_redo 17 = .ok (.aload_n 0, 1) := by decide +kernel
theorem dX9_redo_18 : decode cX9_redo 18 = .ok (.getfield 10, 3) := by decide +kernel
theorem dX9_redo_21 : decode cX9_redo 21 = .ok (.invokevirtual 277, 3) := by decide +kernel
theorem dX9_redo_24 : decode cX9_redo 24 = .ok (.aload_n 0, 1) := by decide +kernel
theorem dX9_redo_25 : decode cX9_redo 25 = .ok (.getfield 42, 3) := by decide +kernel
theorem dX9_redo_28 : decode cX9_redo 28 = .ok (.getfield 274, 3) := by decide +kernel
theorem dX9_redo_31 : decode cX9_redo 31 = .ok (.ireturn, 1) := by decide +kernel
theorem dX9_body_0 : decode cX9_body 0 = .ok (.iload_n 1, 1) := by decide +kernel
theorem dX9_body_1 : decode cX9_body 1 = .ok (.invokestatic 280, 3) := by decide +kernel
theorem dX9_body_4 : decode cX9_body 4 = .ok (.ifCond .eq 14, 3) := by decide +kernel
theorem dX9_body_7 : decode cX9_body 7 = .ok (.aload_n 0, 1) := by decide +kernel
theorem dX9_body_8 : decode cX9_body 8 = .ok (.getfield 49, 3) := by decide +kernel
theorem dX9_body_11 : decode cX9_body 11 = .ok (.iload_n 1, 1) := by decide +kernel
theorem dX9_body_12 : decode cX9_body 12 = .ok (.invokevirtual 283, 3) := by decide +kernel
theorem dX9_body_15 : decode cX9_body 15 = .ok (.goto 4, 3) := by decide +kernel
theorem dX9_body_18 : decode cX9_body 18 = .ok (.iconst (-1), 1) := by decide +kernel
theorem dX9_body_19 : decode cX9_body 19 = .ok (.ireturn, 1) := by decide +kernel
theorem dX9_act_0 : decode cX9_act 0 = .ok (.aload_n 0, 1) := by decide +kernel
theorem dX9_act_1 : decode cX9_act 1 = .ok (.getfield 49, 3) := by decide +kernel
theorem dX9_act_4 : decode cX9_act 4 = .ok (.iload_n 1, 1) := by decide +kernel
theorem dX9_act_5 : decode cX9_act 5 = .ok (.iload_n 2, 1) := by decide +kernel
theorem dX9_act_6 : decode cX9_act 6 = .ok (.iload_n 3, 1) := by decide +kernel
theorem dX9_act_7 : decode cX9_act 7 = .ok (.invokevirtual 286, 3) := by decide +kernel
theorem dX9_act_10 : decode cX9_act 10 = .ok (.ireturn, 1) := by decide +kernel
theorem dX9_trace_0 : decode cX9_trace 0 = .ok (.iload_n 1, 1) := by decide +kernel
theorem dX9_trace_1 : decode cX9_trace 1 = .ok (.ifCond .lt 32, 3) := by decide +kernel
theorem dX9_trace_4 : decode cX9_trace 4 = .ok (.iload_n 1, 1) := by decide +kernel
theorem dX9_trace_5 : decode cX9_trace 5 = .ok (.aload_n 0, 1) := by decide +kernel
theorem dX9_trace_6 : decode cX9_trace 6 = .ok (.getfield 49, 3) := by decide +kernel
theorem dX9_trace_9 : decode cX9_trace 9 = .ok (.getfield 289, 3) := by decide +kernel
theorem dX9_trace_12 : decode cX9_trace 12 = .ok (.if_icmp .ge 21, 3) := by decide +kernel
theorem dX9_trace_15 : decode cX9_trace 15 = .ok (.iload_n 1, 1) := by decide +kernel
theorem dX9_trace_16 : decode cX9_trace 16 = .ok (.bipush 24, 2) := by decide +kernel
theorem dX9_trace_18 : decode cX9_trace 18 = .ok (.if_icmp .ge 15, 3) := by decide +kernel
theorem dX9_trace_21 : decode cX9_trace 21 = .ok (.aload_n 0, 1) := by decide +kernel
theorem dX9_trace_22 : decode cX9_trace 22 = .ok (.getfield 49, 3) := by decide +kernel
theorem dX9_trace_25 : decode cX9_trace 25 = .ok (.getfield 292, 3) := by decide +kernel
theorem dX9_trace_28 : decode cX9_trace 28 = .ok (.iload_n 1, 1) := by decide +kernel
theorem dX9_trace_29 : decode cX9_trace 29 = .ok (.iaload, 1) := by decide +kernel
theorem dX9_trace_30 : decode cX9_trace 30 = .ok (.goto 4, 3) := by decide +kernel
theorem dX9_trace_33 : decode cX9_trace 33 = .ok (.iconst (-1), 1) := by decide +kernel
theorem dX9_trace_34 : decode cX9_trace 34 = .ok (.ireturn, 1) := by decide +kernel
theorem dX9_keep_0 : decode cX9_keep 0 = .ok (.iload_n 1, 1) := by decide +kernel
theorem dX9_keep_1 : decode cX9_keep 1 = .ok (.invokestatic 83, 3) := by decide +kernel
theorem dX9_keep_4 : decode cX9_keep 4 = .ok (.ifCond .eq 19, 3) := by decide +kernel
theorem dX9_keep_7 : decode cX9_keep 7 = .ok (.iload_n 2, 1) := by decide +kernel
theorem dX9_keep_8 : decode cX9_keep 8 = .ok (.iconst (-1), 1) := by decide +kernel
theorem dX9_keep_9 : decode cX9_keep 9 = .ok (.if_icmp .eq 16, 3) := by decide +kernel
theorem dX9_keep_12 : decode cX9_keep 12 = .ok (.aload_n 0, 1) := by decide +kernel
theorem dX9_keep_13 : decode cX9_keep 13 = .ok (.getfield 49, 3) := by decide +kernel
theorem dX9_keep_16 : decode cX9_keep 16 = .ok (.iload_n 2, 1) := by decide +kernel
theorem dX9_keep_17 : decode cX9_keep 17 = .ok (.invokevirtual 295, 3) := by decide +kernel
theorem dX9_keep_20 : decode cX9_keep 20 = .ok (.ifCond .ne 5, 3) := by decide +kernel
theorem dX9_keep_23 : decode cX9_keep 23 = .ok (.iconst (-1), 1) := by decide +kernel
theorem dX9_keep_24 : decode cX9_keep 24 = .ok (.ireturn, 1) := by decide +kernel
theorem dX9_keep_25 : decode cX9_keep 25 = .ok (.aload_n 0, 1) := by decide +kernel
theorem dX9_keep_26 : decode cX9_keep 26 = .ok (.getfield 55, 3) := by decide +kernel
theorem dX9_keep_29 : decode cX9_keep 29 = .ok (.iload_n 1, 1) := by decide +kernel
theorem dX9_keep_30 : decode cX9_keep 30 = .ok (.aaload, 1) := by decide +kernel
theorem dX9_keep_31 : decode cX9_keep 31 = .ok (.iload_n 2, 1) := by decide +kernel
theorem dX9_keep_32 : decode cX9_keep 32 = .ok (.invokevirtual 298, 3) := by decide +kernel
theorem dX9_keep_35 : decode cX9_keep 35 = .ok (.iconst 1, 1) := by decide +kernel
theorem dX9_keep_36 : decode cX9_keep 36 = .ok (.ireturn, 1) := by decide +kernel
theorem dX9_row_0 : decode cX9_row 0 = .ok (.iload_n 1, 1) := by decide +kernel
theorem dX9_row_1 : decode cX9_row 1 = .ok (.invokestatic 83, 3) := by decide +kernel
theorem dX9_row_4 : decode cX9_row 4 = .ok (.ifCond .eq 17, 3) := by decide +kernel
theorem dX9_row_7 : decode cX9_row 7 = .ok (.iload_n 2, 1) := by decide +kernel
theorem dX9_row_8 : decode cX9_row 8 = .ok (.iconst 4, 1) := by decide +kernel
theorem dX9_row_9 : decode cX9_row 9 = .ok (.invokestatic 75, 3) := by decide +kernel
theorem dX9_row_12 : decode cX9_row 12 = .ok (.ifCond .eq 9, 3) := by decide +kernel
theorem dX9_row_15 : decode cX9_row 15 = .ok (.iload_n 3, 1) := by decide +kernel
theorem dX9_row_16 : decode cX9_row 16 = .ok (.bipush 60, 2) := by decide +kernel
theorem dX9_row_18 : decode cX9_row 18 = .ok (.if_icmp .le 5, 3) := by decide +kernel
theorem dX9_row_21 : decode cX9_row 21 = .ok (.iconst (-1), 1) := by decide +kernel
theorem dX9_row_22 : decode cX9_row 22 = .ok (.ireturn, 1) := by decide +kernel
theorem dX9_row_23 : decode cX9_row 23 = .ok (.iload_n 3, 1) := by decide +kernel
theorem dX9_row_24 : decode cX9_row 24 = .ok (.ifCond .ge 6, 3) := by decide +kernel
theorem dX9_row_27 : decode cX9_row 27 = .ok (.bipush (-14), 2) := by decide +kernel
theorem dX9_row_29 : decode cX9_row 29 = .ok (.ireturn, 1) := by decide +kernel
theorem dX9_row_30 : decode cX9_row 30 = .ok (.aload_n 0, 1) := by decide +kernel
theorem dX9_row_31 : decode cX9_row 31 = .ok (.getfield 55, 3) := by decide +kernel
theorem dX9_row_34 : decode cX9_row 34 = .ok (.iload_n 1, 1) := by decide +kernel
theorem dX9_row_35 : decode cX9_row 35 = .ok (.aaload, 1) := by decide +kernel
theorem dX9_row_36 : decode cX9_row 36 = .ok (.iload_n 2, 1) := by decide +kernel
theorem dX9_row_37 : decode cX9_row 37 = .ok (.iload_n 3, 1) := by decide +kernel
theorem dX9_row_38 : decode cX9_row 38 = .ok (.invokevirtual 301, 3) := by decide +kernel
theorem dX9_row_41 : decode cX9_row 41 = .ok (.iconst 1, 1) := by decide +kernel
theorem dX9_row_42 : decode cX9_row 42 = .ok (.ireturn, 1) := by decide +kernel
theorem dX9_put_0 : decode cX9_put 0 = .ok (.aload_n 0, 1) := by decide +kernel
theorem dX9_put_1 : decode cX9_put 1 = .ok (.iload_n 1, 1) := by decide +kernel
theorem dX9_put_2 : decode cX9_put 2 = .ok (.iload_n 2, 1) := by decide +kernel
theorem dX9_put_3 : decode cX9_put 3 = .ok (.invokevirtual 304, 3) := by decide +kernel
theorem dX9_put_6 : decode cX9_put 6 = .ok (.istore 5, 2) := by decide +kernel
theorem dX9_put_8 : decode cX9_put 8 = .ok (.iload 5, 2) := by decide +kernel
theorem dX9_put_10 : decode cX9_put 10 = .ok (.ifCond .ge 6, 3) := by decide +kernel
theorem dX9_put_13 : decode cX9_put 13 = .ok (.iload 5, 2) := by decide +kernel
theorem dX9_put_15 : decode cX9_put 15 = .ok (.ireturn, 1) := by decide +kernel
theorem dX9_put_16 : decode cX9_put 16 = .ok (.aload_n 0, 1) := by decide +kernel
theorem dX9_put_17 : decode cX9_put 17 = .ok (.getfield 55, 3) := by decide +kernel
theorem dX9_put_20 : decode cX9_put 20 = .ok (.iload_n 1, 1) := by decide +kernel
theorem dX9_put_21 : decode cX9_put 21 = .ok (.aaload, 1) := by decide +kernel
theorem dX9_put_22 : decode cX9_put 22 = .ok (.getfield 307, 3) := by decide +kernel
theorem dX9_put_25 : decode cX9_put 25 = .ok (.iload_n 2, 1) := by decide +kernel
theorem dX9_put_26 : decode cX9_put 26 = .ok (.aload_n 0, 1) := by decide +kernel
theorem dX9_put_27 : decode cX9_put 27 = .ok (.getfield 55, 3) := by decide +kernel
theorem dX9_put_30 : decode cX9_put 30 = .ok (.iload_n 1, 1) := by decide +kernel
theorem dX9_put_31 : decode cX9_put 31 = .ok (.aaload, 1) := by decide +kernel
theorem dX9_put_32 : decode cX9_put 32 = .ok (.getfield 87, 3) := by decide +kernel
theorem dX9_put_35 : decode cX9_put 35 = .ok (.lload_n 3, 1) := by decide +kernel
theorem dX9_put_36 : decode cX9_put 36 = .ok (.invokestatic 311, 3) := by decide +kernel
theorem dX9_put_39 : decode cX9_put 39 = .ok (.lastore, 1) := by decide +kernel
theorem dX9_put_40 : decode cX9_put 40 = .ok (.iconst 1, 1) := by decide +kernel
theorem dX9_put_41 : decode cX9_put 41 = .ok (.ireturn, 1) := by decide +kernel
theorem dX9_element_0 : decode cX9_element 0 = .ok (.aload_n 0, 1) := by decide +kernel
theorem dX9_element_1 : decode cX9_element 1 = .ok (.iload_n 1, 1) := by decide +kernel
theorem dX9_element_2 : decode cX9_element 2 = .ok (.iload_n 2, 1) := by decide +kernel
theorem dX9_element_3 : decode cX9_element 3 = .ok (.invokevirtual 304, 3) := by decide +kernel
theorem dX9_element_6 : decode cX9_element 6 = .ok (.ifCond .ge 9, 3) := by decide +kernel
theorem dX9_element_9 : decode cX9_element 9 = .ok (.ldc2_w 317, 3) := by decide +kernel
theorem dX9_element_12 : decode cX9_element 12 = .ok (.goto 14, 3) := by decide +kernel
theorem dX9_element_15 : decode cX9_element 15 = .ok (.aload_n 0, 1) := by decide +kernel
theorem dX9_element_16 : decode cX9_element 16 = .ok (.getfield 55, 3) := by decide +kernel
theorem dX9_element_19 : decode cX9_element 19 = .ok (.iload_n 1, 1) := by decide +kernel
theorem dX9_element_20 : decode cX9_element 20 = .ok (.aaload, 1) := by decide +kernel
theorem dX9_element_21 : decode cX9_element 21 = .ok (.getfield 307, 3) := by decide +kernel
theorem dX9_element_24 : decode cX9_element 24 = .ok (.iload_n 2, 1) := by decide +kernel
theorem dX9_element_25 : decode cX9_element 25 = .ok (.laload, 1) := by decide +kernel
theorem dX9_element_26 : decode cX9_element 26 = .ok (.lreturn, 1) := by decide +kernel
theorem dX9_shift_0 : decode cX9_shift 0 = .ok (.iload_n 1, 1) := by decide +kernel
theorem dX9_shift_1 : decode cX9_shift 1 = .ok (.invokestatic 83, 3) := by decide +kernel
theorem dX9_shift_4 : decode cX9_shift 4 = .ok (.ifCond .eq 10, 3) := by decide +kernel
theorem dX9_shift_7 : decode cX9_shift 7 = .ok (.iload_n 3, 1) := by decide +kernel
theorem dX9_shift_8 : decode cX9_shift 8 = .ok (.invokestatic 83, 3) := by decide +kernel
theorem dX9_shift_11 : decode cX9_shift 11 = .ok (.ifCond .ne 5, 3) := by decide +kernel
theorem dX9_shift_14 : decode cX9_shift 14 = .ok (.iconst (-1), 1) := by decide +kernel
theorem dX9_shift_15 : decode cX9_shift 15 = .ok (.ireturn, 1) := by decide +kernel
theorem dX9_shift_16 : decode cX9_shift 16 = .ok (.aload_n 0, 1) := by decide +kernel
theorem dX9_shift_17 : decode cX9_shift 17 = .ok (.getfield 55, 3) := by decide +kernel
theorem dX9_shift_20 : decode cX9_shift 20 = .ok (.iload_n 1, 1) := by decide +kernel
theorem dX9_shift_21 : decode cX9_shift 21 = .ok (.aaload, 1) := by decide +kernel
theorem dX9_shift_22 : decode cX9_shift 22 = .ok (.astore 6, 2) := by decide +kernel
theorem dX9_shift_24 : decode cX9_shift 24 = .ok (.aload_n 0, 1) := by decide +kernel
theorem dX9_shift_25 : decode cX9_shift 25 = .ok (.getfield 55, 3) := by decide +kernel
theorem dX9_shift_28 : decode cX9_shift 28 = .ok (.iload_n 3, 1) := by decide +kernel
theorem dX9_shift_29 : decode cX9_shift 29 = .ok (.aaload, 1) := by decide +kernel
theorem dX9_shift_30 : decode cX9_shift 30 = .ok (.astore 7, 2) := by decide +kernel
theorem dX9_shift_32 : decode cX9_shift 32 = .ok (.aload 6, 2) := by decide +kernel
theorem dX9_shift_34 : decode cX9_shift 34 = .ok (.getfield 87, 3) := by decide +kernel
theorem dX9_shift_37 : decode cX9_shift 37 = .ok (.bipush (-2), 2) := by decide +kernel
theorem dX9_shift_39 : decode cX9_shift 39 = .ok (.if_icmp .eq 13, 3) := by decide +kernel
theorem dX9_shift_42 : decode cX9_shift 42 = .ok (.aload 7, 2) := by decide +kernel
theorem dX9_shift_44 : decode cX9_shift 44 = .ok (.getfield 87, 3) := by decide +kernel
theorem dX9_shift_47 : decode cX9_shift 47 = .ok (.bipush (-2), 2) := by decide +kernel
theorem dX9_shift_49 : decode cX9_shift 49 = .ok (.if_icmp .ne 6, 3) := by decide +kernel
theorem dX9_shift_52 : decode cX9_shift 52 = .ok (.bipush (-11), 2) := by decide +kernel
theorem dX9_shift_54 : decode cX9_shift 54 = .ok (.ireturn, 1) := by decide +kernel
theorem dX9_shift_55 : decode cX9_shift 55 = .ok (.aload 6, 2) := by decide +kernel
theorem dX9_shift_57 : decode cX9_shift 57 = .ok (.invokevirtual 319, 3) := by decide +kernel
theorem dX9_shift_60 : decode cX9_shift 60 = .ok (.ifCond .eq 16, 3) := by decide +kernel
theorem dX9_shift_63 : decode cX9_shift 63 = .ok (.aload 6, 2) := by decide +kernel
theorem dX9_shift_65 : decode cX9_shift 65 = .ok (.getfield 87, 3) := by decide +kernel
theorem dX9_shift_68 : decode cX9_shift 68 = .ok (.aload 7, 2) := by decide +kernel
theorem dX9_shift_70 : decode cX9_shift 70 = .ok (.getfield 87, 3) := by decide +kernel
theorem dX9_shift_73 : decode cX9_shift 73 = .ok (.if_icmp .eq 6, 3) := by decide +kernel
theorem dX9_shift_76 : decode cX9_shift 76 = .ok (.bipush (-12), 2) := by decide +kernel
theorem dX9_shift_78 : decode cX9_shift 78 = .ok (.ireturn, 1) := by decide +kernel
theorem dX9_shift_79 : decode cX9_shift 79 = .ok (.aload 6, 2) := by decide +kernel
theorem dX9_shift_81 : decode cX9_shift 81 = .ok (.iload_n 2, 1) := by decide +kernel
theorem dX9_shift_82 : decode cX9_shift 82 = .ok (.iload 5, 2) := by decide +kernel
theorem dX9_shift_84 : decode cX9_shift 84 = .ok (.invokevirtual 323, 3) := by decide +kernel
theorem dX9_shift_87 : decode cX9_shift 87 = .ok (.ifCond .eq 15, 3) := by decide +kernel
theorem dX9_shift_90 : decode cX9_shift 90 = .ok (.aload 7, 2) := by decide +kernel
theorem dX9_shift_92 : decode cX9_shift 92 = .ok (.iload 4, 2) := by decide +kernel
theorem dX9_shift_94 : decode cX9_shift 94 = .ok (.iload 5, 2) := by decide +kernel
theorem dX9_shift_96 : decode cX9_shift 96 = .ok (.invokevirtual 323, 3) := by decide +kernel
theorem dX9_shift_99 : decode cX9_shift 99 = .ok (.ifCond .ne 6, 3) := by decide +kernel
theorem dX9_shift_102 : decode cX9_shift 102 = .ok (.bipush (-13), 2) := by decide +kernel
theorem dX9_shift_104 : decode cX9_shift 104 = .ok (.ireturn, 1) := by decide +kernel
theorem dX9_shift_105 : decode cX9_shift 105 = .ok (.aload 6, 2) := by decide +kernel
theorem dX9_shift_107 : decode cX9_shift 107 = .ok (.getfield 307, 3) := by decide +kernel
theorem dX9_shift_110 : decode cX9_shift 110 = .ok (.iload_n 2, 1) := by decide +kernel
theorem dX9_shift_111 : decode cX9_shift 111 = .ok (.aload 7, 2) := by decide +kernel
theorem dX9_shift_113 : decode cX9_shift 113 = .ok (.getfield 307, 3) := by decide +kernel
theorem dX9_shift_116 : decode cX9_shift 116 = .ok (.iload 4, 2) := by decide +kernel
theorem dX9_shift_118 : decode cX9_shift 118 = .ok (.iload 5, 2) := by decide +kernel
theorem dX9_shift_120 : decode cX9_shift 120 = .ok (.invokestatic 326, 3) := by decide +kernel
theorem dX9_shift_123 : decode cX9_shift 123 = .ok (.iload 5, 2) := by decide +kernel
theorem dX9_shift_125 : decode cX9_shift 125 = .ok (.ireturn, 1) := by decide +kernel
theorem dX9_taken_0 : decode cX9_taken 0 = .ok (.iload_n 1, 1) := by decide +kernel
theorem dX9_taken_1 : decode cX9_taken 1 = .ok (.invokestatic 83, 3) := by decide +kernel
theorem dX9_taken_4 : decode cX9_taken 4 = .ok (.ifCond .eq 10, 3) := by decide +kernel
theorem dX9_taken_7 : decode cX9_taken 7 = .ok (.iload_n 2, 1) := by decide +kernel
theorem dX9_taken_8 : decode cX9_taken 8 = .ok (.invokestatic 280, 3) := by decide +kernel
theorem dX9_taken_11 : decode cX9_taken 11 = .ok (.ifCond .ne 5, 3) := by decide +kernel
theorem dX9_taken_14 : decode cX9_taken 14 = .ok (.iconst (-1), 1) := by decide +kernel
theorem dX9_taken_15 : decode cX9_taken 15 = .ok (.ireturn, 1) := by decide +kernel
theorem dX9_taken_16 : decode cX9_taken 16 = .ok (.aload_n 0, 1) := by decide +kernel
theorem dX9_taken_17 : decode cX9_taken 17 = .ok (.getfield 55, 3) := by decide +kernel
theorem dX9_taken_20 : decode cX9_taken 20 = .ok (.iload_n 1, 1) := by decide +kernel
theorem dX9_taken_21 : decode cX9_taken 21 = .ok (.aaload, 1) := by decide +kernel
theorem dX9_taken_22 : decode cX9_taken 22 = .ok (.astore_n 3, 1) := by decide +kernel
theorem dX9_taken_23 : decode cX9_taken 23 = .ok (.aload_n 3, 1) := by decide +kernel
theorem dX9_taken_24 : decode cX9_taken 24 = .ok (.getfield 87, 3) := by decide +kernel
theorem dX9_taken_27 : decode cX9_taken 27 = .ok (.bipush (-2), 2) := by decide +kernel
theorem dX9_taken_29 : decode cX9_taken 29 = .ok (.if_icmp .ne 6, 3) := by decide +kernel
theorem dX9_taken_32 : decode cX9_taken 32 = .ok (.bipush (-11), 2) := by decide +kernel
theorem dX9_taken_34 : decode cX9_taken 34 = .ok (.ireturn, 1) := by decide +kernel
theorem dX9_taken_35 : decode cX9_taken 35 = .ok (.aload_n 3, 1) := by decide +kernel
theorem dX9_taken_36 : decode cX9_taken 36 = .ok (.getfield 87, 3) := by decide +kernel
theorem dX9_taken_39 : decode cX9_taken 39 = .ok (.iconst (-1), 1) := by decide +kernel
theorem dX9_taken_40 : decode cX9_taken 40 = .ok (.if_icmp .ne 18, 3) := by decide +kernel
theorem dX9_taken_43 : decode cX9_taken 43 = .ok (.aload_n 0, 1) := by decide +kernel
theorem dX9_taken_44 : decode cX9_taken 44 = .ok (.getfield 49, 3) := by decide +kernel
theorem dX9_taken_47 : decode cX9_taken 47 = .ok (.aload_n 3, 1) := by decide +kernel
theorem dX9_taken_48 : decode cX9_taken 48 = .ok (.getfield 332, 3) := by decide +kernel
theorem dX9_taken_51 : decode cX9_taken 51 = .ok (.iload_n 2, 1) := by decide +kernel
theorem dX9_taken_52 : decode cX9_taken 52 = .ok (.invokevirtual 335, 3) := by decide +kernel
theorem dX9_taken_55 : decode cX9_taken 55 = .ok (.ifCond .ne 6, 3) := by decide +kernel
theorem dX9_taken_58 : decode cX9_taken 58 = .ok (.bipush (-12), 2) := by decide +kernel
theorem dX9_taken_60 : decode cX9_taken 60 = .ok (.ireturn, 1) := by decide +kernel
theorem dX9_taken_61 : decode cX9_taken 61 = .ok (.aload_n 0, 1) := by decide +kernel
theorem dX9_taken_62 : decode cX9_taken 62 = .ok (.getfield 49, 3) := by decide +kernel
theorem dX9_taken_65 : decode cX9_taken 65 = .ok (.getfield 338, 3) := by decide +kernel
theorem dX9_taken_68 : decode cX9_taken 68 = .ok (.aload_n 3, 1) := by decide +kernel
theorem dX9_taken_69 : decode cX9_taken 69 = .ok (.getfield 332, 3) := by decide +kernel
theorem dX9_taken_72 : decode cX9_taken 72 = .ok (.iaload, 1) := by decide +kernel
theorem dX9_taken_73 : decode cX9_taken 73 = .ok (.ireturn, 1) := by decide +kernel
theorem dX9_count_0 : decode cX9_count 0 = .ok (.iload_n 1, 1) := by decide +kernel
theorem dX9_count_1 : decode cX9_count 1 = .ok (.tableswitch 90 0 5 #[39, 47, 58, 66, 74, 82], 39) := by decide +kernel
theorem dX9_count_40 : decode cX9_count 40 = .ok (.aload_n 0, 1) := by decide +kernel
theorem dX9_count_41 : decode cX9_count 41 = .ok (.getfield 10, 3) := by decide +kernel
theorem dX9_count_44 : decode cX9_count 44 = .ok (.getfield 341, 3) := by decide +kernel
theorem dX9_count_47 : decode cX9_count 47 = .ok (.ireturn, 1) := by decide +kernel
theorem dX9_count_48 : decode cX9_count 48 = .ok (.aload_n 0, 1) := by decide +kernel
theorem dX9_count_49 : decode cX9_count 49 = .ok (.getfield 10, 3) := by decide +kernel
theorem dX9_count_52 : decode cX9_count 52 = .ok (.getfield 204, 3) := by decide +kernel
theorem dX9_count_55 : decode cX9_count 55 = .ok (.invokevirtual 344, 3) := by decide +kernel
theorem dX9_count_58 : decode cX9_count 58 = .ok (.ireturn, 1) := by decide +kernel
theorem dX9_count_59 : decode cX9_count 59 = .ok (.aload_n 0, 1) := by decide +kernel
theorem dX9_count_60 : decode cX9_count 60 = .ok (.getfield 19, 3) := by decide +kernel
theorem dX9_count_63 : decode cX9_count 63 = .ok (.getfield 113, 3) := by decide +kernel
theorem dX9_count_66 : decode cX9_count 66 = .ok (.ireturn, 1) := by decide +kernel
theorem dX9_count_67 : decode cX9_count 67 = .ok (.aload_n 0, 1) := by decide +kernel
theorem dX9_count_68 : decode cX9_count 68 = .ok (.getfield 42, 3) := by decide +kernel
theorem dX9_count_71 : decode cX9_count 71 = .ok (.getfield 268, 3) := by decide +kernel
theorem dX9_count_74 : decode cX9_count 74 = .ok (.ireturn, 1) := by decide +kernel
theorem dX9_count_75 : decode cX9_count 75 = .ok (.aload_n 0, 1) := by decide +kernel
theorem dX9_count_76 : decode cX9_count 76 = .ok (.getfield 49, 3) := by decide +kernel
theorem dX9_count_79 : decode cX9_count 79 = .ok (.getfield 348, 3) := by decide +kernel
theorem dX9_count_82 : decode cX9_count 82 = .ok (.ireturn, 1) := by decide +kernel
theorem dX9_count_83 : decode cX9_count 83 = .ok (.aload_n 0, 1) := by decide +kernel
theorem dX9_count_84 : decode cX9_count 84 = .ok (.getfield 49, 3) := by decide +kernel
theorem dX9_count_87 : decode cX9_count 87 = .ok (.getfield 289, 3) := by decide +kernel
theorem dX9_count_90 : decode cX9_count 90 = .ok (.ireturn, 1) := by decide +kernel
theorem dX9_count_91 : decode cX9_count 91 = .ok (.iconst (-1), 1) := by decide +kernel
theorem dX9_count_92 : decode cX9_count 92 = .ok (.ireturn, 1) := by decide +kernel
theorem dX9_within_0 : decode cX9_within 0 = .ok (.iload_n 0, 1) := by decide +kernel
theorem dX9_within_1 : decode cX9_within 1 = .ok (.ifCond .lt 12, 3) := by decide +kernel
theorem dX9_within_4 : decode cX9_within 4 = .ok (.iload_n 0, 1) := by decide +kernel
theorem dX9_within_5 : decode cX9_within 5 = .ok (.iload_n 1, 1) := by decide +kernel
theorem dX9_within_6 : decode cX9_within 6 = .ok (.if_icmp .gt 7, 3) := by decide +kernel
theorem dX9_within_9 : decode cX9_within 9 = .ok (.iconst 1, 1) := by decide +kernel
theorem dX9_within_10 : decode cX9_within 10 = .ok (.goto 4, 3) := by decide +kernel
theorem dX9_within_13 : decode cX9_within 13 = .ok (.iconst 0, 1) := by decide +kernel
theorem dX9_within_14 : decode cX9_within 14 = .ok (.ireturn, 1) := by decide +kernel
theorem dX9_isSquare_0 : decode cX9_isSquare 0 = .ok (.iload_n 0, 1) := by decide +kernel
theorem dX9_isSquare_1 : decode cX9_isSquare 1 = .ok (.ifCond .lt 13, 3) := by decide +kernel
theorem dX9_isSquare_4 : decode cX9_isSquare 4 = .ok (.iload_n 0, 1) := by decide +kernel
theorem dX9_isSquare_5 : decode cX9_isSquare 5 = .ok (.bipush 30, 2) := by decide +kernel
theorem dX9_isSquare_7 : decode cX9_isSquare 7 = .ok (.if_icmp .ge 7, 3) := by decide +kernel
theorem dX9_isSquare_10 : decode cX9_isSquare 10 = .ok (.iconst 1, 1) := by decide +kernel
theorem dX9_isSquare_11 : decode cX9_isSquare 11 = .ok (.goto 4, 3) := by decide +kernel
theorem dX9_isSquare_14 : decode cX9_isSquare 14 = .ok (.iconst 0, 1) := by decide +kernel
theorem dX9_isSquare_15 : decode cX9_isSquare 15 = .ok (.ireturn, 1) := by decide +kernel
theorem dX9_isShelf_0 : decode cX9_isShelf 0 = .ok (.iload_n 0, 1) := by decide +kernel
theorem dX9_isShelf_1 : decode cX9_isShelf 1 = .ok (.ifCond .lt 13, 3) := by decide +kernel
theorem dX9_isShelf_4 : decode cX9_isShelf 4 = .ok (.iload_n 0, 1) := by decide +kernel
theorem dX9_isShelf_5 : decode cX9_isShelf 5 = .ok (.bipush 6, 2) := by decide +kernel
theorem dX9_isShelf_7 : decode cX9_isShelf 7 = .ok (.if_icmp .ge 7, 3) := by decide +kernel
theorem dX9_isShelf_10 : decode cX9_isShelf 10 = .ok (.iconst 1, 1) := by decide +kernel
theorem dX9_isShelf_11 : decode cX9_isShelf 11 = .ok (.goto 4, 3) := by decide +kernel
theorem dX9_isShelf_14 : decode cX9_isShelf 14 = .ok (.iconst 0, 1) := by decide +kernel
theorem dX9_isShelf_15 : decode cX9_isShelf 15 = .ok (.ireturn, 1) := by decide +kernel
theorem dX9_houseCame_0 : decode cX9_houseCame 0 = .ok (.aload_n 1, 1) := by decide +kernel
theorem dX9_houseCame_1 : decode cX9_houseCame 1 = .ok (.getfield 351, 3) := by decide +kernel
theorem dX9_houseCame_4 : decode cX9_houseCame 4 = .ok (.iconst 3, 1) := by decide +kernel
theorem dX9_houseCame_5 : decode cX9_houseCame 5 = .ok (.iload_n 3, 1) := by decide +kernel
theorem dX9_houseCame_6 : decode cX9_houseCame 6 = .ok (.imul, 1) := by decide +kernel
theorem dX9_houseCame_7 : decode cX9_houseCame 7 = .ok (.isub, 1) := by decide +kernel
theorem dX9_houseCame_8 : decode cX9_houseCame 8 = .ok (.iconst 2, 1) := by decide +kernel
theorem dX9_houseCame_9 : decode cX9_houseCame 9 = .ok (.isub, 1) := by decide +kernel
theorem dX9_houseCame_10 : decode cX9_houseCame 10 = .ok (.istore 4, 2) := by decide +kernel
theorem dX9_houseCame_12 : decode cX9_houseCame 12 = .ok (.iload_n 2, 1) := by decide +kernel
theorem dX9_houseCame_13 : decode cX9_houseCame 13 = .ok (.ifCond .lt 17, 3) := by decide +kernel
theorem dX9_houseCame_16 : decode cX9_houseCame 16 = .ok (.iload_n 2, 1) := by decide +kernel
theorem dX9_houseCame_17 : decode cX9_houseCame 17 = .ok (.iload 4, 2) := by decide +kernel
theorem dX9_houseCame_19 : decode cX9_houseCame 19 = .ok (.if_icmp .ge 11, 3) := by decide +kernel
theorem dX9_houseCame_22 : decode cX9_houseCame 22 = .ok (.aload_n 1, 1) := by decide +kernel
theorem dX9_houseCame_23 : decode cX9_houseCame 23 = .ok (.getfield 87, 3) := by decide +kernel
theorem dX9_houseCame_26 : decode cX9_houseCame 26 = .ok (.iconst 1, 1) := by decide +kernel
theorem dX9_houseCame_27 : decode cX9_houseCame 27 = .ok (.if_icmp .eq 5, 3) := by decide +kernel
theorem dX9_houseCame_30 : decode cX9_houseCame 30 = .ok (.iconst 0, 1) := by decide +kernel
theorem dX9_houseCame_31 : decode cX9_houseCame 31 = .ok (.ireturn, 1) := by decide +kernel
theorem dX9_houseCame_32 : decode cX9_houseCame 32 = .ok (.iload_n 2, 1) := by decide +kernel
theorem dX9_houseCame_33 : decode cX9_houseCame 33 = .ok (.iconst 3, 1) := by decide +kernel
theorem dX9_houseCame_34 : decode cX9_houseCame 34 = .ok (.iload_n 3, 1) := by decide +kernel
theorem dX9_houseCame_35 : decode cX9_houseCame 35 = .ok (.imul, 1) := by decide +kernel
theorem dX9_houseCame_36 : decode cX9_houseCame 36 = .ok (.iadd, 1) := by decide +kernel
theorem dX9_houseCame_37 : decode cX9_houseCame 37 = .ok (.istore 5, 2) := by decide +kernel
theorem dX9_houseCame_39 : decode cX9_houseCame 39 = .ok (.aload_n 1, 1) := by decide +kernel
theorem dX9_houseCame_40 : decode cX9_houseCame 40 = .ok (.getfield 307, 3) := by decide +kernel
theorem dX9_houseCame_43 : decode cX9_houseCame 43 = .ok (.iload 5, 2) := by decide +kernel
theorem dX9_houseCame_45 : decode cX9_houseCame 45 = .ok (.laload, 1) := by decide +kernel
theorem dX9_houseCame_46 : decode cX9_houseCame 46 = .ok (.l2i, 1) := by decide +kernel
theorem dX9_houseCame_47 : decode cX9_houseCame 47 = .ok (.istore 6, 2) := by decide +kernel
theorem dX9_houseCame_49 : decode cX9_houseCame 49 = .ok (.aload_n 1, 1) := by decide +kernel
theorem dX9_houseCame_50 : decode cX9_houseCame 50 = .ok (.getfield 307, 3) := by decide +kernel
theorem dX9_houseCame_53 : decode cX9_houseCame 53 = .ok (.iload 5, 2) := by decide +kernel
theorem dX9_houseCame_55 : decode cX9_houseCame 55 = .ok (.iconst 1, 1) := by decide +kernel
theorem dX9_houseCame_56 : decode cX9_houseCame 56 = .ok (.iadd, 1) := by decide +kernel
theorem dX9_houseCame_57 : decode cX9_houseCame 57 = .ok (.laload, 1) := by decide +kernel
theorem dX9_houseCame_58 : decode cX9_houseCame 58 = .ok (.l2i, 1) := by decide +kernel
theorem dX9_houseCame_59 : decode cX9_houseCame 59 = .ok (.istore 7, 2) := by decide +kernel
theorem dX9_houseCame_61 : decode cX9_houseCame 61 = .ok (.aload_n 1, 1) := by decide +kernel
theorem dX9_houseCame_62 : decode cX9_houseCame 62 = .ok (.getfield 307, 3) := by decide +kernel
theorem dX9_houseCame_65 : decode cX9_houseCame 65 = .ok (.iload 5, 2) := by decide +kernel
theorem dX9_houseCame_67 : decode cX9_houseCame 67 = .ok (.iconst 2, 1) := by decide +kernel
theorem dX9_houseCame_68 : decode cX9_houseCame 68 = .ok (.iadd, 1) := by decide +kernel
theorem dX9_houseCame_69 : decode cX9_houseCame 69 = .ok (.laload, 1) := by decide +kernel
theorem dX9_houseCame_70 : decode cX9_houseCame 70 = .ok (.l2i, 1) := by decide +kernel
theorem dX9_houseCame_71 : decode cX9_houseCame 71 = .ok (.istore 8, 2) := by decide +kernel
theorem dX9_houseCame_73 : decode cX9_houseCame 73 = .ok (.iload 6, 2) := by decide +kernel
theorem dX9_houseCame_75 : decode cX9_houseCame 75 = .ok (.getstatic 71, 3) := by decide +kernel
theorem dX9_houseCame_78 : decode cX9_houseCame 78 = .ok (.iconst 3, 1) := by decide +kernel
theorem dX9_houseCame_79 : decode cX9_houseCame 79 = .ok (.iaload, 1) := by decide +kernel
theorem dX9_houseCame_80 : decode cX9_houseCame 80 = .ok (.invokestatic 75, 3) := by decide +kernel
theorem dX9_houseCame_83 : decode cX9_houseCame 83 = .ok (.ifCond .eq 29, 3) := by decide +kernel
theorem dX9_houseCame_86 : decode cX9_houseCame 86 = .ok (.iload 7, 2) := by decide +kernel
theorem dX9_houseCame_88 : decode cX9_houseCame 88 = .ok (.getstatic 71, 3) := by decide +kernel
theorem dX9_houseCame_91 : decode cX9_houseCame 91 = .ok (.iconst 4, 1) := by decide +kernel
theorem dX9_houseCame_92 : decode cX9_houseCame 92 = .ok (.iaload, 1) := by decide +kernel
theorem dX9_houseCame_93 : decode cX9_houseCame 93 = .ok (.invokestatic 75, 3) := by decide +kernel
theorem dX9_houseCame_96 : decode cX9_houseCame 96 = .ok (.ifCond .eq 16, 3) := by decide +kernel
theorem dX9_houseCame_99 : decode cX9_houseCame 99 = .ok (.iload 8, 2) := by decide +kernel
theorem dX9_houseCame_101 : decode cX9_houseCame 101 = .ok (.getstatic 71, 3) := by decide +kernel
theorem dX9_houseCame_104 : decode cX9_houseCame 104 = .ok (.iconst 5, 1) := by decide +kernel
theorem dX9_houseCame_105 : decode cX9_houseCame 105 = .ok (.iaload, 1) := by decide +kernel
theorem dX9_houseCame_106 : decode cX9_houseCame 106 = .ok (.invokestatic 75, 3) := by decide +kernel
theorem dX9_houseCame_109 : decode cX9_houseCame 109 = .ok (.ifCond .ne 5, 3) := by decide +kernel
theorem dX9_houseCame_112 : decode cX9_houseCame 112 = .ok (.iconst 0, 1) := by decide +kernel
theorem dX9_houseCame_113 : decode cX9_houseCame 113 = .ok (.ireturn, 1) := by decide +kernel
theorem dX9_houseCame_114 : decode cX9_houseCame 114 = .ok (.aload_n 0, 1) := by decide +kernel
theorem dX9_houseCame_115 : decode cX9_houseCame 115 = .ok (.getfield 10, 3) := by decide +kernel
theorem dX9_houseCame_118 : decode cX9_houseCame 118 = .ok (.iload 6, 2) := by decide +kernel
theorem dX9_houseCame_120 : decode cX9_houseCame 120 = .ok (.iload 7, 2) := by decide +kernel
theorem dX9_houseCame_122 : decode cX9_houseCame 122 = .ok (.iload 8, 2) := by decide +kernel
theorem dX9_houseCame_124 : decode cX9_houseCame 124 = .ok (.invokevirtual 79, 3) := by decide +kernel
theorem dX9_houseCame_127 : decode cX9_houseCame 127 = .ok (.ifCond .lt 7, 3) := by decide +kernel
theorem dX9_houseCame_130 : decode cX9_houseCame 130 = .ok (.iconst 1, 1) := by decide +kernel
theorem dX9_houseCame_131 : decode cX9_houseCame 131 = .ok (.goto 4, 3) := by decide +kernel
theorem dX9_houseCame_134 : decode cX9_houseCame 134 = .ok (.iconst 0, 1) := by decide +kernel
theorem dX9_houseCame_135 : decode cX9_houseCame 135 = .ok (.ireturn, 1) := by decide +kernel
theorem dX9_refusalOfBytes_0 : decode cX9_refusalOfBytes 0 = .ok (.iload_n 1, 1) := by decide +kernel
theorem dX9_refusalOfBytes_1 : decode cX9_refusalOfBytes 1 = .ok (.ifCond .lt 23, 3) := by decide +kernel
theorem dX9_refusalOfBytes_4 : decode cX9_refusalOfBytes 4 = .ok (.iload_n 1, 1) := by decide +kernel
theorem dX9_refusalOfBytes_5 : decode cX9_refusalOfBytes 5 = .ok (.bipush 100, 2) := by decide +kernel
theorem dX9_refusalOfBytes_7 : decode cX9_refusalOfBytes 7 = .ok (.idiv, 1) := by decide +kernel
theorem dX9_refusalOfBytes_8 : decode cX9_refusalOfBytes 8 = .ok (.invokestatic 83, 3) := by decide +kernel
theorem dX9_refusalOfBytes_11 : decode cX9_refusalOfBytes 11 = .ok (.ifCond .eq 13, 3) := by decide +kernel
theorem dX9_refusalOfBytes_14 : decode cX9_refusalOfBytes 14 = .ok (.iload_n 1, 1) := by decide +kernel
theorem dX9_refusalOfBytes_15 : decode cX9_refusalOfBytes 15 = .ok (.bipush 100, 2) := by decide +kernel
theorem dX9_refusalOfBytes_17 : decode cX9_refusalOfBytes 17 = .ok (.irem, 1) := by decide +kernel
theorem dX9_refusalOfBytes_18 : decode cX9_refusalOfBytes 18 = .ok (.invokestatic 127, 3) := by decide +kernel
theorem dX9_refusalOfBytes_21 : decode cX9_refusalOfBytes 21 = .ok (.ifCond .ne 5, 3) := by decide +kernel
theorem dX9_refusalOfBytes_24 : decode cX9_refusalOfBytes 24 = .ok (.iconst (-1), 1) := by decide +kernel
theorem dX9_refusalOfBytes_25 : decode cX9_refusalOfBytes 25 = .ok (.ireturn, 1) := by decide +kernel
theorem dX9_refusalOfBytes_26 : decode cX9_refusalOfBytes 26 = .ok (.aload_n 0, 1) := by decide +kernel
theorem dX9_refusalOfBytes_27 : decode cX9_refusalOfBytes 27 = .ok (.getfield 55, 3) := by decide +kernel
theorem dX9_refusalOfBytes_30 : decode cX9_refusalOfBytes 30 = .ok (.iload_n 1, 1) := by decide +kernel
theorem dX9_refusalOfBytes_31 : decode cX9_refusalOfBytes 31 = .ok (.bipush 100, 2) := by decide +kernel
theorem dX9_refusalOfBytes_33 : decode cX9_refusalOfBytes 33 = .ok (.idiv, 1) := by decide +kernel
theorem dX9_refusalOfBytes_34 : decode cX9_refusalOfBytes 34 = .ok (.aaload, 1) := by decide +kernel
theorem dX9_refusalOfBytes_35 : decode cX9_refusalOfBytes 35 = .ok (.getfield 87, 3) := by decide +kernel
theorem dX9_refusalOfBytes_38 : decode cX9_refusalOfBytes 38 = .ok (.istore_n 2, 1) := by decide +kernel
theorem dX9_refusalOfBytes_39 : decode cX9_refusalOfBytes 39 = .ok (.iload_n 2, 1) := by decide +kernel
theorem dX9_refusalOfBytes_40 : decode cX9_refusalOfBytes 40 = .ok (.bipush (-2), 2) := by decide +kernel
theorem dX9_refusalOfBytes_42 : decode cX9_refusalOfBytes 42 = .ok (.if_icmp .ne 6, 3) := by decide +kernel
theorem dX9_refusalOfBytes_45 : decode cX9_refusalOfBytes 45 = .ok (.bipush (-11), 2) := by decide +kernel
theorem dX9_refusalOfBytes_47 : decode cX9_refusalOfBytes 47 = .ok (.ireturn, 1) := by decide +kernel
theorem dX9_refusalOfBytes_48 : decode cX9_refusalOfBytes 48 = .ok (.iload_n 2, 1) := by decide +kernel
theorem dX9_refusalOfBytes_49 : decode cX9_refusalOfBytes 49 = .ok (.ifCond .ne 7, 3) := by decide +kernel
theorem dX9_refusalOfBytes_52 : decode cX9_refusalOfBytes 52 = .ok (.iconst 0, 1) := by decide +kernel
theorem dX9_refusalOfBytes_53 : decode cX9_refusalOfBytes 53 = .ok (.goto 5, 3) := by decide +kernel
theorem dX9_refusalOfBytes_56 : decode cX9_refusalOfBytes 56 = .ok (.bipush (-12), 2) := by decide +kernel
theorem dX9_refusalOfBytes_58 : decode cX9_refusalOfBytes 58 = .ok (.ireturn, 1) := by decide +kernel
theorem dX9_refusalOfElement_0 : decode cX9_refusalOfElement 0 = .ok (.iload_n 1, 1) := by decide +kernel
theorem dX9_refusalOfElement_1 : decode cX9_refusalOfElement 1 = .ok (.invokestatic 83, 3) := by decide +kernel
theorem dX9_refusalOfElement_4 : decode cX9_refusalOfElement 4 = .ok (.ifCond .ne 5, 3) := by decide +kernel
theorem dX9_refusalOfElement_7 : decode cX9_refusalOfElement 7 = .ok (.iconst (-1), 1) := by decide +kernel
theorem dX9_refusalOfElement_8 : decode cX9_refusalOfElement 8 = .ok (.ireturn, 1) := by decide +kernel
theorem dX9_refusalOfElement_9 : decode cX9_refusalOfElement 9 = .ok (.aload_n 0, 1) := by decide +kernel
theorem dX9_refusalOfElement_10 : decode cX9_refusalOfElement 10 = .ok (.getfield 55, 3) := by decide +kernel
theorem dX9_refusalOfElement_13 : decode cX9_refusalOfElement 13 = .ok (.iload_n 1, 1) := by decide +kernel
theorem dX9_refusalOfElement_14 : decode cX9_refusalOfElement 14 = .ok (.aaload, 1) := by decide +kernel
theorem dX9_refusalOfElement_15 : decode cX9_refusalOfElement 15 = .ok (.getfield 87, 3) := by decide +kernel
theorem dX9_refusalOfElement_18 : decode cX9_refusalOfElement 18 = .ok (.bipush (-2), 2) := by decide +kernel
theorem dX9_refusalOfElement_20 : decode cX9_refusalOfElement 20 = .ok (.if_icmp .ne 6, 3) := by decide +kernel
theorem dX9_refusalOfElement_23 : decode cX9_refusalOfElement 23 = .ok (.bipush (-11), 2) := by decide +kernel
theorem dX9_refusalOfElement_25 : decode cX9_refusalOfElement 25 = .ok (.ireturn, 1) := by decide +kernel
theorem dX9_refusalOfElement_26 : decode cX9_refusalOfElement 26 = .ok (.aload_n 0, 1) := by decide +kernel
theorem dX9_refusalOfElement_27 : decode cX9_refusalOfElement 27 = .ok (.getfield 55, 3) := by decide +kernel
theorem dX9_refusalOfElement_30 : decode cX9_refusalOfElement 30 = .ok (.iload_n 1, 1) := by decide +kernel
theorem dX9_refusalOfElement_31 : decode cX9_refusalOfElement 31 = .ok (.aaload, 1) := by decide +kernel
theorem dX9_refusalOfElement_32 : decode cX9_refusalOfElement 32 = .ok (.invokevirtual 319, 3) := by decide +kernel
theorem dX9_refusalOfElement_35 : decode cX9_refusalOfElement 35 = .ok (.ifCond .ne 6, 3) := by decide +kernel
theorem dX9_refusalOfElement_38 : decode cX9_refusalOfElement 38 = .ok (.bipush (-12), 2) := by decide +kernel
theorem dX9_refusalOfElement_40 : decode cX9_refusalOfElement 40 = .ok (.ireturn, 1) := by decide +kernel
theorem dX9_refusalOfElement_41 : decode cX9_refusalOfElement 41 = .ok (.aload_n 0, 1) := by decide +kernel
theorem dX9_refusalOfElement_42 : decode cX9_refusalOfElement 42 = .ok (.getfield 55, 3) := by decide +kernel
theorem dX9_refusalOfElement_45 : decode cX9_refusalOfElement 45 = .ok (.iload_n 1, 1) := by decide +kernel
theorem dX9_refusalOfElement_46 : decode cX9_refusalOfElement 46 = .ok (.aaload, 1) := by decide +kernel
theorem dX9_refusalOfElement_47 : decode cX9_refusalOfElement 47 = .ok (.iload_n 2, 1) := by decide +kernel
theorem dX9_refusalOfElement_48 : decode cX9_refusalOfElement 48 = .ok (.iconst 1, 1) := by decide +kernel
theorem dX9_refusalOfElement_49 : decode cX9_refusalOfElement 49 = .ok (.invokevirtual 323, 3) := by decide +kernel
theorem dX9_refusalOfElement_52 : decode cX9_refusalOfElement 52 = .ok (.ifCond .eq 7, 3) := by decide +kernel
theorem dX9_refusalOfElement_55 : decode cX9_refusalOfElement 55 = .ok (.iconst 0, 1) := by decide +kernel
theorem dX9_refusalOfElement_56 : decode cX9_refusalOfElement 56 = .ok (.goto 5, 3) := by decide +kernel
theorem dX9_refusalOfElement_59 : decode cX9_refusalOfElement 59 = .ok (.bipush (-13), 2) := by decide +kernel
theorem dX9_refusalOfElement_61 : decode cX9_refusalOfElement 61 = .ok (.ireturn, 1) := by decide +kernel
