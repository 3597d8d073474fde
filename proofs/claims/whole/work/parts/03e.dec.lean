theorem dX10_beside_47 : decode cX10_beside 47 = .ok (.iconst 5, 1) := by decide +kernel
theorem dX10_beside_48 : decode cX10_beside 48 = .ok (.if_icmp .ne 7, 3) := by decide +kernel
theorem dX10_beside_51 : decode cX10_beside 51 = .ok (.iconst (-1), 1) := by decide +kernel
theorem dX10_beside_52 : decode cX10_beside 52 = .ok (.goto 6, 3) := by decide +kernel
theorem dX10_beside_55 : decode cX10_beside 55 = .ok (.iload_n 0, 1) := by decide +kernel
theorem dX10_beside_56 : decode cX10_beside 56 = .ok (.iconst 1, 1) := by decide +kernel
theorem dX10_beside_57 : decode cX10_beside 57 = .ok (.iadd, 1) := by decide +kernel
theorem dX10_beside_58 : decode cX10_beside 58 = .ok (.ireturn, 1) := by decide +kernel
theorem dX10_beside_59 : decode cX10_beside 59 = .ok (.iload_n 0, 1) := by decide +kernel
theorem dX10_beside_60 : decode cX10_beside 60 = .ok (.bipush 6, 2) := by decide +kernel
theorem dX10_beside_62 : decode cX10_beside 62 = .ok (.idiv, 1) := by decide +kernel
theorem dX10_beside_63 : decode cX10_beside 63 = .ok (.iconst 4, 1) := by decide +kernel
theorem dX10_beside_64 : decode cX10_beside 64 = .ok (.if_icmp .ne 7, 3) := by decide +kernel
theorem dX10_beside_67 : decode cX10_beside 67 = .ok (.iconst (-1), 1) := by decide +kernel
theorem dX10_beside_68 : decode cX10_beside 68 = .ok (.goto 7, 3) := by decide +kernel
theorem dX10_beside_71 : decode cX10_beside 71 = .ok (.iload_n 0, 1) := by decide +kernel
theorem dX10_beside_72 : decode cX10_beside 72 = .ok (.bipush 6, 2) := by decide +kernel
theorem dX10_beside_74 : decode cX10_beside 74 = .ok (.iadd, 1) := by decide +kernel
theorem dX10_beside_75 : decode cX10_beside 75 = .ok (.ireturn, 1) := by decide +kernel
theorem dX10_beside_76 : decode cX10_beside 76 = .ok (.iload_n 0, 1) := by decide +kernel
theorem dX10_beside_77 : decode cX10_beside 77 = .ok (.bipush 6, 2) := by decide +kernel
theorem dX10_beside_79 : decode cX10_beside 79 = .ok (.irem, 1) := by decide +kernel
theorem dX10_beside_80 : decode cX10_beside 80 = .ok (.ifCond .ne 7, 3) := by decide +kernel
theorem dX10_beside_83 : decode cX10_beside 83 = .ok (.iconst (-1), 1) := by decide +kernel
theorem dX10_beside_84 : decode cX10_beside 84 = .ok (.goto 6, 3) := by decide +kernel
theorem dX10_beside_87 : decode cX10_beside 87 = .ok (.iload_n 0, 1) := by decide +kernel
theorem dX10_beside_88 : decode cX10_beside 88 = .ok (.iconst 1, 1) := by decide +kernel
theorem dX10_beside_89 : decode cX10_beside 89 = .ok (.isub, 1) := by decide +kernel
theorem dX10_beside_90 : decode cX10_beside 90 = .ok (.ireturn, 1) := by decide +kernel
theorem dX10_near_0 : decode cX10_near 0 = .ok (.iconst 0, 1) := by decide +kernel
theorem dX10_near_1 : decode cX10_near 1 = .ok (.istore_n 2, 1) := by decide +kernel
theorem dX10_near_2 : decode cX10_near 2 = .ok (.iconst 0, 1) := by decide +kernel
theorem dX10_near_3 : decode cX10_near 3 = .ok (.istore_n 3, 1) := by decide +kernel
theorem dX10_near_4 : decode cX10_near 4 = .ok (.iload_n 3, 1) := by decide +kernel
theorem dX10_near_5 : decode cX10_near 5 = .ok (.iconst 4, 1) := by decide +kernel
theorem dX10_near_6 : decode cX10_near 6 = .ok (.if_icmp .ge 30, 3) := by decide +kernel
theorem dX10_near_9 : decode cX10_near 9 = .ok (.iload_n 1, 1) := by decide +kernel
theorem dX10_near_10 : decode cX10_near 10 = .ok (.iload_n 3, 1) := by decide +kernel
theorem dX10_near_11 : decode cX10_near 11 = .ok (.invokestatic 215, 3) := by decide +kernel
theorem dX10_near_14 : decode cX10_near 14 = .ok (.ifCond .lt 16, 3) := by decide +kernel
theorem dX10_near_17 : decode cX10_near 17 = .ok (.iload_n 2, 1) := by decide +kernel
theorem dX10_near_18 : decode cX10_near 18 = .ok (.aload_n 0, 1) := by decide +kernel
theorem dX10_near_19 : decode cX10_near 19 = .ok (.getfield 15, 3) := by decide +kernel
theorem dX10_near_22 : decode cX10_near 22 = .ok (.iload_n 1, 1) := by decide +kernel
theorem dX10_near_23 : decode cX10_near 23 = .ok (.iload_n 3, 1) := by decide +kernel
theorem dX10_near_24 : decode cX10_near 24 = .ok (.invokestatic 215, 3) := by decide +kernel
theorem dX10_near_27 : decode cX10_near 27 = .ok (.iaload, 1) := by decide +kernel
theorem dX10_near_28 : decode cX10_near 28 = .ok (.iadd, 1) := by decide +kernel
theorem dX10_near_29 : decode cX10_near 29 = .ok (.istore_n 2, 1) := by decide +kernel
theorem dX10_near_30 : decode cX10_near 30 = .ok (.iinc 3 1, 3) := by decide +kernel
theorem dX10_near_33 : decode cX10_near 33 = .ok (.goto (-29), 3) := by decide +kernel
theorem dX10_near_36 : decode cX10_near 36 = .ok (.iload_n 2, 1) := by decide +kernel
theorem dX10_near_37 : decode cX10_near 37 = .ok (.ireturn, 1) := by decide +kernel
theorem dX10_byLaw_0 : decode cX10_byLaw 0 = .ok (.aload_n 0, 1) := by decide +kernel
theorem dX10_byLaw_1 : decode cX10_byLaw 1 = .ok (.getfield 57, 3) := by decide +kernel
theorem dX10_byLaw_4 : decode cX10_byLaw 4 = .ok (.iconst 0, 1) := by decide +kernel
theorem dX10_byLaw_5 : decode cX10_byLaw 5 = .ok (.aload_n 0, 1) := by decide +kernel
theorem dX10_byLaw_6 : decode cX10_byLaw 6 = .ok (.getfield 9, 3) := by decide +kernel
theorem dX10_byLaw_9 : decode cX10_byLaw 9 = .ok (.iload_n 1, 1) := by decide +kernel
theorem dX10_byLaw_10 : decode cX10_byLaw 10 = .ok (.iaload, 1) := by decide +kernel
theorem dX10_byLaw_11 : decode cX10_byLaw 11 = .ok (.iastore, 1) := by decide +kernel
theorem dX10_byLaw_12 : decode cX10_byLaw 12 = .ok (.aload_n 0, 1) := by decide +kernel
theorem dX10_byLaw_13 : decode cX10_byLaw 13 = .ok (.getfield 57, 3) := by decide +kernel
theorem dX10_byLaw_16 : decode cX10_byLaw 16 = .ok (.iconst 1, 1) := by decide +kernel
theorem dX10_byLaw_17 : decode cX10_byLaw 17 = .ok (.aload_n 0, 1) := by decide +kernel
theorem dX10_byLaw_18 : decode cX10_byLaw 18 = .ok (.getfield 15, 3) := by decide +kernel
theorem dX10_byLaw_21 : decode cX10_byLaw 21 = .ok (.iload_n 1, 1) := by decide +kernel
theorem dX10_byLaw_22 : decode cX10_byLaw 22 = .ok (.iaload, 1) := by decide +kernel
theorem dX10_byLaw_23 : decode cX10_byLaw 23 = .ok (.iastore, 1) := by decide +kernel
theorem dX10_byLaw_24 : decode cX10_byLaw 24 = .ok (.aload_n 0, 1) := by decide +kernel
theorem dX10_byLaw_25 : decode cX10_byLaw 25 = .ok (.getfield 57, 3) := by decide +kernel
theorem dX10_byLaw_28 : decode cX10_byLaw 28 = .ok (.iconst 2, 1) := by decide +kernel
theorem dX10_byLaw_29 : decode cX10_byLaw 29 = .ok (.aload_n 0, 1) := by decide +kernel
theorem dX10_byLaw_30 : decode cX10_byLaw 30 = .ok (.getfield 18, 3) := by decide +kernel
theorem dX10_byLaw_33 : decode cX10_byLaw 33 = .ok (.iload_n 1, 1) := by decide +kernel
theorem dX10_byLaw_34 : decode cX10_byLaw 34 = .ok (.iaload, 1) := by decide +kernel
theorem dX10_byLaw_35 : decode cX10_byLaw 35 = .ok (.iastore, 1) := by decide +kernel
theorem dX10_byLaw_36 : decode cX10_byLaw 36 = .ok (.aload_n 0, 1) := by decide +kernel
theorem dX10_byLaw_37 : decode cX10_byLaw 37 = .ok (.getfield 57, 3) := by decide +kernel
theorem dX10_byLaw_40 : decode cX10_byLaw 40 = .ok (.iconst 3, 1) := by decide +kernel
theorem dX10_byLaw_41 : decode cX10_byLaw 41 = .ok (.aload_n 0, 1) := by decide +kernel
theorem dX10_byLaw_42 : decode cX10_byLaw 42 = .ok (.getfield 24, 3) := by decide +kernel
theorem dX10_byLaw_45 : decode cX10_byLaw 45 = .ok (.iconst 0, 1) := by decide +kernel
theorem dX10_byLaw_46 : decode cX10_byLaw 46 = .ok (.iaload, 1) := by decide +kernel
theorem dX10_byLaw_47 : decode cX10_byLaw 47 = .ok (.iastore, 1) := by decide +kernel
theorem dX10_byLaw_48 : decode cX10_byLaw 48 = .ok (.aload_n 0, 1) := by decide +kernel
theorem dX10_byLaw_49 : decode cX10_byLaw 49 = .ok (.getfield 57, 3) := by decide +kernel
theorem dX10_byLaw_52 : decode cX10_byLaw 52 = .ok (.iconst 4, 1) := by decide +kernel
theorem dX10_byLaw_53 : decode cX10_byLaw 53 = .ok (.aload_n 0, 1) := by decide +kernel
theorem dX10_byLaw_54 : decode cX10_byLaw 54 = .ok (.iload_n 1, 1) := by decide +kernel
theorem dX10_byLaw_55 : decode cX10_byLaw 55 = .ok (.invokevirtual 218, 3) := by decide +kernel
theorem dX10_byLaw_58 : decode cX10_byLaw 58 = .ok (.iastore, 1) := by decide +kernel
theorem dX10_byLaw_59 : decode cX10_byLaw 59 = .ok (.aload_n 0, 1) := by decide +kernel
theorem dX10_byLaw_60 : decode cX10_byLaw 60 = .ok (.getfield 57, 3) := by decide +kernel
theorem dX10_byLaw_63 : decode cX10_byLaw 63 = .ok (.iconst 5, 1) := by decide +kernel
theorem dX10_byLaw_64 : decode cX10_byLaw 64 = .ok (.iload_n 1, 1) := by decide +kernel
theorem dX10_byLaw_65 : decode cX10_byLaw 65 = .ok (.bipush 6, 2) := by decide +kernel
theorem dX10_byLaw_67 : decode cX10_byLaw 67 = .ok (.idiv, 1) := by decide +kernel
theorem dX10_byLaw_68 : decode cX10_byLaw 68 = .ok (.iastore, 1) := by decide +kernel
theorem dX10_byLaw_69 : decode cX10_byLaw 69 = .ok (.iconst 0, 1) := by decide +kernel
theorem dX10_byLaw_70 : decode cX10_byLaw 70 = .ok (.istore_n 2, 1) := by decide +kernel
theorem dX10_byLaw_71 : decode cX10_byLaw 71 = .ok (.iload_n 2, 1) := by decide +kernel
theorem dX10_byLaw_72 : decode cX10_byLaw 72 = .ok (.aload_n 0, 1) := by decide +kernel
theorem dX10_byLaw_73 : decode cX10_byLaw 73 = .ok (.getfield 209, 3) := by decide +kernel
theorem dX10_byLaw_76 : decode cX10_byLaw 76 = .ok (.if_icmp .ge 63, 3) := by decide +kernel
theorem dX10_byLaw_79 : decode cX10_byLaw 79 = .ok (.aload_n 0, 1) := by decide +kernel
theorem dX10_byLaw_80 : decode cX10_byLaw 80 = .ok (.getfield 33, 3) := by decide +kernel
theorem dX10_byLaw_83 : decode cX10_byLaw 83 = .ok (.iload_n 2, 1) := by decide +kernel
theorem dX10_byLaw_84 : decode cX10_byLaw 84 = .ok (.iaload, 1) := by decide +kernel
theorem dX10_byLaw_85 : decode cX10_byLaw 85 = .ok (.aload_n 0, 1) := by decide +kernel
theorem dX10_byLaw_86 : decode cX10_byLaw 86 = .ok (.getfield 30, 3) := by decide +kernel
theorem dX10_byLaw_89 : decode cX10_byLaw 89 = .ok (.iload_n 2, 1) := by decide +kernel
theorem dX10_byLaw_90 : decode cX10_byLaw 90 = .ok (.iaload, 1) := by decide +kernel
theorem dX10_byLaw_91 : decode cX10_byLaw 91 = .ok (.if_icmp .le 25, 3) := by decide +kernel
theorem dX10_byLaw_94 : decode cX10_byLaw 94 = .ok (.aload_n 0, 1) := by decide +kernel
theorem dX10_byLaw_95 : decode cX10_byLaw 95 = .ok (.aload_n 0, 1) := by decide +kernel
theorem dX10_byLaw_96 : decode cX10_byLaw 96 = .ok (.getfield 30, 3) := by decide +kernel
theorem dX10_byLaw_99 : decode cX10_byLaw 99 = .ok (.iload_n 2, 1) := by decide +kernel
theorem dX10_byLaw_100 : decode cX10_byLaw 100 = .ok (.iaload, 1) := by decide +kernel
theorem dX10_byLaw_101 : decode cX10_byLaw 101 = .ok (.aload_n 0, 1) := by decide +kernel
theorem dX10_byLaw_102 : decode cX10_byLaw 102 = .ok (.getfield 33, 3) := by decide +kernel
theorem dX10_byLaw_105 : decode cX10_byLaw 105 = .ok (.iload_n 2, 1) := by decide +kernel
theorem dX10_byLaw_106 : decode cX10_byLaw 106 = .ok (.iaload, 1) := by decide +kernel
theorem dX10_byLaw_107 : decode cX10_byLaw 107 = .ok (.invokevirtual 221, 3) := by decide +kernel
theorem dX10_byLaw_110 : decode cX10_byLaw 110 = .ok (.ifCond .ne 6, 3) := by decide +kernel
theorem dX10_byLaw_113 : decode cX10_byLaw 113 = .ok (.goto 20, 3) := by decide +kernel
theorem dX10_byLaw_116 : decode cX10_byLaw 116 = .ok (.aload_n 0, 1) := by decide +kernel
theorem dX10_byLaw_117 : decode cX10_byLaw 117 = .ok (.aload_n 0, 1) := by decide +kernel
theorem dX10_byLaw_118 : decode cX10_byLaw 118 = .ok (.getfield 33, 3) := by decide +kernel
theorem dX10_byLaw_121 : decode cX10_byLaw 121 = .ok (.iload_n 2, 1) := by decide +kernel
theorem dX10_byLaw_122 : decode cX10_byLaw 122 = .ok (.iaload, 1) := by decide +kernel
theorem dX10_byLaw_123 : decode cX10_byLaw 123 = .ok (.aload_n 0, 1) := by decide +kernel
theorem dX10_byLaw_124 : decode cX10_byLaw 124 = .ok (.getfield 36, 3) := by decide +kernel
theorem dX10_byLaw_127 : decode cX10_byLaw 127 = .ok (.iload_n 2, 1) := by decide +kernel
theorem dX10_byLaw_128 : decode cX10_byLaw 128 = .ok (.iaload, 1) := by decide +kernel
theorem dX10_byLaw_129 : decode cX10_byLaw 129 = .ok (.invokevirtual 221, 3) := by decide +kernel
theorem dX10_byLaw_132 : decode cX10_byLaw 132 = .ok (.ireturn, 1) := by decide +kernel
theorem dX10_byLaw_133 : decode cX10_byLaw 133 = .ok (.iinc 2 1, 3) := by decide +kernel
theorem dX10_byLaw_136 : decode cX10_byLaw 136 = .ok (.goto (-65), 3) := by decide +kernel
theorem dX10_byLaw_139 : decode cX10_byLaw 139 = .ok (.iconst 0, 1) := by decide +kernel
theorem dX10_byLaw_140 : decode cX10_byLaw 140 = .ok (.ireturn, 1) := by decide +kernel
theorem dX10_warmth_0 : decode cX10_warmth 0 = .ok (.aload_n 0, 1) := by decide +kernel
theorem dX10_warmth_1 : decode cX10_warmth 1 = .ok (.getfield 205, 3) := by decide +kernel
theorem dX10_warmth_4 : decode cX10_warmth 4 = .ok (.ifCond .eq 11, 3) := by decide +kernel
theorem dX10_warmth_7 : decode cX10_warmth 7 = .ok (.aload_n 0, 1) := by decide +kernel
theorem dX10_warmth_8 : decode cX10_warmth 8 = .ok (.iload_n 1, 1) := by decide +kernel
theorem dX10_warmth_9 : decode cX10_warmth 9 = .ok (.invokevirtual 224, 3) := by decide +kernel
theorem dX10_warmth_12 : decode cX10_warmth 12 = .ok (.goto 31, 3) := by decide +kernel
theorem dX10_warmth_15 : decode cX10_warmth 15 = .ok (.aload_n 0, 1) := by decide +kernel
theorem dX10_warmth_16 : decode cX10_warmth 16 = .ok (.getfield 9, 3) := by decide +kernel
theorem dX10_warmth_19 : decode cX10_warmth 19 = .ok (.iload_n 1, 1) := by decide +kernel
theorem dX10_warmth_20 : decode cX10_warmth 20 = .ok (.iaload, 1) := by decide +kernel
theorem dX10_warmth_21 : decode cX10_warmth 21 = .ok (.aload_n 0, 1) := by decide +kernel
theorem dX10_warmth_22 : decode cX10_warmth 22 = .ok (.getfield 15, 3) := by decide +kernel
theorem dX10_warmth_25 : decode cX10_warmth 25 = .ok (.iload_n 1, 1) := by decide +kernel
theorem dX10_warmth_26 : decode cX10_warmth 26 = .ok (.iaload, 1) := by decide +kernel
theorem dX10_warmth_27 : decode cX10_warmth 27 = .ok (.imul, 1) := by decide +kernel
theorem dX10_warmth_28 : decode cX10_warmth 28 = .ok (.aload_n 0, 1) := by decide +kernel
theorem dX10_warmth_29 : decode cX10_warmth 29 = .ok (.iload_n 1, 1) := by decide +kernel
theorem dX10_warmth_30 : decode cX10_warmth 30 = .ok (.invokevirtual 218, 3) := by decide +kernel
theorem dX10_warmth_33 : decode cX10_warmth 33 = .ok (.iconst 4, 1) := by decide +kernel
theorem dX10_warmth_34 : decode cX10_warmth 34 = .ok (.idiv, 1) := by decide +kernel
theorem dX10_warmth_35 : decode cX10_warmth 35 = .ok (.iadd, 1) := by decide +kernel
theorem dX10_warmth_36 : decode cX10_warmth 36 = .ok (.aload_n 0, 1) := by decide +kernel
theorem dX10_warmth_37 : decode cX10_warmth 37 = .ok (.getfield 18, 3) := by decide +kernel
theorem dX10_warmth_40 : decode cX10_warmth 40 = .ok (.iload_n 1, 1) := by decide +kernel
theorem dX10_warmth_41 : decode cX10_warmth 41 = .ok (.iaload, 1) := by decide +kernel
theorem dX10_warmth_42 : decode cX10_warmth 42 = .ok (.isub, 1) := by decide +kernel
theorem dX10_warmth_43 : decode cX10_warmth 43 = .ok (.istore_n 2, 1) := by decide +kernel
theorem dX10_warmth_44 : decode cX10_warmth 44 = .ok (.iconst 0, 1) := by decide +kernel
theorem dX10_warmth_45 : decode cX10_warmth 45 = .ok (.bipush 99, 2) := by decide +kernel
theorem dX10_warmth_47 : decode cX10_warmth 47 = .ok (.iload_n 2, 1) := by decide +kernel
theorem dX10_warmth_48 : decode cX10_warmth 48 = .ok (.invokestatic 227, 3) := by decide +kernel
theorem dX10_warmth_51 : decode cX10_warmth 51 = .ok (.invokestatic 232, 3) := by decide +kernel
theorem dX10_warmth_54 : decode cX10_warmth 54 = .ok (.ireturn, 1) := by decide +kernel
theorem dX10_isCold_0 : decode cX10_isCold 0 = .ok (.aload_n 0, 1) := by decide +kernel
theorem dX10_isCold_1 : decode cX10_isCold 1 = .ok (.getfield 21, 3) := by decide +kernel
theorem dX10_isCold_4 : decode cX10_isCold 4 = .ok (.bipush 16, 2) := by decide +kernel
theorem dX10_isCold_6 : decode cX10_isCold 6 = .ok (.iload_n 1, 1) := by decide +kernel
theorem dX10_isCold_7 : decode cX10_isCold 7 = .ok (.iadd, 1) := by decide +kernel
theorem dX10_isCold_8 : decode cX10_isCold 8 = .ok (.iaload, 1) := by decide +kernel
theorem dX10_isCold_9 : decode cX10_isCold 9 = .ok (.aload_n 0, 1) := by decide +kernel
theorem dX10_isCold_10 : decode cX10_isCold 10 = .ok (.getfield 24, 3) := by decide +kernel
theorem dX10_isCold_13 : decode cX10_isCold 13 = .ok (.iconst 0, 1) := by decide +kernel
theorem dX10_isCold_14 : decode cX10_isCold 14 = .ok (.iaload, 1) := by decide +kernel
theorem dX10_isCold_15 : decode cX10_isCold 15 = .ok (.ishr, 1) := by decide +kernel
theorem dX10_isCold_16 : decode cX10_isCold 16 = .ok (.iconst 1, 1) := by decide +kernel
theorem dX10_isCold_17 : decode cX10_isCold 17 = .ok (.iand, 1) := by decide +kernel
theorem dX10_isCold_18 : decode cX10_isCold 18 = .ok (.iconst 1, 1) := by decide +kernel
theorem dX10_isCold_19 : decode cX10_isCold 19 = .ok (.if_icmp .ne 29, 3) := by decide +kernel
theorem dX10_isCold_22 : decode cX10_isCold 22 = .ok (.aload_n 0, 1) := by decide +kernel
theorem dX10_isCold_23 : decode cX10_isCold 23 = .ok (.aload_n 0, 1) := by decide +kernel
theorem dX10_isCold_24 : decode cX10_isCold 24 = .ok (.getfield 21, 3) := by decide +kernel
theorem dX10_isCold_27 : decode cX10_isCold 27 = .ok (.iload_n 1, 1) := by decide +kernel
theorem dX10_isCold_28 : decode cX10_isCold 28 = .ok (.iaload, 1) := by decide +kernel
theorem dX10_isCold_29 : decode cX10_isCold 29 = .ok (.invokevirtual 235, 3) := by decide +kernel
theorem dX10_isCold_32 : decode cX10_isCold 32 = .ok (.aload_n 0, 1) := by decide +kernel
theorem dX10_isCold_33 : decode cX10_isCold 33 = .ok (.getfield 21, 3) := by decide +kernel
theorem dX10_isCold_36 : decode cX10_isCold 36 = .ok (.bipush 8, 2) := by decide +kernel
theorem dX10_isCold_38 : decode cX10_isCold 38 = .ok (.iload_n 1, 1) := by decide +kernel
theorem dX10_isCold_39 : decode cX10_isCold 39 = .ok (.iadd, 1) := by decide +kernel
theorem dX10_isCold_40 : decode cX10_isCold 40 = .ok (.iaload, 1) := by decide +kernel
theorem dX10_isCold_41 : decode cX10_isCold 41 = .ok (.if_icmp .ge 7, 3) := by decide +kernel
theorem dX10_isCold_44 : decode cX10_isCold 44 = .ok (.iconst 1, 1) := by decide +kernel
theorem dX10_isCold_45 : decode cX10_isCold 45 = .ok (.goto 4, 3) := by decide +kernel
theorem dX10_isCold_48 : decode cX10_isCold 48 = .ok (.iconst 0, 1) := by decide +kernel
theorem dX10_isCold_49 : decode cX10_isCold 49 = .ok (.ireturn, 1) := by decide +kernel
theorem dX10_coldOnes_0 : decode cX10_coldOnes 0 = .ok (.iconst 0, 1) := by decide +kernel
theorem dX10_coldOnes_1 : decode cX10_coldOnes 1 = .ok (.istore_n 1, 1) := by decide +kernel
theorem dX10_coldOnes_2 : decode cX10_coldOnes 2 = .ok (.iconst 0, 1) := by decide +kernel
theorem dX10_coldOnes_3 : decode cX10_coldOnes 3 = .ok (.istore_n 2, 1) := by decide +kernel
theorem dX10_coldOnes_4 : decode cX10_coldOnes 4 = .ok (.iload_n 2, 1) := by decide +kernel
theorem dX10_coldOnes_5 : decode cX10_coldOnes 5 = .ok (.aload_n 0, 1) := by decide +kernel
theorem dX10_coldOnes_6 : decode cX10_coldOnes 6 = .ok (.getfield 107, 3) := by decide +kernel
theorem dX10_coldOnes_9 : decode cX10_coldOnes 9 = .ok (.if_icmp .ge 23, 3) := by decide +kernel
theorem dX10_coldOnes_12 : decode cX10_coldOnes 12 = .ok (.aload_n 0, 1) := by decide +kernel
theorem dX10_coldOnes_13 : decode cX10_coldOnes 13 = .ok (.iload_n 2, 1) := by decide +kernel
theorem dX10_coldOnes_14 : decode cX10_coldOnes 14 = .ok (.invokevirtual 238, 3) := by decide +kernel
theorem dX10_coldOnes_17 : decode cX10_coldOnes 17 = .ok (.ifCond .eq 9, 3) := by decide +kernel
theorem dX10_coldOnes_20 : decode cX10_coldOnes 20 = .ok (.iload_n 1, 1) := by decide +kernel
theorem dX10_coldOnes_21 : decode cX10_coldOnes 21 = .ok (.iconst 1, 1) := by decide +kernel
theorem dX10_coldOnes_22 : decode cX10_coldOnes 22 = .ok (.iload_n 2, 1) := by decide +kernel
theorem dX10_coldOnes_23 : decode cX10_coldOnes 23 = .ok (.ishl, 1) := by decide +kernel
theorem dX10_coldOnes_24 : decode cX10_coldOnes 24 = .ok (.ior, 1) := by decide +kernel
theorem dX10_coldOnes_25 : decode cX10_coldOnes 25 = .ok (.istore_n 1, 1) := by decide +kernel
theorem dX10_coldOnes_26 : decode cX10_coldOnes 26 = .ok (.iinc 2 1, 3) := by decide +kernel
theorem dX10_coldOnes_29 : decode cX10_coldOnes 29 = .ok (.goto (-25), 3) := by decide +kernel
theorem dX10_coldOnes_32 : decode cX10_coldOnes 32 = .ok (.iload_n 1, 1) := by decide +kernel
theorem dX10_coldOnes_33 : decode cX10_coldOnes 33 = .ok (.ireturn, 1) := by decide +kernel
theorem dX10_slips_0 : decode cX10_slips 0 = .ok (.iconst 0, 1) := by decide +kernel
theorem dX10_slips_1 : decode cX10_slips 1 = .ok (.istore_n 1, 1) := by decide +kernel
theorem dX10_slips_2 : decode cX10_slips 2 = .ok (.iload_n 1, 1) := by decide +kernel
theorem dX10_slips_3 : decode cX10_slips 3 = .ok (.bipush 6, 2) := by decide +kernel
theorem dX10_slips_5 : decode cX10_slips 5 = .ok (.if_icmp .ge 94, 3) := by decide +kernel
theorem dX10_slips_8 : decode cX10_slips 8 = .ok (.bipush 24, 2) := by decide +kernel
theorem dX10_slips_10 : decode cX10_slips 10 = .ok (.iload_n 1, 1) := by decide +kernel
theorem dX10_slips_11 : decode cX10_slips 11 = .ok (.iadd, 1) := by decide +kernel
theorem dX10_slips_12 : decode cX10_slips 12 = .ok (.istore_n 2, 1) := by decide +kernel
theorem dX10_slips_13 : decode cX10_slips 13 = .ok (.aload_n 0, 1) := by decide +kernel
theorem dX10_slips_14 : decode cX10_slips 14 = .ok (.getfield 9, 3) := by decide +kernel
theorem dX10_slips_17 : decode cX10_slips 17 = .ok (.iload_n 2, 1) := by decide +kernel
theorem dX10_slips_18 : decode cX10_slips 18 = .ok (.iaload, 1) := by decide +kernel
theorem dX10_slips_19 : decode cX10_slips 19 = .ok (.istore_n 3, 1) := by decide +kernel
theorem dX10_slips_20 : decode cX10_slips 20 = .ok (.aload_n 0, 1) := by decide +kernel
theorem dX10_slips_21 : decode cX10_slips 21 = .ok (.getfield 15, 3) := by decide +kernel
theorem dX10_slips_24 : decode cX10_slips 24 = .ok (.iload_n 2, 1) := by decide +kernel
theorem dX10_slips_25 : decode cX10_slips 25 = .ok (.iaload, 1) := by decide +kernel
theorem dX10_slips_26 : decode cX10_slips 26 = .ok (.istore 4, 2) := by decide +kernel
theorem dX10_slips_28 : decode cX10_slips 28 = .ok (.aload_n 0, 1) := by decide +kernel
theorem dX10_slips_29 : decode cX10_slips 29 = .ok (.getfield 18, 3) := by decide +kernel
theorem dX10_slips_32 : decode cX10_slips 32 = .ok (.iload_n 2, 1) := by decide +kernel
theorem dX10_slips_33 : decode cX10_slips 33 = .ok (.iaload, 1) := by decide +kernel
theorem dX10_slips_34 : decode cX10_slips 34 = .ok (.istore 5, 2) := by decide +kernel
theorem dX10_slips_36 : decode cX10_slips 36 = .ok (.iconst 4, 1) := by decide +kernel
theorem dX10_slips_37 : decode cX10_slips 37 = .ok (.istore 6, 2) := by decide +kernel
theorem dX10_slips_39 : decode cX10_slips 39 = .ok (.iload 6, 2) := by decide +kernel
theorem dX10_slips_41 : decode cX10_slips 41 = .ok (.ifCond .le 29, 3) := by decide +kernel
theorem dX10_slips_44 : decode cX10_slips 44 = .ok (.aload_n 0, 1) := by decide +kernel
theorem dX10_slips_45 : decode cX10_slips 45 = .ok (.bipush 6, 2) := by decide +kernel
theorem dX10_slips_47 : decode cX10_slips 47 = .ok (.iload 6, 2) := by decide +kernel
theorem dX10_slips_49 : decode cX10_slips 49 = .ok (.iconst 1, 1) := by decide +kernel
theorem dX10_slips_50 : decode cX10_slips 50 = .ok (.isub, 1) := by decide +kernel
theorem dX10_slips_51 : decode cX10_slips 51 = .ok (.imul, 1) := by decide +kernel
theorem dX10_slips_52 : decode cX10_slips 52 = .ok (.iload_n 1, 1) := by decide +kernel
theorem dX10_slips_53 : decode cX10_slips 53 = .ok (.iadd, 1) := by decide +kernel
theorem dX10_slips_54 : decode cX10_slips 54 = .ok (.bipush 6, 2) := by decide +kernel
theorem dX10_slips_56 : decode cX10_slips 56 = .ok (.iload 6, 2) := by decide +kernel
theorem dX10_slips_58 : decode cX10_slips 58 = .ok (.imul, 1) := by decide +kernel
theorem dX10_slips_59 : decode cX10_slips 59 = .ok (.iload_n 1, 1) := by decide +kernel
theorem dX10_slips_60 : decode cX10_slips 60 = .ok (.iadd, 1) := by decide +kernel
theorem dX10_slips_61 : decode cX10_slips 61 = .ok (.invokevirtual 241, 3) := by decide +kernel
theorem dX10_slips_64 : decode cX10_slips 64 = .ok (.iinc 6 (-1), 3) := by decide +kernel
theorem dX10_slips_67 : decode cX10_slips 67 = .ok (.goto (-28), 3) := by decide +kernel
theorem dX10_slips_70 : decode cX10_slips 70 = .ok (.aload_n 0, 1) := by decide +kernel
theorem dX10_slips_71 : decode cX10_slips 71 = .ok (.getfield 9, 3) := by decide +kernel
theorem dX10_slips_74 : decode cX10_slips 74 = .ok (.iload_n 1, 1) := by decide +kernel
theorem dX10_slips_75 : decode cX10_slips 75 = .ok (.iload_n 3, 1) := by decide +kernel
theorem dX10_slips_76 : decode cX10_slips 76 = .ok (.iastore, 1) := by decide +kernel
theorem dX10_slips_77 : decode cX10_slips 77 = .ok (.aload_n 0, 1) := by decide +kernel
theorem dX10_slips_78 : decode cX10_slips 78 = .ok (.getfield 15, 3) := by decide +kernel
theorem dX10_slips_81 : decode cX10_slips 81 = .ok (.iload_n 1, 1) := by decide +kernel
theorem dX10_slips_82 : decode cX10_slips 82 = .ok (.iload 4, 2) := by decide +kernel
theorem dX10_slips_84 : decode cX10_slips 84 = .ok (.iastore, 1) := by decide +kernel
theorem dX10_slips_85 : decode cX10_slips 85 = .ok (.aload_n 0, 1) := by decide +kernel
theorem dX10_slips_86 : decode cX10_slips 86 = .ok (.getfield 18, 3) := by decide +kernel
theorem dX10_slips_89 : decode cX10_slips 89 = .ok (.iload_n 1, 1) := by decide +kernel
theorem dX10_slips_90 : decode cX10_slips 90 = .ok (.iload 5, 2) := by decide +kernel
theorem dX10_slips_92 : decode cX10_slips 92 = .ok (.iastore, 1) := by decide +kernel
theorem dX10_slips_93 : decode cX10_slips 93 = .ok (.iinc 1 1, 3) := by decide +kernel
theorem dX10_slips_96 : decode cX10_slips 96 = .ok (.goto (-94), 3) := by decide +kernel
theorem dX10_slips_99 : decode cX10_slips 99 = .ok (.return_, 1) := by decide +kernel
theorem dX10_moves_0 : decode cX10_moves 0 = .ok (.aload_n 0, 1) := by decide +kernel
theorem dX10_moves_1 : decode cX10_moves 1 = .ok (.getfield 9, 3) := by decide +kernel
theorem dX10_moves_4 : decode cX10_moves 4 = .ok (.iload_n 2, 1) := by decide +kernel
theorem dX10_moves_5 : decode cX10_moves 5 = .ok (.aload_n 0, 1) := by decide +kernel
theorem dX10_moves_6 : decode cX10_moves 6 = .ok (.getfield 9, 3) := by decide +kernel
theorem dX10_moves_9 : decode cX10_moves 9 = .ok (.iload_n 1, 1) := by decide +kernel
theorem dX10_moves_10 : decode cX10_moves 10 = .ok (.iaload, 1) := by decide +kernel
theorem dX10_moves_11 : decode cX10_moves 11 = .ok (.iastore, 1) := by decide +kernel
theorem dX10_moves_12 : decode cX10_moves 12 = .ok (.aload_n 0, 1) := by decide +kernel
theorem dX10_moves_13 : decode cX10_moves 13 = .ok (.getfield 15, 3) := by decide +kernel
theorem dX10_moves_16 : decode cX10_moves 16 = .ok (.iload_n 2, 1) := by decide +kernel
theorem dX10_moves_17 : decode cX10_moves 17 = .ok (.aload_n 0, 1) := by decide +kernel
theorem dX10_moves_18 : decode cX10_moves 18 = .ok (.getfield 15, 3) := by decide +kernel
theorem dX10_moves_21 : decode cX10_moves 21 = .ok (.iload_n 1, 1) := by decide +kernel
theorem dX10_moves_22 : decode cX10_moves 22 = .ok (.iaload, 1) := by decide +kernel
theorem dX10_moves_23 : decode cX10_moves 23 = .ok (.iastore, 1) := by decide +kernel
theorem dX10_moves_24 : decode cX10_moves 24 = .ok (.aload_n 0, 1) := by decide +kernel
theorem dX10_moves_25 : decode cX10_moves 25 = .ok (.getfield 18, 3) := by decide +kernel
theorem dX10_moves_28 : decode cX10_moves 28 = .ok (.iload_n 2, 1) := by decide +kernel
theorem dX10_moves_29 : decode cX10_moves 29 = .ok (.aload_n 0, 1) := by decide +kernel
theorem dX10_moves_30 : decode cX10_moves 30 = .ok (.getfield 18, 3) := by decide +kernel
theorem dX10_moves_33 : decode cX10_moves 33 = .ok (.iload_n 1, 1) := by decide +kernel
theorem dX10_moves_34 : decode cX10_moves 34 = .ok (.iaload, 1) := by decide +kernel
theorem dX10_moves_35 : decode cX10_moves 35 = .ok (.iastore, 1) := by decide +kernel
theorem dX10_moves_36 : decode cX10_moves 36 = .ok (.return_, 1) := by decide +kernel
theorem dX10_passes_0 : decode cX10_passes 0 = .ok (.iconst 0, 1) := by decide +kernel
theorem dX10_passes_1 : decode cX10_passes 1 = .ok (.istore_n 1, 1) := by decide +kernel
theorem dX10_passes_2 : decode cX10_passes 2 = .ok (.iload_n 1, 1) := by decide +kernel
theorem dX10_passes_3 : decode cX10_passes 3 = .ok (.bipush 30, 2) := by decide +kernel
theorem dX10_passes_5 : decode cX10_passes 5 = .ok (.if_icmp .ge 62, 3) := by decide +kernel
theorem dX10_passes_8 : decode cX10_passes 8 = .ok (.aload_n 0, 1) := by decide +kernel
theorem dX10_passes_9 : decode cX10_passes 9 = .ok (.getfield 15, 3) := by decide +kernel
theorem dX10_passes_12 : decode cX10_passes 12 = .ok (.iload_n 1, 1) := by decide +kernel
theorem dX10_passes_13 : decode cX10_passes 13 = .ok (.iaload, 1) := by decide +kernel
theorem dX10_passes_14 : decode cX10_passes 14 = .ok (.ifCond .ne 6, 3) := by decide +kernel
theorem dX10_passes_17 : decode cX10_passes 17 = .ok (.goto 44, 3) := by decide +kernel
theorem dX10_passes_20 : decode cX10_passes 20 = .ok (.aload_n 0, 1) := by decide +kernel
theorem dX10_passes_21 : decode cX10_passes 21 = .ok (.getfield 18, 3) := by decide +kernel
theorem dX10_passes_24 : decode cX10_passes 24 = .ok (.iload_n 1, 1) := by decide +kernel
theorem dX10_passes_25 : decode cX10_passes 25 = .ok (.dup2, 1) := by decide +kernel
theorem dX10_passes_26 : decode cX10_passes 26 = .ok (.iaload, 1) := by decide +kernel
theorem dX10_passes_27 : decode cX10_passes 27 = .ok (.iconst 1, 1) := by decide +kernel
theorem dX10_passes_28 : decode cX10_passes 28 = .ok (.iadd, 1) := by decide +kernel
theorem dX10_passes_29 : decode cX10_passes 29 = .ok (.iastore, 1) := by decide +kernel
theorem dX10_passes_30 : decode cX10_passes 30 = .ok (.aload_n 0, 1) := by decide +kernel
theorem dX10_passes_31 : decode cX10_passes 31 = .ok (.getfield 18, 3) := by decide +kernel
theorem dX10_passes_34 : decode cX10_passes 34 = .ok (.iload_n 1, 1) := by decide +kernel
theorem dX10_passes_35 : decode cX10_passes 35 = .ok (.iaload, 1) := by decide +kernel
theorem dX10_passes_36 : decode cX10_passes 36 = .ok (.bipush 12, 2) := by decide +kernel
theorem dX10_passes_38 : decode cX10_passes 38 = .ok (.if_icmp .ge 6, 3) := by decide +kernel
theorem dX10_passes_41 : decode cX10_passes 41 = .ok (.goto 20, 3) := by decide +kernel
theorem dX10_passes_44 : decode cX10_passes 44 = .ok (.aload_n 0, 1) := by decide +kernel
theorem dX10_passes_45 : decode cX10_passes 45 = .ok (.getfield 15, 3) := by decide +kernel
theorem dX10_passes_48 : decode cX10_passes 48 = .ok (.iload_n 1, 1) := by decide +kernel
theorem dX10_passes_49 : decode cX10_passes 49 = .ok (.dup2, 1) := by decide +kernel
theorem dX10_passes_50 : decode cX10_passes 50 = .ok (.iaload, 1) := by decide +kernel
theorem dX10_passes_51 : decode cX10_passes 51 = .ok (.iconst 1, 1) := by decide +kernel
theorem dX10_passes_52 : decode cX10_passes 52 = .ok (.isub, 1) := by decide +kernel
theorem dX10_passes_53 : decode cX10_passes 53 = .ok (.iastore, 1) := by decide +kernel
theorem dX10_passes_54 : decode cX10_passes 54 = .ok (.aload_n 0, 1) := by decide +kernel
theorem dX10_passes_55 : decode cX10_passes 55 = .ok (.getfield 18, 3) := by decide +kernel
theorem dX10_passes_58 : decode cX10_passes 58 = .ok (.iload_n 1, 1) := by decide +kernel
theorem dX10_passes_59 : decode cX10_passes 59 = .ok (.iconst 0, 1) := by decide +kernel
theorem dX10_passes_60 : decode cX10_passes 60 = .ok (.iastore, 1) := by decide +kernel
theorem dX10_passes_61 : decode cX10_passes 61 = .ok (.iinc 1 1, 3) := by decide +kernel
theorem dX10_passes_64 : decode cX10_passes 64 = .ok (.goto (-62), 3) := by decide +kernel
theorem dX10_passes_67 : decode cX10_passes 67 = .ok (.aload_n 0, 1) := by decide +kernel
theorem dX10_passes_68 : decode cX10_passes 68 = .ok (.dup, 1) := by decide +kernel
theorem dX10_passes_69 : decode cX10_passes 69 = .ok (.getfield 245, 3) := by decide +kernel
theorem dX10_passes_72 : decode cX10_passes 72 = .ok (.iconst 1, 1) := by decide +kernel
theorem dX10_passes_73 : decode cX10_passes 73 = .ok (.iadd, 1) := by decide +kernel
theorem dX10_passes_74 : decode cX10_passes 74 = .ok (.putfield 245, 3) := by decide +kernel
theorem dX10_passes_77 : decode cX10_passes 77 = .ok (.aload_n 0, 1) := by decide +kernel
theorem dX10_passes_78 : decode cX10_passes 78 = .ok (.getfield 24, 3) := by decide +kernel
theorem dX10_passes_81 : decode cX10_passes 81 = .ok (.iconst 1, 1) := by decide +kernel
theorem dX10_passes_82 : decode cX10_passes 82 = .ok (.iaload, 1) := by decide +kernel
theorem dX10_passes_83 : decode cX10_passes 83 = .ok (.ifCond .le 21, 3) := by decide +kernel
theorem dX10_passes_86 : decode cX10_passes 86 = .ok (.aload_n 0, 1) := by decide +kernel
theorem dX10_passes_87 : decode cX10_passes 87 = .ok (.getfield 245, 3) := by decide +kernel
theorem dX10_passes_90 : decode cX10_passes 90 = .ok (.aload_n 0, 1) := by decide +kernel
theorem dX10_passes_91 : decode cX10_passes 91 = .ok (.getfield 24, 3) := by decide +kernel
theorem dX10_passes_94 : decode cX10_passes 94 = .ok (.iconst 1, 1) := by decide +kernel
theorem dX10_passes_95 : decode cX10_passes 95 = .ok (.iaload, 1) := by decide +kernel
theorem dX10_passes_96 : decode cX10_passes 96 = .ok (.irem, 1) := by decide +kernel
theorem dX10_passes_97 : decode cX10_passes 97 = .ok (.ifCond .ne 7, 3) := by decide +kernel
theorem dX10_passes_100 : decode cX10_passes 100 = .ok (.aload_n 0, 1) := by decide +kernel
theorem dX10_passes_101 : decode cX10_passes 101 = .ok (.invokevirtual 248, 3) := by decide +kernel
theorem dX10_passes_104 : decode cX10_passes 104 = .ok (.aload_n 0, 1) := by decide +kernel
theorem dX10_passes_105 : decode cX10_passes 105 = .ok (.getfield 24, 3) := by decide +kernel
theorem dX10_passes_108 : decode cX10_passes 108 = .ok (.iconst 0, 1) := by decide +kernel
theorem dX10_passes_109 : decode cX10_passes 109 = .ok (.aload_n 0, 1) := by decide +kernel
theorem dX10_passes_110 : decode cX10_passes 110 = .ok (.getfield 24, 3) := by decide +kernel
theorem dX10_passes_113 : decode cX10_passes 113 = .ok (.iconst 0, 1) := by decide +kernel
theorem dX10_passes_114 : decode cX10_passes 114 = .ok (.iaload, 1) := by decide +kernel
theorem dX10_passes_115 : decode cX10_passes 115 = .ok (.iconst 1, 1) := by decide +kernel
theorem dX10_passes_116 : decode cX10_passes 116 = .ok (.iadd, 1) := by decide +kernel
theorem dX10_passes_117 : decode cX10_passes 117 = .ok (.bipush 12, 2) := by decide +kernel
theorem dX10_passes_119 : decode cX10_passes 119 = .ok (.irem, 1) := by decide +kernel
theorem dX10_passes_120 : decode cX10_passes 120 = .ok (.iastore, 1) := by decide +kernel
theorem dX10_passes_121 : decode cX10_passes 121 = .ok (.return_, 1) := by decide +kernel
theorem dX10_pulls_0 : decode cX10_pulls 0 = .ok (.bipush 6, 2) := by decide +kernel
theorem dX10_pulls_2 : decode cX10_pulls 2 = .ok (.iload_n 1, 1) := by decide +kernel
theorem dX10_pulls_3 : decode cX10_pulls 3 = .ok (.iconst 2, 1) := by decide +kernel
theorem dX10_pulls_4 : decode cX10_pulls 4 = .ok (.idiv, 1) := by decide +kernel
theorem dX10_pulls_5 : decode cX10_pulls 5 = .ok (.imul, 1) := by decide +kernel
theorem dX10_pulls_6 : decode cX10_pulls 6 = .ok (.istore_n 2, 1) := by decide +kernel
theorem dX10_pulls_7 : decode cX10_pulls 7 = .ok (.iload_n 1, 1) := by decide +kernel
theorem dX10_pulls_8 : decode cX10_pulls 8 = .ok (.iconst 2, 1) := by decide +kernel
theorem dX10_pulls_9 : decode cX10_pulls 9 = .ok (.irem, 1) := by decide +kernel
theorem dX10_pulls_10 : decode cX10_pulls 10 = .ok (.iconst 1, 1) := by decide +kernel
theorem dX10_pulls_11 : decode cX10_pulls 11 = .ok (.if_icmp .ne 7, 3) := by decide +kernel
theorem dX10_pulls_14 : decode cX10_pulls 14 = .ok (.iconst 1, 1) := by decide +kernel
theorem dX10_pulls_15 : decode cX10_pulls 15 = .ok (.goto 4, 3) := by decide +kernel
theorem dX10_pulls_18 : decode cX10_pulls 18 = .ok (.iconst 0, 1) := by decide +kernel
theorem dX10_pulls_19 : decode cX10_pulls 19 = .ok (.istore_n 3, 1) := by decide +kernel
theorem dX10_pulls_20 : decode cX10_pulls 20 = .ok (.iload_n 3, 1) := by decide +kernel
theorem dX10_pulls_21 : decode cX10_pulls 21 = .ok (.ifCond .eq 7, 3) := by decide +kernel
theorem dX10_pulls_24 : decode cX10_pulls 24 = .ok (.iload_n 2, 1) := by decide +kernel
theorem dX10_pulls_25 : decode cX10_pulls 25 = .ok (.goto 9, 3) := by decide +kernel
theorem dX10_pulls_28 : decode cX10_pulls 28 = .ok (.iload_n 2, 1) := by decide +kernel
theorem dX10_pulls_29 : decode cX10_pulls 29 = .ok (.bipush 6, 2) := by decide +kernel
theorem dX10_pulls_31 : decode cX10_pulls 31 = .ok (.iadd, 1) := by decide +kernel
theorem dX10_pulls_32 : decode cX10_pulls 32 = .ok (.iconst 1, 1) := by decide +kernel
theorem dX10_pulls_33 : decode cX10_pulls 33 = .ok (.isub, 1) := by decide +kernel
theorem dX10_pulls_34 : decode cX10_pulls 34 = .ok (.istore 4, 2) := by decide +kernel
theorem dX10_pulls_36 : decode cX10_pulls 36 = .ok (.aload_n 0, 1) := by decide +kernel
theorem dX10_pulls_37 : decode cX10_pulls 37 = .ok (.getfield 9, 3) := by decide +kernel
theorem dX10_pulls_40 : decode cX10_pulls 40 = .ok (.iload 4, 2) := by decide +kernel
theorem dX10_pulls_42 : decode cX10_pulls 42 = .ok (.iaload, 1) := by decide +kernel
theorem dX10_pulls_43 : decode cX10_pulls 43 = .ok (.istore 5, 2) := by decide +kernel
theorem dX10_pulls_45 : decode cX10_pulls 45 = .ok (.aload_n 0, 1) := by decide +kernel
theorem dX10_pulls_46 : decode cX10_pulls 46 = .ok (.getfield 15, 3) := by decide +kernel
theorem dX10_pulls_49 : decode cX10_pulls 49 = .ok (.iload 4, 2) := by decide +kernel
theorem dX10_pulls_51 : decode cX10_pulls 51 = .ok (.iaload, 1) := by decide +kernel
theorem dX10_pulls_52 : decode cX10_pulls 52 = .ok (.istore 6, 2) := by decide +kernel
theorem dX10_pulls_54 : decode cX10_pulls 54 = .ok (.aload_n 0, 1) := by decide +kernel
theorem dX10_pulls_55 : decode cX10_pulls 55 = .ok (.getfield 18, 3) := by decide +kernel
theorem dX10_pulls_58 : decode cX10_pulls 58 = .ok (.iload 4, 2) := by decide +kernel
theorem dX10_pulls_60 : decode cX10_pulls 60 = .ok (.iaload, 1) := by decide +kernel
theorem dX10_pulls_61 : decode cX10_pulls 61 = .ok (.istore 7, 2) := by decide +kernel
theorem dX10_pulls_63 : decode cX10_pulls 63 = .ok (.iconst 1, 1) := by decide +kernel
theorem dX10_pulls_64 : decode cX10_pulls 64 = .ok (.istore 8, 2) := by decide +kernel
theorem dX10_pulls_66 : decode cX10_pulls 66 = .ok (.iload 8, 2) := by decide +kernel
theorem dX10_pulls_68 : decode cX10_pulls 68 = .ok (.bipush 6, 2) := by decide +kernel
theorem dX10_pulls_70 : decode cX10_pulls 70 = .ok (.if_icmp .ge 50, 3) := by decide +kernel
theorem dX10_pulls_73 : decode cX10_pulls 73 = .ok (.iload_n 3, 1) := by decide +kernel
theorem dX10_pulls_74 : decode cX10_pulls 74 = .ok (.ifCond .eq 20, 3) := by decide +kernel
theorem dX10_pulls_77 : decode cX10_pulls 77 = .ok (.aload_n 0, 1) := by decide +kernel
theorem dX10_pulls_78 : decode cX10_pulls 78 = .ok (.iload_n 2, 1) := by decide +kernel
theorem dX10_pulls_79 : decode cX10_pulls 79 = .ok (.iload 8, 2) := by decide +kernel
theorem dX10_pulls_81 : decode cX10_pulls 81 = .ok (.iadd, 1) := by decide +kernel
theorem dX10_pulls_82 : decode cX10_pulls 82 = .ok (.iload_n 2, 1) := by decide +kernel
theorem dX10_pulls_83 : decode cX10_pulls 83 = .ok (.iload 8, 2) := by decide +kernel
theorem dX10_pulls_85 : decode cX10_pulls 85 = .ok (.iadd, 1) := by decide +kernel
theorem dX10_pulls_86 : decode cX10_pulls 86 = .ok (.iconst 1, 1) := by decide +kernel
theorem dX10_pulls_87 : decode cX10_pulls 87 = .ok (.isub, 1) := by decide +kernel
theorem dX10_pulls_88 : decode cX10_pulls 88 = .ok (.invokevirtual 241, 3) := by decide +kernel
theorem dX10_pulls_91 : decode cX10_pulls 91 = .ok (.goto 23, 3) := by decide +kernel
theorem dX10_pulls_94 : decode cX10_pulls 94 = .ok (.aload_n 0, 1) := by decide +kernel
theorem dX10_pulls_95 : decode cX10_pulls 95 = .ok (.iload_n 2, 1) := by decide +kernel
theorem dX10_pulls_96 : decode cX10_pulls 96 = .ok (.bipush 6, 2) := by decide +kernel
theorem dX10_pulls_98 : decode cX10_pulls 98 = .ok (.iadd, 1) := by decide +kernel
theorem dX10_pulls_99 : decode cX10_pulls 99 = .ok (.iconst 1, 1) := by decide +kernel
theorem dX10_pulls_100 : decode cX10_pulls 100 = .ok (.isub, 1) := by decide +kernel
theorem dX10_pulls_101 : decode cX10_pulls 101 = .ok (.iload 8, 2) := by decide +kernel
theorem dX10_pulls_103 : decode cX10_pulls 103 = .ok (.isub, 1) := by decide +kernel
theorem dX10_pulls_104 : decode cX10_pulls 104 = .ok (.iload_n 2, 1) := by decide +kernel
theorem dX10_pulls_105 : decode cX10_pulls 105 = .ok (.bipush 6, 2) := by decide +kernel
theorem dX10_pulls_107 : decode cX10_pulls 107 = .ok (.iadd, 1) := by decide +kernel
theorem dX10_pulls_108 : decode cX10_pulls 108 = .ok (.iload 8, 2) := by decide +kernel
theorem dX10_pulls_110 : decode cX10_pulls 110 = .ok (.isub, 1) := by decide +kernel
theorem dX10_pulls_111 : decode cX10_pulls 111 = .ok (.invokevirtual 241, 3) := by decide +kernel
theorem dX10_pulls_114 : decode cX10_pulls 114 = .ok (.iinc 8 1, 3) := by decide +kernel
theorem dX10_pulls_117 : decode cX10_pulls 117 = .ok (.goto (-51), 3) := by decide +kernel
theorem dX10_pulls_120 : decode cX10_pulls 120 = .ok (.iload_n 3, 1) := by decide +kernel
theorem dX10_pulls_121 : decode cX10_pulls 121 = .ok (.ifCond .eq 12, 3) := by decide +kernel
theorem dX10_pulls_124 : decode cX10_pulls 124 = .ok (.iload_n 2, 1) := by decide +kernel
theorem dX10_pulls_125 : decode cX10_pulls 125 = .ok (.bipush 6, 2) := by decide +kernel
theorem dX10_pulls_127 : decode cX10_pulls 127 = .ok (.iadd, 1) := by decide +kernel
theorem dX10_pulls_128 : decode cX10_pulls 128 = .ok (.iconst 1, 1) := by decide +kernel
theorem dX10_pulls_129 : decode cX10_pulls 129 = .ok (.isub, 1) := by decide +kernel
theorem dX10_pulls_130 : decode cX10_pulls 130 = .ok (.goto 4, 3) := by decide +kernel
theorem dX10_pulls_133 : decode cX10_pulls 133 = .ok (.iload_n 2, 1) := by decide +kernel
theorem dX10_pulls_134 : decode cX10_pulls 134 = .ok (.istore 8, 2) := by decide +kernel
theorem dX10_pulls_136 : decode cX10_pulls 136 = .ok (.aload_n 0, 1) := by decide +kernel
theorem dX10_pulls_137 : decode cX10_pulls 137 = .ok (.getfield 9, 3) := by decide +kernel
theorem dX10_pulls_140 : decode cX10_pulls 140 = .ok (.iload 8, 2) := by decide +kernel
theorem dX10_pulls_142 : decode cX10_pulls 142 = .ok (.iload 5, 2) := by decide +kernel
theorem dX10_pulls_144 : decode cX10_pulls 144 = .ok (.iastore, 1) := by decide +kernel
theorem dX10_pulls_145 : decode cX10_pulls 145 = .ok (.aload_n 0, 1) := by decide +kernel
theorem dX10_pulls_146 : decode cX10_pulls 146 = .ok (.getfield 15, 3) := by decide +kernel
theorem dX10_pulls_149 : decode cX10_pulls 149 = .ok (.iload 8, 2) := by decide +kernel
theorem dX10_pulls_151 : decode cX10_pulls 151 = .ok (.iload 6, 2) := by decide +kernel
theorem dX10_pulls_153 : decode cX10_pulls 153 = .ok (.iastore, 1) := by decide +kernel
theorem dX10_pulls_154 : decode cX10_pulls 154 = .ok (.aload_n 0, 1) := by decide +kernel
theorem dX10_pulls_155 : decode cX10_pulls 155 = .ok (.getfield 18, 3) := by decide +kernel
theorem dX10_pulls_158 : decode cX10_pulls 158 = .ok (.iload 8, 2) := by decide +kernel
theorem dX10_pulls_160 : decode cX10_pulls 160 = .ok (.iload 7, 2) := by decide +kernel
theorem dX10_pulls_162 : decode cX10_pulls 162 = .ok (.iastore, 1) := by decide +kernel
theorem dX10_pulls_163 : decode cX10_pulls 163 = .ok (.return_, 1) := by decide +kernel
theorem dX10_isInner_0 : decode cX10_isInner 0 = .ok (.iload_n 0, 1) := by decide +kernel
theorem dX10_isInner_1 : decode cX10_isInner 1 = .ok (.invokestatic 111, 3) := by decide +kernel
theorem dX10_isInner_4 : decode cX10_isInner 4 = .ok (.ifCond .eq 31, 3) := by decide +kernel
theorem dX10_isInner_7 : decode cX10_isInner 7 = .ok (.iload_n 0, 1) := by decide +kernel
theorem dX10_isInner_8 : decode cX10_isInner 8 = .ok (.bipush 6, 2) := by decide +kernel
theorem dX10_isInner_10 : decode cX10_isInner 10 = .ok (.irem, 1) := by decide +kernel
theorem dX10_isInner_11 : decode cX10_isInner 11 = .ok (.iconst 1, 1) := by decide +kernel
theorem dX10_isInner_12 : decode cX10_isInner 12 = .ok (.iconst 4, 1) := by decide +kernel
theorem dX10_isInner_13 : decode cX10_isInner 13 = .ok (.invokestatic 103, 3) := by decide +kernel
theorem dX10_isInner_16 : decode cX10_isInner 16 = .ok (.ifCond .eq 19, 3) := by decide +kernel
theorem dX10_isInner_19 : decode cX10_isInner 19 = .ok (.iload_n 0, 1) := by decide +kernel
theorem dX10_isInner_20 : decode cX10_isInner 20 = .ok (.bipush 6, 2) := by decide +kernel
theorem dX10_isInner_22 : decode cX10_isInner 22 = .ok (.idiv, 1) := by decide +kernel
theorem dX10_isInner_23 : decode cX10_isInner 23 = .ok (.iconst 1, 1) := by decide +kernel
theorem dX10_isInner_24 : decode cX10_isInner 24 = .ok (.iconst 3, 1) := by decide +kernel
theorem dX10_isInner_25 : decode cX10_isInner 25 = .ok (.invokestatic 103, 3) := by decide +kernel
theorem dX10_isInner_28 : decode cX10_isInner 28 = .ok (.ifCond .eq 7, 3) := by decide +kernel
theorem dX10_isInner_31 : decode cX10_isInner 31 = .ok (.iconst 1, 1) := by decide +kernel
theorem dX10_isInner_32 : decode cX10_isInner 32 = .ok (.goto 4, 3) := by decide +kernel
theorem dX10_isInner_35 : decode cX10_isInner 35 = .ok (.iconst 0, 1) := by decide +kernel
theorem dX10_isInner_36 : decode cX10_isInner 36 = .ok (.ireturn, 1) := by decide +kernel
theorem dX10_shakesAt_0 : decode cX10_shakesAt 0 = .ok (.iconst 0, 1) := by decide +kernel
theorem dX10_shakesAt_1 : decode cX10_shakesAt 1 = .ok (.istore_n 2, 1) := by decide +kernel
theorem dX10_shakesAt_2 : decode cX10_shakesAt 2 = .ok (.iconst (-1), 1) := by decide +kernel
theorem dX10_shakesAt_3 : decode cX10_shakesAt 3 = .ok (.istore_n 3, 1) := by decide +kernel
theorem dX10_shakesAt_4 : decode cX10_shakesAt 4 = .ok (.iload_n 3, 1) := by decide +kernel
theorem dX10_shakesAt_5 : decode cX10_shakesAt 5 = .ok (.iconst 2, 1) := by decide +kernel
theorem dX10_shakesAt_6 : decode cX10_shakesAt 6 = .ok (.if_icmp .ge 41, 3) := by decide +kernel
theorem dX10_shakesAt_9 : decode cX10_shakesAt 9 = .ok (.iconst (-1), 1) := by decide +kernel
theorem dX10_shakesAt_10 : decode cX10_shakesAt 10 = .ok (.istore 4, 2) := by decide +kernel
theorem dX10_shakesAt_12 : decode cX10_shakesAt 12 = .ok (.iload 4, 2) := by decide +kernel
theorem dX10_shakesAt_14 : decode cX10_shakesAt 14 = .ok (.iconst 2, 1) := by decide +kernel
theorem dX10_shakesAt_15 : decode cX10_shakesAt 15 = .ok (.if_icmp .ge 26, 3) := by decide +kernel
theorem dX10_shakesAt_18 : decode cX10_shakesAt 18 = .ok (.iload_n 2, 1) := by decide +kernel
theorem dX10_shakesAt_19 : decode cX10_shakesAt 19 = .ok (.aload_n 0, 1) := by decide +kernel
theorem dX10_shakesAt_20 : decode cX10_shakesAt 20 = .ok (.getfield 15, 3) := by decide +kernel
theorem dX10_shakesAt_23 : decode cX10_shakesAt 23 = .ok (.iload_n 1, 1) := by decide +kernel
theorem dX10_shakesAt_24 : decode cX10_shakesAt 24 = .ok (.bipush 6, 2) := by decide +kernel
theorem dX10_shakesAt_26 : decode cX10_shakesAt 26 = .ok (.iload_n 3, 1) := by decide +kernel
theorem dX10_shakesAt_27 : decode cX10_shakesAt 27 = .ok (.imul, 1) := by decide +kernel
theorem dX10_shakesAt_28 : decode cX10_shakesAt 28 = .ok (.iadd, 1) := by decide +kernel
theorem dX10_shakesAt_29 : decode cX10_shakesAt 29 = .ok (.iload 4, 2) := by decide +kernel
theorem dX10_shakesAt_31 : decode cX10_shakesAt 31 = .ok (.iadd, 1) := by decide +kernel
theorem dX10_shakesAt_32 : decode cX10_shakesAt 32 = .ok (.iaload, 1) := by decide +kernel
theorem dX10_shakesAt_33 : decode cX10_shakesAt 33 = .ok (.iadd, 1) := by decide +kernel
theorem dX10_shakesAt_34 : decode cX10_shakesAt 34 = .ok (.istore_n 2, 1) := by decide +kernel
theorem dX10_shakesAt_35 : decode cX10_shakesAt 35 = .ok (.iinc 4 1, 3) := by decide +kernel
theorem dX10_shakesAt_38 : decode cX10_shakesAt 38 = .ok (.goto (-26), 3) := by decide +kernel
theorem dX10_shakesAt_41 : decode cX10_shakesAt 41 = .ok (.iinc 3 1, 3) := by decide +kernel
theorem dX10_shakesAt_44 : decode cX10_shakesAt 44 = .ok (.goto (-40), 3) := by decide +kernel
theorem dX10_shakesAt_47 : decode cX10_shakesAt 47 = .ok (.iconst (-1), 1) := by decide +kernel
theorem dX10_shakesAt_48 : decode cX10_shakesAt 48 = .ok (.istore_n 3, 1) := by decide +kernel
theorem dX10_shakesAt_49 : decode cX10_shakesAt 49 = .ok (.iload_n 3, 1) := by decide +kernel
theorem dX10_shakesAt_50 : decode cX10_shakesAt 50 = .ok (.iconst 2, 1) := by decide +kernel
theorem dX10_shakesAt_51 : decode cX10_shakesAt 51 = .ok (.if_icmp .ge 42, 3) := by decide +kernel
theorem dX10_shakesAt_54 : decode cX10_shakesAt 54 = .ok (.iconst (-1), 1) := by decide +kernel
theorem dX10_shakesAt_55 : decode cX10_shakesAt 55 = .ok (.istore 4, 2) := by decide +kernel
theorem dX10_shakesAt_57 : decode cX10_shakesAt 57 = .ok (.iload 4, 2) := by decide +kernel
theorem dX10_shakesAt_59 : decode cX10_shakesAt 59 = .ok (.iconst 2, 1) := by decide +kernel
theorem dX10_shakesAt_60 : decode cX10_shakesAt 60 = .ok (.if_icmp .ge 27, 3) := by decide +kernel
theorem dX10_shakesAt_63 : decode cX10_shakesAt 63 = .ok (.aload_n 0, 1) := by decide +kernel
theorem dX10_shakesAt_64 : decode cX10_shakesAt 64 = .ok (.getfield 15, 3) := by decide +kernel
theorem dX10_shakesAt_67 : decode cX10_shakesAt 67 = .ok (.iload_n 1, 1) := by decide +kernel
theorem dX10_shakesAt_68 : decode cX10_shakesAt 68 = .ok (.bipush 6, 2) := by decide +kernel
theorem dX10_shakesAt_70 : decode cX10_shakesAt 70 = .ok (.iload_n 3, 1) := by decide +kernel
theorem dX10_shakesAt_71 : decode cX10_shakesAt 71 = .ok (.imul, 1) := by decide +kernel
theorem dX10_shakesAt_72 : decode cX10_shakesAt 72 = .ok (.iadd, 1) := by decide +kernel
theorem dX10_shakesAt_73 : decode cX10_shakesAt 73 = .ok (.iload 4, 2) := by decide +kernel
theorem dX10_shakesAt_75 : decode cX10_shakesAt 75 = .ok (.iadd, 1) := by decide +kernel
theorem dX10_shakesAt_76 : decode cX10_shakesAt 76 = .ok (.iload_n 2, 1) := by decide +kernel
theorem dX10_shakesAt_77 : decode cX10_shakesAt 77 = .ok (.bipush 9, 2) := by decide +kernel
theorem dX10_shakesAt_79 : decode cX10_shakesAt 79 = .ok (.idiv, 1) := by decide +kernel
theorem dX10_shakesAt_80 : decode cX10_shakesAt 80 = .ok (.iastore, 1) := by decide +kernel
theorem dX10_shakesAt_81 : decode cX10_shakesAt 81 = .ok (.iinc 4 1, 3) := by decide +kernel
theorem dX10_shakesAt_84 : decode cX10_shakesAt 84 = .ok (.goto (-27), 3) := by decide +kernel
theorem dX10_shakesAt_87 : decode cX10_shakesAt 87 = .ok (.iinc 3 1, 3) := by decide +kernel
theorem dX10_shakesAt_90 : decode cX10_shakesAt 90 = .ok (.goto (-41), 3) := by decide +kernel
theorem dX10_shakesAt_93 : decode cX10_shakesAt 93 = .ok (.aload_n 0, 1) := by decide +kernel
theorem dX10_shakesAt_94 : decode cX10_shakesAt 94 = .ok (.getfield 15, 3) := by decide +kernel
theorem dX10_shakesAt_97 : decode cX10_shakesAt 97 = .ok (.iload_n 1, 1) := by decide +kernel
theorem dX10_shakesAt_98 : decode cX10_shakesAt 98 = .ok (.bipush 9, 2) := by decide +kernel
theorem dX10_shakesAt_100 : decode cX10_shakesAt 100 = .ok (.iload_n 2, 1) := by decide +kernel
theorem dX10_shakesAt_101 : decode cX10_shakesAt 101 = .ok (.bipush 9, 2) := by decide +kernel
theorem dX10_shakesAt_103 : decode cX10_shakesAt 103 = .ok (.idiv, 1) := by decide +kernel
theorem dX10_shakesAt_104 : decode cX10_shakesAt 104 = .ok (.iload_n 2, 1) := by decide +kernel
theorem dX10_shakesAt_105 : decode cX10_shakesAt 105 = .ok (.bipush 9, 2) := by decide +kernel
theorem dX10_shakesAt_107 : decode cX10_shakesAt 107 = .ok (.irem, 1) := by decide +kernel
theorem dX10_shakesAt_108 : decode cX10_shakesAt 108 = .ok (.iadd, 1) := by decide +kernel
theorem dX10_shakesAt_109 : decode cX10_shakesAt 109 = .ok (.invokestatic 227, 3) := by decide +kernel
theorem dX10_shakesAt_112 : decode cX10_shakesAt 112 = .ok (.iastore, 1) := by decide +kernel
theorem dX10_shakesAt_113 : decode cX10_shakesAt 113 = .ok (.return_, 1) := by decide +kernel
theorem dX10_keeps_0 : decode cX10_keeps 0 = .ok (.iconst 0, 1) := by decide +kernel
theorem dX10_keeps_1 : decode cX10_keeps 1 = .ok (.istore_n 2, 1) := by decide +kernel
theorem dX10_keeps_2 : decode cX10_keeps 2 = .ok (.iload_n 2, 1) := by decide +kernel
theorem dX10_keeps_3 : decode cX10_keeps 3 = .ok (.bipush 30, 2) := by decide +kernel
theorem dX10_keeps_5 : decode cX10_keeps 5 = .ok (.if_icmp .ge 42, 3) := by decide +kernel
theorem dX10_keeps_8 : decode cX10_keeps 8 = .ok (.aload_n 1, 1) := by decide +kernel
theorem dX10_keeps_9 : decode cX10_keeps 9 = .ok (.iload_n 2, 1) := by decide +kernel
theorem dX10_keeps_10 : decode cX10_keeps 10 = .ok (.aload_n 0, 1) := by decide +kernel
theorem dX10_keeps_11 : decode cX10_keeps 11 = .ok (.getfield 9, 3) := by decide +kernel
theorem dX10_keeps_14 : decode cX10_keeps 14 = .ok (.iload_n 2, 1) := by decide +kernel
theorem dX10_keeps_15 : decode cX10_keeps 15 = .ok (.iaload, 1) := by decide +kernel
theorem dX10_keeps_16 : decode cX10_keeps 16 = .ok (.iastore, 1) := by decide +kernel
theorem dX10_keeps_17 : decode cX10_keeps 17 = .ok (.aload_n 1, 1) := by decide +kernel
theorem dX10_keeps_18 : decode cX10_keeps 18 = .ok (.bipush 30, 2) := by decide +kernel
theorem dX10_keeps_20 : decode cX10_keeps 20 = .ok (.iload_n 2, 1) := by decide +kernel
theorem dX10_keeps_21 : decode cX10_keeps 21 = .ok (.iadd, 1) := by decide +kernel
theorem dX10_keeps_22 : decode cX10_keeps 22 = .ok (.aload_n 0, 1) := by decide +kernel
theorem dX10_keeps_23 : decode cX10_keeps 23 = .ok (.getfield 15, 3) := by decide +kernel
theorem dX10_keeps_26 : decode cX10_keeps 26 = .ok (.iload_n 2, 1) := by decide +kernel
theorem dX10_keeps_27 : decode cX10_keeps 27 = .ok (.iaload, 1) := by decide +kernel
theorem dX10_keeps_28 : decode cX10_keeps 28 = .ok (.iastore, 1) := by decide +kernel
theorem dX10_keeps_29 : decode cX10_keeps 29 = .ok (.aload_n 1, 1) := by decide +kernel
theorem dX10_keeps_30 : decode cX10_keeps 30 = .ok (.bipush 60, 2) := by decide +kernel
theorem dX10_keeps_32 : decode cX10_keeps 32 = .ok (.iload_n 2, 1) := by decide +kernel
theorem dX10_keeps_33 : decode cX10_keeps 33 = .ok (.iadd, 1) := by decide +kernel
theorem dX10_keeps_34 : decode cX10_keeps 34 = .ok (.aload_n 0, 1) := by decide +kernel
theorem dX10_keeps_35 : decode cX10_keeps 35 = .ok (.getfield 18, 3) := by decide +kernel
theorem dX10_keeps_38 : decode cX10_keeps 38 = .ok (.iload_n 2, 1) := by decide +kernel
theorem dX10_keeps_39 : decode cX10_keeps 39 = .ok (.iaload, 1) := by decide +kernel
theorem dX10_keeps_40 : decode cX10_keeps 40 = .ok (.iastore, 1) := by decide +kernel
theorem dX10_keeps_41 : decode cX10_keeps 41 = .ok (.iinc 2 1, 3) := by decide +kernel
theorem dX10_keeps_44 : decode cX10_keeps 44 = .ok (.goto (-42), 3) := by decide +kernel
theorem dX10_keeps_47 : decode cX10_keeps 47 = .ok (.aload_n 1, 1) := by decide +kernel
theorem dX10_keeps_48 : decode cX10_keeps 48 = .ok (.bipush 90, 2) := by decide +kernel
theorem dX10_keeps_50 : decode cX10_keeps 50 = .ok (.aload_n 0, 1) := by decide +kernel
theorem dX10_keeps_51 : decode cX10_keeps 51 = .ok (.getfield 24, 3) := by decide +kernel
theorem dX10_keeps_54 : decode cX10_keeps 54 = .ok (.iconst 0, 1) := by decide +kernel
theorem dX10_keeps_55 : decode cX10_keeps 55 = .ok (.iaload, 1) := by decide +kernel
theorem dX10_keeps_56 : decode cX10_keeps 56 = .ok (.iastore, 1) := by decide +kernel
theorem dX10_keeps_57 : decode cX10_keeps 57 = .ok (.aload_n 1, 1) := by decide +kernel
theorem dX10_keeps_58 : decode cX10_keeps 58 = .ok (.bipush 91, 2) := by decide +kernel
theorem dX10_keeps_60 : decode cX10_keeps 60 = .ok (.aload_n 0, 1) := by decide +kernel
theorem dX10_keeps_61 : decode cX10_keeps 61 = .ok (.getfield 245, 3) := by decide +kernel
theorem dX10_keeps_64 : decode cX10_keeps 64 = .ok (.iastore, 1) := by decide +kernel
theorem dX10_keeps_65 : decode cX10_keeps 65 = .ok (.return_, 1) := by decide +kernel
theorem dX10_again_0 : decode cX10_again 0 = .ok (.iconst 0, 1) := by decide +kernel
theorem dX10_again_1 : decode cX10_again 1 = .ok (.istore_n 2, 1) := by decide +kernel
theorem dX10_again_2 : decode cX10_again 2 = .ok (.iload_n 2, 1) := by decide +kernel
theorem dX10_again_3 : decode cX10_again 3 = .ok (.bipush 30, 2) := by decide +kernel
theorem dX10_again_5 : decode cX10_again 5 = .ok (.if_icmp .ge 42, 3) := by decide +kernel
theorem dX10_again_8 : decode cX10_again 8 = .ok (.aload_n 0, 1) := by decide +kernel
theorem dX10_again_9 : decode cX10_again 9 = .ok (.getfield 9, 3) := by decide +kernel
theorem dX10_again_12 : decode cX10_again 12 = .ok (.iload_n 2, 1) := by decide +kernel
theorem dX10_again_13 : decode cX10_again 13 = .ok (.aload_n 1, 1) := by decide +kernel
theorem dX10_again_14 : decode cX10_again 14 = .ok (.iload_n 2, 1) := by decide +kernel
theorem dX10_again_15 : decode cX10_again 15 = .ok (.iaload, 1) := by decide +kernel
theorem dX10_again_16 : decode cX10_again 16 = .ok (.iastore, 1) := by decide +kernel
theorem dX10_again_17 : decode cX10_again 17 = .ok (.aload_n 0, 1) := by decide +kernel
theorem dX10_again_18 : decode cX10_again 18 = .ok (.getfield 15, 3) := by decide +kernel
theorem dX10_again_21 : decode cX10_again 21 = .ok (.iload_n 2, 1) := by decide +kernel
theorem dX10_again_22 : decode cX10_again 22 = .ok (.aload_n 1, 1) := by decide +kernel
theorem dX10_again_23 : decode cX10_again 23 = .ok (.bipush 30, 2) := by decide +kernel
theorem dX10_again_25 : decode cX10_again 25 = .ok (.iload_n 2, 1) := by decide +kernel
theorem dX10_again_26 : decode cX10_again 26 = .ok (.iadd, 1) := by decide +kernel
theorem dX10_again_27 : decode cX10_again 27 = .ok (.iaload, 1) := by decide +kernel
theorem dX10_again_28 : decode cX10_again 28 = .ok (.iastore, 1) := by decide +kernel
theorem dX10_again_29 : decode cX10_again 29 = .ok (.aload_n 0, 1) := by decide +kernel
theorem dX10_again_30 : decode cX10_again 30 = .ok (.getfield 18, 3) := by decide +kernel
theorem dX10_again_33 : decode cX10_again 33 = .ok (.iload_n 2, 1) := by decide +kernel
theorem dX10_again_34 : decode cX10_again 34 = .ok (.aload_n 1, 1) := by decide +kernel
theorem dX10_again_35 : decode cX10_again 35 = .ok (.bipush 60, 2) := by decide +kernel
theorem dX10_again_37 : decode cX10_again 37 = .ok (.iload_n 2, 1) := by decide +kernel
theorem dX10_again_38 : decode cX10_again 38 = .ok (.iadd, 1) := by decide +kernel
theorem dX10_again_39 : decode cX10_again 39 = .ok (.iaload, 1) := by decide +kernel
theorem dX10_again_40 : decode cX10_again 40 = .ok (.iastore, 1) := by decide +kernel
theorem dX10_again_41 : decode cX10_again 41 = .ok (.iinc 2 1, 3) := by decide +kernel
theorem dX10_again_44 : decode cX10_again 44 = .ok (.goto (-42), 3) := by decide +kernel
theorem dX10_again_47 : decode cX10_again 47 = .ok (.aload_n 0, 1) := by decide +kernel
theorem dX10_again_48 : decode cX10_again 48 = .ok (.getfield 24, 3) := by decide +kernel
theorem dX10_again_51 : decode cX10_again 51 = .ok (.iconst 0, 1) := by decide +kernel
theorem dX10_again_52 : decode cX10_again 52 = .ok (.aload_n 1, 1) := by decide +kernel
theorem dX10_again_53 : decode cX10_again 53 = .ok (.bipush 90, 2) := by decide +kernel
theorem dX10_again_55 : decode cX10_again 55 = .ok (.iaload, 1) := by decide +kernel
theorem dX10_again_56 : decode cX10_again 56 = .ok (.iastore, 1) := by decide +kernel
theorem dX10_again_57 : decode cX10_again 57 = .ok (.aload_n 0, 1) := by decide +kernel
theorem dX10_again_58 : decode cX10_again 58 = .ok (.aload_n 1, 1) := by decide +kernel
theorem dX10_again_59 : decode cX10_again 59 = .ok (.bipush 91, 2) := by decide +kernel
theorem dX10_again_61 : decode cX10_again 61 = .ok (.iaload, 1) := by decide +kernel
theorem dX10_again_62 : decode cX10_again 62 = .ok (.putfield 245, 3) := by decide +kernel
theorem dX10_again_65 : decode cX10_again 65 = .ok (.return_, 1) := by decide +kernel
theorem dX10_goesOn_0 : decode cX10_goesOn 0 = .ok (.iconst 0, 1) := by decide +kernel
theorem dX10_goesOn_1 : decode cX10_goesOn 1 = .ok (.istore_n 2, 1) := by decide +kernel
theorem dX10_goesOn_2 : decode cX10_goesOn 2 = .ok (.iload_n 2, 1) := by decide +kernel
theorem dX10_goesOn_3 : decode cX10_goesOn 3 = .ok (.iload_n 1, 1) := by decide +kernel
theorem dX10_goesOn_4 : decode cX10_goesOn 4 = .ok (.if_icmp .ge 13, 3) := by decide +kernel
theorem dX10_goesOn_7 : decode cX10_goesOn 7 = .ok (.aload_n 0, 1) := by decide +kernel
theorem dX10_goesOn_8 : decode cX10_goesOn 8 = .ok (.invokevirtual 251, 3) := by decide +kernel
theorem dX10_goesOn_11 : decode cX10_goesOn 11 = .ok (.iinc 2 1, 3) := by decide +kernel
theorem dX10_goesOn_14 : decode cX10_goesOn 14 = .ok (.goto (-12), 3) := by decide +kernel
theorem dX10_goesOn_17 : decode cX10_goesOn 17 = .ok (.return_, 1) := by decide +kernel
theorem dX10_later_0 : decode cX10_later 0 = .ok (.iload_n 1, 1) := by decide +kernel
theorem dX10_later_1 : decode cX10_later 1 = .ok (.invokestatic 254, 3) := by decide +kernel
theorem dX10_later_4 : decode cX10_later 4 = .ok (.ifCond .eq 19, 3) := by decide +kernel
theorem dX10_later_7 : decode cX10_later 7 = .ok (.iload_n 2, 1) := by decide +kernel
theorem dX10_later_8 : decode cX10_later 8 = .ok (.invokestatic 111, 3) := by decide +kernel
theorem dX10_later_11 : decode cX10_later 11 = .ok (.ifCond .eq 12, 3) := by decide +kernel
theorem dX10_later_14 : decode cX10_later 14 = .ok (.iload_n 3, 1) := by decide +kernel
theorem dX10_later_15 : decode cX10_later 15 = .ok (.iconst 0, 1) := by decide +kernel
theorem dX10_later_16 : decode cX10_later 16 = .ok (.iconst 3, 1) := by decide +kernel
theorem dX10_later_17 : decode cX10_later 17 = .ok (.invokestatic 103, 3) := by decide +kernel
theorem dX10_later_20 : decode cX10_later 20 = .ok (.ifCond .ne 5, 3) := by decide +kernel
theorem dX10_later_23 : decode cX10_later 23 = .ok (.iconst (-1), 1) := by decide +kernel
theorem dX10_later_24 : decode cX10_later 24 = .ok (.ireturn, 1) := by decide +kernel
theorem dX10_later_25 : decode cX10_later 25 = .ok (.aload_n 0, 1) := by decide +kernel
theorem dX10_later_26 : decode cX10_later 26 = .ok (.aload_n 0, 1) := by decide +kernel
theorem dX10_later_27 : decode cX10_later 27 = .ok (.getfield 88, 3) := by decide +kernel
theorem dX10_later_30 : decode cX10_later 30 = .ok (.invokevirtual 257, 3) := by decide +kernel
theorem dX10_later_33 : decode cX10_later 33 = .ok (.aload_n 0, 1) := by decide +kernel
theorem dX10_later_34 : decode cX10_later 34 = .ok (.iload_n 1, 1) := by decide +kernel
theorem dX10_later_35 : decode cX10_later 35 = .ok (.invokevirtual 261, 3) := by decide +kernel
theorem dX10_later_38 : decode cX10_later 38 = .ok (.iload_n 3, 1) := by decide +kernel
theorem dX10_later_39 : decode cX10_later 39 = .ok (.ifCond .ne 11, 3) := by decide +kernel
theorem dX10_later_42 : decode cX10_later 42 = .ok (.aload_n 0, 1) := by decide +kernel
theorem dX10_later_43 : decode cX10_later 43 = .ok (.iload_n 2, 1) := by decide +kernel
theorem dX10_later_44 : decode cX10_later 44 = .ok (.invokevirtual 235, 3) := by decide +kernel
theorem dX10_later_47 : decode cX10_later 47 = .ok (.goto 11, 3) := by decide +kernel
theorem dX10_later_50 : decode cX10_later 50 = .ok (.aload_n 0, 1) := by decide +kernel
theorem dX10_later_51 : decode cX10_later 51 = .ok (.iload_n 2, 1) := by decide +kernel
theorem dX10_later_52 : decode cX10_later 52 = .ok (.iload_n 3, 1) := by decide +kernel
theorem dX10_later_53 : decode cX10_later 53 = .ok (.iconst 1, 1) := by decide +kernel
theorem dX10_later_54 : decode cX10_later 54 = .ok (.isub, 1) := by decide +kernel
theorem dX10_later_55 : decode cX10_later 55 = .ok (.invokevirtual 138, 3) := by decide +kernel
theorem dX10_later_58 : decode cX10_later 58 = .ok (.istore 4, 2) := by decide +kernel
theorem dX10_later_60 : decode cX10_later 60 = .ok (.aload_n 0, 1) := by decide +kernel
theorem dX10_later_61 : decode cX10_later 61 = .ok (.aload_n 0, 1) := by decide +kernel
theorem dX10_later_62 : decode cX10_later 62 = .ok (.getfield 88, 3) := by decide +kernel
theorem dX10_later_65 : decode cX10_later 65 = .ok (.invokevirtual 265, 3) := by decide +kernel
theorem dX10_later_68 : decode cX10_later 68 = .ok (.iload 4, 2) := by decide +kernel
theorem dX10_later_70 : decode cX10_later 70 = .ok (.ireturn, 1) := by decide +kernel
theorem dX10_warmest_0 : decode cX10_warmest 0 = .ok (.iconst 0, 1) := by decide +kernel
theorem dX10_warmest_1 : decode cX10_warmest 1 = .ok (.istore_n 1, 1) := by decide +kernel
theorem dX10_warmest_2 : decode cX10_warmest 2 = .ok (.iconst 1, 1) := by decide +kernel
theorem dX10_warmest_3 : decode cX10_warmest 3 = .ok (.istore_n 2, 1) := by decide +kernel
theorem dX10_warmest_4 : decode cX10_warmest 4 = .ok (.iload_n 2, 1) := by decide +kernel
theorem dX10_warmest_5 : decode cX10_warmest 5 = .ok (.bipush 30, 2) := by decide +kernel
theorem dX10_warmest_7 : decode cX10_warmest 7 = .ok (.if_icmp .ge 24, 3) := by decide +kernel
theorem dX10_warmest_10 : decode cX10_warmest 10 = .ok (.aload_n 0, 1) := by decide +kernel
theorem dX10_warmest_11 : decode cX10_warmest 11 = .ok (.iload_n 2, 1) := by decide +kernel
theorem dX10_warmest_12 : decode cX10_warmest 12 = .ok (.invokevirtual 235, 3) := by decide +kernel
theorem dX10_warmest_15 : decode cX10_warmest 15 = .ok (.aload_n 0, 1) := by decide +kernel
theorem dX10_warmest_16 : decode cX10_warmest 16 = .ok (.iload_n 1, 1) := by decide +kernel
theorem dX10_warmest_17 : decode cX10_warmest 17 = .ok (.invokevirtual 235, 3) := by decide +kernel
theorem dX10_warmest_20 : decode cX10_warmest 20 = .ok (.if_icmp .le 5, 3) := by decide +kernel
theorem dX10_warmest_23 : decode cX10_warmest 23 = .ok (.iload_n 2, 1) := by decide +kernel
theorem dX10_warmest_24 : decode cX10_warmest 24 = .ok (.istore_n 1, 1) := by decide +kernel
theorem dX10_warmest_25 : decode cX10_warmest 25 = .ok (.iinc 2 1, 3) := by decide +kernel
theorem dX10_warmest_28 : decode cX10_warmest 28 = .ok (.goto (-24), 3) := by decide +kernel
theorem dX10_warmest_31 : decode cX10_warmest 31 = .ok (.iload_n 1, 1) := by decide +kernel
theorem dX10_warmest_32 : decode cX10_warmest 32 = .ok (.ireturn, 1) := by decide +kernel
theorem dX10_cold_0 : decode cX10_cold 0 = .ok (.iload_n 1, 1) := by decide +kernel
theorem dX10_cold_1 : decode cX10_cold 1 = .ok (.invokestatic 254, 3) := by decide +kernel
theorem dX10_cold_4 : decode cX10_cold 4 = .ok (.ifCond .eq 12, 3) := by decide +kernel
theorem dX10_cold_7 : decode cX10_cold 7 = .ok (.iload_n 2, 1) := by decide +kernel
theorem dX10_cold_8 : decode cX10_cold 8 = .ok (.iconst 0, 1) := by decide +kernel
theorem dX10_cold_9 : decode cX10_cold 9 = .ok (.iconst 1, 1) := by decide +kernel
theorem dX10_cold_10 : decode cX10_cold 10 = .ok (.invokestatic 103, 3) := by decide +kernel
theorem dX10_cold_13 : decode cX10_cold 13 = .ok (.ifCond .ne 5, 3) := by decide +kernel
theorem dX10_cold_16 : decode cX10_cold 16 = .ok (.iconst (-1), 1) := by decide +kernel
theorem dX10_cold_17 : decode cX10_cold 17 = .ok (.ireturn, 1) := by decide +kernel
theorem dX10_cold_18 : decode cX10_cold 18 = .ok (.aload_n 0, 1) := by decide +kernel
theorem dX10_cold_19 : decode cX10_cold 19 = .ok (.aload_n 0, 1) := by decide +kernel
theorem dX10_cold_20 : decode cX10_cold 20 = .ok (.getfield 88, 3) := by decide +kernel
theorem dX10_cold_23 : decode cX10_cold 23 = .ok (.invokevirtual 257, 3) := by decide +kernel
theorem dX10_cold_26 : decode cX10_cold 26 = .ok (.aload_n 0, 1) := by decide +kernel
theorem dX10_cold_27 : decode cX10_cold 27 = .ok (.iload_n 1, 1) := by decide +kernel
theorem dX10_cold_28 : decode cX10_cold 28 = .ok (.invokevirtual 261, 3) := by decide +kernel
theorem dX10_cold_31 : decode cX10_cold 31 = .ok (.iload_n 2, 1) := by decide +kernel
theorem dX10_cold_32 : decode cX10_cold 32 = .ok (.ifCond .ne 10, 3) := by decide +kernel
theorem dX10_cold_35 : decode cX10_cold 35 = .ok (.aload_n 0, 1) := by decide +kernel
theorem dX10_cold_36 : decode cX10_cold 36 = .ok (.invokevirtual 268, 3) := by decide +kernel
theorem dX10_cold_39 : decode cX10_cold 39 = .ok (.goto 7, 3) := by decide +kernel
theorem dX10_cold_42 : decode cX10_cold 42 = .ok (.aload_n 0, 1) := by decide +kernel
theorem dX10_cold_43 : decode cX10_cold 43 = .ok (.invokevirtual 271, 3) := by decide +kernel
theorem dX10_cold_46 : decode cX10_cold 46 = .ok (.istore_n 3, 1) := by decide +kernel
theorem dX10_cold_47 : decode cX10_cold 47 = .ok (.aload_n 0, 1) := by decide +kernel
theorem dX10_cold_48 : decode cX10_cold 48 = .ok (.aload_n 0, 1) := by decide +kernel
theorem dX10_cold_49 : decode cX10_cold 49 = .ok (.getfield 88, 3) := by decide +kernel
theorem dX10_cold_52 : decode cX10_cold 52 = .ok (.invokevirtual 265, 3) := by decide +kernel
theorem dX10_cold_55 : decode cX10_cold 55 = .ok (.iload_n 3, 1) := by decide +kernel
theorem dX10_cold_56 : decode cX10_cold 56 = .ok (.ireturn, 1) := by decide +kernel
theorem dX10_first_0 : decode cX10_first 0 = .ok (.aload_n 0, 1) := by decide +kernel
theorem dX10_first_1 : decode cX10_first 1 = .ok (.iload_n 1, 1) := by decide +kernel
theorem dX10_first_2 : decode cX10_first 2 = .ok (.invokevirtual 128, 3) := by decide +kernel
theorem dX10_first_5 : decode cX10_first 5 = .ok (.ifCond .ne 5, 3) := by decide +kernel
theorem dX10_first_8 : decode cX10_first 8 = .ok (.iconst (-1), 1) := by decide +kernel
theorem dX10_first_9 : decode cX10_first 9 = .ok (.ireturn, 1) := by decide +kernel
theorem dX10_first_10 : decode cX10_first 10 = .ok (.aload_n 0, 1) := by decide +kernel
theorem dX10_first_11 : decode cX10_first 11 = .ok (.aload_n 0, 1) := by decide +kernel
theorem dX10_first_12 : decode cX10_first 12 = .ok (.getfield 88, 3) := by decide +kernel
theorem dX10_first_15 : decode cX10_first 15 = .ok (.invokevirtual 257, 3) := by decide +kernel
theorem dX10_first_18 : decode cX10_first 18 = .ok (.bipush (-2), 2) := by decide +kernel
theorem dX10_first_20 : decode cX10_first 20 = .ok (.istore_n 2, 1) := by decide +kernel
theorem dX10_first_21 : decode cX10_first 21 = .ok (.iconst 0, 1) := by decide +kernel
theorem dX10_first_22 : decode cX10_first 22 = .ok (.istore_n 3, 1) := by decide +kernel
theorem dX10_first_23 : decode cX10_first 23 = .ok (.iload_n 3, 1) := by decide +kernel
theorem dX10_first_24 : decode cX10_first 24 = .ok (.bipush 49, 2) := by decide +kernel
theorem dX10_first_26 : decode cX10_first 26 = .ok (.if_icmp .ge 33, 3) := by decide +kernel
theorem dX10_first_29 : decode cX10_first 29 = .ok (.iload_n 2, 1) := by decide +kernel
theorem dX10_first_30 : decode cX10_first 30 = .ok (.bipush (-2), 2) := by decide +kernel
theorem dX10_first_32 : decode cX10_first 32 = .ok (.if_icmp .ne 27, 3) := by decide +kernel
theorem dX10_first_35 : decode cX10_first 35 = .ok (.iload_n 3, 1) := by decide +kernel
theorem dX10_first_36 : decode cX10_first 36 = .ok (.ifCond .le 7, 3) := by decide +kernel
theorem dX10_first_39 : decode cX10_first 39 = .ok (.aload_n 0, 1) := by decide +kernel
theorem dX10_first_40 : decode cX10_first 40 = .ok (.invokevirtual 251, 3) := by decide +kernel
theorem dX10_first_43 : decode cX10_first 43 = .ok (.aload_n 0, 1) := by decide +kernel
theorem dX10_first_44 : decode cX10_first 44 = .ok (.iload_n 1, 1) := by decide +kernel
theorem dX10_first_45 : decode cX10_first 45 = .ok (.invokevirtual 238, 3) := by decide +kernel
theorem dX10_first_48 : decode cX10_first 48 = .ok (.ifCond .eq 5, 3) := by decide +kernel
theorem dX10_first_51 : decode cX10_first 51 = .ok (.iload_n 3, 1) := by decide +kernel
theorem dX10_first_52 : decode cX10_first 52 = .ok (.istore_n 2, 1) := by decide +kernel
theorem dX10_first_53 : decode cX10_first 53 = .ok (.iinc 3 1, 3) := by decide +kernel
theorem dX10_first_56 : decode cX10_first 56 = .ok (.goto (-33), 3) := by decide +kernel
theorem dX10_first_59 : decode cX10_first 59 = .ok (.aload_n 0, 1) := by decide +kernel
theorem dX10_first_60 : decode cX10_first 60 = .ok (.aload_n 0, 1) := by decide +kernel
theorem dX10_first_61 : decode cX10_first 61 = .ok (.getfield 88, 3) := by decide +kernel
theorem dX10_first_64 : decode cX10_first 64 = .ok (.invokevirtual 265, 3) := by decide +kernel
theorem dX10_first_67 : decode cX10_first 67 = .ok (.iload_n 2, 1) := by decide +kernel
theorem dX10_first_68 : decode cX10_first 68 = .ok (.ireturn, 1) := by decide +kernel
theorem dX10_often_0 : decode cX10_often 0 = .ok (.aload_n 0, 1) := by decide +kernel
theorem dX10_often_1 : decode cX10_often 1 = .ok (.iload_n 1, 1) := by decide +kernel
theorem dX10_often_2 : decode cX10_often 2 = .ok (.invokevirtual 128, 3) := by decide +kernel
theorem dX10_often_5 : decode cX10_often 5 = .ok (.ifCond .eq 10, 3) := by decide +kernel
theorem dX10_often_8 : decode cX10_often 8 = .ok (.iload_n 2, 1) := by decide +kernel
theorem dX10_often_9 : decode cX10_often 9 = .ok (.invokestatic 254, 3) := by decide +kernel
theorem dX10_often_12 : decode cX10_often 12 = .ok (.ifCond .ne 5, 3) := by decide +kernel
theorem dX10_often_15 : decode cX10_often 15 = .ok (.iconst (-1), 1) := by decide +kernel
theorem dX10_often_16 : decode cX10_often 16 = .ok (.ireturn, 1) := by decide +kernel
theorem dX10_often_17 : decode cX10_often 17 = .ok (.aload_n 0, 1) := by decide +kernel
theorem dX10_often_18 : decode cX10_often 18 = .ok (.aload_n 0, 1) := by decide +kernel
theorem dX10_often_19 : decode cX10_often 19 = .ok (.getfield 88, 3) := by decide +kernel
theorem dX10_often_22 : decode cX10_often 22 = .ok (.invokevirtual 257, 3) := by decide +kernel
theorem dX10_often_25 : decode cX10_often 25 = .ok (.iconst 0, 1) := by decide +kernel
theorem dX10_often_26 : decode cX10_often 26 = .ok (.istore_n 3, 1) := by decide +kernel
theorem dX10_often_27 : decode cX10_often 27 = .ok (.iconst 0, 1) := by decide +kernel
theorem dX10_often_28 : decode cX10_often 28 = .ok (.istore 4, 2) := by decide +kernel
theorem dX10_often_30 : decode cX10_often 30 = .ok (.iload 4, 2) := by decide +kernel
theorem dX10_often_32 : decode cX10_often 32 = .ok (.iload_n 2, 1) := by decide +kernel
theorem dX10_often_33 : decode cX10_often 33 = .ok (.if_icmp .gt 29, 3) := by decide +kernel
theorem dX10_often_36 : decode cX10_often 36 = .ok (.iload 4, 2) := by decide +kernel
theorem dX10_often_38 : decode cX10_often 38 = .ok (.ifCond .le 7, 3) := by decide +kernel
theorem dX10_often_41 : decode cX10_often 41 = .ok (.aload_n 0, 1) := by decide +kernel
theorem dX10_often_42 : decode cX10_often 42 = .ok (.invokevirtual 251, 3) := by decide +kernel
theorem dX10_often_45 : decode cX10_often 45 = .ok (.aload_n 0, 1) := by decide +kernel
theorem dX10_often_46 : decode cX10_often 46 = .ok (.iload_n 1, 1) := by decide +kernel
theorem dX10_often_47 : decode cX10_often 47 = .ok (.invokevirtual 238, 3) := by decide +kernel
theorem dX10_often_50 : decode cX10_often 50 = .ok (.ifCond .eq 6, 3) := by decide +kernel
theorem dX10_often_53 : decode cX10_often 53 = .ok (.iinc 3 1, 3) := by decide +kernel
theorem dX10_often_56 : decode cX10_often 56 = .ok (.iinc 4 1, 3) := by decide +kernel
theorem dX10_often_59 : decode cX10_often 59 = .ok (.goto (-29), 3) := by decide +kernel
theorem dX10_often_62 : decode cX10_often 62 = .ok (.aload_n 0, 1) := by decide +kernel
theorem dX10_often_63 : decode cX10_often 63 = .ok (.aload_n 0, 1) := by decide +kernel
theorem dX10_often_64 : decode cX10_often 64 = .ok (.getfield 88, 3) := by decide +kernel
theorem dX10_often_67 : decode cX10_often 67 = .ok (.invokevirtual 265, 3) := by decide +kernel
theorem dX10_often_70 : decode cX10_often 70 = .ok (.iload_n 3, 1) := by decide +kernel
theorem dX10_often_71 : decode cX10_often 71 = .ok (.ireturn, 1) := by decide +kernel
theorem dX10_isEnough_0 : decode cX10_isEnough 0 = .ok (.iload_n 2, 1) := by decide +kernel
theorem dX10_isEnough_1 : decode cX10_isEnough 1 = .ok (.iload_n 3, 1) := by decide +kernel
theorem dX10_isEnough_2 : decode cX10_isEnough 2 = .ok (.if_icmp .ne 51, 3) := by decide +kernel
theorem dX10_isEnough_5 : decode cX10_isEnough 5 = .ok (.aload_n 0, 1) := by decide +kernel
theorem dX10_isEnough_6 : decode cX10_isEnough 6 = .ok (.aload_n 0, 1) := by decide +kernel
theorem dX10_isEnough_7 : decode cX10_isEnough 7 = .ok (.getfield 88, 3) := by decide +kernel
theorem dX10_isEnough_10 : decode cX10_isEnough 10 = .ok (.invokevirtual 265, 3) := by decide +kernel
theorem dX10_isEnough_13 : decode cX10_isEnough 13 = .ok (.iconst 0, 1) := by decide +kernel
theorem dX10_isEnough_14 : decode cX10_isEnough 14 = .ok (.istore 4, 2) := by decide +kernel
theorem dX10_isEnough_16 : decode cX10_isEnough 16 = .ok (.iload 4, 2) := by decide +kernel
theorem dX10_isEnough_18 : decode cX10_isEnough 18 = .ok (.iload_n 3, 1) := by decide +kernel
theorem dX10_isEnough_19 : decode cX10_isEnough 19 = .ok (.if_icmp .ge 20, 3) := by decide +kernel
theorem dX10_isEnough_22 : decode cX10_isEnough 22 = .ok (.aload_n 0, 1) := by decide +kernel
theorem dX10_isEnough_23 : decode cX10_isEnough 23 = .ok (.aload_n 0, 1) := by decide +kernel
theorem dX10_isEnough_24 : decode cX10_isEnough 24 = .ok (.getfield 94, 3) := by decide +kernel
theorem dX10_isEnough_27 : decode cX10_isEnough 27 = .ok (.iload 4, 2) := by decide +kernel
theorem dX10_isEnough_29 : decode cX10_isEnough 29 = .ok (.iaload, 1) := by decide +kernel
theorem dX10_isEnough_30 : decode cX10_isEnough 30 = .ok (.invokevirtual 274, 3) := by decide +kernel
theorem dX10_isEnough_33 : decode cX10_isEnough 33 = .ok (.iinc 4 1, 3) := by decide +kernel
theorem dX10_isEnough_36 : decode cX10_isEnough 36 = .ok (.goto (-20), 3) := by decide +kernel
theorem dX10_isEnough_39 : decode cX10_isEnough 39 = .ok (.aload_n 0, 1) := by decide +kernel
theorem dX10_isEnough_40 : decode cX10_isEnough 40 = .ok (.iload_n 1, 1) := by decide +kernel
theorem dX10_isEnough_41 : decode cX10_isEnough 41 = .ok (.invokevirtual 238, 3) := by decide +kernel
theorem dX10_isEnough_44 : decode cX10_isEnough 44 = .ok (.ifCond .ne 7, 3) := by decide +kernel
theorem dX10_isEnough_47 : decode cX10_isEnough 47 = .ok (.iconst 1, 1) := by decide +kernel
theorem dX10_isEnough_48 : decode cX10_isEnough 48 = .ok (.goto 4, 3) := by decide +kernel
theorem dX10_isEnough_51 : decode cX10_isEnough 51 = .ok (.iconst 0, 1) := by decide +kernel
theorem dX10_isEnough_52 : decode cX10_isEnough 52 = .ok (.ireturn, 1) := by decide +kernel
theorem dX10_isEnough_53 : decode cX10_isEnough 53 = .ok (.iconst 0, 1) := by decide +kernel
theorem dX10_isEnough_54 : decode cX10_isEnough 54 = .ok (.istore 4, 2) := by decide +kernel
theorem dX10_isEnough_56 : decode cX10_isEnough 56 = .ok (.iload 4, 2) := by decide +kernel
theorem dX10_isEnough_58 : decode cX10_isEnough 58 = .ok (.bipush 10, 2) := by decide +kernel
theorem dX10_isEnough_60 : decode cX10_isEnough 60 = .ok (.if_icmp .ge 31, 3) := by decide +kernel
theorem dX10_isEnough_63 : decode cX10_isEnough 63 = .ok (.aload_n 0, 1) := by decide +kernel
theorem dX10_isEnough_64 : decode cX10_isEnough 64 = .ok (.getfield 94, 3) := by decide +kernel
theorem dX10_isEnough_67 : decode cX10_isEnough 67 = .ok (.iload_n 2, 1) := by decide +kernel
theorem dX10_isEnough_68 : decode cX10_isEnough 68 = .ok (.iload 4, 2) := by decide +kernel
theorem dX10_isEnough_70 : decode cX10_isEnough 70 = .ok (.iastore, 1) := by decide +kernel
theorem dX10_isEnough_71 : decode cX10_isEnough 71 = .ok (.aload_n 0, 1) := by decide +kernel
theorem dX10_isEnough_72 : decode cX10_isEnough 72 = .ok (.iload_n 1, 1) := by decide +kernel
theorem dX10_isEnough_73 : decode cX10_isEnough 73 = .ok (.iload_n 2, 1) := by decide +kernel
theorem dX10_isEnough_74 : decode cX10_isEnough 74 = .ok (.iconst 1, 1) := by decide +kernel
theorem dX10_isEnough_75 : decode cX10_isEnough 75 = .ok (.iadd, 1) := by decide +kernel
theorem dX10_isEnough_76 : decode cX10_isEnough 76 = .ok (.iload_n 3, 1) := by decide +kernel
theorem dX10_isEnough_77 : decode cX10_isEnough 77 = .ok (.invokevirtual 277, 3) := by decide +kernel
theorem dX10_isEnough_80 : decode cX10_isEnough 80 = .ok (.ifCond .eq 5, 3) := by decide +kernel
theorem dX10_isEnough_83 : decode cX10_isEnough 83 = .ok (.iconst 1, 1) := by decide +kernel
theorem dX10_isEnough_84 : decode cX10_isEnough 84 = .ok (.ireturn, 1) := by decide +kernel
theorem dX10_isEnough_85 : decode cX10_isEnough 85 = .ok (.iinc 4 1, 3) := by decide +kernel
theorem dX10_isEnough_88 : decode cX10_isEnough 88 = .ok (.goto (-32), 3) := by decide +kernel
theorem dX10_isEnough_91 : decode cX10_isEnough 91 = .ok (.iconst 0, 1) := by decide +kernel
theorem dX10_isEnough_92 : decode cX10_isEnough 92 = .ok (.ireturn, 1) := by decide +kernel
theorem dX10_pulls__0 : decode cX10_pulls_ 0 = .ok (.aload_n 0, 1) := by decide +kernel
theorem dX10_pulls__1 : decode cX10_pulls_ 1 = .ok (.iload_n 1, 1) := by decide +kernel
theorem dX10_pulls__2 : decode cX10_pulls_ 2 = .ok (.invokevirtual 128, 3) := by decide +kernel
theorem dX10_pulls__5 : decode cX10_pulls_ 5 = .ok (.ifCond .eq 8, 3) := by decide +kernel
theorem dX10_pulls__8 : decode cX10_pulls_ 8 = .ok (.iload_n 2, 1) := by decide +kernel
theorem dX10_pulls__9 : decode cX10_pulls_ 9 = .ok (.iconst (-1), 1) := by decide +kernel
theorem dX10_pulls__10 : decode cX10_pulls_ 10 = .ok (.if_icmp .ge 5, 3) := by decide +kernel
theorem dX10_pulls__13 : decode cX10_pulls_ 13 = .ok (.iconst (-1), 1) := by decide +kernel
theorem dX10_pulls__14 : decode cX10_pulls_ 14 = .ok (.ireturn, 1) := by decide +kernel
theorem dX10_pulls__15 : decode cX10_pulls_ 15 = .ok (.aload_n 0, 1) := by decide +kernel
theorem dX10_pulls__16 : decode cX10_pulls_ 16 = .ok (.aload_n 0, 1) := by decide +kernel
theorem dX10_pulls__17 : decode cX10_pulls_ 17 = .ok (.getfield 88, 3) := by decide +kernel
theorem dX10_pulls__20 : decode cX10_pulls_ 20 = .ok (.invokevirtual 257, 3) := by decide +kernel
theorem dX10_pulls__23 : decode cX10_pulls_ 23 = .ok (.bipush (-2), 2) := by decide +kernel
theorem dX10_pulls__25 : decode cX10_pulls_ 25 = .ok (.istore_n 3, 1) := by decide +kernel
theorem dX10_pulls__26 : decode cX10_pulls_ 26 = .ok (.iconst 0, 1) := by decide +kernel
theorem dX10_pulls__27 : decode cX10_pulls_ 27 = .ok (.istore 4, 2) := by decide +kernel
theorem dX10_pulls__29 : decode cX10_pulls_ 29 = .ok (.iload 4, 2) := by decide +kernel
theorem dX10_pulls__31 : decode cX10_pulls_ 31 = .ok (.iconst 4, 1) := by decide +kernel
theorem dX10_pulls__32 : decode cX10_pulls_ 32 = .ok (.if_icmp .ge 29, 3) := by decide +kernel
theorem dX10_pulls__35 : decode cX10_pulls_ 35 = .ok (.iload_n 3, 1) := by decide +kernel
theorem dX10_pulls__36 : decode cX10_pulls_ 36 = .ok (.bipush (-2), 2) := by decide +kernel
theorem dX10_pulls__38 : decode cX10_pulls_ 38 = .ok (.if_icmp .ne 23, 3) := by decide +kernel
theorem dX10_pulls__41 : decode cX10_pulls_ 41 = .ok (.aload_n 0, 1) := by decide +kernel
theorem dX10_pulls__42 : decode cX10_pulls_ 42 = .ok (.iload_n 1, 1) := by decide +kernel
theorem dX10_pulls__43 : decode cX10_pulls_ 43 = .ok (.iconst 0, 1) := by decide +kernel
theorem dX10_pulls__44 : decode cX10_pulls_ 44 = .ok (.iload 4, 2) := by decide +kernel
theorem dX10_pulls__46 : decode cX10_pulls_ 46 = .ok (.invokevirtual 277, 3) := by decide +kernel
theorem dX10_pulls__49 : decode cX10_pulls_ 49 = .ok (.ifCond .eq 6, 3) := by decide +kernel
theorem dX10_pulls__52 : decode cX10_pulls_ 52 = .ok (.iload 4, 2) := by decide +kernel
theorem dX10_pulls__54 : decode cX10_pulls_ 54 = .ok (.istore_n 3, 1) := by decide +kernel
theorem dX10_pulls__55 : decode cX10_pulls_ 55 = .ok (.iinc 4 1, 3) := by decide +kernel
theorem dX10_pulls__58 : decode cX10_pulls_ 58 = .ok (.goto (-29), 3) := by decide +kernel
theorem dX10_pulls__61 : decode cX10_pulls_ 61 = .ok (.aload_n 0, 1) := by decide +kernel
theorem dX10_pulls__62 : decode cX10_pulls_ 62 = .ok (.aload_n 0, 1) := by decide +kernel
theorem dX10_pulls__63 : decode cX10_pulls_ 63 = .ok (.getfield 88, 3) := by decide +kernel
theorem dX10_pulls__66 : decode cX10_pulls_ 66 = .ok (.invokevirtual 265, 3) := by decide +kernel
theorem dX10_pulls__69 : decode cX10_pulls_ 69 = .ok (.iload_n 3, 1) := by decide +kernel
theorem dX10_pulls__70 : decode cX10_pulls_ 70 = .ok (.bipush (-2), 2) := by decide +kernel
theorem dX10_pulls__72 : decode cX10_pulls_ 72 = .ok (.if_icmp .eq 8, 3) := by decide +kernel
theorem dX10_pulls__75 : decode cX10_pulls_ 75 = .ok (.iload_n 2, 1) := by decide +kernel
theorem dX10_pulls__76 : decode cX10_pulls_ 76 = .ok (.iconst (-1), 1) := by decide +kernel
theorem dX10_pulls__77 : decode cX10_pulls_ 77 = .ok (.if_icmp .ne 7, 3) := by decide +kernel
theorem dX10_pulls__80 : decode cX10_pulls_ 80 = .ok (.iload_n 3, 1) := by decide +kernel
theorem dX10_pulls__81 : decode cX10_pulls_ 81 = .ok (.goto 19, 3) := by decide +kernel
theorem dX10_pulls__84 : decode cX10_pulls_ 84 = .ok (.iload_n 2, 1) := by decide +kernel
theorem dX10_pulls__85 : decode cX10_pulls_ 85 = .ok (.iload_n 3, 1) := by decide +kernel
theorem dX10_pulls__86 : decode cX10_pulls_ 86 = .ok (.if_icmp .ge 12, 3) := by decide +kernel
theorem dX10_pulls__89 : decode cX10_pulls_ 89 = .ok (.aload_n 0, 1) := by decide +kernel
theorem dX10_pulls__90 : decode cX10_pulls_ 90 = .ok (.getfield 94, 3) := by decide +kernel
theorem dX10_pulls__93 : decode cX10_pulls_ 93 = .ok (.iload_n 2, 1) := by decide +kernel
theorem dX10_pulls__94 : decode cX10_pulls_ 94 = .ok (.iaload, 1) := by decide +kernel
theorem dX10_pulls__95 : decode cX10_pulls_ 95 = .ok (.goto 5, 3) := by decide +kernel
theorem dX10_pulls__98 : decode cX10_pulls_ 98 = .ok (.bipush (-2), 2) := by decide +kernel
theorem dX10_pulls__100 : decode cX10_pulls_ 100 = .ok (.ireturn, 1) := by decide +kernel
theorem dX10_shakes_0 : decode cX10_shakes 0 = .ok (.iload_n 1, 1) := by decide +kernel
theorem dX10_shakes_1 : decode cX10_shakes 1 = .ok (.iconst 0, 1) := by decide +kernel
theorem dX10_shakes_2 : decode cX10_shakes 2 = .ok (.iconst 1, 1) := by decide +kernel
theorem dX10_shakes_3 : decode cX10_shakes 3 = .ok (.invokestatic 103, 3) := by decide +kernel
theorem dX10_shakes_6 : decode cX10_shakes 6 = .ok (.ifCond .ne 5, 3) := by decide +kernel
theorem dX10_shakes_9 : decode cX10_shakes 9 = .ok (.iconst (-1), 1) := by decide +kernel
theorem dX10_shakes_10 : decode cX10_shakes 10 = .ok (.ireturn, 1) := by decide +kernel
theorem dX10_shakes_11 : decode cX10_shakes 11 = .ok (.aload_n 0, 1) := by decide +kernel
theorem dX10_shakes_12 : decode cX10_shakes 12 = .ok (.aload_n 0, 1) := by decide +kernel
theorem dX10_shakes_13 : decode cX10_shakes 13 = .ok (.getfield 88, 3) := by decide +kernel
theorem dX10_shakes_16 : decode cX10_shakes 16 = .ok (.invokevirtual 257, 3) := by decide +kernel
theorem dX10_shakes_19 : decode cX10_shakes 19 = .ok (.bipush (-2), 2) := by decide +kernel
theorem dX10_shakes_21 : decode cX10_shakes 21 = .ok (.istore_n 2, 1) := by decide +kernel
theorem dX10_shakes_22 : decode cX10_shakes 22 = .ok (.bipush 99, 2) := by decide +kernel
theorem dX10_shakes_24 : decode cX10_shakes 24 = .ok (.istore_n 3, 1) := by decide +kernel
theorem dX10_shakes_25 : decode cX10_shakes 25 = .ok (.iconst 0, 1) := by decide +kernel
theorem dX10_shakes_26 : decode cX10_shakes 26 = .ok (.istore 4, 2) := by decide +kernel
theorem dX10_shakes_28 : decode cX10_shakes 28 = .ok (.iload 4, 2) := by decide +kernel
theorem dX10_shakes_30 : decode cX10_shakes 30 = .ok (.bipush 30, 2) := by decide +kernel
theorem dX10_shakes_32 : decode cX10_shakes 32 = .ok (.if_icmp .ge 58, 3) := by decide +kernel
theorem dX10_shakes_35 : decode cX10_shakes 35 = .ok (.iload 4, 2) := by decide +kernel
theorem dX10_shakes_37 : decode cX10_shakes 37 = .ok (.invokestatic 280, 3) := by decide +kernel
theorem dX10_shakes_40 : decode cX10_shakes 40 = .ok (.ifCond .ne 6, 3) := by decide +kernel
theorem dX10_shakes_43 : decode cX10_shakes 43 = .ok (.goto 41, 3) := by decide +kernel
theorem dX10_shakes_46 : decode cX10_shakes 46 = .ok (.aload_n 0, 1) := by decide +kernel
theorem dX10_shakes_47 : decode cX10_shakes 47 = .ok (.iload 4, 2) := by decide +kernel
theorem dX10_shakes_49 : decode cX10_shakes 49 = .ok (.invokevirtual 283, 3) := by decide +kernel
theorem dX10_shakes_52 : decode cX10_shakes 52 = .ok (.aload_n 0, 1) := by decide +kernel
theorem dX10_shakes_53 : decode cX10_shakes 53 = .ok (.invokevirtual 268, 3) := by decide +kernel
theorem dX10_shakes_56 : decode cX10_shakes 56 = .ok (.invokestatic 286, 3) := by decide +kernel
theorem dX10_shakes_59 : decode cX10_shakes 59 = .ok (.istore 5, 2) := by decide +kernel
theorem dX10_shakes_61 : decode cX10_shakes 61 = .ok (.aload_n 0, 1) := by decide +kernel
theorem dX10_shakes_62 : decode cX10_shakes 62 = .ok (.aload_n 0, 1) := by decide +kernel
theorem dX10_shakes_63 : decode cX10_shakes 63 = .ok (.getfield 88, 3) := by decide +kernel
theorem dX10_shakes_66 : decode cX10_shakes 66 = .ok (.invokevirtual 265, 3) := by decide +kernel
theorem dX10_shakes_69 : decode cX10_shakes 69 = .ok (.iload 5, 2) := by decide +kernel
theorem dX10_shakes_71 : decode cX10_shakes 71 = .ok (.iload_n 3, 1) := by decide +kernel
theorem dX10_shakes_72 : decode cX10_shakes 72 = .ok (.if_icmp .lt 6, 3) := by decide +kernel
theorem dX10_shakes_75 : decode cX10_shakes 75 = .ok (.goto 9, 3) := by decide +kernel
theorem dX10_shakes_78 : decode cX10_shakes 78 = .ok (.iload 5, 2) := by decide +kernel
theorem dX10_shakes_80 : decode cX10_shakes 80 = .ok (.istore_n 3, 1) := by decide +kernel
theorem dX10_shakes_81 : decode cX10_shakes 81 = .ok (.iload 4, 2) := by decide +kernel
theorem dX10_shakes_83 : decode cX10_shakes 83 = .ok (.istore_n 2, 1) := by decide +kernel
theorem dX10_shakes_84 : decode cX10_shakes 84 = .ok (.iinc 4 1, 3) := by decide +kernel
theorem dX10_shakes_87 : decode cX10_shakes 87 = .ok (.goto (-59), 3) := by decide +kernel
theorem dX10_shakes_90 : decode cX10_shakes 90 = .ok (.iload_n 1, 1) := by decide +kernel
theorem dX10_shakes_91 : decode cX10_shakes 91 = .ok (.ifCond .ne 7, 3) := by decide +kernel
theorem dX10_shakes_94 : decode cX10_shakes 94 = .ok (.iload_n 2, 1) := by decide +kernel
theorem dX10_shakes_95 : decode cX10_shakes 95 = .ok (.goto 4, 3) := by decide +kernel
theorem dX10_shakes_98 : decode cX10_shakes 98 = .ok (.iload_n 3, 1) := by decide +kernel
theorem dX10_shakes_99 : decode cX10_shakes 99 = .ok (.ireturn, 1) := by decide +kernel
theorem dX10_stuffsAt_0 : decode cX10_stuffsAt 0 = .ok (.aload_n 0, 1) := by decide +kernel
theorem dX10_stuffsAt_1 : decode cX10_stuffsAt 1 = .ok (.getfield 9, 3) := by decide +kernel
theorem dX10_stuffsAt_4 : decode cX10_stuffsAt 4 = .ok (.iload_n 1, 1) := by decide +kernel
theorem dX10_stuffsAt_5 : decode cX10_stuffsAt 5 = .ok (.iload_n 2, 1) := by decide +kernel
theorem dX10_stuffsAt_6 : decode cX10_stuffsAt 6 = .ok (.iastore, 1) := by decide +kernel
theorem dX10_stuffsAt_7 : decode cX10_stuffsAt 7 = .ok (.aload_n 0, 1) := by decide +kernel
theorem dX10_stuffsAt_8 : decode cX10_stuffsAt 8 = .ok (.getfield 15, 3) := by decide +kernel
theorem dX10_stuffsAt_11 : decode cX10_stuffsAt 11 = .ok (.iload_n 1, 1) := by decide +kernel
theorem dX10_stuffsAt_12 : decode cX10_stuffsAt 12 = .ok (.iload_n 3, 1) := by decide +kernel
theorem dX10_stuffsAt_13 : decode cX10_stuffsAt 13 = .ok (.iastore, 1) := by decide +kernel
theorem dX10_stuffsAt_14 : decode cX10_stuffsAt 14 = .ok (.aload_n 0, 1) := by decide +kernel
theorem dX10_stuffsAt_15 : decode cX10_stuffsAt 15 = .ok (.getfield 18, 3) := by decide +kernel
theorem dX10_stuffsAt_18 : decode cX10_stuffsAt 18 = .ok (.iload_n 1, 1) := by decide +kernel
theorem dX10_stuffsAt_19 : decode cX10_stuffsAt 19 = .ok (.iconst 0, 1) := by decide +kernel
theorem dX10_stuffsAt_20 : decode cX10_stuffsAt 20 = .ok (.iastore, 1) := by decide +kernel
theorem dX10_stuffsAt_21 : decode cX10_stuffsAt 21 = .ok (.return_, 1) := by decide +kernel
theorem dX10_stuffs_0 : decode cX10_stuffs 0 = .ok (.iload_n 1, 1) := by decide +kernel
theorem dX10_stuffs_1 : decode cX10_stuffs 1 = .ok (.iconst 0, 1) := by decide +kernel
theorem dX10_stuffs_2 : decode cX10_stuffs 2 = .ok (.iconst 2, 1) := by decide +kernel
theorem dX10_stuffs_3 : decode cX10_stuffs 3 = .ok (.invokestatic 103, 3) := by decide +kernel
theorem dX10_stuffs_6 : decode cX10_stuffs 6 = .ok (.ifCond .eq 12, 3) := by decide +kernel
theorem dX10_stuffs_9 : decode cX10_stuffs 9 = .ok (.iload_n 2, 1) := by decide +kernel
theorem dX10_stuffs_10 : decode cX10_stuffs 10 = .ok (.iconst 0, 1) := by decide +kernel
theorem dX10_stuffs_11 : decode cX10_stuffs 11 = .ok (.iconst 1, 1) := by decide +kernel
theorem dX10_stuffs_12 : decode cX10_stuffs 12 = .ok (.invokestatic 103, 3) := by decide +kernel
theorem dX10_stuffs_15 : decode cX10_stuffs 15 = .ok (.ifCond .ne 5, 3) := by decide +kernel
theorem dX10_stuffs_18 : decode cX10_stuffs 18 = .ok (.iconst (-1), 1) := by decide +kernel
theorem dX10_stuffs_19 : decode cX10_stuffs 19 = .ok (.ireturn, 1) := by decide +kernel
theorem dX10_stuffs_20 : decode cX10_stuffs 20 = .ok (.aload_n 0, 1) := by decide +kernel
theorem dX10_stuffs_21 : decode cX10_stuffs 21 = .ok (.aload_n 0, 1) := by decide +kernel
theorem dX10_stuffs_22 : decode cX10_stuffs 22 = .ok (.getfield 88, 3) := by decide +kernel
theorem dX10_stuffs_25 : decode cX10_stuffs 25 = .ok (.invokevirtual 257, 3) := by decide +kernel
theorem dX10_stuffs_28 : decode cX10_stuffs 28 = .ok (.bipush (-9), 2) := by decide +kernel
theorem dX10_stuffs_30 : decode cX10_stuffs 30 = .ok (.istore_n 3, 1) := by decide +kernel
theorem dX10_stuffs_31 : decode cX10_stuffs 31 = .ok (.bipush 99, 2) := by decide +kernel
theorem dX10_stuffs_33 : decode cX10_stuffs 33 = .ok (.istore 4, 2) := by decide +kernel
theorem dX10_stuffs_35 : decode cX10_stuffs 35 = .ok (.iconst 0, 1) := by decide +kernel
theorem dX10_stuffs_36 : decode cX10_stuffs 36 = .ok (.istore 5, 2) := by decide +kernel
theorem dX10_stuffs_38 : decode cX10_stuffs 38 = .ok (.iload 5, 2) := by decide +kernel
theorem dX10_stuffs_40 : decode cX10_stuffs 40 = .ok (.iload_n 1, 1) := by decide +kernel
theorem dX10_stuffs_41 : decode cX10_stuffs 41 = .ok (.ifCond .ne 7, 3) := by decide +kernel
theorem dX10_stuffs_44 : decode cX10_stuffs 44 = .ok (.iconst 1, 1) := by decide +kernel
theorem dX10_stuffs_45 : decode cX10_stuffs 45 = .ok (.goto 16, 3) := by decide +kernel
theorem dX10_stuffs_48 : decode cX10_stuffs 48 = .ok (.iload_n 1, 1) := by decide +kernel
theorem dX10_stuffs_49 : decode cX10_stuffs 49 = .ok (.iconst 1, 1) := by decide +kernel
theorem dX10_stuffs_50 : decode cX10_stuffs 50 = .ok (.if_icmp .ne 8, 3) := by decide +kernel
theorem dX10_stuffs_53 : decode cX10_stuffs 53 = .ok (.bipush 30, 2) := by decide +kernel
theorem dX10_stuffs_55 : decode cX10_stuffs 55 = .ok (.goto 6, 3) := by decide +kernel
theorem dX10_stuffs_58 : decode cX10_stuffs 58 = .ok (.sipush 900, 3) := by decide +kernel
theorem dX10_stuffs_61 : decode cX10_stuffs 61 = .ok (.if_icmp .ge 106, 3) := by decide +kernel
theorem dX10_stuffs_64 : decode cX10_stuffs 64 = .ok (.iload_n 1, 1) := by decide +kernel
theorem dX10_stuffs_65 : decode cX10_stuffs 65 = .ok (.iconst 2, 1) := by decide +kernel
theorem dX10_stuffs_66 : decode cX10_stuffs 66 = .ok (.if_icmp .ne 19, 3) := by decide +kernel
theorem dX10_stuffs_69 : decode cX10_stuffs 69 = .ok (.iload 5, 2) := by decide +kernel
theorem dX10_stuffs_71 : decode cX10_stuffs 71 = .ok (.bipush 30, 2) := by decide +kernel
theorem dX10_stuffs_73 : decode cX10_stuffs 73 = .ok (.idiv, 1) := by decide +kernel
theorem dX10_stuffs_74 : decode cX10_stuffs 74 = .ok (.iload 5, 2) := by decide +kernel
theorem dX10_stuffs_76 : decode cX10_stuffs 76 = .ok (.bipush 30, 2) := by decide +kernel
theorem dX10_stuffs_78 : decode cX10_stuffs 78 = .ok (.irem, 1) := by decide +kernel
theorem dX10_stuffs_79 : decode cX10_stuffs 79 = .ok (.if_icmp .lt 6, 3) := by decide +kernel
theorem dX10_stuffs_82 : decode cX10_stuffs 82 = .ok (.goto 79, 3) := by decide +kernel
theorem dX10_stuffs_85 : decode cX10_stuffs 85 = .ok (.iload_n 1, 1) := by decide +kernel
theorem dX10_stuffs_86 : decode cX10_stuffs 86 = .ok (.ifCond .le 15, 3) := by decide +kernel
theorem dX10_stuffs_89 : decode cX10_stuffs 89 = .ok (.aload_n 0, 1) := by decide +kernel
theorem dX10_stuffs_90 : decode cX10_stuffs 90 = .ok (.iload 5, 2) := by decide +kernel
theorem dX10_stuffs_92 : decode cX10_stuffs 92 = .ok (.bipush 30, 2) := by decide +kernel
theorem dX10_stuffs_94 : decode cX10_stuffs 94 = .ok (.irem, 1) := by decide +kernel
theorem dX10_stuffs_95 : decode cX10_stuffs 95 = .ok (.iconst 2, 1) := by decide +kernel
theorem dX10_stuffs_96 : decode cX10_stuffs 96 = .ok (.bipush 9, 2) := by decide +kernel
theorem dX10_stuffs_98 : decode cX10_stuffs 98 = .ok (.invokevirtual 291, 3) := by decide +kernel
theorem dX10_stuffs_101 : decode cX10_stuffs 101 = .ok (.iload_n 1, 1) := by decide +kernel
theorem dX10_stuffs_102 : decode cX10_stuffs 102 = .ok (.iconst 2, 1) := by decide +kernel
theorem dX10_stuffs_103 : decode cX10_stuffs 103 = .ok (.if_icmp .ne 15, 3) := by decide +kernel
theorem dX10_stuffs_106 : decode cX10_stuffs 106 = .ok (.aload_n 0, 1) := by decide +kernel
theorem dX10_stuffs_107 : decode cX10_stuffs 107 = .ok (.iload 5, 2) := by decide +kernel
theorem dX10_stuffs_109 : decode cX10_stuffs 109 = .ok (.bipush 30, 2) := by decide +kernel
theorem dX10_stuffs_111 : decode cX10_stuffs 111 = .ok (.idiv, 1) := by decide +kernel
theorem dX10_stuffs_112 : decode cX10_stuffs 112 = .ok (.iconst 2, 1) := by decide +kernel
theorem dX10_stuffs_113 : decode cX10_stuffs 113 = .ok (.bipush 9, 2) := by decide +kernel
theorem dX10_stuffs_115 : decode cX10_stuffs 115 = .ok (.invokevirtual 291, 3) := by decide +kernel
theorem dX10_stuffs_118 : decode cX10_stuffs 118 = .ok (.aload_n 0, 1) := by decide +kernel
theorem dX10_stuffs_119 : decode cX10_stuffs 119 = .ok (.invokevirtual 268, 3) := by decide +kernel
theorem dX10_stuffs_122 : decode cX10_stuffs 122 = .ok (.invokestatic 286, 3) := by decide +kernel
theorem dX10_stuffs_125 : decode cX10_stuffs 125 = .ok (.istore 6, 2) := by decide +kernel
theorem dX10_stuffs_127 : decode cX10_stuffs 127 = .ok (.aload_n 0, 1) := by decide +kernel
theorem dX10_stuffs_128 : decode cX10_stuffs 128 = .ok (.aload_n 0, 1) := by decide +kernel
theorem dX10_stuffs_129 : decode cX10_stuffs 129 = .ok (.getfield 88, 3) := by decide +kernel
theorem dX10_stuffs_132 : decode cX10_stuffs 132 = .ok (.invokevirtual 265, 3) := by decide +kernel
theorem dX10_stuffs_135 : decode cX10_stuffs 135 = .ok (.iload 6, 2) := by decide +kernel
theorem dX10_stuffs_137 : decode cX10_stuffs 137 = .ok (.iload 4, 2) := by decide +kernel
theorem dX10_stuffs_139 : decode cX10_stuffs 139 = .ok (.if_icmp .lt 6, 3) := by decide +kernel
theorem dX10_stuffs_142 : decode cX10_stuffs 142 = .ok (.goto 19, 3) := by decide +kernel
theorem dX10_stuffs_145 : decode cX10_stuffs 145 = .ok (.iload 6, 2) := by decide +kernel
theorem dX10_stuffs_147 : decode cX10_stuffs 147 = .ok (.istore 4, 2) := by decide +kernel
theorem dX10_stuffs_149 : decode cX10_stuffs 149 = .ok (.iload_n 1, 1) := by decide +kernel
theorem dX10_stuffs_150 : decode cX10_stuffs 150 = .ok (.ifCond .ne 8, 3) := by decide +kernel
theorem dX10_stuffs_153 : decode cX10_stuffs 153 = .ok (.bipush (-9), 2) := by decide +kernel
theorem dX10_stuffs_155 : decode cX10_stuffs 155 = .ok (.goto 5, 3) := by decide +kernel
theorem dX10_stuffs_158 : decode cX10_stuffs 158 = .ok (.iload 5, 2) := by decide +kernel
theorem dX10_stuffs_160 : decode cX10_stuffs 160 = .ok (.istore_n 3, 1) := by decide +kernel
theorem dX10_stuffs_161 : decode cX10_stuffs 161 = .ok (.iinc 5 1, 3) := by decide +kernel
theorem dX10_stuffs_164 : decode cX10_stuffs 164 = .ok (.goto (-126), 3) := by decide +kernel
theorem dX10_stuffs_167 : decode cX10_stuffs 167 = .ok (.iload_n 2, 1) := by decide +kernel
theorem dX10_stuffs_168 : decode cX10_stuffs 168 = .ok (.ifCond .ne 8, 3) := by decide +kernel
theorem dX10_stuffs_171 : decode cX10_stuffs 171 = .ok (.iload 4, 2) := by decide +kernel
theorem dX10_stuffs_173 : decode cX10_stuffs 173 = .ok (.goto 4, 3) := by decide +kernel
theorem dX10_stuffs_176 : decode cX10_stuffs 176 = .ok (.iload_n 3, 1) := by decide +kernel
theorem dX10_stuffs_177 : decode cX10_stuffs 177 = .ok (.ireturn, 1) := by decide +kernel
theorem dX10_noFelt_0 : decode cX10_noFelt 0 = .ok (.iload_n 1, 1) := by decide +kernel
theorem dX10_noFelt_1 : decode cX10_noFelt 1 = .ok (.ifCond .lt 23, 3) := by decide +kernel
theorem dX10_noFelt_4 : decode cX10_noFelt 4 = .ok (.iload_n 1, 1) := by decide +kernel
theorem dX10_noFelt_5 : decode cX10_noFelt 5 = .ok (.bipush 100, 2) := by decide +kernel
theorem dX10_noFelt_7 : decode cX10_noFelt 7 = .ok (.idiv, 1) := by decide +kernel
theorem dX10_noFelt_8 : decode cX10_noFelt 8 = .ok (.invokestatic 119, 3) := by decide +kernel
theorem dX10_noFelt_11 : decode cX10_noFelt 11 = .ok (.ifCond .eq 13, 3) := by decide +kernel
theorem dX10_noFelt_14 : decode cX10_noFelt 14 = .ok (.iload_n 1, 1) := by decide +kernel
theorem dX10_noFelt_15 : decode cX10_noFelt 15 = .ok (.bipush 100, 2) := by decide +kernel
theorem dX10_noFelt_17 : decode cX10_noFelt 17 = .ok (.irem, 1) := by decide +kernel
theorem dX10_noFelt_18 : decode cX10_noFelt 18 = .ok (.invokestatic 111, 3) := by decide +kernel
theorem dX10_noFelt_21 : decode cX10_noFelt 21 = .ok (.ifCond .ne 5, 3) := by decide +kernel
theorem dX10_noFelt_24 : decode cX10_noFelt 24 = .ok (.iconst (-1), 1) := by decide +kernel
theorem dX10_noFelt_25 : decode cX10_noFelt 25 = .ok (.ireturn, 1) := by decide +kernel
theorem dX10_noFelt_26 : decode cX10_noFelt 26 = .ok (.aload_n 0, 1) := by decide +kernel
theorem dX10_noFelt_27 : decode cX10_noFelt 27 = .ok (.getfield 78, 3) := by decide +kernel
theorem dX10_noFelt_30 : decode cX10_noFelt 30 = .ok (.iload_n 1, 1) := by decide +kernel
theorem dX10_noFelt_31 : decode cX10_noFelt 31 = .ok (.bipush 100, 2) := by decide +kernel
theorem dX10_noFelt_33 : decode cX10_noFelt 33 = .ok (.idiv, 1) := by decide +kernel
theorem dX10_noFelt_34 : decode cX10_noFelt 34 = .ok (.iaload, 1) := by decide +kernel
theorem dX10_noFelt_35 : decode cX10_noFelt 35 = .ok (.istore_n 2, 1) := by decide +kernel
theorem dX10_noFelt_36 : decode cX10_noFelt 36 = .ok (.iload_n 2, 1) := by decide +kernel
theorem dX10_noFelt_37 : decode cX10_noFelt 37 = .ok (.iconst (-1), 1) := by decide +kernel
theorem dX10_noFelt_38 : decode cX10_noFelt 38 = .ok (.if_icmp .ne 8, 3) := by decide +kernel
theorem dX10_noFelt_41 : decode cX10_noFelt 41 = .ok (.bipush (-11), 2) := by decide +kernel
theorem dX10_noFelt_43 : decode cX10_noFelt 43 = .ok (.goto 13, 3) := by decide +kernel
theorem dX10_noFelt_46 : decode cX10_noFelt 46 = .ok (.iload_n 2, 1) := by decide +kernel
theorem dX10_noFelt_47 : decode cX10_noFelt 47 = .ok (.ifCond .eq 8, 3) := by decide +kernel
theorem dX10_noFelt_50 : decode cX10_noFelt 50 = .ok (.bipush (-12), 2) := by decide +kernel
theorem dX10_noFelt_52 : decode cX10_noFelt 52 = .ok (.goto 4, 3) := by decide +kernel
theorem dX10_noFelt_55 : decode cX10_noFelt 55 = .ok (.iconst 0, 1) := by decide +kernel
theorem dX10_noFelt_56 : decode cX10_noFelt 56 = .ok (.ireturn, 1) := by decide +kernel
theorem dX10_unlike_0 : decode cX10_unlike 0 = .ok (.aload_n 0, 1) := by decide +kernel
theorem dX10_unlike_1 : decode cX10_unlike 1 = .ok (.aload_n 0, 1) := by decide +kernel
theorem dX10_unlike_2 : decode cX10_unlike 2 = .ok (.getfield 88, 3) := by decide +kernel
theorem dX10_unlike_5 : decode cX10_unlike 5 = .ok (.invokevirtual 257, 3) := by decide +kernel
theorem dX10_unlike_8 : decode cX10_unlike 8 = .ok (.bipush (-2), 2) := by decide +kernel
theorem dX10_unlike_10 : decode cX10_unlike 10 = .ok (.istore_n 2, 1) := by decide +kernel
theorem dX10_unlike_11 : decode cX10_unlike 11 = .ok (.iconst 0, 1) := by decide +kernel
theorem dX10_unlike_12 : decode cX10_unlike 12 = .ok (.istore_n 3, 1) := by decide +kernel
theorem dX10_unlike_13 : decode cX10_unlike 13 = .ok (.iload_n 3, 1) := by decide +kernel
theorem dX10_unlike_14 : decode cX10_unlike 14 = .ok (.aload_n 0, 1) := by decide +kernel
theorem dX10_unlike_15 : decode cX10_unlike 15 = .ok (.getfield 81, 3) := by decide +kernel
theorem dX10_unlike_18 : decode cX10_unlike 18 = .ok (.iload_n 1, 1) := by decide +kernel
theorem dX10_unlike_19 : decode cX10_unlike 19 = .ok (.bipush 100, 2) := by decide +kernel
theorem dX10_unlike_21 : decode cX10_unlike 21 = .ok (.idiv, 1) := by decide +kernel
theorem dX10_unlike_22 : decode cX10_unlike 22 = .ok (.iaload, 1) := by decide +kernel
theorem dX10_unlike_23 : decode cX10_unlike 23 = .ok (.if_icmp .ge 51, 3) := by decide +kernel
theorem dX10_unlike_26 : decode cX10_unlike 26 = .ok (.iload_n 3, 1) := by decide +kernel
theorem dX10_unlike_27 : decode cX10_unlike 27 = .ok (.bipush 49, 2) := by decide +kernel
theorem dX10_unlike_29 : decode cX10_unlike 29 = .ok (.if_icmp .ge 45, 3) := by decide +kernel
theorem dX10_unlike_32 : decode cX10_unlike 32 = .ok (.iload_n 2, 1) := by decide +kernel
theorem dX10_unlike_33 : decode cX10_unlike 33 = .ok (.bipush (-2), 2) := by decide +kernel
theorem dX10_unlike_35 : decode cX10_unlike 35 = .ok (.if_icmp .ne 39, 3) := by decide +kernel
theorem dX10_unlike_38 : decode cX10_unlike 38 = .ok (.iload_n 3, 1) := by decide +kernel
theorem dX10_unlike_39 : decode cX10_unlike 39 = .ok (.ifCond .le 7, 3) := by decide +kernel
theorem dX10_unlike_42 : decode cX10_unlike 42 = .ok (.aload_n 0, 1) := by decide +kernel
theorem dX10_unlike_43 : decode cX10_unlike 43 = .ok (.invokevirtual 251, 3) := by decide +kernel
theorem dX10_unlike_46 : decode cX10_unlike 46 = .ok (.aload_n 0, 1) := by decide +kernel
theorem dX10_unlike_47 : decode cX10_unlike 47 = .ok (.iload_n 1, 1) := by decide +kernel
theorem dX10_unlike_48 : decode cX10_unlike 48 = .ok (.bipush 100, 2) := by decide +kernel
theorem dX10_unlike_50 : decode cX10_unlike 50 = .ok (.irem, 1) := by decide +kernel
theorem dX10_unlike_51 : decode cX10_unlike 51 = .ok (.invokevirtual 235, 3) := by decide +kernel
theorem dX10_unlike_54 : decode cX10_unlike 54 = .ok (.aload_n 0, 1) := by decide +kernel
theorem dX10_unlike_55 : decode cX10_unlike 55 = .ok (.iload_n 1, 1) := by decide +kernel
theorem dX10_unlike_56 : decode cX10_unlike 56 = .ok (.bipush 100, 2) := by decide +kernel
theorem dX10_unlike_58 : decode cX10_unlike 58 = .ok (.idiv, 1) := by decide +kernel
theorem dX10_unlike_59 : decode cX10_unlike 59 = .ok (.iload_n 3, 1) := by decide +kernel
theorem dX10_unlike_60 : decode cX10_unlike 60 = .ok (.invokevirtual 124, 3) := by decide +kernel
theorem dX10_unlike_63 : decode cX10_unlike 63 = .ok (.if_icmp .eq 5, 3) := by decide +kernel
theorem dX10_unlike_66 : decode cX10_unlike 66 = .ok (.iload_n 3, 1) := by decide +kernel
theorem dX10_unlike_67 : decode cX10_unlike 67 = .ok (.istore_n 2, 1) := by decide +kernel
theorem dX10_unlike_68 : decode cX10_unlike 68 = .ok (.iinc 3 1, 3) := by decide +kernel
theorem dX10_unlike_71 : decode cX10_unlike 71 = .ok (.goto (-58), 3) := by decide +kernel
theorem dX10_unlike_74 : decode cX10_unlike 74 = .ok (.aload_n 0, 1) := by decide +kernel
theorem dX10_unlike_75 : decode cX10_unlike 75 = .ok (.aload_n 0, 1) := by decide +kernel
theorem dX10_unlike_76 : decode cX10_unlike 76 = .ok (.getfield 88, 3) := by decide +kernel
theorem dX10_unlike_79 : decode cX10_unlike 79 = .ok (.invokevirtual 265, 3) := by decide +kernel
theorem dX10_unlike_82 : decode cX10_unlike 82 = .ok (.iload_n 2, 1) := by decide +kernel
theorem dX10_unlike_83 : decode cX10_unlike 83 = .ok (.ireturn, 1) := by decide +kernel
theorem dX10_judge_0 : decode cX10_judge 0 = .ok (.aload_n 0, 1) := by decide +kernel
theorem dX10_judge_1 : decode cX10_judge 1 = .ok (.iload_n 1, 1) := by decide +kernel
theorem dX10_judge_2 : decode cX10_judge 2 = .ok (.invokevirtual 294, 3) := by decide +kernel
theorem dX10_judge_5 : decode cX10_judge 5 = .ok (.istore_n 2, 1) := by decide +kernel
theorem dX10_judge_6 : decode cX10_judge 6 = .ok (.iload_n 2, 1) := by decide +kernel
theorem dX10_judge_7 : decode cX10_judge 7 = .ok (.ifCond .ge 7, 3) := by decide +kernel
theorem dX10_judge_10 : decode cX10_judge 10 = .ok (.iload_n 2, 1) := by decide +kernel
theorem dX10_judge_11 : decode cX10_judge 11 = .ok (.goto 8, 3) := by decide +kernel
theorem dX10_judge_14 : decode cX10_judge 14 = .ok (.aload_n 0, 1) := by decide +kernel
theorem dX10_judge_15 : decode cX10_judge 15 = .ok (.iload_n 1, 1) := by decide +kernel
theorem dX10_judge_16 : decode cX10_judge 16 = .ok (.invokevirtual 297, 3) := by decide +kernel
theorem dX10_judge_19 : decode cX10_judge 19 = .ok (.ireturn, 1) := by decide +kernel
theorem dX10_so_0 : decode cX10_so 0 = .ok (.aload_n 0, 1) := by decide +kernel
theorem dX10_so_1 : decode cX10_so 1 = .ok (.iload_n 2, 1) := by decide +kernel
theorem dX10_so_2 : decode cX10_so 2 = .ok (.iload_n 3, 1) := by decide +kernel
theorem dX10_so_3 : decode cX10_so 3 = .ok (.invokevirtual 138, 3) := by decide +kernel
theorem dX10_so_6 : decode cX10_so 6 = .ok (.istore 6, 2) := by decide +kernel
theorem dX10_so_8 : decode cX10_so 8 = .ok (.iconst 0, 1) := by decide +kernel
theorem dX10_so_9 : decode cX10_so 9 = .ok (.istore 7, 2) := by decide +kernel
theorem dX10_so_11 : decode cX10_so 11 = .ok (.bipush (-2), 2) := by decide +kernel
theorem dX10_so_13 : decode cX10_so 13 = .ok (.istore 8, 2) := by decide +kernel
theorem dX10_so_15 : decode cX10_so 15 = .ok (.iconst 0, 1) := by decide +kernel
theorem dX10_so_16 : decode cX10_so 16 = .ok (.istore 9, 2) := by decide +kernel
theorem dX10_so_18 : decode cX10_so 18 = .ok (.iload 4, 2) := by decide +kernel
theorem dX10_so_20 : decode cX10_so 20 = .ok (.istore 10, 2) := by decide +kernel
theorem dX10_so_22 : decode cX10_so 22 = .ok (.iload 10, 2) := by decide +kernel
theorem dX10_so_24 : decode cX10_so 24 = .ok (.ifCond .lt 46, 3) := by decide +kernel
theorem dX10_so_27 : decode cX10_so 27 = .ok (.aload_n 0, 1) := by decide +kernel
theorem dX10_so_28 : decode cX10_so 28 = .ok (.iload_n 2, 1) := by decide +kernel
theorem dX10_so_29 : decode cX10_so 29 = .ok (.iload_n 3, 1) := by decide +kernel
theorem dX10_so_30 : decode cX10_so 30 = .ok (.iload 10, 2) := by decide +kernel
theorem dX10_so_32 : decode cX10_so 32 = .ok (.invokevirtual 141, 3) := by decide +kernel
theorem dX10_so_35 : decode cX10_so 35 = .ok (.aload_n 0, 1) := by decide +kernel
theorem dX10_so_36 : decode cX10_so 36 = .ok (.iload_n 1, 1) := by decide +kernel
theorem dX10_so_37 : decode cX10_so 37 = .ok (.invokevirtual 297, 3) := by decide +kernel
theorem dX10_so_40 : decode cX10_so 40 = .ok (.bipush (-2), 2) := by decide +kernel
theorem dX10_so_42 : decode cX10_so 42 = .ok (.if_icmp .eq 6, 3) := by decide +kernel
theorem dX10_so_45 : decode cX10_so 45 = .ok (.goto 19, 3) := by decide +kernel
theorem dX10_so_48 : decode cX10_so 48 = .ok (.iinc 7 1, 3) := by decide +kernel
theorem dX10_so_51 : decode cX10_so 51 = .ok (.iload 10, 2) := by decide +kernel
theorem dX10_so_53 : decode cX10_so 53 = .ok (.istore 8, 2) := by decide +kernel
theorem dX10_so_55 : decode cX10_so 55 = .ok (.iload 9, 2) := by decide +kernel
theorem dX10_so_57 : decode cX10_so 57 = .ok (.iconst 1, 1) := by decide +kernel
theorem dX10_so_58 : decode cX10_so 58 = .ok (.iload 10, 2) := by decide +kernel
theorem dX10_so_60 : decode cX10_so 60 = .ok (.ishl, 1) := by decide +kernel
theorem dX10_so_61 : decode cX10_so 61 = .ok (.ior, 1) := by decide +kernel
theorem dX10_so_62 : decode cX10_so 62 = .ok (.istore 9, 2) := by decide +kernel
theorem dX10_so_64 : decode cX10_so 64 = .ok (.iinc 10 (-1), 3) := by decide +kernel
theorem dX10_so_67 : decode cX10_so 67 = .ok (.goto (-45), 3) := by decide +kernel
theorem dX10_so_70 : decode cX10_so 70 = .ok (.aload_n 0, 1) := by decide +kernel
theorem dX10_so_71 : decode cX10_so 71 = .ok (.iload_n 2, 1) := by decide +kernel
theorem dX10_so_72 : decode cX10_so 72 = .ok (.iload_n 3, 1) := by decide +kernel
theorem dX10_so_73 : decode cX10_so 73 = .ok (.iload 6, 2) := by decide +kernel
theorem dX10_so_75 : decode cX10_so 75 = .ok (.invokevirtual 141, 3) := by decide +kernel
theorem dX10_so_78 : decode cX10_so 78 = .ok (.iload 5, 2) := by decide +kernel
theorem dX10_so_80 : decode cX10_so 80 = .ok (.ifCond .ne 8, 3) := by decide +kernel
theorem dX10_so_83 : decode cX10_so 83 = .ok (.iload 7, 2) := by decide +kernel
theorem dX10_so_85 : decode cX10_so 85 = .ok (.goto 16, 3) := by decide +kernel
theorem dX10_so_88 : decode cX10_so 88 = .ok (.iload 5, 2) := by decide +kernel
theorem dX10_so_90 : decode cX10_so 90 = .ok (.iconst 1, 1) := by decide +kernel
theorem dX10_so_91 : decode cX10_so 91 = .ok (.if_icmp .ne 8, 3) := by decide +kernel
theorem dX10_so_94 : decode cX10_so 94 = .ok (.iload 8, 2) := by decide +kernel
theorem dX10_so_96 : decode cX10_so 96 = .ok (.goto 5, 3) := by decide +kernel
theorem dX10_so_99 : decode cX10_so 99 = .ok (.iload 9, 2) := by decide +kernel
theorem dX10_so_101 : decode cX10_so 101 = .ok (.ireturn, 1) := by decide +kernel
theorem dX10_felt_0 : decode cX10_felt 0 = .ok (.aload_n 0, 1) := by decide +kernel
theorem dX10_felt_1 : decode cX10_felt 1 = .ok (.iload_n 1, 1) := by decide +kernel
theorem dX10_felt_2 : decode cX10_felt 2 = .ok (.invokevirtual 294, 3) := by decide +kernel
theorem dX10_felt_5 : decode cX10_felt 5 = .ok (.istore 4, 2) := by decide +kernel
theorem dX10_felt_7 : decode cX10_felt 7 = .ok (.iload 4, 2) := by decide +kernel
theorem dX10_felt_9 : decode cX10_felt 9 = .ok (.iconst (-1), 1) := by decide +kernel
theorem dX10_felt_10 : decode cX10_felt 10 = .ok (.if_icmp .eq 19, 3) := by decide +kernel
theorem dX10_felt_13 : decode cX10_felt 13 = .ok (.iload_n 2, 1) := by decide +kernel
theorem dX10_felt_14 : decode cX10_felt 14 = .ok (.invokestatic 111, 3) := by decide +kernel
theorem dX10_felt_17 : decode cX10_felt 17 = .ok (.ifCond .eq 12, 3) := by decide +kernel
theorem dX10_felt_20 : decode cX10_felt 20 = .ok (.iload_n 3, 1) := by decide +kernel
theorem dX10_felt_21 : decode cX10_felt 21 = .ok (.iconst 0, 1) := by decide +kernel
theorem dX10_felt_22 : decode cX10_felt 22 = .ok (.iconst 4, 1) := by decide +kernel
theorem dX10_felt_23 : decode cX10_felt 23 = .ok (.invokestatic 103, 3) := by decide +kernel
theorem dX10_felt_26 : decode cX10_felt 26 = .ok (.ifCond .ne 5, 3) := by decide +kernel
theorem dX10_felt_29 : decode cX10_felt 29 = .ok (.iconst (-1), 1) := by decide +kernel
theorem dX10_felt_30 : decode cX10_felt 30 = .ok (.ireturn, 1) := by decide +kernel
theorem dX10_felt_31 : decode cX10_felt 31 = .ok (.iload 4, 2) := by decide +kernel
theorem dX10_felt_33 : decode cX10_felt 33 = .ok (.ifCond .ge 6, 3) := by decide +kernel
theorem dX10_felt_36 : decode cX10_felt 36 = .ok (.iload 4, 2) := by decide +kernel
theorem dX10_felt_38 : decode cX10_felt 38 = .ok (.ireturn, 1) := by decide +kernel
theorem dX10_felt_39 : decode cX10_felt 39 = .ok (.iload_n 3, 1) := by decide +kernel
theorem dX10_felt_40 : decode cX10_felt 40 = .ok (.tableswitch 51 0 2 #[28, 38, 38], 28) := by decide +kernel
theorem dX10_felt_68 : decode cX10_felt 68 = .ok (.aload_n 0, 1) := by decide +kernel
theorem dX10_felt_69 : decode cX10_felt 69 = .ok (.iload_n 1, 1) := by decide +kernel
theorem dX10_felt_70 : decode cX10_felt 70 = .ok (.iload_n 2, 1) := by decide +kernel
theorem dX10_felt_71 : decode cX10_felt 71 = .ok (.iconst 0, 1) := by decide +kernel
theorem dX10_felt_72 : decode cX10_felt 72 = .ok (.iconst 4, 1) := by decide +kernel
theorem dX10_felt_73 : decode cX10_felt 73 = .ok (.iconst 2, 1) := by decide +kernel
theorem dX10_felt_74 : decode cX10_felt 74 = .ok (.invokevirtual 300, 3) := by decide +kernel
theorem dX10_felt_77 : decode cX10_felt 77 = .ok (.ireturn, 1) := by decide +kernel
theorem dX10_felt_78 : decode cX10_felt 78 = .ok (.aload_n 0, 1) := by decide +kernel
theorem dX10_felt_79 : decode cX10_felt 79 = .ok (.iload_n 1, 1) := by decide +kernel
theorem dX10_felt_80 : decode cX10_felt 80 = .ok (.iload_n 2, 1) := by decide +kernel
theorem dX10_felt_81 : decode cX10_felt 81 = .ok (.iconst 1, 1) := by decide +kernel
theorem dX10_felt_82 : decode cX10_felt 82 = .ok (.bipush 9, 2) := by decide +kernel
theorem dX10_felt_84 : decode cX10_felt 84 = .ok (.iload_n 3, 1) := by decide +kernel
theorem dX10_felt_85 : decode cX10_felt 85 = .ok (.iconst 1, 1) := by decide +kernel
theorem dX10_felt_86 : decode cX10_felt 86 = .ok (.isub, 1) := by decide +kernel
theorem dX10_felt_87 : decode cX10_felt 87 = .ok (.invokevirtual 300, 3) := by decide +kernel
theorem dX10_felt_90 : decode cX10_felt 90 = .ok (.ireturn, 1) := by decide +kernel
theorem dX10_felt_91 : decode cX10_felt 91 = .ok (.aload_n 0, 1) := by decide +kernel
theorem dX10_felt_92 : decode cX10_felt 92 = .ok (.iload_n 1, 1) := by decide +kernel
theorem dX10_felt_93 : decode cX10_felt 93 = .ok (.iload_n 2, 1) := by decide +kernel
theorem dX10_felt_94 : decode cX10_felt 94 = .ok (.iconst 2, 1) := by decide +kernel
theorem dX10_felt_95 : decode cX10_felt 95 = .ok (.bipush 12, 2) := by decide +kernel
theorem dX10_felt_97 : decode cX10_felt 97 = .ok (.iload_n 3, 1) := by decide +kernel
theorem dX10_felt_98 : decode cX10_felt 98 = .ok (.iconst 3, 1) := by decide +kernel
theorem dX10_felt_99 : decode cX10_felt 99 = .ok (.isub, 1) := by decide +kernel
theorem dX10_felt_100 : decode cX10_felt 100 = .ok (.invokevirtual 300, 3) := by decide +kernel
theorem dX10_felt_103 : decode cX10_felt 103 = .ok (.ireturn, 1) := by decide +kernel
theorem dX10_spreads_0 : decode cX10_spreads 0 = .ok (.iconst 0, 1) := by decide +kernel
theorem dX10_spreads_1 : decode cX10_spreads 1 = .ok (.istore_n 3, 1) := by decide +kernel
theorem dX10_spreads_2 : decode cX10_spreads 2 = .ok (.iload_n 3, 1) := by decide +kernel
theorem dX10_spreads_3 : decode cX10_spreads 3 = .ok (.bipush 30, 2) := by decide +kernel
theorem dX10_spreads_5 : decode cX10_spreads 5 = .ok (.if_icmp .ge 36, 3) := by decide +kernel
theorem dX10_spreads_8 : decode cX10_spreads 8 = .ok (.aload_n 0, 1) := by decide +kernel
theorem dX10_spreads_9 : decode cX10_spreads 9 = .ok (.getfield 97, 3) := by decide +kernel
theorem dX10_spreads_12 : decode cX10_spreads 12 = .ok (.iload_n 3, 1) := by decide +kernel
theorem dX10_spreads_13 : decode cX10_spreads 13 = .ok (.iload_n 3, 1) := by decide +kernel
theorem dX10_spreads_14 : decode cX10_spreads 14 = .ok (.iload_n 1, 1) := by decide +kernel
theorem dX10_spreads_15 : decode cX10_spreads 15 = .ok (.if_icmp .ne 16, 3) := by decide +kernel
theorem dX10_spreads_18 : decode cX10_spreads 18 = .ok (.aload_n 0, 1) := by decide +kernel
theorem dX10_spreads_19 : decode cX10_spreads 19 = .ok (.iload_n 3, 1) := by decide +kernel
theorem dX10_spreads_20 : decode cX10_spreads 20 = .ok (.invokevirtual 235, 3) := by decide +kernel
theorem dX10_spreads_23 : decode cX10_spreads 23 = .ok (.iload_n 2, 1) := by decide +kernel
theorem dX10_spreads_24 : decode cX10_spreads 24 = .ok (.if_icmp .lt 7, 3) := by decide +kernel
theorem dX10_spreads_27 : decode cX10_spreads 27 = .ok (.iconst 0, 1) := by decide +kernel
theorem dX10_spreads_28 : decode cX10_spreads 28 = .ok (.goto 6, 3) := by decide +kernel
theorem dX10_spreads_31 : decode cX10_spreads 31 = .ok (.sipush 999, 3) := by decide +kernel
theorem dX10_spreads_34 : decode cX10_spreads 34 = .ok (.iastore, 1) := by decide +kernel
theorem dX10_spreads_35 : decode cX10_spreads 35 = .ok (.iinc 3 1, 3) := by decide +kernel
theorem dX10_spreads_38 : decode cX10_spreads 38 = .ok (.goto (-36), 3) := by decide +kernel
theorem dX10_spreads_41 : decode cX10_spreads 41 = .ok (.iconst 0, 1) := by decide +kernel
theorem dX10_spreads_42 : decode cX10_spreads 42 = .ok (.istore_n 3, 1) := by decide +kernel
theorem dX10_spreads_43 : decode cX10_spreads 43 = .ok (.iload_n 3, 1) := by decide +kernel
theorem dX10_spreads_44 : decode cX10_spreads 44 = .ok (.bipush 30, 2) := by decide +kernel
theorem dX10_spreads_46 : decode cX10_spreads 46 = .ok (.if_icmp .ge 98, 3) := by decide +kernel
theorem dX10_spreads_49 : decode cX10_spreads 49 = .ok (.iconst 0, 1) := by decide +kernel
theorem dX10_spreads_50 : decode cX10_spreads 50 = .ok (.istore 4, 2) := by decide +kernel
theorem dX10_spreads_52 : decode cX10_spreads 52 = .ok (.iload 4, 2) := by decide +kernel
theorem dX10_spreads_54 : decode cX10_spreads 54 = .ok (.bipush 30, 2) := by decide +kernel
theorem dX10_spreads_56 : decode cX10_spreads 56 = .ok (.if_icmp .ge 82, 3) := by decide +kernel
theorem dX10_spreads_59 : decode cX10_spreads 59 = .ok (.iconst 0, 1) := by decide +kernel
theorem dX10_spreads_60 : decode cX10_spreads 60 = .ok (.istore 5, 2) := by decide +kernel
theorem dX10_spreads_62 : decode cX10_spreads 62 = .ok (.iload 5, 2) := by decide +kernel
theorem dX10_spreads_64 : decode cX10_spreads 64 = .ok (.iconst 4, 1) := by decide +kernel
theorem dX10_spreads_65 : decode cX10_spreads 65 = .ok (.if_icmp .ge 67, 3) := by decide +kernel
theorem dX10_spreads_68 : decode cX10_spreads 68 = .ok (.aload_n 0, 1) := by decide +kernel
theorem dX10_spreads_69 : decode cX10_spreads 69 = .ok (.getfield 97, 3) := by decide +kernel
theorem dX10_spreads_72 : decode cX10_spreads 72 = .ok (.iload 4, 2) := by decide +kernel
theorem dX10_spreads_74 : decode cX10_spreads 74 = .ok (.iaload, 1) := by decide +kernel
theorem dX10_spreads_75 : decode cX10_spreads 75 = .ok (.iload_n 3, 1) := by decide +kernel
theorem dX10_spreads_76 : decode cX10_spreads 76 = .ok (.if_icmp .ne 56, 3) := by decide +kernel
theorem dX10_spreads_79 : decode cX10_spreads 79 = .ok (.iload 4, 2) := by decide +kernel
theorem dX10_spreads_81 : decode cX10_spreads 81 = .ok (.iload 5, 2) := by decide +kernel
theorem dX10_spreads_83 : decode cX10_spreads 83 = .ok (.invokestatic 215, 3) := by decide +kernel
theorem dX10_spreads_86 : decode cX10_spreads 86 = .ok (.istore 6, 2) := by decide +kernel
theorem dX10_spreads_88 : decode cX10_spreads 88 = .ok (.iload 6, 2) := by decide +kernel
theorem dX10_spreads_90 : decode cX10_spreads 90 = .ok (.ifCond .lt 36, 3) := by decide +kernel
theorem dX10_spreads_93 : decode cX10_spreads 93 = .ok (.aload_n 0, 1) := by decide +kernel
theorem dX10_spreads_94 : decode cX10_spreads 94 = .ok (.getfield 97, 3) := by decide +kernel
theorem dX10_spreads_97 : decode cX10_spreads 97 = .ok (.iload 6, 2) := by decide +kernel
theorem dX10_spreads_99 : decode cX10_spreads 99 = .ok (.iaload, 1) := by decide +kernel
theorem dX10_spreads_100 : decode cX10_spreads 100 = .ok (.sipush 999, 3) := by decide +kernel
theorem dX10_spreads_103 : decode cX10_spreads 103 = .ok (.if_icmp .ne 23, 3) := by decide +kernel
theorem dX10_spreads_106 : decode cX10_spreads 106 = .ok (.aload_n 0, 1) := by decide +kernel
theorem dX10_spreads_107 : decode cX10_spreads 107 = .ok (.iload 6, 2) := by decide +kernel
theorem dX10_spreads_109 : decode cX10_spreads 109 = .ok (.invokevirtual 235, 3) := by decide +kernel
theorem dX10_spreads_112 : decode cX10_spreads 112 = .ok (.iload_n 2, 1) := by decide +kernel
theorem dX10_spreads_113 : decode cX10_spreads 113 = .ok (.if_icmp .lt 13, 3) := by decide +kernel
theorem dX10_spreads_116 : decode cX10_spreads 116 = .ok (.aload_n 0, 1) := by decide +kernel
theorem dX10_spreads_117 : decode cX10_spreads 117 = .ok (.getfield 97, 3) := by decide +kernel
theorem dX10_spreads_120 : decode cX10_spreads 120 = .ok (.iload 6, 2) := by decide +kernel
theorem dX10_spreads_122 : decode cX10_spreads 122 = .ok (.iload_n 3, 1) := by decide +kernel
theorem dX10_spreads_123 : decode cX10_spreads 123 = .ok (.iconst 1, 1) := by decide +kernel
theorem dX10_spreads_124 : decode cX10_spreads 124 = .ok (.iadd, 1) := by decide +kernel
theorem dX10_spreads_125 : decode cX10_spreads 125 = .ok (.iastore, 1) := by decide +kernel
theorem dX10_spreads_126 : decode cX10_spreads 126 = .ok (.iinc 5 1, 3) := by decide +kernel
theorem dX10_spreads_129 : decode cX10_spreads 129 = .ok (.goto (-67), 3) := by decide +kernel
theorem dX10_spreads_132 : decode cX10_spreads 132 = .ok (.iinc 4 1, 3) := by decide +kernel
theorem dX10_spreads_135 : decode cX10_spreads 135 = .ok (.goto (-83), 3) := by decide +kernel
theorem dX10_spreads_138 : decode cX10_spreads 138 = .ok (.iinc 3 1, 3) := by decide +kernel
theorem dX10_spreads_141 : decode cX10_spreads 141 = .ok (.goto (-98), 3) := by decide +kernel
theorem dX10_spreads_144 : decode cX10_spreads 144 = .ok (.return_, 1) := by decide +kernel
theorem dX10_walk_0 : decode cX10_walk 0 = .ok (.iload_n 1, 1) := by decide +kernel
theorem dX10_walk_1 : decode cX10_walk 1 = .ok (.ifCond .lt 32, 3) := by decide +kernel
theorem dX10_walk_4 : decode cX10_walk 4 = .ok (.iload_n 1, 1) := by decide +kernel
theorem dX10_walk_5 : decode cX10_walk 5 = .ok (.bipush 100, 2) := by decide +kernel
theorem dX10_walk_7 : decode cX10_walk 7 = .ok (.idiv, 1) := by decide +kernel
theorem dX10_walk_8 : decode cX10_walk 8 = .ok (.invokestatic 111, 3) := by decide +kernel
theorem dX10_walk_11 : decode cX10_walk 11 = .ok (.ifCond .eq 22, 3) := by decide +kernel
theorem dX10_walk_14 : decode cX10_walk 14 = .ok (.iload_n 1, 1) := by decide +kernel
theorem dX10_walk_15 : decode cX10_walk 15 = .ok (.bipush 100, 2) := by decide +kernel
theorem dX10_walk_17 : decode cX10_walk 17 = .ok (.irem, 1) := by decide +kernel
theorem dX10_walk_18 : decode cX10_walk 18 = .ok (.invokestatic 111, 3) := by decide +kernel
theorem dX10_walk_21 : decode cX10_walk 21 = .ok (.ifCond .eq 12, 3) := by decide +kernel
theorem dX10_walk_24 : decode cX10_walk 24 = .ok (.iload_n 2, 1) := by decide +kernel
theorem dX10_walk_25 : decode cX10_walk 25 = .ok (.iconst 0, 1) := by decide +kernel
theorem dX10_walk_26 : decode cX10_walk 26 = .ok (.iconst 1, 1) := by decide +kernel
theorem dX10_walk_27 : decode cX10_walk 27 = .ok (.invokestatic 103, 3) := by decide +kernel
theorem dX10_walk_30 : decode cX10_walk 30 = .ok (.ifCond .ne 5, 3) := by decide +kernel
theorem dX10_walk_33 : decode cX10_walk 33 = .ok (.iconst (-1), 1) := by decide +kernel
theorem dX10_walk_34 : decode cX10_walk 34 = .ok (.ireturn, 1) := by decide +kernel
theorem dX10_walk_35 : decode cX10_walk 35 = .ok (.bipush 99, 2) := by decide +kernel
theorem dX10_walk_37 : decode cX10_walk 37 = .ok (.istore_n 3, 1) := by decide +kernel
theorem dX10_walk_38 : decode cX10_walk 38 = .ok (.aload_n 0, 1) := by decide +kernel
theorem dX10_walk_39 : decode cX10_walk 39 = .ok (.iload_n 1, 1) := by decide +kernel
