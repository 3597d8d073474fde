theorem dX7_init_0 : decode cX7_init 0 = .ok (.aload_n 0, 1) := by decide +kernel
theorem dX7_init_1 : decode cX7_init 1 = .ok (.invokespecial 3, 3) := by decide +kernel
theorem dX7_init_4 : decode cX7_init 4 = .ok (.aload_n 0, 1) := by decide +kernel
theorem dX7_init_5 : decode cX7_init 5 = .ok (.new 9, 3) := by decide +kernel
theorem dX7_init_8 : decode cX7_init 8 = .ok (.dup, 1) := by decide +kernel
theorem dX7_init_9 : decode cX7_init 9 = .ok (.invokespecial 11, 3) := by decide +kernel
theorem dX7_init_12 : decode cX7_init 12 = .ok (.putfield 12, 3) := by decide +kernel
theorem dX7_init_15 : decode cX7_init 15 = .ok (.aload_n 0, 1) := by decide +kernel
theorem dX7_init_16 : decode cX7_init 16 = .ok (.iconst 3, 1) := by decide +kernel
theorem dX7_init_17 : decode cX7_init 17 = .ok (.newarray .int, 2) := by decide +kernel
theorem dX7_init_19 : decode cX7_init 19 = .ok (.putfield 18, 3) := by decide +kernel
theorem dX7_init_22 : decode cX7_init 22 = .ok (.aload_n 0, 1) := by decide +kernel
theorem dX7_init_23 : decode cX7_init 23 = .ok (.aload_n 1, 1) := by decide +kernel
theorem dX7_init_24 : decode cX7_init 24 = .ok (.putfield 22, 3) := by decide +kernel
theorem dX7_init_27 : decode cX7_init 27 = .ok (.return_, 1) := by decide +kernel
theorem dX7_behind_0 : decode cX7_behind 0 = .ok (.aload_n 0, 1) := by decide +kernel
theorem dX7_behind_1 : decode cX7_behind 1 = .ok (.getfield 12, 3) := by decide +kernel
theorem dX7_behind_4 : decode cX7_behind 4 = .ok (.aload_n 0, 1) := by decide +kernel
theorem dX7_behind_5 : decode cX7_behind 5 = .ok (.getfield 22, 3) := by decide +kernel
theorem dX7_behind_8 : decode cX7_behind 8 = .ok (.getfield 26, 3) := by decide +kernel
theorem dX7_behind_11 : decode cX7_behind 11 = .ok (.invokevirtual 31, 3) := by decide +kernel
theorem dX7_behind_14 : decode cX7_behind 14 = .ok (.iconst 0, 1) := by decide +kernel
theorem dX7_behind_15 : decode cX7_behind 15 = .ok (.istore_n 2, 1) := by decide +kernel
theorem dX7_behind_16 : decode cX7_behind 16 = .ok (.iload_n 2, 1) := by decide +kernel
theorem dX7_behind_17 : decode cX7_behind 17 = .ok (.iload_n 1, 1) := by decide +kernel
theorem dX7_behind_18 : decode cX7_behind 18 = .ok (.if_icmp .ge 23, 3) := by decide +kernel
theorem dX7_behind_21 : decode cX7_behind 21 = .ok (.aload_n 0, 1) := by decide +kernel
theorem dX7_behind_22 : decode cX7_behind 22 = .ok (.getfield 12, 3) := by decide +kernel
theorem dX7_behind_25 : decode cX7_behind 25 = .ok (.aload_n 0, 1) := by decide +kernel
theorem dX7_behind_26 : decode cX7_behind 26 = .ok (.getfield 22, 3) := by decide +kernel
theorem dX7_behind_29 : decode cX7_behind 29 = .ok (.getfield 35, 3) := by decide +kernel
theorem dX7_behind_32 : decode cX7_behind 32 = .ok (.invokevirtual 39, 3) := by decide +kernel
theorem dX7_behind_35 : decode cX7_behind 35 = .ok (.iinc 2 1, 3) := by decide +kernel
theorem dX7_behind_38 : decode cX7_behind 38 = .ok (.goto (-22), 3) := by decide +kernel
theorem dX7_behind_41 : decode cX7_behind 41 = .ok (.aload_n 0, 1) := by decide +kernel
theorem dX7_behind_42 : decode cX7_behind 42 = .ok (.getfield 12, 3) := by decide +kernel
theorem dX7_behind_45 : decode cX7_behind 45 = .ok (.areturn, 1) := by decide +kernel
theorem dX7_firstCold_0 : decode cX7_firstCold 0 = .ok (.aload_n 0, 1) := by decide +kernel
theorem dX7_firstCold_1 : decode cX7_firstCold 1 = .ok (.getfield 12, 3) := by decide +kernel
theorem dX7_firstCold_4 : decode cX7_firstCold 4 = .ok (.aload_n 0, 1) := by decide +kernel
theorem dX7_firstCold_5 : decode cX7_firstCold 5 = .ok (.getfield 22, 3) := by decide +kernel
theorem dX7_firstCold_8 : decode cX7_firstCold 8 = .ok (.getfield 26, 3) := by decide +kernel
theorem dX7_firstCold_11 : decode cX7_firstCold 11 = .ok (.invokevirtual 31, 3) := by decide +kernel
theorem dX7_firstCold_14 : decode cX7_firstCold 14 = .ok (.iconst 0, 1) := by decide +kernel
theorem dX7_firstCold_15 : decode cX7_firstCold 15 = .ok (.istore_n 2, 1) := by decide +kernel
theorem dX7_firstCold_16 : decode cX7_firstCold 16 = .ok (.iload_n 2, 1) := by decide +kernel
theorem dX7_firstCold_17 : decode cX7_firstCold 17 = .ok (.bipush 48, 2) := by decide +kernel
theorem dX7_firstCold_19 : decode cX7_firstCold 19 = .ok (.if_icmp .gt 40, 3) := by decide +kernel
theorem dX7_firstCold_22 : decode cX7_firstCold 22 = .ok (.aload_n 0, 1) := by decide +kernel
theorem dX7_firstCold_23 : decode cX7_firstCold 23 = .ok (.getfield 22, 3) := by decide +kernel
theorem dX7_firstCold_26 : decode cX7_firstCold 26 = .ok (.aload_n 0, 1) := by decide +kernel
theorem dX7_firstCold_27 : decode cX7_firstCold 27 = .ok (.getfield 12, 3) := by decide +kernel
theorem dX7_firstCold_30 : decode cX7_firstCold 30 = .ok (.iload_n 1, 1) := by decide +kernel
theorem dX7_firstCold_31 : decode cX7_firstCold 31 = .ok (.invokevirtual 43, 3) := by decide +kernel
theorem dX7_firstCold_34 : decode cX7_firstCold 34 = .ok (.ifCond .eq 5, 3) := by decide +kernel
theorem dX7_firstCold_37 : decode cX7_firstCold 37 = .ok (.iload_n 2, 1) := by decide +kernel
theorem dX7_firstCold_38 : decode cX7_firstCold 38 = .ok (.ireturn, 1) := by decide +kernel
theorem dX7_firstCold_39 : decode cX7_firstCold 39 = .ok (.aload_n 0, 1) := by decide +kernel
theorem dX7_firstCold_40 : decode cX7_firstCold 40 = .ok (.getfield 12, 3) := by decide +kernel
theorem dX7_firstCold_43 : decode cX7_firstCold 43 = .ok (.aload_n 0, 1) := by decide +kernel
theorem dX7_firstCold_44 : decode cX7_firstCold 44 = .ok (.getfield 22, 3) := by decide +kernel
theorem dX7_firstCold_47 : decode cX7_firstCold 47 = .ok (.getfield 35, 3) := by decide +kernel
theorem dX7_firstCold_50 : decode cX7_firstCold 50 = .ok (.invokevirtual 39, 3) := by decide +kernel
theorem dX7_firstCold_53 : decode cX7_firstCold 53 = .ok (.iinc 2 1, 3) := by decide +kernel
theorem dX7_firstCold_56 : decode cX7_firstCold 56 = .ok (.goto (-40), 3) := by decide +kernel
theorem dX7_firstCold_59 : decode cX7_firstCold 59 = .ok (.bipush (-2), 2) := by decide +kernel
theorem dX7_firstCold_61 : decode cX7_firstCold 61 = .ok (.ireturn, 1) := by decide +kernel
theorem dX7_timesCold_0 : decode cX7_timesCold 0 = .ok (.aload_n 0, 1) := by decide +kernel
theorem dX7_timesCold_1 : decode cX7_timesCold 1 = .ok (.getfield 12, 3) := by decide +kernel
theorem dX7_timesCold_4 : decode cX7_timesCold 4 = .ok (.aload_n 0, 1) := by decide +kernel
theorem dX7_timesCold_5 : decode cX7_timesCold 5 = .ok (.getfield 22, 3) := by decide +kernel
theorem dX7_timesCold_8 : decode cX7_timesCold 8 = .ok (.getfield 26, 3) := by decide +kernel
theorem dX7_timesCold_11 : decode cX7_timesCold 11 = .ok (.invokevirtual 31, 3) := by decide +kernel
theorem dX7_timesCold_14 : decode cX7_timesCold 14 = .ok (.iconst 0, 1) := by decide +kernel
theorem dX7_timesCold_15 : decode cX7_timesCold 15 = .ok (.istore_n 3, 1) := by decide +kernel
theorem dX7_timesCold_16 : decode cX7_timesCold 16 = .ok (.iconst 0, 1) := by decide +kernel
theorem dX7_timesCold_17 : decode cX7_timesCold 17 = .ok (.istore 4, 2) := by decide +kernel
theorem dX7_timesCold_19 : decode cX7_timesCold 19 = .ok (.iload 4, 2) := by decide +kernel
theorem dX7_timesCold_21 : decode cX7_timesCold 21 = .ok (.iload_n 2, 1) := by decide +kernel
theorem dX7_timesCold_22 : decode cX7_timesCold 22 = .ok (.if_icmp .gt 41, 3) := by decide +kernel
theorem dX7_timesCold_25 : decode cX7_timesCold 25 = .ok (.aload_n 0, 1) := by decide +kernel
theorem dX7_timesCold_26 : decode cX7_timesCold 26 = .ok (.getfield 22, 3) := by decide +kernel
theorem dX7_timesCold_29 : decode cX7_timesCold 29 = .ok (.aload_n 0, 1) := by decide +kernel
theorem dX7_timesCold_30 : decode cX7_timesCold 30 = .ok (.getfield 12, 3) := by decide +kernel
theorem dX7_timesCold_33 : decode cX7_timesCold 33 = .ok (.iload_n 1, 1) := by decide +kernel
theorem dX7_timesCold_34 : decode cX7_timesCold 34 = .ok (.invokevirtual 43, 3) := by decide +kernel
theorem dX7_timesCold_37 : decode cX7_timesCold 37 = .ok (.ifCond .eq 6, 3) := by decide +kernel
theorem dX7_timesCold_40 : decode cX7_timesCold 40 = .ok (.iinc 3 1, 3) := by decide +kernel
theorem dX7_timesCold_43 : decode cX7_timesCold 43 = .ok (.aload_n 0, 1) := by decide +kernel
theorem dX7_timesCold_44 : decode cX7_timesCold 44 = .ok (.getfield 12, 3) := by decide +kernel
theorem dX7_timesCold_47 : decode cX7_timesCold 47 = .ok (.aload_n 0, 1) := by decide +kernel
theorem dX7_timesCold_48 : decode cX7_timesCold 48 = .ok (.getfield 22, 3) := by decide +kernel
theorem dX7_timesCold_51 : decode cX7_timesCold 51 = .ok (.getfield 35, 3) := by decide +kernel
theorem dX7_timesCold_54 : decode cX7_timesCold 54 = .ok (.invokevirtual 39, 3) := by decide +kernel
theorem dX7_timesCold_57 : decode cX7_timesCold 57 = .ok (.iinc 4 1, 3) := by decide +kernel
theorem dX7_timesCold_60 : decode cX7_timesCold 60 = .ok (.goto (-41), 3) := by decide +kernel
theorem dX7_timesCold_63 : decode cX7_timesCold 63 = .ok (.iload_n 3, 1) := by decide +kernel
theorem dX7_timesCold_64 : decode cX7_timesCold 64 = .ok (.ireturn, 1) := by decide +kernel
theorem dX7_fewestPulls_0 : decode cX7_fewestPulls 0 = .ok (.aload_n 0, 1) := by decide +kernel
theorem dX7_fewestPulls_1 : decode cX7_fewestPulls 1 = .ok (.getfield 12, 3) := by decide +kernel
theorem dX7_fewestPulls_4 : decode cX7_fewestPulls 4 = .ok (.aload_n 0, 1) := by decide +kernel
theorem dX7_fewestPulls_5 : decode cX7_fewestPulls 5 = .ok (.getfield 22, 3) := by decide +kernel
theorem dX7_fewestPulls_8 : decode cX7_fewestPulls 8 = .ok (.getfield 26, 3) := by decide +kernel
theorem dX7_fewestPulls_11 : decode cX7_fewestPulls 11 = .ok (.invokevirtual 31, 3) := by decide +kernel
theorem dX7_fewestPulls_14 : decode cX7_fewestPulls 14 = .ok (.iconst 0, 1) := by decide +kernel
theorem dX7_fewestPulls_15 : decode cX7_fewestPulls 15 = .ok (.istore_n 2, 1) := by decide +kernel
theorem dX7_fewestPulls_16 : decode cX7_fewestPulls 16 = .ok (.iload_n 2, 1) := by decide +kernel
theorem dX7_fewestPulls_17 : decode cX7_fewestPulls 17 = .ok (.iconst 3, 1) := by decide +kernel
theorem dX7_fewestPulls_18 : decode cX7_fewestPulls 18 = .ok (.if_icmp .gt 21, 3) := by decide +kernel
theorem dX7_fewestPulls_21 : decode cX7_fewestPulls 21 = .ok (.aload_n 0, 1) := by decide +kernel
theorem dX7_fewestPulls_22 : decode cX7_fewestPulls 22 = .ok (.iload_n 1, 1) := by decide +kernel
theorem dX7_fewestPulls_23 : decode cX7_fewestPulls 23 = .ok (.iconst 0, 1) := by decide +kernel
theorem dX7_fewestPulls_24 : decode cX7_fewestPulls 24 = .ok (.iload_n 2, 1) := by decide +kernel
theorem dX7_fewestPulls_25 : decode cX7_fewestPulls 25 = .ok (.invokevirtual 47, 3) := by decide +kernel
theorem dX7_fewestPulls_28 : decode cX7_fewestPulls 28 = .ok (.ifCond .eq 5, 3) := by decide +kernel
theorem dX7_fewestPulls_31 : decode cX7_fewestPulls 31 = .ok (.iload_n 2, 1) := by decide +kernel
theorem dX7_fewestPulls_32 : decode cX7_fewestPulls 32 = .ok (.ireturn, 1) := by decide +kernel
theorem dX7_fewestPulls_33 : decode cX7_fewestPulls 33 = .ok (.iinc 2 1, 3) := by decide +kernel
theorem dX7_fewestPulls_36 : decode cX7_fewestPulls 36 = .ok (.goto (-20), 3) := by decide +kernel
theorem dX7_fewestPulls_39 : decode cX7_fewestPulls 39 = .ok (.bipush (-2), 2) := by decide +kernel
theorem dX7_fewestPulls_41 : decode cX7_fewestPulls 41 = .ok (.ireturn, 1) := by decide +kernel
theorem dX7_warmByPulls_0 : decode cX7_warmByPulls 0 = .ok (.iload_n 2, 1) := by decide +kernel
theorem dX7_warmByPulls_1 : decode cX7_warmByPulls 1 = .ok (.iload_n 3, 1) := by decide +kernel
theorem dX7_warmByPulls_2 : decode cX7_warmByPulls 2 = .ok (.if_icmp .ge 8, 3) := by decide +kernel
theorem dX7_warmByPulls_5 : decode cX7_warmByPulls 5 = .ok (.iload_n 2, 1) := by decide +kernel
theorem dX7_warmByPulls_6 : decode cX7_warmByPulls 6 = .ok (.iconst 3, 1) := by decide +kernel
theorem dX7_warmByPulls_7 : decode cX7_warmByPulls 7 = .ok (.if_icmp .lt 24, 3) := by decide +kernel
theorem dX7_warmByPulls_10 : decode cX7_warmByPulls 10 = .ok (.aload_n 0, 1) := by decide +kernel
theorem dX7_warmByPulls_11 : decode cX7_warmByPulls 11 = .ok (.getfield 22, 3) := by decide +kernel
theorem dX7_warmByPulls_14 : decode cX7_warmByPulls 14 = .ok (.aload_n 0, 1) := by decide +kernel
theorem dX7_warmByPulls_15 : decode cX7_warmByPulls 15 = .ok (.getfield 12, 3) := by decide +kernel
theorem dX7_warmByPulls_18 : decode cX7_warmByPulls 18 = .ok (.iload_n 1, 1) := by decide +kernel
theorem dX7_warmByPulls_19 : decode cX7_warmByPulls 19 = .ok (.invokevirtual 43, 3) := by decide +kernel
theorem dX7_warmByPulls_22 : decode cX7_warmByPulls 22 = .ok (.ifCond .ne 7, 3) := by decide +kernel
theorem dX7_warmByPulls_25 : decode cX7_warmByPulls 25 = .ok (.iconst 1, 1) := by decide +kernel
theorem dX7_warmByPulls_26 : decode cX7_warmByPulls 26 = .ok (.goto 4, 3) := by decide +kernel
theorem dX7_warmByPulls_29 : decode cX7_warmByPulls 29 = .ok (.iconst 0, 1) := by decide +kernel
theorem dX7_warmByPulls_30 : decode cX7_warmByPulls 30 = .ok (.ireturn, 1) := by decide +kernel
theorem dX7_warmByPulls_31 : decode cX7_warmByPulls 31 = .ok (.iconst 0, 1) := by decide +kernel
theorem dX7_warmByPulls_32 : decode cX7_warmByPulls 32 = .ok (.istore 4, 2) := by decide +kernel
theorem dX7_warmByPulls_34 : decode cX7_warmByPulls 34 = .ok (.iconst 0, 1) := by decide +kernel
theorem dX7_warmByPulls_35 : decode cX7_warmByPulls 35 = .ok (.istore 5, 2) := by decide +kernel
theorem dX7_warmByPulls_37 : decode cX7_warmByPulls 37 = .ok (.iload 5, 2) := by decide +kernel
theorem dX7_warmByPulls_39 : decode cX7_warmByPulls 39 = .ok (.bipush 10, 2) := by decide +kernel
theorem dX7_warmByPulls_41 : decode cX7_warmByPulls 41 = .ok (.if_icmp .ge 65, 3) := by decide +kernel
theorem dX7_warmByPulls_44 : decode cX7_warmByPulls 44 = .ok (.iload 4, 2) := by decide +kernel
theorem dX7_warmByPulls_46 : decode cX7_warmByPulls 46 = .ok (.ifCond .ne 60, 3) := by decide +kernel
theorem dX7_warmByPulls_49 : decode cX7_warmByPulls 49 = .ok (.aload_n 0, 1) := by decide +kernel
theorem dX7_warmByPulls_50 : decode cX7_warmByPulls 50 = .ok (.getfield 18, 3) := by decide +kernel
theorem dX7_warmByPulls_53 : decode cX7_warmByPulls 53 = .ok (.iload_n 2, 1) := by decide +kernel
theorem dX7_warmByPulls_54 : decode cX7_warmByPulls 54 = .ok (.iload 5, 2) := by decide +kernel
theorem dX7_warmByPulls_56 : decode cX7_warmByPulls 56 = .ok (.iastore, 1) := by decide +kernel
theorem dX7_warmByPulls_57 : decode cX7_warmByPulls 57 = .ok (.aload_n 0, 1) := by decide +kernel
theorem dX7_warmByPulls_58 : decode cX7_warmByPulls 58 = .ok (.getfield 12, 3) := by decide +kernel
theorem dX7_warmByPulls_61 : decode cX7_warmByPulls 61 = .ok (.iload 5, 2) := by decide +kernel
theorem dX7_warmByPulls_63 : decode cX7_warmByPulls 63 = .ok (.iconst 2, 1) := by decide +kernel
theorem dX7_warmByPulls_64 : decode cX7_warmByPulls 64 = .ok (.idiv, 1) := by decide +kernel
theorem dX7_warmByPulls_65 : decode cX7_warmByPulls 65 = .ok (.iload 5, 2) := by decide +kernel
theorem dX7_warmByPulls_67 : decode cX7_warmByPulls 67 = .ok (.iconst 2, 1) := by decide +kernel
theorem dX7_warmByPulls_68 : decode cX7_warmByPulls 68 = .ok (.irem, 1) := by decide +kernel
theorem dX7_warmByPulls_69 : decode cX7_warmByPulls 69 = .ok (.invokevirtual 51, 3) := by decide +kernel
theorem dX7_warmByPulls_72 : decode cX7_warmByPulls 72 = .ok (.aload_n 0, 1) := by decide +kernel
theorem dX7_warmByPulls_73 : decode cX7_warmByPulls 73 = .ok (.iload_n 1, 1) := by decide +kernel
theorem dX7_warmByPulls_74 : decode cX7_warmByPulls 74 = .ok (.iload_n 2, 1) := by decide +kernel
theorem dX7_warmByPulls_75 : decode cX7_warmByPulls 75 = .ok (.iconst 1, 1) := by decide +kernel
theorem dX7_warmByPulls_76 : decode cX7_warmByPulls 76 = .ok (.iadd, 1) := by decide +kernel
theorem dX7_warmByPulls_77 : decode cX7_warmByPulls 77 = .ok (.iload_n 3, 1) := by decide +kernel
theorem dX7_warmByPulls_78 : decode cX7_warmByPulls 78 = .ok (.invokevirtual 47, 3) := by decide +kernel
theorem dX7_warmByPulls_81 : decode cX7_warmByPulls 81 = .ok (.istore 4, 2) := by decide +kernel
theorem dX7_warmByPulls_83 : decode cX7_warmByPulls 83 = .ok (.aload_n 0, 1) := by decide +kernel
theorem dX7_warmByPulls_84 : decode cX7_warmByPulls 84 = .ok (.getfield 12, 3) := by decide +kernel
theorem dX7_warmByPulls_87 : decode cX7_warmByPulls 87 = .ok (.iload 5, 2) := by decide +kernel
theorem dX7_warmByPulls_89 : decode cX7_warmByPulls 89 = .ok (.iconst 2, 1) := by decide +kernel
theorem dX7_warmByPulls_90 : decode cX7_warmByPulls 90 = .ok (.idiv, 1) := by decide +kernel
theorem dX7_warmByPulls_91 : decode cX7_warmByPulls 91 = .ok (.iconst 1, 1) := by decide +kernel
theorem dX7_warmByPulls_92 : decode cX7_warmByPulls 92 = .ok (.iload 5, 2) := by decide +kernel
theorem dX7_warmByPulls_94 : decode cX7_warmByPulls 94 = .ok (.iconst 2, 1) := by decide +kernel
theorem dX7_warmByPulls_95 : decode cX7_warmByPulls 95 = .ok (.irem, 1) := by decide +kernel
theorem dX7_warmByPulls_96 : decode cX7_warmByPulls 96 = .ok (.isub, 1) := by decide +kernel
theorem dX7_warmByPulls_97 : decode cX7_warmByPulls 97 = .ok (.invokevirtual 51, 3) := by decide +kernel
theorem dX7_warmByPulls_100 : decode cX7_warmByPulls 100 = .ok (.iinc 5 1, 3) := by decide +kernel
theorem dX7_warmByPulls_103 : decode cX7_warmByPulls 103 = .ok (.goto (-66), 3) := by decide +kernel
theorem dX7_warmByPulls_106 : decode cX7_warmByPulls 106 = .ok (.iload 4, 2) := by decide +kernel
theorem dX7_warmByPulls_108 : decode cX7_warmByPulls 108 = .ok (.ireturn, 1) := by decide +kernel
theorem dX7_tryShakes_0 : decode cX7_tryShakes 0 = .ok (.aload_n 0, 1) := by decide +kernel
theorem dX7_tryShakes_1 : decode cX7_tryShakes 1 = .ok (.bipush 9, 2) := by decide +kernel
theorem dX7_tryShakes_3 : decode cX7_tryShakes 3 = .ok (.putfield 55, 3) := by decide +kernel
theorem dX7_tryShakes_6 : decode cX7_tryShakes 6 = .ok (.iconst 0, 1) := by decide +kernel
theorem dX7_tryShakes_7 : decode cX7_tryShakes 7 = .ok (.istore_n 1, 1) := by decide +kernel
theorem dX7_tryShakes_8 : decode cX7_tryShakes 8 = .ok (.iload_n 1, 1) := by decide +kernel
theorem dX7_tryShakes_9 : decode cX7_tryShakes 9 = .ok (.bipush 30, 2) := by decide +kernel
theorem dX7_tryShakes_11 : decode cX7_tryShakes 11 = .ok (.if_icmp .ge 43, 3) := by decide +kernel
theorem dX7_tryShakes_14 : decode cX7_tryShakes 14 = .ok (.iload_n 1, 1) := by decide +kernel
theorem dX7_tryShakes_15 : decode cX7_tryShakes 15 = .ok (.invokestatic 58, 3) := by decide +kernel
theorem dX7_tryShakes_18 : decode cX7_tryShakes 18 = .ok (.ifCond .eq 30, 3) := by decide +kernel
theorem dX7_tryShakes_21 : decode cX7_tryShakes 21 = .ok (.aload_n 0, 1) := by decide +kernel
theorem dX7_tryShakes_22 : decode cX7_tryShakes 22 = .ok (.getfield 12, 3) := by decide +kernel
theorem dX7_tryShakes_25 : decode cX7_tryShakes 25 = .ok (.aload_n 0, 1) := by decide +kernel
theorem dX7_tryShakes_26 : decode cX7_tryShakes 26 = .ok (.getfield 22, 3) := by decide +kernel
theorem dX7_tryShakes_29 : decode cX7_tryShakes 29 = .ok (.getfield 26, 3) := by decide +kernel
theorem dX7_tryShakes_32 : decode cX7_tryShakes 32 = .ok (.invokevirtual 31, 3) := by decide +kernel
theorem dX7_tryShakes_35 : decode cX7_tryShakes 35 = .ok (.aload_n 0, 1) := by decide +kernel
theorem dX7_tryShakes_36 : decode cX7_tryShakes 36 = .ok (.getfield 12, 3) := by decide +kernel
theorem dX7_tryShakes_39 : decode cX7_tryShakes 39 = .ok (.iload_n 1, 1) := by decide +kernel
theorem dX7_tryShakes_40 : decode cX7_tryShakes 40 = .ok (.invokevirtual 62, 3) := by decide +kernel
theorem dX7_tryShakes_43 : decode cX7_tryShakes 43 = .ok (.aload_n 0, 1) := by decide +kernel
theorem dX7_tryShakes_44 : decode cX7_tryShakes 44 = .ok (.iload_n 1, 1) := by decide +kernel
theorem dX7_tryShakes_45 : decode cX7_tryShakes 45 = .ok (.invokevirtual 65, 3) := by decide +kernel
theorem dX7_tryShakes_48 : decode cX7_tryShakes 48 = .ok (.iinc 1 1, 3) := by decide +kernel
theorem dX7_tryShakes_51 : decode cX7_tryShakes 51 = .ok (.goto (-43), 3) := by decide +kernel
theorem dX7_tryShakes_54 : decode cX7_tryShakes 54 = .ok (.return_, 1) := by decide +kernel
theorem dX7_tryStuffings_0 : decode cX7_tryStuffings 0 = .ok (.aload_n 0, 1) := by decide +kernel
theorem dX7_tryStuffings_1 : decode cX7_tryStuffings 1 = .ok (.bipush 9, 2) := by decide +kernel
theorem dX7_tryStuffings_3 : decode cX7_tryStuffings 3 = .ok (.putfield 55, 3) := by decide +kernel
theorem dX7_tryStuffings_6 : decode cX7_tryStuffings 6 = .ok (.iload_n 1, 1) := by decide +kernel
theorem dX7_tryStuffings_7 : decode cX7_tryStuffings 7 = .ok (.ifCond .ne 24, 3) := by decide +kernel
theorem dX7_tryStuffings_10 : decode cX7_tryStuffings 10 = .ok (.aload_n 0, 1) := by decide +kernel
theorem dX7_tryStuffings_11 : decode cX7_tryStuffings 11 = .ok (.getfield 12, 3) := by decide +kernel
theorem dX7_tryStuffings_14 : decode cX7_tryStuffings 14 = .ok (.aload_n 0, 1) := by decide +kernel
theorem dX7_tryStuffings_15 : decode cX7_tryStuffings 15 = .ok (.getfield 22, 3) := by decide +kernel
theorem dX7_tryStuffings_18 : decode cX7_tryStuffings 18 = .ok (.getfield 26, 3) := by decide +kernel
theorem dX7_tryStuffings_21 : decode cX7_tryStuffings 21 = .ok (.invokevirtual 31, 3) := by decide +kernel
theorem dX7_tryStuffings_24 : decode cX7_tryStuffings 24 = .ok (.aload_n 0, 1) := by decide +kernel
theorem dX7_tryStuffings_25 : decode cX7_tryStuffings 25 = .ok (.bipush (-9), 2) := by decide +kernel
theorem dX7_tryStuffings_27 : decode cX7_tryStuffings 27 = .ok (.invokevirtual 65, 3) := by decide +kernel
theorem dX7_tryStuffings_30 : decode cX7_tryStuffings 30 = .ok (.return_, 1) := by decide +kernel
theorem dX7_tryStuffings_31 : decode cX7_tryStuffings 31 = .ok (.iconst 0, 1) := by decide +kernel
theorem dX7_tryStuffings_32 : decode cX7_tryStuffings 32 = .ok (.istore_n 2, 1) := by decide +kernel
theorem dX7_tryStuffings_33 : decode cX7_tryStuffings 33 = .ok (.iload_n 2, 1) := by decide +kernel
theorem dX7_tryStuffings_34 : decode cX7_tryStuffings 34 = .ok (.bipush 30, 2) := by decide +kernel
theorem dX7_tryStuffings_36 : decode cX7_tryStuffings 36 = .ok (.if_icmp .ge 110, 3) := by decide +kernel
theorem dX7_tryStuffings_39 : decode cX7_tryStuffings 39 = .ok (.iload_n 1, 1) := by decide +kernel
theorem dX7_tryStuffings_40 : decode cX7_tryStuffings 40 = .ok (.iconst 1, 1) := by decide +kernel
theorem dX7_tryStuffings_41 : decode cX7_tryStuffings 41 = .ok (.if_icmp .ne 7, 3) := by decide +kernel
theorem dX7_tryStuffings_44 : decode cX7_tryStuffings 44 = .ok (.iload_n 2, 1) := by decide +kernel
theorem dX7_tryStuffings_45 : decode cX7_tryStuffings 45 = .ok (.goto 6, 3) := by decide +kernel
theorem dX7_tryStuffings_48 : decode cX7_tryStuffings 48 = .ok (.iload_n 2, 1) := by decide +kernel
theorem dX7_tryStuffings_49 : decode cX7_tryStuffings 49 = .ok (.iconst 1, 1) := by decide +kernel
theorem dX7_tryStuffings_50 : decode cX7_tryStuffings 50 = .ok (.iadd, 1) := by decide +kernel
theorem dX7_tryStuffings_51 : decode cX7_tryStuffings 51 = .ok (.istore_n 3, 1) := by decide +kernel
theorem dX7_tryStuffings_52 : decode cX7_tryStuffings 52 = .ok (.iload_n 1, 1) := by decide +kernel
theorem dX7_tryStuffings_53 : decode cX7_tryStuffings 53 = .ok (.iconst 1, 1) := by decide +kernel
theorem dX7_tryStuffings_54 : decode cX7_tryStuffings 54 = .ok (.if_icmp .ne 7, 3) := by decide +kernel
theorem dX7_tryStuffings_57 : decode cX7_tryStuffings 57 = .ok (.iload_n 2, 1) := by decide +kernel
theorem dX7_tryStuffings_58 : decode cX7_tryStuffings 58 = .ok (.goto 5, 3) := by decide +kernel
theorem dX7_tryStuffings_61 : decode cX7_tryStuffings 61 = .ok (.bipush 29, 2) := by decide +kernel
theorem dX7_tryStuffings_63 : decode cX7_tryStuffings 63 = .ok (.istore 4, 2) := by decide +kernel
theorem dX7_tryStuffings_65 : decode cX7_tryStuffings 65 = .ok (.iload_n 3, 1) := by decide +kernel
theorem dX7_tryStuffings_66 : decode cX7_tryStuffings 66 = .ok (.istore 5, 2) := by decide +kernel
theorem dX7_tryStuffings_68 : decode cX7_tryStuffings 68 = .ok (.iload 5, 2) := by decide +kernel
theorem dX7_tryStuffings_70 : decode cX7_tryStuffings 70 = .ok (.iload 4, 2) := by decide +kernel
theorem dX7_tryStuffings_72 : decode cX7_tryStuffings 72 = .ok (.if_icmp .gt 68, 3) := by decide +kernel
theorem dX7_tryStuffings_75 : decode cX7_tryStuffings 75 = .ok (.aload_n 0, 1) := by decide +kernel
theorem dX7_tryStuffings_76 : decode cX7_tryStuffings 76 = .ok (.getfield 12, 3) := by decide +kernel
theorem dX7_tryStuffings_79 : decode cX7_tryStuffings 79 = .ok (.aload_n 0, 1) := by decide +kernel
theorem dX7_tryStuffings_80 : decode cX7_tryStuffings 80 = .ok (.getfield 22, 3) := by decide +kernel
theorem dX7_tryStuffings_83 : decode cX7_tryStuffings 83 = .ok (.getfield 26, 3) := by decide +kernel
theorem dX7_tryStuffings_86 : decode cX7_tryStuffings 86 = .ok (.invokevirtual 31, 3) := by decide +kernel
theorem dX7_tryStuffings_89 : decode cX7_tryStuffings 89 = .ok (.aload_n 0, 1) := by decide +kernel
theorem dX7_tryStuffings_90 : decode cX7_tryStuffings 90 = .ok (.getfield 12, 3) := by decide +kernel
theorem dX7_tryStuffings_93 : decode cX7_tryStuffings 93 = .ok (.iload_n 2, 1) := by decide +kernel
theorem dX7_tryStuffings_94 : decode cX7_tryStuffings 94 = .ok (.iconst 2, 1) := by decide +kernel
theorem dX7_tryStuffings_95 : decode cX7_tryStuffings 95 = .ok (.bipush 9, 2) := by decide +kernel
theorem dX7_tryStuffings_97 : decode cX7_tryStuffings 97 = .ok (.iconst 0, 1) := by decide +kernel
theorem dX7_tryStuffings_98 : decode cX7_tryStuffings 98 = .ok (.invokevirtual 68, 3) := by decide +kernel
theorem dX7_tryStuffings_101 : decode cX7_tryStuffings 101 = .ok (.aload_n 0, 1) := by decide +kernel
theorem dX7_tryStuffings_102 : decode cX7_tryStuffings 102 = .ok (.getfield 12, 3) := by decide +kernel
theorem dX7_tryStuffings_105 : decode cX7_tryStuffings 105 = .ok (.iload 5, 2) := by decide +kernel
theorem dX7_tryStuffings_107 : decode cX7_tryStuffings 107 = .ok (.iconst 2, 1) := by decide +kernel
theorem dX7_tryStuffings_108 : decode cX7_tryStuffings 108 = .ok (.bipush 9, 2) := by decide +kernel
theorem dX7_tryStuffings_110 : decode cX7_tryStuffings 110 = .ok (.iconst 0, 1) := by decide +kernel
theorem dX7_tryStuffings_111 : decode cX7_tryStuffings 111 = .ok (.invokevirtual 68, 3) := by decide +kernel
theorem dX7_tryStuffings_114 : decode cX7_tryStuffings 114 = .ok (.aload_n 0, 1) := by decide +kernel
theorem dX7_tryStuffings_115 : decode cX7_tryStuffings 115 = .ok (.iload_n 1, 1) := by decide +kernel
theorem dX7_tryStuffings_116 : decode cX7_tryStuffings 116 = .ok (.iconst 1, 1) := by decide +kernel
theorem dX7_tryStuffings_117 : decode cX7_tryStuffings 117 = .ok (.if_icmp .ne 7, 3) := by decide +kernel
theorem dX7_tryStuffings_120 : decode cX7_tryStuffings 120 = .ok (.iload_n 2, 1) := by decide +kernel
theorem dX7_tryStuffings_121 : decode cX7_tryStuffings 121 = .ok (.goto 10, 3) := by decide +kernel
theorem dX7_tryStuffings_124 : decode cX7_tryStuffings 124 = .ok (.bipush 30, 2) := by decide +kernel
theorem dX7_tryStuffings_126 : decode cX7_tryStuffings 126 = .ok (.iload_n 2, 1) := by decide +kernel
theorem dX7_tryStuffings_127 : decode cX7_tryStuffings 127 = .ok (.imul, 1) := by decide +kernel
theorem dX7_tryStuffings_128 : decode cX7_tryStuffings 128 = .ok (.iload 5, 2) := by decide +kernel
theorem dX7_tryStuffings_130 : decode cX7_tryStuffings 130 = .ok (.iadd, 1) := by decide +kernel
theorem dX7_tryStuffings_131 : decode cX7_tryStuffings 131 = .ok (.invokevirtual 65, 3) := by decide +kernel
theorem dX7_tryStuffings_134 : decode cX7_tryStuffings 134 = .ok (.iinc 5 1, 3) := by decide +kernel
theorem dX7_tryStuffings_137 : decode cX7_tryStuffings 137 = .ok (.goto (-69), 3) := by decide +kernel
theorem dX7_tryStuffings_140 : decode cX7_tryStuffings 140 = .ok (.iinc 2 1, 3) := by decide +kernel
theorem dX7_tryStuffings_143 : decode cX7_tryStuffings 143 = .ok (.goto (-110), 3) := by decide +kernel
theorem dX7_tryStuffings_146 : decode cX7_tryStuffings 146 = .ok (.return_, 1) := by decide +kernel
theorem dX7_weigh_0 : decode cX7_weigh 0 = .ok (.aload_n 0, 1) := by decide +kernel
theorem dX7_weigh_1 : decode cX7_weigh 1 = .ok (.getfield 22, 3) := by decide +kernel
theorem dX7_weigh_4 : decode cX7_weigh 4 = .ok (.aload_n 0, 1) := by decide +kernel
theorem dX7_weigh_5 : decode cX7_weigh 5 = .ok (.getfield 12, 3) := by decide +kernel
theorem dX7_weigh_8 : decode cX7_weigh 8 = .ok (.invokevirtual 72, 3) := by decide +kernel
theorem dX7_weigh_11 : decode cX7_weigh 11 = .ok (.invokestatic 76, 3) := by decide +kernel
theorem dX7_weigh_14 : decode cX7_weigh 14 = .ok (.istore_n 2, 1) := by decide +kernel
theorem dX7_weigh_15 : decode cX7_weigh 15 = .ok (.iload_n 2, 1) := by decide +kernel
theorem dX7_weigh_16 : decode cX7_weigh 16 = .ok (.aload_n 0, 1) := by decide +kernel
theorem dX7_weigh_17 : decode cX7_weigh 17 = .ok (.getfield 55, 3) := by decide +kernel
theorem dX7_weigh_20 : decode cX7_weigh 20 = .ok (.if_icmp .ge 13, 3) := by decide +kernel
theorem dX7_weigh_23 : decode cX7_weigh 23 = .ok (.aload_n 0, 1) := by decide +kernel
theorem dX7_weigh_24 : decode cX7_weigh 24 = .ok (.iload_n 2, 1) := by decide +kernel
theorem dX7_weigh_25 : decode cX7_weigh 25 = .ok (.putfield 55, 3) := by decide +kernel
theorem dX7_weigh_28 : decode cX7_weigh 28 = .ok (.aload_n 0, 1) := by decide +kernel
theorem dX7_weigh_29 : decode cX7_weigh 29 = .ok (.iload_n 1, 1) := by decide +kernel
theorem dX7_weigh_30 : decode cX7_weigh 30 = .ok (.putfield 82, 3) := by decide +kernel
theorem dX7_weigh_33 : decode cX7_weigh 33 = .ok (.return_, 1) := by decide +kernel
theorem dX7_firstWrong_0 : decode cX7_firstWrong 0 = .ok (.aload_n 0, 1) := by decide +kernel
theorem dX7_firstWrong_1 : decode cX7_firstWrong 1 = .ok (.getfield 12, 3) := by decide +kernel
theorem dX7_firstWrong_4 : decode cX7_firstWrong 4 = .ok (.aload_n 0, 1) := by decide +kernel
theorem dX7_firstWrong_5 : decode cX7_firstWrong 5 = .ok (.getfield 22, 3) := by decide +kernel
theorem dX7_firstWrong_8 : decode cX7_firstWrong 8 = .ok (.getfield 26, 3) := by decide +kernel
theorem dX7_firstWrong_11 : decode cX7_firstWrong 11 = .ok (.invokevirtual 31, 3) := by decide +kernel
theorem dX7_firstWrong_14 : decode cX7_firstWrong 14 = .ok (.aload_n 0, 1) := by decide +kernel
theorem dX7_firstWrong_15 : decode cX7_firstWrong 15 = .ok (.aload_n 1, 1) := by decide +kernel
theorem dX7_firstWrong_16 : decode cX7_firstWrong 16 = .ok (.iload_n 2, 1) := by decide +kernel
theorem dX7_firstWrong_17 : decode cX7_firstWrong 17 = .ok (.invokevirtual 85, 3) := by decide +kernel
theorem dX7_firstWrong_20 : decode cX7_firstWrong 20 = .ok (.ireturn, 1) := by decide +kernel
theorem dX7_firstUnlike_0 : decode cX7_firstUnlike 0 = .ok (.aload_n 1, 1) := by decide +kernel
theorem dX7_firstUnlike_1 : decode cX7_firstUnlike 1 = .ok (.getfield 89, 3) := by decide +kernel
theorem dX7_firstUnlike_4 : decode cX7_firstUnlike 4 = .ok (.bipush 49, 2) := by decide +kernel
theorem dX7_firstUnlike_6 : decode cX7_firstUnlike 6 = .ok (.invokestatic 94, 3) := by decide +kernel
theorem dX7_firstUnlike_9 : decode cX7_firstUnlike 9 = .ok (.istore_n 3, 1) := by decide +kernel
theorem dX7_firstUnlike_10 : decode cX7_firstUnlike 10 = .ok (.iconst 0, 1) := by decide +kernel
theorem dX7_firstUnlike_11 : decode cX7_firstUnlike 11 = .ok (.istore 4, 2) := by decide +kernel
theorem dX7_firstUnlike_13 : decode cX7_firstUnlike 13 = .ok (.iload 4, 2) := by decide +kernel
theorem dX7_firstUnlike_15 : decode cX7_firstUnlike 15 = .ok (.iload_n 3, 1) := by decide +kernel
theorem dX7_firstUnlike_16 : decode cX7_firstUnlike 16 = .ok (.if_icmp .ge 53, 3) := by decide +kernel
theorem dX7_firstUnlike_19 : decode cX7_firstUnlike 19 = .ok (.aload_n 0, 1) := by decide +kernel
theorem dX7_firstUnlike_20 : decode cX7_firstUnlike 20 = .ok (.getfield 22, 3) := by decide +kernel
theorem dX7_firstUnlike_23 : decode cX7_firstUnlike 23 = .ok (.getfield 100, 3) := by decide +kernel
theorem dX7_firstUnlike_26 : decode cX7_firstUnlike 26 = .ok (.aload_n 0, 1) := by decide +kernel
theorem dX7_firstUnlike_27 : decode cX7_firstUnlike 27 = .ok (.getfield 12, 3) := by decide +kernel
theorem dX7_firstUnlike_30 : decode cX7_firstUnlike 30 = .ok (.iload_n 2, 1) := by decide +kernel
theorem dX7_firstUnlike_31 : decode cX7_firstUnlike 31 = .ok (.invokevirtual 104, 3) := by decide +kernel
theorem dX7_firstUnlike_34 : decode cX7_firstUnlike 34 = .ok (.i2l, 1) := by decide +kernel
theorem dX7_firstUnlike_35 : decode cX7_firstUnlike 35 = .ok (.aload_n 1, 1) := by decide +kernel
theorem dX7_firstUnlike_36 : decode cX7_firstUnlike 36 = .ok (.getfield 110, 3) := by decide +kernel
theorem dX7_firstUnlike_39 : decode cX7_firstUnlike 39 = .ok (.iload 4, 2) := by decide +kernel
theorem dX7_firstUnlike_41 : decode cX7_firstUnlike 41 = .ok (.laload, 1) := by decide +kernel
theorem dX7_firstUnlike_42 : decode cX7_firstUnlike 42 = .ok (.lcmp, 1) := by decide +kernel
theorem dX7_firstUnlike_43 : decode cX7_firstUnlike 43 = .ok (.ifCond .eq 6, 3) := by decide +kernel
theorem dX7_firstUnlike_46 : decode cX7_firstUnlike 46 = .ok (.iload 4, 2) := by decide +kernel
theorem dX7_firstUnlike_48 : decode cX7_firstUnlike 48 = .ok (.ireturn, 1) := by decide +kernel
theorem dX7_firstUnlike_49 : decode cX7_firstUnlike 49 = .ok (.aload_n 0, 1) := by decide +kernel
theorem dX7_firstUnlike_50 : decode cX7_firstUnlike 50 = .ok (.getfield 12, 3) := by decide +kernel
theorem dX7_firstUnlike_53 : decode cX7_firstUnlike 53 = .ok (.aload_n 0, 1) := by decide +kernel
theorem dX7_firstUnlike_54 : decode cX7_firstUnlike 54 = .ok (.getfield 22, 3) := by decide +kernel
theorem dX7_firstUnlike_57 : decode cX7_firstUnlike 57 = .ok (.getfield 35, 3) := by decide +kernel
theorem dX7_firstUnlike_60 : decode cX7_firstUnlike 60 = .ok (.invokevirtual 39, 3) := by decide +kernel
theorem dX7_firstUnlike_63 : decode cX7_firstUnlike 63 = .ok (.iinc 4 1, 3) := by decide +kernel
theorem dX7_firstUnlike_66 : decode cX7_firstUnlike 66 = .ok (.goto (-53), 3) := by decide +kernel
theorem dX7_firstUnlike_69 : decode cX7_firstUnlike 69 = .ok (.bipush (-2), 2) := by decide +kernel
theorem dX7_firstUnlike_71 : decode cX7_firstUnlike 71 = .ok (.ireturn, 1) := by decide +kernel
theorem dX7_fitting_0 : decode cX7_fitting 0 = .ok (.iconst 0, 1) := by decide +kernel
theorem dX7_fitting_1 : decode cX7_fitting 1 = .ok (.istore 5, 2) := by decide +kernel
theorem dX7_fitting_3 : decode cX7_fitting 3 = .ok (.iconst 0, 1) := by decide +kernel
theorem dX7_fitting_4 : decode cX7_fitting 4 = .ok (.istore 6, 2) := by decide +kernel
theorem dX7_fitting_6 : decode cX7_fitting 6 = .ok (.iload 6, 2) := by decide +kernel
theorem dX7_fitting_8 : decode cX7_fitting 8 = .ok (.getstatic 114, 3) := by decide +kernel
theorem dX7_fitting_11 : decode cX7_fitting 11 = .ok (.iload 4, 2) := by decide +kernel
theorem dX7_fitting_13 : decode cX7_fitting 13 = .ok (.iaload, 1) := by decide +kernel
theorem dX7_fitting_14 : decode cX7_fitting 14 = .ok (.if_icmp .gt 55, 3) := by decide +kernel
theorem dX7_fitting_17 : decode cX7_fitting 17 = .ok (.aload_n 0, 1) := by decide +kernel
theorem dX7_fitting_18 : decode cX7_fitting 18 = .ok (.getfield 12, 3) := by decide +kernel
theorem dX7_fitting_21 : decode cX7_fitting 21 = .ok (.aload_n 0, 1) := by decide +kernel
theorem dX7_fitting_22 : decode cX7_fitting 22 = .ok (.getfield 22, 3) := by decide +kernel
theorem dX7_fitting_25 : decode cX7_fitting 25 = .ok (.getfield 26, 3) := by decide +kernel
theorem dX7_fitting_28 : decode cX7_fitting 28 = .ok (.invokevirtual 31, 3) := by decide +kernel
theorem dX7_fitting_31 : decode cX7_fitting 31 = .ok (.aload_n 0, 1) := by decide +kernel
theorem dX7_fitting_32 : decode cX7_fitting 32 = .ok (.getfield 12, 3) := by decide +kernel
theorem dX7_fitting_35 : decode cX7_fitting 35 = .ok (.iload_n 3, 1) := by decide +kernel
theorem dX7_fitting_36 : decode cX7_fitting 36 = .ok (.iload 4, 2) := by decide +kernel
theorem dX7_fitting_38 : decode cX7_fitting 38 = .ok (.iload 6, 2) := by decide +kernel
theorem dX7_fitting_40 : decode cX7_fitting 40 = .ok (.invokevirtual 117, 3) := by decide +kernel
theorem dX7_fitting_43 : decode cX7_fitting 43 = .ok (.aload_n 0, 1) := by decide +kernel
theorem dX7_fitting_44 : decode cX7_fitting 44 = .ok (.aload_n 1, 1) := by decide +kernel
theorem dX7_fitting_45 : decode cX7_fitting 45 = .ok (.iload_n 2, 1) := by decide +kernel
theorem dX7_fitting_46 : decode cX7_fitting 46 = .ok (.invokevirtual 85, 3) := by decide +kernel
theorem dX7_fitting_49 : decode cX7_fitting 49 = .ok (.bipush (-2), 2) := by decide +kernel
theorem dX7_fitting_51 : decode cX7_fitting 51 = .ok (.if_icmp .ne 12, 3) := by decide +kernel
theorem dX7_fitting_54 : decode cX7_fitting 54 = .ok (.iload 5, 2) := by decide +kernel
theorem dX7_fitting_56 : decode cX7_fitting 56 = .ok (.iconst 1, 1) := by decide +kernel
theorem dX7_fitting_57 : decode cX7_fitting 57 = .ok (.iload 6, 2) := by decide +kernel
theorem dX7_fitting_59 : decode cX7_fitting 59 = .ok (.ishl, 1) := by decide +kernel
theorem dX7_fitting_60 : decode cX7_fitting 60 = .ok (.ior, 1) := by decide +kernel
theorem dX7_fitting_61 : decode cX7_fitting 61 = .ok (.istore 5, 2) := by decide +kernel
theorem dX7_fitting_63 : decode cX7_fitting 63 = .ok (.iinc 6 1, 3) := by decide +kernel
theorem dX7_fitting_66 : decode cX7_fitting 66 = .ok (.goto (-60), 3) := by decide +kernel
theorem dX7_fitting_69 : decode cX7_fitting 69 = .ok (.iload 5, 2) := by decide +kernel
theorem dX7_fitting_71 : decode cX7_fitting 71 = .ok (.ireturn, 1) := by decide +kernel
theorem dX7_pullByTurns_0 : decode cX7_pullByTurns 0 = .ok (.aload_n 0, 1) := by decide +kernel
theorem dX7_pullByTurns_1 : decode cX7_pullByTurns 1 = .ok (.getfield 12, 3) := by decide +kernel
theorem dX7_pullByTurns_4 : decode cX7_pullByTurns 4 = .ok (.aload_n 0, 1) := by decide +kernel
theorem dX7_pullByTurns_5 : decode cX7_pullByTurns 5 = .ok (.getfield 22, 3) := by decide +kernel
theorem dX7_pullByTurns_8 : decode cX7_pullByTurns 8 = .ok (.getfield 26, 3) := by decide +kernel
theorem dX7_pullByTurns_11 : decode cX7_pullByTurns 11 = .ok (.invokevirtual 31, 3) := by decide +kernel
theorem dX7_pullByTurns_14 : decode cX7_pullByTurns 14 = .ok (.aload_n 0, 1) := by decide +kernel
theorem dX7_pullByTurns_15 : decode cX7_pullByTurns 15 = .ok (.iload_n 1, 1) := by decide +kernel
theorem dX7_pullByTurns_16 : decode cX7_pullByTurns 16 = .ok (.bipush 10, 2) := by decide +kernel
theorem dX7_pullByTurns_18 : decode cX7_pullByTurns 18 = .ok (.idiv, 1) := by decide +kernel
theorem dX7_pullByTurns_19 : decode cX7_pullByTurns 19 = .ok (.putfield 121, 3) := by decide +kernel
theorem dX7_pullByTurns_22 : decode cX7_pullByTurns 22 = .ok (.aload_n 0, 1) := by decide +kernel
theorem dX7_pullByTurns_23 : decode cX7_pullByTurns 23 = .ok (.iload_n 1, 1) := by decide +kernel
theorem dX7_pullByTurns_24 : decode cX7_pullByTurns 24 = .ok (.bipush 10, 2) := by decide +kernel
theorem dX7_pullByTurns_26 : decode cX7_pullByTurns 26 = .ok (.irem, 1) := by decide +kernel
theorem dX7_pullByTurns_27 : decode cX7_pullByTurns 27 = .ok (.putfield 124, 3) := by decide +kernel
theorem dX7_pullByTurns_30 : decode cX7_pullByTurns 30 = .ok (.aload_n 0, 1) := by decide +kernel
theorem dX7_pullByTurns_31 : decode cX7_pullByTurns 31 = .ok (.iload_n 2, 1) := by decide +kernel
theorem dX7_pullByTurns_32 : decode cX7_pullByTurns 32 = .ok (.bipush 10, 2) := by decide +kernel
theorem dX7_pullByTurns_34 : decode cX7_pullByTurns 34 = .ok (.idiv, 1) := by decide +kernel
theorem dX7_pullByTurns_35 : decode cX7_pullByTurns 35 = .ok (.putfield 127, 3) := by decide +kernel
theorem dX7_pullByTurns_38 : decode cX7_pullByTurns 38 = .ok (.aload_n 0, 1) := by decide +kernel
theorem dX7_pullByTurns_39 : decode cX7_pullByTurns 39 = .ok (.iload_n 2, 1) := by decide +kernel
theorem dX7_pullByTurns_40 : decode cX7_pullByTurns 40 = .ok (.bipush 10, 2) := by decide +kernel
theorem dX7_pullByTurns_42 : decode cX7_pullByTurns 42 = .ok (.irem, 1) := by decide +kernel
theorem dX7_pullByTurns_43 : decode cX7_pullByTurns 43 = .ok (.putfield 130, 3) := by decide +kernel
theorem dX7_pullByTurns_46 : decode cX7_pullByTurns 46 = .ok (.aload_n 0, 1) := by decide +kernel
theorem dX7_pullByTurns_47 : decode cX7_pullByTurns 47 = .ok (.iconst 0, 1) := by decide +kernel
theorem dX7_pullByTurns_48 : decode cX7_pullByTurns 48 = .ok (.iload_n 3, 1) := by decide +kernel
theorem dX7_pullByTurns_49 : decode cX7_pullByTurns 49 = .ok (.invokevirtual 133, 3) := by decide +kernel
theorem dX7_pullByTurns_52 : decode cX7_pullByTurns 52 = .ok (.ireturn, 1) := by decide +kernel
theorem dX7_bestFrom_0 : decode cX7_bestFrom 0 = .ok (.iload_n 1, 1) := by decide +kernel
theorem dX7_bestFrom_1 : decode cX7_bestFrom 1 = .ok (.iload_n 2, 1) := by decide +kernel
theorem dX7_bestFrom_2 : decode cX7_bestFrom 2 = .ok (.if_icmp .lt 59, 3) := by decide +kernel
theorem dX7_bestFrom_5 : decode cX7_bestFrom 5 = .ok (.aload_n 0, 1) := by decide +kernel
theorem dX7_bestFrom_6 : decode cX7_bestFrom 6 = .ok (.getfield 22, 3) := by decide +kernel
theorem dX7_bestFrom_9 : decode cX7_bestFrom 9 = .ok (.getfield 100, 3) := by decide +kernel
theorem dX7_bestFrom_12 : decode cX7_bestFrom 12 = .ok (.aload_n 0, 1) := by decide +kernel
theorem dX7_bestFrom_13 : decode cX7_bestFrom 13 = .ok (.getfield 12, 3) := by decide +kernel
theorem dX7_bestFrom_16 : decode cX7_bestFrom 16 = .ok (.aload_n 0, 1) := by decide +kernel
theorem dX7_bestFrom_17 : decode cX7_bestFrom 17 = .ok (.getfield 22, 3) := by decide +kernel
theorem dX7_bestFrom_20 : decode cX7_bestFrom 20 = .ok (.getfield 136, 3) := by decide +kernel
theorem dX7_bestFrom_23 : decode cX7_bestFrom 23 = .ok (.aload_n 0, 1) := by decide +kernel
theorem dX7_bestFrom_24 : decode cX7_bestFrom 24 = .ok (.getfield 121, 3) := by decide +kernel
theorem dX7_bestFrom_27 : decode cX7_bestFrom 27 = .ok (.iaload, 1) := by decide +kernel
theorem dX7_bestFrom_28 : decode cX7_bestFrom 28 = .ok (.invokevirtual 104, 3) := by decide +kernel
theorem dX7_bestFrom_31 : decode cX7_bestFrom 31 = .ok (.istore_n 3, 1) := by decide +kernel
theorem dX7_bestFrom_32 : decode cX7_bestFrom 32 = .ok (.iload_n 3, 1) := by decide +kernel
theorem dX7_bestFrom_33 : decode cX7_bestFrom 33 = .ok (.aload_n 0, 1) := by decide +kernel
theorem dX7_bestFrom_34 : decode cX7_bestFrom 34 = .ok (.getfield 22, 3) := by decide +kernel
theorem dX7_bestFrom_37 : decode cX7_bestFrom 37 = .ok (.getfield 100, 3) := by decide +kernel
theorem dX7_bestFrom_40 : decode cX7_bestFrom 40 = .ok (.aload_n 0, 1) := by decide +kernel
theorem dX7_bestFrom_41 : decode cX7_bestFrom 41 = .ok (.getfield 12, 3) := by decide +kernel
theorem dX7_bestFrom_44 : decode cX7_bestFrom 44 = .ok (.aload_n 0, 1) := by decide +kernel
theorem dX7_bestFrom_45 : decode cX7_bestFrom 45 = .ok (.getfield 22, 3) := by decide +kernel
theorem dX7_bestFrom_48 : decode cX7_bestFrom 48 = .ok (.getfield 136, 3) := by decide +kernel
theorem dX7_bestFrom_51 : decode cX7_bestFrom 51 = .ok (.aload_n 0, 1) := by decide +kernel
theorem dX7_bestFrom_52 : decode cX7_bestFrom 52 = .ok (.getfield 124, 3) := by decide +kernel
theorem dX7_bestFrom_55 : decode cX7_bestFrom 55 = .ok (.iaload, 1) := by decide +kernel
theorem dX7_bestFrom_56 : decode cX7_bestFrom 56 = .ok (.invokevirtual 104, 3) := by decide +kernel
theorem dX7_bestFrom_59 : decode cX7_bestFrom 59 = .ok (.isub, 1) := by decide +kernel
theorem dX7_bestFrom_60 : decode cX7_bestFrom 60 = .ok (.ireturn, 1) := by decide +kernel
theorem dX7_bestFrom_61 : decode cX7_bestFrom 61 = .ok (.iload_n 1, 1) := by decide +kernel
theorem dX7_bestFrom_62 : decode cX7_bestFrom 62 = .ok (.iconst 2, 1) := by decide +kernel
theorem dX7_bestFrom_63 : decode cX7_bestFrom 63 = .ok (.irem, 1) := by decide +kernel
theorem dX7_bestFrom_64 : decode cX7_bestFrom 64 = .ok (.ifCond .ne 7, 3) := by decide +kernel
theorem dX7_bestFrom_67 : decode cX7_bestFrom 67 = .ok (.iconst 1, 1) := by decide +kernel
theorem dX7_bestFrom_68 : decode cX7_bestFrom 68 = .ok (.goto 4, 3) := by decide +kernel
theorem dX7_bestFrom_71 : decode cX7_bestFrom 71 = .ok (.iconst 0, 1) := by decide +kernel
theorem dX7_bestFrom_72 : decode cX7_bestFrom 72 = .ok (.istore_n 3, 1) := by decide +kernel
theorem dX7_bestFrom_73 : decode cX7_bestFrom 73 = .ok (.iload_n 3, 1) := by decide +kernel
theorem dX7_bestFrom_74 : decode cX7_bestFrom 74 = .ok (.ifCond .eq 10, 3) := by decide +kernel
theorem dX7_bestFrom_77 : decode cX7_bestFrom 77 = .ok (.aload_n 0, 1) := by decide +kernel
theorem dX7_bestFrom_78 : decode cX7_bestFrom 78 = .ok (.getfield 127, 3) := by decide +kernel
theorem dX7_bestFrom_81 : decode cX7_bestFrom 81 = .ok (.goto 7, 3) := by decide +kernel
theorem dX7_bestFrom_84 : decode cX7_bestFrom 84 = .ok (.aload_n 0, 1) := by decide +kernel
theorem dX7_bestFrom_85 : decode cX7_bestFrom 85 = .ok (.getfield 130, 3) := by decide +kernel
theorem dX7_bestFrom_88 : decode cX7_bestFrom 88 = .ok (.istore 4, 2) := by decide +kernel
theorem dX7_bestFrom_90 : decode cX7_bestFrom 90 = .ok (.aload_n 0, 1) := by decide +kernel
theorem dX7_bestFrom_91 : decode cX7_bestFrom 91 = .ok (.iload_n 1, 1) := by decide +kernel
theorem dX7_bestFrom_92 : decode cX7_bestFrom 92 = .ok (.iconst 1, 1) := by decide +kernel
theorem dX7_bestFrom_93 : decode cX7_bestFrom 93 = .ok (.iadd, 1) := by decide +kernel
theorem dX7_bestFrom_94 : decode cX7_bestFrom 94 = .ok (.iload_n 2, 1) := by decide +kernel
theorem dX7_bestFrom_95 : decode cX7_bestFrom 95 = .ok (.invokevirtual 133, 3) := by decide +kernel
theorem dX7_bestFrom_98 : decode cX7_bestFrom 98 = .ok (.istore 5, 2) := by decide +kernel
theorem dX7_bestFrom_100 : decode cX7_bestFrom 100 = .ok (.iconst 2, 1) := by decide +kernel
theorem dX7_bestFrom_101 : decode cX7_bestFrom 101 = .ok (.istore 6, 2) := by decide +kernel
theorem dX7_bestFrom_103 : decode cX7_bestFrom 103 = .ok (.iconst 0, 1) := by decide +kernel
theorem dX7_bestFrom_104 : decode cX7_bestFrom 104 = .ok (.istore 7, 2) := by decide +kernel
theorem dX7_bestFrom_106 : decode cX7_bestFrom 106 = .ok (.iload 7, 2) := by decide +kernel
theorem dX7_bestFrom_108 : decode cX7_bestFrom 108 = .ok (.iconst 2, 1) := by decide +kernel
theorem dX7_bestFrom_109 : decode cX7_bestFrom 109 = .ok (.if_icmp .ge 72, 3) := by decide +kernel
theorem dX7_bestFrom_112 : decode cX7_bestFrom 112 = .ok (.aload_n 0, 1) := by decide +kernel
theorem dX7_bestFrom_113 : decode cX7_bestFrom 113 = .ok (.getfield 12, 3) := by decide +kernel
theorem dX7_bestFrom_116 : decode cX7_bestFrom 116 = .ok (.iload 4, 2) := by decide +kernel
theorem dX7_bestFrom_118 : decode cX7_bestFrom 118 = .ok (.iload 7, 2) := by decide +kernel
theorem dX7_bestFrom_120 : decode cX7_bestFrom 120 = .ok (.invokevirtual 51, 3) := by decide +kernel
theorem dX7_bestFrom_123 : decode cX7_bestFrom 123 = .ok (.aload_n 0, 1) := by decide +kernel
theorem dX7_bestFrom_124 : decode cX7_bestFrom 124 = .ok (.iload_n 1, 1) := by decide +kernel
theorem dX7_bestFrom_125 : decode cX7_bestFrom 125 = .ok (.iconst 1, 1) := by decide +kernel
theorem dX7_bestFrom_126 : decode cX7_bestFrom 126 = .ok (.iadd, 1) := by decide +kernel
theorem dX7_bestFrom_127 : decode cX7_bestFrom 127 = .ok (.iload_n 2, 1) := by decide +kernel
theorem dX7_bestFrom_128 : decode cX7_bestFrom 128 = .ok (.invokevirtual 133, 3) := by decide +kernel
theorem dX7_bestFrom_131 : decode cX7_bestFrom 131 = .ok (.istore 8, 2) := by decide +kernel
theorem dX7_bestFrom_133 : decode cX7_bestFrom 133 = .ok (.aload_n 0, 1) := by decide +kernel
theorem dX7_bestFrom_134 : decode cX7_bestFrom 134 = .ok (.getfield 12, 3) := by decide +kernel
theorem dX7_bestFrom_137 : decode cX7_bestFrom 137 = .ok (.iload 4, 2) := by decide +kernel
theorem dX7_bestFrom_139 : decode cX7_bestFrom 139 = .ok (.iconst 1, 1) := by decide +kernel
theorem dX7_bestFrom_140 : decode cX7_bestFrom 140 = .ok (.iload 7, 2) := by decide +kernel
theorem dX7_bestFrom_142 : decode cX7_bestFrom 142 = .ok (.isub, 1) := by decide +kernel
theorem dX7_bestFrom_143 : decode cX7_bestFrom 143 = .ok (.invokevirtual 51, 3) := by decide +kernel
theorem dX7_bestFrom_146 : decode cX7_bestFrom 146 = .ok (.iload_n 3, 1) := by decide +kernel
theorem dX7_bestFrom_147 : decode cX7_bestFrom 147 = .ok (.ifCond .eq 13, 3) := by decide +kernel
theorem dX7_bestFrom_150 : decode cX7_bestFrom 150 = .ok (.iload 8, 2) := by decide +kernel
theorem dX7_bestFrom_152 : decode cX7_bestFrom 152 = .ok (.iload 5, 2) := by decide +kernel
theorem dX7_bestFrom_154 : decode cX7_bestFrom 154 = .ok (.if_icmp .le 21, 3) := by decide +kernel
theorem dX7_bestFrom_157 : decode cX7_bestFrom 157 = .ok (.goto 10, 3) := by decide +kernel
theorem dX7_bestFrom_160 : decode cX7_bestFrom 160 = .ok (.iload 8, 2) := by decide +kernel
theorem dX7_bestFrom_162 : decode cX7_bestFrom 162 = .ok (.iload 5, 2) := by decide +kernel
theorem dX7_bestFrom_164 : decode cX7_bestFrom 164 = .ok (.if_icmp .ge 11, 3) := by decide +kernel
theorem dX7_bestFrom_167 : decode cX7_bestFrom 167 = .ok (.iload 8, 2) := by decide +kernel
theorem dX7_bestFrom_169 : decode cX7_bestFrom 169 = .ok (.istore 5, 2) := by decide +kernel
theorem dX7_bestFrom_171 : decode cX7_bestFrom 171 = .ok (.iload 7, 2) := by decide +kernel
theorem dX7_bestFrom_173 : decode cX7_bestFrom 173 = .ok (.istore 6, 2) := by decide +kernel
theorem dX7_bestFrom_175 : decode cX7_bestFrom 175 = .ok (.iinc 7 1, 3) := by decide +kernel
theorem dX7_bestFrom_178 : decode cX7_bestFrom 178 = .ok (.goto (-72), 3) := by decide +kernel
theorem dX7_bestFrom_181 : decode cX7_bestFrom 181 = .ok (.iload_n 1, 1) := by decide +kernel
theorem dX7_bestFrom_182 : decode cX7_bestFrom 182 = .ok (.ifCond .ne 9, 3) := by decide +kernel
theorem dX7_bestFrom_185 : decode cX7_bestFrom 185 = .ok (.aload_n 0, 1) := by decide +kernel
theorem dX7_bestFrom_186 : decode cX7_bestFrom 186 = .ok (.iload 6, 2) := by decide +kernel
theorem dX7_bestFrom_188 : decode cX7_bestFrom 188 = .ok (.putfield 139, 3) := by decide +kernel
theorem dX7_bestFrom_191 : decode cX7_bestFrom 191 = .ok (.iload 5, 2) := by decide +kernel
theorem dX7_bestFrom_193 : decode cX7_bestFrom 193 = .ok (.ireturn, 1) := by decide +kernel
theorem dX7_coldByDraws_0 : decode cX7_coldByDraws 0 = .ok (.iload_n 1, 1) := by decide +kernel
theorem dX7_coldByDraws_1 : decode cX7_coldByDraws 1 = .ok (.istore 5, 2) := by decide +kernel
theorem dX7_coldByDraws_3 : decode cX7_coldByDraws 3 = .ok (.iconst 0, 1) := by decide +kernel
theorem dX7_coldByDraws_4 : decode cX7_coldByDraws 4 = .ok (.istore 6, 2) := by decide +kernel
theorem dX7_coldByDraws_6 : decode cX7_coldByDraws 6 = .ok (.iconst 0, 1) := by decide +kernel
theorem dX7_coldByDraws_7 : decode cX7_coldByDraws 7 = .ok (.istore 7, 2) := by decide +kernel
theorem dX7_coldByDraws_9 : decode cX7_coldByDraws 9 = .ok (.iload 7, 2) := by decide +kernel
theorem dX7_coldByDraws_11 : decode cX7_coldByDraws 11 = .ok (.iload_n 2, 1) := by decide +kernel
theorem dX7_coldByDraws_12 : decode cX7_coldByDraws 12 = .ok (.if_icmp .ge 117, 3) := by decide +kernel
theorem dX7_coldByDraws_15 : decode cX7_coldByDraws 15 = .ok (.aload_n 0, 1) := by decide +kernel
theorem dX7_coldByDraws_16 : decode cX7_coldByDraws 16 = .ok (.getfield 12, 3) := by decide +kernel
theorem dX7_coldByDraws_19 : decode cX7_coldByDraws 19 = .ok (.aload_n 0, 1) := by decide +kernel
theorem dX7_coldByDraws_20 : decode cX7_coldByDraws 20 = .ok (.getfield 22, 3) := by decide +kernel
theorem dX7_coldByDraws_23 : decode cX7_coldByDraws 23 = .ok (.getfield 26, 3) := by decide +kernel
theorem dX7_coldByDraws_26 : decode cX7_coldByDraws 26 = .ok (.invokevirtual 31, 3) := by decide +kernel
theorem dX7_coldByDraws_29 : decode cX7_coldByDraws 29 = .ok (.iconst 0, 1) := by decide +kernel
theorem dX7_coldByDraws_30 : decode cX7_coldByDraws 30 = .ok (.istore 8, 2) := by decide +kernel
theorem dX7_coldByDraws_32 : decode cX7_coldByDraws 32 = .ok (.iload 8, 2) := by decide +kernel
theorem dX7_coldByDraws_34 : decode cX7_coldByDraws 34 = .ok (.iload_n 3, 1) := by decide +kernel
theorem dX7_coldByDraws_35 : decode cX7_coldByDraws 35 = .ok (.if_icmp .ge 88, 3) := by decide +kernel
theorem dX7_coldByDraws_38 : decode cX7_coldByDraws 38 = .ok (.iload 5, 2) := by decide +kernel
theorem dX7_coldByDraws_40 : decode cX7_coldByDraws 40 = .ok (.ldc 142, 2) := by decide +kernel
theorem dX7_coldByDraws_42 : decode cX7_coldByDraws 42 = .ok (.imul, 1) := by decide +kernel
theorem dX7_coldByDraws_43 : decode cX7_coldByDraws 43 = .ok (.sipush 12345, 3) := by decide +kernel
theorem dX7_coldByDraws_46 : decode cX7_coldByDraws 46 = .ok (.iadd, 1) := by decide +kernel
theorem dX7_coldByDraws_47 : decode cX7_coldByDraws 47 = .ok (.istore 5, 2) := by decide +kernel
theorem dX7_coldByDraws_49 : decode cX7_coldByDraws 49 = .ok (.aload_n 0, 1) := by decide +kernel
theorem dX7_coldByDraws_50 : decode cX7_coldByDraws 50 = .ok (.iload 5, 2) := by decide +kernel
theorem dX7_coldByDraws_52 : decode cX7_coldByDraws 52 = .ok (.invokevirtual 143, 3) := by decide +kernel
theorem dX7_coldByDraws_55 : decode cX7_coldByDraws 55 = .ok (.iload 6, 2) := by decide +kernel
theorem dX7_coldByDraws_57 : decode cX7_coldByDraws 57 = .ok (.iload 4, 2) := by decide +kernel
theorem dX7_coldByDraws_59 : decode cX7_coldByDraws 59 = .ok (.ifCond .ge 20, 3) := by decide +kernel
theorem dX7_coldByDraws_62 : decode cX7_coldByDraws 62 = .ok (.aload_n 0, 1) := by decide +kernel
theorem dX7_coldByDraws_63 : decode cX7_coldByDraws 63 = .ok (.getfield 22, 3) := by decide +kernel
theorem dX7_coldByDraws_66 : decode cX7_coldByDraws 66 = .ok (.aload_n 0, 1) := by decide +kernel
theorem dX7_coldByDraws_67 : decode cX7_coldByDraws 67 = .ok (.getfield 12, 3) := by decide +kernel
theorem dX7_coldByDraws_70 : decode cX7_coldByDraws 70 = .ok (.invokevirtual 72, 3) := by decide +kernel
theorem dX7_coldByDraws_73 : decode cX7_coldByDraws 73 = .ok (.invokestatic 76, 3) := by decide +kernel
theorem dX7_coldByDraws_76 : decode cX7_coldByDraws 76 = .ok (.goto 24, 3) := by decide +kernel
theorem dX7_coldByDraws_79 : decode cX7_coldByDraws 79 = .ok (.aload_n 0, 1) := by decide +kernel
theorem dX7_coldByDraws_80 : decode cX7_coldByDraws 80 = .ok (.getfield 22, 3) := by decide +kernel
theorem dX7_coldByDraws_83 : decode cX7_coldByDraws 83 = .ok (.aload_n 0, 1) := by decide +kernel
theorem dX7_coldByDraws_84 : decode cX7_coldByDraws 84 = .ok (.getfield 12, 3) := by decide +kernel
theorem dX7_coldByDraws_87 : decode cX7_coldByDraws 87 = .ok (.iload 4, 2) := by decide +kernel
theorem dX7_coldByDraws_89 : decode cX7_coldByDraws 89 = .ok (.invokevirtual 43, 3) := by decide +kernel
theorem dX7_coldByDraws_92 : decode cX7_coldByDraws 92 = .ok (.ifCond .eq 7, 3) := by decide +kernel
theorem dX7_coldByDraws_95 : decode cX7_coldByDraws 95 = .ok (.iconst 1, 1) := by decide +kernel
theorem dX7_coldByDraws_96 : decode cX7_coldByDraws 96 = .ok (.goto 4, 3) := by decide +kernel
theorem dX7_coldByDraws_99 : decode cX7_coldByDraws 99 = .ok (.iconst 0, 1) := by decide +kernel
theorem dX7_coldByDraws_100 : decode cX7_coldByDraws 100 = .ok (.iadd, 1) := by decide +kernel
theorem dX7_coldByDraws_101 : decode cX7_coldByDraws 101 = .ok (.istore 6, 2) := by decide +kernel
theorem dX7_coldByDraws_103 : decode cX7_coldByDraws 103 = .ok (.aload_n 0, 1) := by decide +kernel
theorem dX7_coldByDraws_104 : decode cX7_coldByDraws 104 = .ok (.getfield 12, 3) := by decide +kernel
theorem dX7_coldByDraws_107 : decode cX7_coldByDraws 107 = .ok (.aload_n 0, 1) := by decide +kernel
theorem dX7_coldByDraws_108 : decode cX7_coldByDraws 108 = .ok (.getfield 22, 3) := by decide +kernel
theorem dX7_coldByDraws_111 : decode cX7_coldByDraws 111 = .ok (.getfield 35, 3) := by decide +kernel
theorem dX7_coldByDraws_114 : decode cX7_coldByDraws 114 = .ok (.invokevirtual 39, 3) := by decide +kernel
theorem dX7_coldByDraws_117 : decode cX7_coldByDraws 117 = .ok (.iinc 8 1, 3) := by decide +kernel
theorem dX7_coldByDraws_120 : decode cX7_coldByDraws 120 = .ok (.goto (-88), 3) := by decide +kernel
theorem dX7_coldByDraws_123 : decode cX7_coldByDraws 123 = .ok (.iinc 7 1, 3) := by decide +kernel
theorem dX7_coldByDraws_126 : decode cX7_coldByDraws 126 = .ok (.goto (-117), 3) := by decide +kernel
theorem dX7_coldByDraws_129 : decode cX7_coldByDraws 129 = .ok (.iload 6, 2) := by decide +kernel
theorem dX7_coldByDraws_131 : decode cX7_coldByDraws 131 = .ok (.ireturn, 1) := by decide +kernel
theorem dX7_draw_0 : decode cX7_draw 0 = .ok (.iload_n 1, 1) := by decide +kernel
theorem dX7_draw_1 : decode cX7_draw 1 = .ok (.bipush 8, 2) := by decide +kernel
theorem dX7_draw_3 : decode cX7_draw 3 = .ok (.iushr, 1) := by decide +kernel
theorem dX7_draw_4 : decode cX7_draw 4 = .ok (.iconst 3, 1) := by decide +kernel
theorem dX7_draw_5 : decode cX7_draw 5 = .ok (.irem, 1) := by decide +kernel
theorem dX7_draw_6 : decode cX7_draw 6 = .ok (.istore_n 2, 1) := by decide +kernel
theorem dX7_draw_7 : decode cX7_draw 7 = .ok (.iload_n 2, 1) := by decide +kernel
theorem dX7_draw_8 : decode cX7_draw 8 = .ok (.ifCond .ne 20, 3) := by decide +kernel
theorem dX7_draw_11 : decode cX7_draw 11 = .ok (.aload_n 0, 1) := by decide +kernel
theorem dX7_draw_12 : decode cX7_draw 12 = .ok (.getfield 12, 3) := by decide +kernel
theorem dX7_draw_15 : decode cX7_draw 15 = .ok (.iload_n 1, 1) := by decide +kernel
theorem dX7_draw_16 : decode cX7_draw 16 = .ok (.bipush 16, 2) := by decide +kernel
theorem dX7_draw_18 : decode cX7_draw 18 = .ok (.iushr, 1) := by decide +kernel
theorem dX7_draw_19 : decode cX7_draw 19 = .ok (.iconst 5, 1) := by decide +kernel
theorem dX7_draw_20 : decode cX7_draw 20 = .ok (.irem, 1) := by decide +kernel
theorem dX7_draw_21 : decode cX7_draw 21 = .ok (.iconst 0, 1) := by decide +kernel
theorem dX7_draw_22 : decode cX7_draw 22 = .ok (.invokevirtual 51, 3) := by decide +kernel
theorem dX7_draw_25 : decode cX7_draw 25 = .ok (.goto 40, 3) := by decide +kernel
theorem dX7_draw_28 : decode cX7_draw 28 = .ok (.iload_n 2, 1) := by decide +kernel
theorem dX7_draw_29 : decode cX7_draw 29 = .ok (.iconst 1, 1) := by decide +kernel
theorem dX7_draw_30 : decode cX7_draw 30 = .ok (.if_icmp .ne 35, 3) := by decide +kernel
theorem dX7_draw_33 : decode cX7_draw 33 = .ok (.iload_n 1, 1) := by decide +kernel
theorem dX7_draw_34 : decode cX7_draw 34 = .ok (.bipush 16, 2) := by decide +kernel
theorem dX7_draw_36 : decode cX7_draw 36 = .ok (.iushr, 1) := by decide +kernel
theorem dX7_draw_37 : decode cX7_draw 37 = .ok (.bipush 30, 2) := by decide +kernel
theorem dX7_draw_39 : decode cX7_draw 39 = .ok (.irem, 1) := by decide +kernel
theorem dX7_draw_40 : decode cX7_draw 40 = .ok (.istore_n 3, 1) := by decide +kernel
theorem dX7_draw_41 : decode cX7_draw 41 = .ok (.aload_n 0, 1) := by decide +kernel
theorem dX7_draw_42 : decode cX7_draw 42 = .ok (.getfield 12, 3) := by decide +kernel
theorem dX7_draw_45 : decode cX7_draw 45 = .ok (.getfield 146, 3) := by decide +kernel
theorem dX7_draw_48 : decode cX7_draw 48 = .ok (.iload_n 3, 1) := by decide +kernel
theorem dX7_draw_49 : decode cX7_draw 49 = .ok (.iconst 0, 1) := by decide +kernel
theorem dX7_draw_50 : decode cX7_draw 50 = .ok (.aload_n 0, 1) := by decide +kernel
theorem dX7_draw_51 : decode cX7_draw 51 = .ok (.getfield 12, 3) := by decide +kernel
theorem dX7_draw_54 : decode cX7_draw 54 = .ok (.getfield 146, 3) := by decide +kernel
theorem dX7_draw_57 : decode cX7_draw 57 = .ok (.iload_n 3, 1) := by decide +kernel
theorem dX7_draw_58 : decode cX7_draw 58 = .ok (.iaload, 1) := by decide +kernel
theorem dX7_draw_59 : decode cX7_draw 59 = .ok (.iconst 1, 1) := by decide +kernel
theorem dX7_draw_60 : decode cX7_draw 60 = .ok (.isub, 1) := by decide +kernel
theorem dX7_draw_61 : decode cX7_draw 61 = .ok (.invokestatic 149, 3) := by decide +kernel
theorem dX7_draw_64 : decode cX7_draw 64 = .ok (.iastore, 1) := by decide +kernel
theorem dX7_draw_65 : decode cX7_draw 65 = .ok (.return_, 1) := by decide +kernel
theorem dX8_init_0 : decode cX8_init 0 = .ok (.aload_n 0, 1) := by decide +kernel
theorem dX8_init_1 : decode cX8_init 1 = .ok (.invokespecial 3, 3) := by decide +kernel
theorem dX8_init_4 : decode cX8_init 4 = .ok (.aload_n 0, 1) := by decide +kernel
theorem dX8_init_5 : decode cX8_init 5 = .ok (.bipush 30, 2) := by decide +kernel
theorem dX8_init_7 : decode cX8_init 7 = .ok (.newarray .int, 2) := by decide +kernel
theorem dX8_init_9 : decode cX8_init 9 = .ok (.putfield 9, 3) := by decide +kernel
theorem dX8_init_12 : decode cX8_init 12 = .ok (.aload_n 0, 1) := by decide +kernel
theorem dX8_init_13 : decode cX8_init 13 = .ok (.bipush 30, 2) := by decide +kernel
theorem dX8_init_15 : decode cX8_init 15 = .ok (.newarray .int, 2) := by decide +kernel
theorem dX8_init_17 : decode cX8_init 17 = .ok (.putfield 15, 3) := by decide +kernel
theorem dX8_init_20 : decode cX8_init 20 = .ok (.aload_n 0, 1) := by decide +kernel
theorem dX8_init_21 : decode cX8_init 21 = .ok (.bipush 30, 2) := by decide +kernel
theorem dX8_init_23 : decode cX8_init 23 = .ok (.newarray .int, 2) := by decide +kernel
theorem dX8_init_25 : decode cX8_init 25 = .ok (.putfield 18, 3) := by decide +kernel
theorem dX8_init_28 : decode cX8_init 28 = .ok (.aload_n 0, 1) := by decide +kernel
theorem dX8_init_29 : decode cX8_init 29 = .ok (.bipush 30, 2) := by decide +kernel
theorem dX8_init_31 : decode cX8_init 31 = .ok (.newarray .int, 2) := by decide +kernel
theorem dX8_init_33 : decode cX8_init 33 = .ok (.putfield 21, 3) := by decide +kernel
theorem dX8_init_36 : decode cX8_init 36 = .ok (.return_, 1) := by decide +kernel
theorem dX8_findWay_0 : decode cX8_findWay 0 = .ok (.aload_n 0, 1) := by decide +kernel
theorem dX8_findWay_1 : decode cX8_findWay 1 = .ok (.getfield 9, 3) := by decide +kernel
theorem dX8_findWay_4 : decode cX8_findWay 4 = .ok (.iload_n 1, 1) := by decide +kernel
theorem dX8_findWay_5 : decode cX8_findWay 5 = .ok (.iaload, 1) := by decide +kernel
theorem dX8_findWay_6 : decode cX8_findWay 6 = .ok (.aload_n 0, 1) := by decide +kernel
theorem dX8_findWay_7 : decode cX8_findWay 7 = .ok (.getfield 9, 3) := by decide +kernel
theorem dX8_findWay_10 : decode cX8_findWay 10 = .ok (.iload_n 2, 1) := by decide +kernel
theorem dX8_findWay_11 : decode cX8_findWay 11 = .ok (.iaload, 1) := by decide +kernel
theorem dX8_findWay_12 : decode cX8_findWay 12 = .ok (.invokestatic 24, 3) := by decide +kernel
theorem dX8_findWay_15 : decode cX8_findWay 15 = .ok (.istore_n 3, 1) := by decide +kernel
theorem dX8_findWay_16 : decode cX8_findWay 16 = .ok (.iload_n 3, 1) := by decide +kernel
theorem dX8_findWay_17 : decode cX8_findWay 17 = .ok (.ifCond .lt 83, 3) := by decide +kernel
theorem dX8_findWay_20 : decode cX8_findWay 20 = .ok (.aload_n 0, 1) := by decide +kernel
theorem dX8_findWay_21 : decode cX8_findWay 21 = .ok (.invokevirtual 30, 3) := by decide +kernel
theorem dX8_findWay_24 : decode cX8_findWay 24 = .ok (.iconst 0, 1) := by decide +kernel
theorem dX8_findWay_25 : decode cX8_findWay 25 = .ok (.istore 4, 2) := by decide +kernel
theorem dX8_findWay_27 : decode cX8_findWay 27 = .ok (.iload 4, 2) := by decide +kernel
theorem dX8_findWay_29 : decode cX8_findWay 29 = .ok (.bipush 30, 2) := by decide +kernel
theorem dX8_findWay_31 : decode cX8_findWay 31 = .ok (.if_icmp .ge 32, 3) := by decide +kernel
theorem dX8_findWay_34 : decode cX8_findWay 34 = .ok (.aload_n 0, 1) := by decide +kernel
theorem dX8_findWay_35 : decode cX8_findWay 35 = .ok (.getfield 15, 3) := by decide +kernel
theorem dX8_findWay_38 : decode cX8_findWay 38 = .ok (.iload 4, 2) := by decide +kernel
theorem dX8_findWay_40 : decode cX8_findWay 40 = .ok (.aload_n 0, 1) := by decide +kernel
theorem dX8_findWay_41 : decode cX8_findWay 41 = .ok (.getfield 9, 3) := by decide +kernel
theorem dX8_findWay_44 : decode cX8_findWay 44 = .ok (.iload 4, 2) := by decide +kernel
theorem dX8_findWay_46 : decode cX8_findWay 46 = .ok (.iaload, 1) := by decide +kernel
theorem dX8_findWay_47 : decode cX8_findWay 47 = .ok (.iload_n 3, 1) := by decide +kernel
theorem dX8_findWay_48 : decode cX8_findWay 48 = .ok (.if_icmp .lt 7, 3) := by decide +kernel
theorem dX8_findWay_51 : decode cX8_findWay 51 = .ok (.iconst 1, 1) := by decide +kernel
theorem dX8_findWay_52 : decode cX8_findWay 52 = .ok (.goto 4, 3) := by decide +kernel
theorem dX8_findWay_55 : decode cX8_findWay 55 = .ok (.iconst 0, 1) := by decide +kernel
theorem dX8_findWay_56 : decode cX8_findWay 56 = .ok (.iastore, 1) := by decide +kernel
theorem dX8_findWay_57 : decode cX8_findWay 57 = .ok (.iinc 4 1, 3) := by decide +kernel
theorem dX8_findWay_60 : decode cX8_findWay 60 = .ok (.goto (-33), 3) := by decide +kernel
theorem dX8_findWay_63 : decode cX8_findWay 63 = .ok (.aload_n 0, 1) := by decide +kernel
theorem dX8_findWay_64 : decode cX8_findWay 64 = .ok (.iload_n 1, 1) := by decide +kernel
theorem dX8_findWay_65 : decode cX8_findWay 65 = .ok (.invokevirtual 33, 3) := by decide +kernel
theorem dX8_findWay_68 : decode cX8_findWay 68 = .ok (.pop, 1) := by decide +kernel
theorem dX8_findWay_69 : decode cX8_findWay 69 = .ok (.aload_n 0, 1) := by decide +kernel
theorem dX8_findWay_70 : decode cX8_findWay 70 = .ok (.getfield 18, 3) := by decide +kernel
theorem dX8_findWay_73 : decode cX8_findWay 73 = .ok (.iload_n 2, 1) := by decide +kernel
theorem dX8_findWay_74 : decode cX8_findWay 74 = .ok (.iaload, 1) := by decide +kernel
theorem dX8_findWay_75 : decode cX8_findWay 75 = .ok (.ifCond .lt 19, 3) := by decide +kernel
theorem dX8_findWay_78 : decode cX8_findWay 78 = .ok (.aload_n 0, 1) := by decide +kernel
theorem dX8_findWay_79 : decode cX8_findWay 79 = .ok (.iload_n 3, 1) := by decide +kernel
theorem dX8_findWay_80 : decode cX8_findWay 80 = .ok (.putfield 37, 3) := by decide +kernel
theorem dX8_findWay_83 : decode cX8_findWay 83 = .ok (.aload_n 0, 1) := by decide +kernel
theorem dX8_findWay_84 : decode cX8_findWay 84 = .ok (.aload_n 0, 1) := by decide +kernel
theorem dX8_findWay_85 : decode cX8_findWay 85 = .ok (.getfield 18, 3) := by decide +kernel
theorem dX8_findWay_88 : decode cX8_findWay 88 = .ok (.iload_n 2, 1) := by decide +kernel
theorem dX8_findWay_89 : decode cX8_findWay 89 = .ok (.iaload, 1) := by decide +kernel
theorem dX8_findWay_90 : decode cX8_findWay 90 = .ok (.putfield 41, 3) := by decide +kernel
theorem dX8_findWay_93 : decode cX8_findWay 93 = .ok (.return_, 1) := by decide +kernel
theorem dX8_findWay_94 : decode cX8_findWay 94 = .ok (.iinc 3 (-1), 3) := by decide +kernel
theorem dX8_findWay_97 : decode cX8_findWay 97 = .ok (.goto (-81), 3) := by decide +kernel
theorem dX8_findWay_100 : decode cX8_findWay 100 = .ok (.return_, 1) := by decide +kernel
theorem dX8_findPatches_0 : decode cX8_findPatches 0 = .ok (.aload_n 0, 1) := by decide +kernel
theorem dX8_findPatches_1 : decode cX8_findPatches 1 = .ok (.iconst 0, 1) := by decide +kernel
theorem dX8_findPatches_2 : decode cX8_findPatches 2 = .ok (.putfield 44, 3) := by decide +kernel
theorem dX8_findPatches_5 : decode cX8_findPatches 5 = .ok (.aload_n 0, 1) := by decide +kernel
theorem dX8_findPatches_6 : decode cX8_findPatches 6 = .ok (.iconst 0, 1) := by decide +kernel
theorem dX8_findPatches_7 : decode cX8_findPatches 7 = .ok (.putfield 47, 3) := by decide +kernel
theorem dX8_findPatches_10 : decode cX8_findPatches 10 = .ok (.aload_n 0, 1) := by decide +kernel
theorem dX8_findPatches_11 : decode cX8_findPatches 11 = .ok (.invokevirtual 30, 3) := by decide +kernel
theorem dX8_findPatches_14 : decode cX8_findPatches 14 = .ok (.iconst 0, 1) := by decide +kernel
theorem dX8_findPatches_15 : decode cX8_findPatches 15 = .ok (.istore_n 2, 1) := by decide +kernel
theorem dX8_findPatches_16 : decode cX8_findPatches 16 = .ok (.iload_n 2, 1) := by decide +kernel
theorem dX8_findPatches_17 : decode cX8_findPatches 17 = .ok (.bipush 30, 2) := by decide +kernel
theorem dX8_findPatches_19 : decode cX8_findPatches 19 = .ok (.if_icmp .ge 36, 3) := by decide +kernel
theorem dX8_findPatches_22 : decode cX8_findPatches 22 = .ok (.aload_n 0, 1) := by decide +kernel
theorem dX8_findPatches_23 : decode cX8_findPatches 23 = .ok (.getfield 15, 3) := by decide +kernel
theorem dX8_findPatches_26 : decode cX8_findPatches 26 = .ok (.iload_n 2, 1) := by decide +kernel
theorem dX8_findPatches_27 : decode cX8_findPatches 27 = .ok (.aload_n 1, 1) := by decide +kernel
theorem dX8_findPatches_28 : decode cX8_findPatches 28 = .ok (.getfield 50, 3) := by decide +kernel
theorem dX8_findPatches_31 : decode cX8_findPatches 31 = .ok (.iload_n 2, 1) := by decide +kernel
theorem dX8_findPatches_32 : decode cX8_findPatches 32 = .ok (.iaload, 1) := by decide +kernel
theorem dX8_findPatches_33 : decode cX8_findPatches 33 = .ok (.ifCond .le 14, 3) := by decide +kernel
theorem dX8_findPatches_36 : decode cX8_findPatches 36 = .ok (.aload_n 1, 1) := by decide +kernel
theorem dX8_findPatches_37 : decode cX8_findPatches 37 = .ok (.getfield 55, 3) := by decide +kernel
theorem dX8_findPatches_40 : decode cX8_findPatches 40 = .ok (.iload_n 2, 1) := by decide +kernel
theorem dX8_findPatches_41 : decode cX8_findPatches 41 = .ok (.iaload, 1) := by decide +kernel
theorem dX8_findPatches_42 : decode cX8_findPatches 42 = .ok (.iconst 1, 1) := by decide +kernel
theorem dX8_findPatches_43 : decode cX8_findPatches 43 = .ok (.iadd, 1) := by decide +kernel
theorem dX8_findPatches_44 : decode cX8_findPatches 44 = .ok (.goto 4, 3) := by decide +kernel
theorem dX8_findPatches_47 : decode cX8_findPatches 47 = .ok (.iconst 0, 1) := by decide +kernel
theorem dX8_findPatches_48 : decode cX8_findPatches 48 = .ok (.iastore, 1) := by decide +kernel
theorem dX8_findPatches_49 : decode cX8_findPatches 49 = .ok (.iinc 2 1, 3) := by decide +kernel
theorem dX8_findPatches_52 : decode cX8_findPatches 52 = .ok (.goto (-36), 3) := by decide +kernel
theorem dX8_findPatches_55 : decode cX8_findPatches 55 = .ok (.iconst 0, 1) := by decide +kernel
theorem dX8_findPatches_56 : decode cX8_findPatches 56 = .ok (.istore_n 2, 1) := by decide +kernel
theorem dX8_findPatches_57 : decode cX8_findPatches 57 = .ok (.iload_n 2, 1) := by decide +kernel
theorem dX8_findPatches_58 : decode cX8_findPatches 58 = .ok (.bipush 30, 2) := by decide +kernel
theorem dX8_findPatches_60 : decode cX8_findPatches 60 = .ok (.if_icmp .ge 53, 3) := by decide +kernel
theorem dX8_findPatches_63 : decode cX8_findPatches 63 = .ok (.aload_n 0, 1) := by decide +kernel
theorem dX8_findPatches_64 : decode cX8_findPatches 64 = .ok (.getfield 15, 3) := by decide +kernel
theorem dX8_findPatches_67 : decode cX8_findPatches 67 = .ok (.iload_n 2, 1) := by decide +kernel
theorem dX8_findPatches_68 : decode cX8_findPatches 68 = .ok (.iaload, 1) := by decide +kernel
theorem dX8_findPatches_69 : decode cX8_findPatches 69 = .ok (.ifCond .le 38, 3) := by decide +kernel
theorem dX8_findPatches_72 : decode cX8_findPatches 72 = .ok (.aload_n 0, 1) := by decide +kernel
theorem dX8_findPatches_73 : decode cX8_findPatches 73 = .ok (.getfield 18, 3) := by decide +kernel
theorem dX8_findPatches_76 : decode cX8_findPatches 76 = .ok (.iload_n 2, 1) := by decide +kernel
theorem dX8_findPatches_77 : decode cX8_findPatches 77 = .ok (.iaload, 1) := by decide +kernel
theorem dX8_findPatches_78 : decode cX8_findPatches 78 = .ok (.ifCond .ge 29, 3) := by decide +kernel
theorem dX8_findPatches_81 : decode cX8_findPatches 81 = .ok (.aload_n 0, 1) := by decide +kernel
theorem dX8_findPatches_82 : decode cX8_findPatches 82 = .ok (.dup, 1) := by decide +kernel
theorem dX8_findPatches_83 : decode cX8_findPatches 83 = .ok (.getfield 44, 3) := by decide +kernel
theorem dX8_findPatches_86 : decode cX8_findPatches 86 = .ok (.iconst 1, 1) := by decide +kernel
theorem dX8_findPatches_87 : decode cX8_findPatches 87 = .ok (.iadd, 1) := by decide +kernel
theorem dX8_findPatches_88 : decode cX8_findPatches 88 = .ok (.putfield 44, 3) := by decide +kernel
theorem dX8_findPatches_91 : decode cX8_findPatches 91 = .ok (.aload_n 0, 1) := by decide +kernel
theorem dX8_findPatches_92 : decode cX8_findPatches 92 = .ok (.aload_n 0, 1) := by decide +kernel
theorem dX8_findPatches_93 : decode cX8_findPatches 93 = .ok (.getfield 47, 3) := by decide +kernel
theorem dX8_findPatches_96 : decode cX8_findPatches 96 = .ok (.aload_n 0, 1) := by decide +kernel
theorem dX8_findPatches_97 : decode cX8_findPatches 97 = .ok (.iload_n 2, 1) := by decide +kernel
theorem dX8_findPatches_98 : decode cX8_findPatches 98 = .ok (.invokevirtual 33, 3) := by decide +kernel
theorem dX8_findPatches_101 : decode cX8_findPatches 101 = .ok (.invokestatic 58, 3) := by decide +kernel
theorem dX8_findPatches_104 : decode cX8_findPatches 104 = .ok (.putfield 47, 3) := by decide +kernel
theorem dX8_findPatches_107 : decode cX8_findPatches 107 = .ok (.iinc 2 1, 3) := by decide +kernel
theorem dX8_findPatches_110 : decode cX8_findPatches 110 = .ok (.goto (-53), 3) := by decide +kernel
theorem dX8_findPatches_113 : decode cX8_findPatches 113 = .ok (.return_, 1) := by decide +kernel
theorem dX8_forgetSteps_0 : decode cX8_forgetSteps 0 = .ok (.iconst 0, 1) := by decide +kernel
theorem dX8_forgetSteps_1 : decode cX8_forgetSteps 1 = .ok (.istore_n 1, 1) := by decide +kernel
theorem dX8_forgetSteps_2 : decode cX8_forgetSteps 2 = .ok (.iload_n 1, 1) := by decide +kernel
theorem dX8_forgetSteps_3 : decode cX8_forgetSteps 3 = .ok (.bipush 30, 2) := by decide +kernel
theorem dX8_forgetSteps_5 : decode cX8_forgetSteps 5 = .ok (.if_icmp .ge 16, 3) := by decide +kernel
theorem dX8_forgetSteps_8 : decode cX8_forgetSteps 8 = .ok (.aload_n 0, 1) := by decide +kernel
theorem dX8_forgetSteps_9 : decode cX8_forgetSteps 9 = .ok (.getfield 18, 3) := by decide +kernel
theorem dX8_forgetSteps_12 : decode cX8_forgetSteps 12 = .ok (.iload_n 1, 1) := by decide +kernel
theorem dX8_forgetSteps_13 : decode cX8_forgetSteps 13 = .ok (.iconst (-1), 1) := by decide +kernel
theorem dX8_forgetSteps_14 : decode cX8_forgetSteps 14 = .ok (.iastore, 1) := by decide +kernel
theorem dX8_forgetSteps_15 : decode cX8_forgetSteps 15 = .ok (.iinc 1 1, 3) := by decide +kernel
theorem dX8_forgetSteps_18 : decode cX8_forgetSteps 18 = .ok (.goto (-16), 3) := by decide +kernel
theorem dX8_forgetSteps_21 : decode cX8_forgetSteps 21 = .ok (.return_, 1) := by decide +kernel
theorem dX8_spread_0 : decode cX8_spread 0 = .ok (.iconst 1, 1) := by decide +kernel
theorem dX8_spread_1 : decode cX8_spread 1 = .ok (.istore_n 2, 1) := by decide +kernel
theorem dX8_spread_2 : decode cX8_spread 2 = .ok (.aload_n 0, 1) := by decide +kernel
theorem dX8_spread_3 : decode cX8_spread 3 = .ok (.getfield 21, 3) := by decide +kernel
theorem dX8_spread_6 : decode cX8_spread 6 = .ok (.iconst 0, 1) := by decide +kernel
theorem dX8_spread_7 : decode cX8_spread 7 = .ok (.iload_n 1, 1) := by decide +kernel
theorem dX8_spread_8 : decode cX8_spread 8 = .ok (.iastore, 1) := by decide +kernel
theorem dX8_spread_9 : decode cX8_spread 9 = .ok (.aload_n 0, 1) := by decide +kernel
theorem dX8_spread_10 : decode cX8_spread 10 = .ok (.getfield 18, 3) := by decide +kernel
theorem dX8_spread_13 : decode cX8_spread 13 = .ok (.iload_n 1, 1) := by decide +kernel
theorem dX8_spread_14 : decode cX8_spread 14 = .ok (.iconst 0, 1) := by decide +kernel
theorem dX8_spread_15 : decode cX8_spread 15 = .ok (.iastore, 1) := by decide +kernel
theorem dX8_spread_16 : decode cX8_spread 16 = .ok (.iconst 0, 1) := by decide +kernel
theorem dX8_spread_17 : decode cX8_spread 17 = .ok (.istore_n 3, 1) := by decide +kernel
theorem dX8_spread_18 : decode cX8_spread 18 = .ok (.iload_n 3, 1) := by decide +kernel
theorem dX8_spread_19 : decode cX8_spread 19 = .ok (.iload_n 2, 1) := by decide +kernel
theorem dX8_spread_20 : decode cX8_spread 20 = .ok (.if_icmp .ge 105, 3) := by decide +kernel
theorem dX8_spread_23 : decode cX8_spread 23 = .ok (.aload_n 0, 1) := by decide +kernel
theorem dX8_spread_24 : decode cX8_spread 24 = .ok (.getfield 21, 3) := by decide +kernel
theorem dX8_spread_27 : decode cX8_spread 27 = .ok (.iload_n 3, 1) := by decide +kernel
theorem dX8_spread_28 : decode cX8_spread 28 = .ok (.iaload, 1) := by decide +kernel
theorem dX8_spread_29 : decode cX8_spread 29 = .ok (.istore 4, 2) := by decide +kernel
theorem dX8_spread_31 : decode cX8_spread 31 = .ok (.iconst 0, 1) := by decide +kernel
theorem dX8_spread_32 : decode cX8_spread 32 = .ok (.istore 5, 2) := by decide +kernel
theorem dX8_spread_34 : decode cX8_spread 34 = .ok (.iload 5, 2) := by decide +kernel
theorem dX8_spread_36 : decode cX8_spread 36 = .ok (.iconst 4, 1) := by decide +kernel
theorem dX8_spread_37 : decode cX8_spread 37 = .ok (.if_icmp .ge 82, 3) := by decide +kernel
theorem dX8_spread_40 : decode cX8_spread 40 = .ok (.iload 4, 2) := by decide +kernel
theorem dX8_spread_42 : decode cX8_spread 42 = .ok (.iload 5, 2) := by decide +kernel
theorem dX8_spread_44 : decode cX8_spread 44 = .ok (.invokestatic 61, 3) := by decide +kernel
theorem dX8_spread_47 : decode cX8_spread 47 = .ok (.istore 6, 2) := by decide +kernel
theorem dX8_spread_49 : decode cX8_spread 49 = .ok (.iload 6, 2) := by decide +kernel
theorem dX8_spread_51 : decode cX8_spread 51 = .ok (.ifCond .lt 62, 3) := by decide +kernel
theorem dX8_spread_54 : decode cX8_spread 54 = .ok (.aload_n 0, 1) := by decide +kernel
theorem dX8_spread_55 : decode cX8_spread 55 = .ok (.getfield 18, 3) := by decide +kernel
theorem dX8_spread_58 : decode cX8_spread 58 = .ok (.iload 6, 2) := by decide +kernel
theorem dX8_spread_60 : decode cX8_spread 60 = .ok (.iaload, 1) := by decide +kernel
theorem dX8_spread_61 : decode cX8_spread 61 = .ok (.ifCond .ge 52, 3) := by decide +kernel
theorem dX8_spread_64 : decode cX8_spread 64 = .ok (.aload_n 0, 1) := by decide +kernel
theorem dX8_spread_65 : decode cX8_spread 65 = .ok (.getfield 15, 3) := by decide +kernel
theorem dX8_spread_68 : decode cX8_spread 68 = .ok (.iload 6, 2) := by decide +kernel
theorem dX8_spread_70 : decode cX8_spread 70 = .ok (.iaload, 1) := by decide +kernel
theorem dX8_spread_71 : decode cX8_spread 71 = .ok (.aload_n 0, 1) := by decide +kernel
theorem dX8_spread_72 : decode cX8_spread 72 = .ok (.getfield 15, 3) := by decide +kernel
theorem dX8_spread_75 : decode cX8_spread 75 = .ok (.iload_n 1, 1) := by decide +kernel
theorem dX8_spread_76 : decode cX8_spread 76 = .ok (.iaload, 1) := by decide +kernel
theorem dX8_spread_77 : decode cX8_spread 77 = .ok (.if_icmp .ne 36, 3) := by decide +kernel
theorem dX8_spread_80 : decode cX8_spread 80 = .ok (.iload_n 2, 1) := by decide +kernel
theorem dX8_spread_81 : decode cX8_spread 81 = .ok (.bipush 30, 2) := by decide +kernel
theorem dX8_spread_83 : decode cX8_spread 83 = .ok (.if_icmp .ge 30, 3) := by decide +kernel
theorem dX8_spread_86 : decode cX8_spread 86 = .ok (.aload_n 0, 1) := by decide +kernel
theorem dX8_spread_87 : decode cX8_spread 87 = .ok (.getfield 18, 3) := by decide +kernel
theorem dX8_spread_90 : decode cX8_spread 90 = .ok (.iload 6, 2) := by decide +kernel
theorem dX8_spread_92 : decode cX8_spread 92 = .ok (.aload_n 0, 1) := by decide +kernel
theorem dX8_spread_93 : decode cX8_spread 93 = .ok (.getfield 18, 3) := by decide +kernel
theorem dX8_spread_96 : decode cX8_spread 96 = .ok (.iload 4, 2) := by decide +kernel
theorem dX8_spread_98 : decode cX8_spread 98 = .ok (.iaload, 1) := by decide +kernel
theorem dX8_spread_99 : decode cX8_spread 99 = .ok (.iconst 1, 1) := by decide +kernel
theorem dX8_spread_100 : decode cX8_spread 100 = .ok (.iadd, 1) := by decide +kernel
theorem dX8_spread_101 : decode cX8_spread 101 = .ok (.iastore, 1) := by decide +kernel
theorem dX8_spread_102 : decode cX8_spread 102 = .ok (.aload_n 0, 1) := by decide +kernel
theorem dX8_spread_103 : decode cX8_spread 103 = .ok (.getfield 21, 3) := by decide +kernel
theorem dX8_spread_106 : decode cX8_spread 106 = .ok (.iload_n 2, 1) := by decide +kernel
theorem dX8_spread_107 : decode cX8_spread 107 = .ok (.iload 6, 2) := by decide +kernel
theorem dX8_spread_109 : decode cX8_spread 109 = .ok (.iastore, 1) := by decide +kernel
theorem dX8_spread_110 : decode cX8_spread 110 = .ok (.iinc 2 1, 3) := by decide +kernel
theorem dX8_spread_113 : decode cX8_spread 113 = .ok (.iinc 5 1, 3) := by decide +kernel
theorem dX8_spread_116 : decode cX8_spread 116 = .ok (.goto (-82), 3) := by decide +kernel
theorem dX8_spread_119 : decode cX8_spread 119 = .ok (.iinc 3 1, 3) := by decide +kernel
theorem dX8_spread_122 : decode cX8_spread 122 = .ok (.goto (-104), 3) := by decide +kernel
theorem dX8_spread_125 : decode cX8_spread 125 = .ok (.iload_n 2, 1) := by decide +kernel
theorem dX8_spread_126 : decode cX8_spread 126 = .ok (.ireturn, 1) := by decide +kernel
theorem dJ6_numberOfTrailingZeros_0f7a4_0 : decode cJ6_numberOfTrailingZeros_0f7a4 0 = .ok (.iload_n 0, 1) := by decide +kernel
theorem dJ6_numberOfTrailingZeros_0f7a4_1 : decode cJ6_numberOfTrailingZeros_0f7a4 1 = .ok (.iconst (-1), 1) := by decide +kernel
theorem dJ6_numberOfTrailingZeros_0f7a4_2 : decode cJ6_numberOfTrailingZeros_0f7a4 2 = .ok (.ixor, 1) := by decide +kernel
theorem dJ6_numberOfTrailingZeros_0f7a4_3 : decode cJ6_numberOfTrailingZeros_0f7a4 3 = .ok (.iload_n 0, 1) := by decide +kernel
theorem dJ6_numberOfTrailingZeros_0f7a4_4 : decode cJ6_numberOfTrailingZeros_0f7a4 4 = .ok (.iconst 1, 1) := by decide +kernel
theorem dJ6_numberOfTrailingZeros_0f7a4_5 : decode cJ6_numberOfTrailingZeros_0f7a4 5 = .ok (.isub, 1) := by decide +kernel
theorem dJ6_numberOfTrailingZeros_0f7a4_6 : decode cJ6_numberOfTrailingZeros_0f7a4 6 = .ok (.iand, 1) := by decide +kernel
theorem dJ6_numberOfTrailingZeros_0f7a4_7 : decode cJ6_numberOfTrailingZeros_0f7a4 7 = .ok (.istore_n 0, 1) := by decide +kernel
theorem dJ6_numberOfTrailingZeros_0f7a4_8 : decode cJ6_numberOfTrailingZeros_0f7a4 8 = .ok (.iload_n 0, 1) := by decide +kernel
theorem dJ6_numberOfTrailingZeros_0f7a4_9 : decode cJ6_numberOfTrailingZeros_0f7a4 9 = .ok (.ifCond .gt 8, 3) := by decide +kernel
theorem dJ6_numberOfTrailingZeros_0f7a4_12 : decode cJ6_numberOfTrailingZeros_0f7a4 12 = .ok (.iload_n 0, 1) := by decide +kernel
theorem dJ6_numberOfTrailingZeros_0f7a4_13 : decode cJ6_numberOfTrailingZeros_0f7a4 13 = .ok (.bipush 32, 2) := by decide +kernel
theorem dJ6_numberOfTrailingZeros_0f7a4_15 : decode cJ6_numberOfTrailingZeros_0f7a4 15 = .ok (.iand, 1) := by decide +kernel
theorem dJ6_numberOfTrailingZeros_0f7a4_16 : decode cJ6_numberOfTrailingZeros_0f7a4 16 = .ok (.ireturn, 1) := by decide +kernel
theorem dJ6_numberOfTrailingZeros_0f7a4_17 : decode cJ6_numberOfTrailingZeros_0f7a4 17 = .ok (.iconst 1, 1) := by decide +kernel
theorem dJ6_numberOfTrailingZeros_0f7a4_18 : decode cJ6_numberOfTrailingZeros_0f7a4 18 = .ok (.istore_n 1, 1) := by decide +kernel
theorem dJ6_numberOfTrailingZeros_0f7a4_19 : decode cJ6_numberOfTrailingZeros_0f7a4 19 = .ok (.iload_n 0, 1) := by decide +kernel
theorem dJ6_numberOfTrailingZeros_0f7a4_20 : decode cJ6_numberOfTrailingZeros_0f7a4 20 = .ok (.ldc_w 264, 3) := by decide +kernel
theorem dJ6_numberOfTrailingZeros_0f7a4_23 : decode cJ6_numberOfTrailingZeros_0f7a4 23 = .ok (.if_icmp .le 11, 3) := by decide +kernel
theorem dJ6_numberOfTrailingZeros_0f7a4_26 : decode cJ6_numberOfTrailingZeros_0f7a4 26 = .ok (.iinc 1 16, 3) := by decide +kernel
theorem dJ6_numberOfTrailingZeros_0f7a4_29 : decode cJ6_numberOfTrailingZeros_0f7a4 29 = .ok (.iload_n 0, 1) := by decide +kernel
theorem dJ6_numberOfTrailingZeros_0f7a4_30 : decode cJ6_numberOfTrailingZeros_0f7a4 30 = .ok (.bipush 16, 2) := by decide +kernel
theorem dJ6_numberOfTrailingZeros_0f7a4_32 : decode cJ6_numberOfTrailingZeros_0f7a4 32 = .ok (.iushr, 1) := by decide +kernel
theorem dJ6_numberOfTrailingZeros_0f7a4_33 : decode cJ6_numberOfTrailingZeros_0f7a4 33 = .ok (.istore_n 0, 1) := by decide +kernel
theorem dJ6_numberOfTrailingZeros_0f7a4_34 : decode cJ6_numberOfTrailingZeros_0f7a4 34 = .ok (.iload_n 0, 1) := by decide +kernel
theorem dJ6_numberOfTrailingZeros_0f7a4_35 : decode cJ6_numberOfTrailingZeros_0f7a4 35 = .ok (.sipush 256, 3) := by decide +kernel
theorem dJ6_numberOfTrailingZeros_0f7a4_38 : decode cJ6_numberOfTrailingZeros_0f7a4 38 = .ok (.if_icmp .le 11, 3) := by decide +kernel
theorem dJ6_numberOfTrailingZeros_0f7a4_41 : decode cJ6_numberOfTrailingZeros_0f7a4 41 = .ok (.iinc 1 8, 3) := by decide +kernel
theorem dJ6_numberOfTrailingZeros_0f7a4_44 : decode cJ6_numberOfTrailingZeros_0f7a4 44 = .ok (.iload_n 0, 1) := by decide +kernel
theorem dJ6_numberOfTrailingZeros_0f7a4_45 : decode cJ6_numberOfTrailingZeros_0f7a4 45 = .ok (.bipush 8, 2) := by decide +kernel
theorem dJ6_numberOfTrailingZeros_0f7a4_47 : decode cJ6_numberOfTrailingZeros_0f7a4 47 = .ok (.iushr, 1) := by decide +kernel
theorem dJ6_numberOfTrailingZeros_0f7a4_48 : decode cJ6_numberOfTrailingZeros_0f7a4 48 = .ok (.istore_n 0, 1) := by decide +kernel
theorem dJ6_numberOfTrailingZeros_0f7a4_49 : decode cJ6_numberOfTrailingZeros_0f7a4 49 = .ok (.iload_n 0, 1) := by decide +kernel
theorem dJ6_numberOfTrailingZeros_0f7a4_50 : decode cJ6_numberOfTrailingZeros_0f7a4 50 = .ok (.bipush 16, 2) := by decide +kernel
theorem dJ6_numberOfTrailingZeros_0f7a4_52 : decode cJ6_numberOfTrailingZeros_0f7a4 52 = .ok (.if_icmp .le 10, 3) := by decide +kernel
theorem dJ6_numberOfTrailingZeros_0f7a4_55 : decode cJ6_numberOfTrailingZeros_0f7a4 55 = .ok (.iinc 1 4, 3) := by decide +kernel
theorem dJ6_numberOfTrailingZeros_0f7a4_58 : decode cJ6_numberOfTrailingZeros_0f7a4 58 = .ok (.iload_n 0, 1) := by decide +kernel
theorem dJ6_numberOfTrailingZeros_0f7a4_59 : decode cJ6_numberOfTrailingZeros_0f7a4 59 = .ok (.iconst 4, 1) := by decide +kernel
theorem dJ6_numberOfTrailingZeros_0f7a4_60 : decode cJ6_numberOfTrailingZeros_0f7a4 60 = .ok (.iushr, 1) := by decide +kernel
theorem dJ6_numberOfTrailingZeros_0f7a4_61 : decode cJ6_numberOfTrailingZeros_0f7a4 61 = .ok (.istore_n 0, 1) := by decide +kernel
theorem dJ6_numberOfTrailingZeros_0f7a4_62 : decode cJ6_numberOfTrailingZeros_0f7a4 62 = .ok (.iload_n 0, 1) := by decide +kernel
theorem dJ6_numberOfTrailingZeros_0f7a4_63 : decode cJ6_numberOfTrailingZeros_0f7a4 63 = .ok (.iconst 4, 1) := by decide +kernel
theorem dJ6_numberOfTrailingZeros_0f7a4_64 : decode cJ6_numberOfTrailingZeros_0f7a4 64 = .ok (.if_icmp .le 10, 3) := by decide +kernel
theorem dJ6_numberOfTrailingZeros_0f7a4_67 : decode cJ6_numberOfTrailingZeros_0f7a4 67 = .ok (.iinc 1 2, 3) := by decide +kernel
theorem dJ6_numberOfTrailingZeros_0f7a4_70 : decode cJ6_numberOfTrailingZeros_0f7a4 70 = .ok (.iload_n 0, 1) := by decide +kernel
theorem dJ6_numberOfTrailingZeros_0f7a4_71 : decode cJ6_numberOfTrailingZeros_0f7a4 71 = .ok (.iconst 2, 1) := by decide +kernel
theorem dJ6_numberOfTrailingZeros_0f7a4_72 : decode cJ6_numberOfTrailingZeros_0f7a4 72 = .ok (.iushr, 1) := by decide +kernel
theorem dJ6_numberOfTrailingZeros_0f7a4_73 : decode cJ6_numberOfTrailingZeros_0f7a4 73 = .ok (.istore_n 0, 1) := by decide +kernel
theorem dJ6_numberOfTrailingZeros_0f7a4_74 : decode cJ6_numberOfTrailingZeros_0f7a4 74 = .ok (.iload_n 1, 1) := by decide +kernel
theorem dJ6_numberOfTrailingZeros_0f7a4_75 : decode cJ6_numberOfTrailingZeros_0f7a4 75 = .ok (.iload_n 0, 1) := by decide +kernel
theorem dJ6_numberOfTrailingZeros_0f7a4_76 : decode cJ6_numberOfTrailingZeros_0f7a4 76 = .ok (.iconst 1, 1) := by decide +kernel
theorem dJ6_numberOfTrailingZeros_0f7a4_77 : decode cJ6_numberOfTrailingZeros_0f7a4 77 = .ok (.iushr, 1) := by decide +kernel
theorem dJ6_numberOfTrailingZeros_0f7a4_78 : decode cJ6_numberOfTrailingZeros_0f7a4 78 = .ok (.iadd, 1) := by decide +kernel
theorem dJ6_numberOfTrailingZeros_0f7a4_79 : decode cJ6_numberOfTrailingZeros_0f7a4 79 = .ok (.ireturn, 1) := by decide +kernel
theorem dJ6_bitCount_0f7a4_0 : decode cJ6_bitCount_0f7a4 0 = .ok (.iload_n 0, 1) := by decide +kernel
theorem dJ6_bitCount_0f7a4_1 : decode cJ6_bitCount_0f7a4 1 = .ok (.iload_n 0, 1) := by decide +kernel
theorem dJ6_bitCount_0f7a4_2 : decode cJ6_bitCount_0f7a4 2 = .ok (.iconst 1, 1) := by decide +kernel
theorem dJ6_bitCount_0f7a4_3 : decode cJ6_bitCount_0f7a4 3 = .ok (.iushr, 1) := by decide +kernel
theorem dJ6_bitCount_0f7a4_4 : decode cJ6_bitCount_0f7a4 4 = .ok (.ldc_w 265, 3) := by decide +kernel
theorem dJ6_bitCount_0f7a4_7 : decode cJ6_bitCount_0f7a4 7 = .ok (.iand, 1) := by decide +kernel
theorem dJ6_bitCount_0f7a4_8 : decode cJ6_bitCount_0f7a4 8 = .ok (.isub, 1) := by decide +kernel
theorem dJ6_bitCount_0f7a4_9 : decode cJ6_bitCount_0f7a4 9 = .ok (.istore_n 0, 1) := by decide +kernel
theorem dJ6_bitCount_0f7a4_10 : decode cJ6_bitCount_0f7a4 10 = .ok (.iload_n 0, 1) := by decide +kernel
theorem dJ6_bitCount_0f7a4_11 : decode cJ6_bitCount_0f7a4 11 = .ok (.ldc_w 266, 3) := by decide +kernel
theorem dJ6_bitCount_0f7a4_14 : decode cJ6_bitCount_0f7a4 14 = .ok (.iand, 1) := by decide +kernel
theorem dJ6_bitCount_0f7a4_15 : decode cJ6_bitCount_0f7a4 15 = .ok (.iload_n 0, 1) := by decide +kernel
theorem dJ6_bitCount_0f7a4_16 : decode cJ6_bitCount_0f7a4 16 = .ok (.iconst 2, 1) := by decide +kernel
theorem dJ6_bitCount_0f7a4_17 : decode cJ6_bitCount_0f7a4 17 = .ok (.iushr, 1) := by decide +kernel
theorem dJ6_bitCount_0f7a4_18 : decode cJ6_bitCount_0f7a4 18 = .ok (.ldc_w 266, 3) := by decide +kernel
theorem dJ6_bitCount_0f7a4_21 : decode cJ6_bitCount_0f7a4 21 = .ok (.iand, 1) := by decide +kernel
theorem dJ6_bitCount_0f7a4_22 : decode cJ6_bitCount_0f7a4 22 = .ok (.iadd, 1) := by decide +kernel
theorem dJ6_bitCount_0f7a4_23 : decode cJ6_bitCount_0f7a4 23 = .ok (.istore_n 0, 1) := by decide +kernel
theorem dJ6_bitCount_0f7a4_24 : decode cJ6_bitCount_0f7a4 24 = .ok (.iload_n 0, 1) := by decide +kernel
theorem dJ6_bitCount_0f7a4_25 : decode cJ6_bitCount_0f7a4 25 = .ok (.iload_n 0, 1) := by decide +kernel
theorem dJ6_bitCount_0f7a4_26 : decode cJ6_bitCount_0f7a4 26 = .ok (.iconst 4, 1) := by decide +kernel
theorem dJ6_bitCount_0f7a4_27 : decode cJ6_bitCount_0f7a4 27 = .ok (.iushr, 1) := by decide +kernel
theorem dJ6_bitCount_0f7a4_28 : decode cJ6_bitCount_0f7a4 28 = .ok (.iadd, 1) := by decide +kernel
theorem dJ6_bitCount_0f7a4_29 : decode cJ6_bitCount_0f7a4 29 = .ok (.ldc_w 267, 3) := by decide +kernel
theorem dJ6_bitCount_0f7a4_32 : decode cJ6_bitCount_0f7a4 32 = .ok (.iand, 1) := by decide +kernel
theorem dJ6_bitCount_0f7a4_33 : decode cJ6_bitCount_0f7a4 33 = .ok (.istore_n 0, 1) := by decide +kernel
theorem dJ6_bitCount_0f7a4_34 : decode cJ6_bitCount_0f7a4 34 = .ok (.iload_n 0, 1) := by decide +kernel
theorem dJ6_bitCount_0f7a4_35 : decode cJ6_bitCount_0f7a4 35 = .ok (.iload_n 0, 1) := by decide +kernel
theorem dJ6_bitCount_0f7a4_36 : decode cJ6_bitCount_0f7a4 36 = .ok (.bipush 8, 2) := by decide +kernel
theorem dJ6_bitCount_0f7a4_38 : decode cJ6_bitCount_0f7a4 38 = .ok (.iushr, 1) := by decide +kernel
theorem dJ6_bitCount_0f7a4_39 : decode cJ6_bitCount_0f7a4 39 = .ok (.iadd, 1) := by decide +kernel
theorem dJ6_bitCount_0f7a4_40 : decode cJ6_bitCount_0f7a4 40 = .ok (.istore_n 0, 1) := by decide +kernel
theorem dJ6_bitCount_0f7a4_41 : decode cJ6_bitCount_0f7a4 41 = .ok (.iload_n 0, 1) := by decide +kernel
theorem dJ6_bitCount_0f7a4_42 : decode cJ6_bitCount_0f7a4 42 = .ok (.iload_n 0, 1) := by decide +kernel
theorem dJ6_bitCount_0f7a4_43 : decode cJ6_bitCount_0f7a4 43 = .ok (.bipush 16, 2) := by decide +kernel
theorem dJ6_bitCount_0f7a4_45 : decode cJ6_bitCount_0f7a4 45 = .ok (.iushr, 1) := by decide +kernel
theorem dJ6_bitCount_0f7a4_46 : decode cJ6_bitCount_0f7a4 46 = .ok (.iadd, 1) := by decide +kernel
theorem dJ6_bitCount_0f7a4_47 : decode cJ6_bitCount_0f7a4 47 = .ok (.istore_n 0, 1) := by decide +kernel
theorem dJ6_bitCount_0f7a4_48 : decode cJ6_bitCount_0f7a4 48 = .ok (.iload_n 0, 1) := by decide +kernel
theorem dJ6_bitCount_0f7a4_49 : decode cJ6_bitCount_0f7a4 49 = .ok (.bipush 63, 2) := by decide +kernel
theorem dJ6_bitCount_0f7a4_51 : decode cJ6_bitCount_0f7a4 51 = .ok (.iand, 1) := by decide +kernel
theorem dJ6_bitCount_0f7a4_52 : decode cJ6_bitCount_0f7a4 52 = .ok (.ireturn, 1) := by decide +kernel
theorem dJ9_max_7cf53_0 : decode cJ9_max_7cf53 0 = .ok (.iload_n 0, 1) := by decide +kernel
theorem dJ9_max_7cf53_1 : decode cJ9_max_7cf53 1 = .ok (.iload_n 1, 1) := by decide +kernel
theorem dJ9_max_7cf53_2 : decode cJ9_max_7cf53 2 = .ok (.if_icmp .lt 7, 3) := by decide +kernel
theorem dJ9_max_7cf53_5 : decode cJ9_max_7cf53 5 = .ok (.iload_n 0, 1) := by decide +kernel
theorem dJ9_max_7cf53_6 : decode cJ9_max_7cf53 6 = .ok (.goto 4, 3) := by decide +kernel
theorem dJ9_max_7cf53_9 : decode cJ9_max_7cf53 9 = .ok (.iload_n 1, 1) := by decide +kernel
theorem dJ9_max_7cf53_10 : decode cJ9_max_7cf53 10 = .ok (.ireturn, 1) := by decide +kernel
theorem dJ9_min_7cf53_0 : decode cJ9_min_7cf53 0 = .ok (.iload_n 0, 1) := by decide +kernel
theorem dJ9_min_7cf53_1 : decode cJ9_min_7cf53 1 = .ok (.iload_n 1, 1) := by decide +kernel
theorem dJ9_min_7cf53_2 : decode cJ9_min_7cf53 2 = .ok (.if_icmp .gt 7, 3) := by decide +kernel
theorem dJ9_min_7cf53_5 : decode cJ9_min_7cf53 5 = .ok (.iload_n 0, 1) := by decide +kernel
theorem dJ9_min_7cf53_6 : decode cJ9_min_7cf53 6 = .ok (.goto 4, 3) := by decide +kernel
theorem dJ9_min_7cf53_9 : decode cJ9_min_7cf53 9 = .ok (.iload_n 1, 1) := by decide +kernel
theorem dJ9_min_7cf53_10 : decode cJ9_min_7cf53 10 = .ok (.ireturn, 1) := by decide +kernel
