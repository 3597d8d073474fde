theorem dX0_init_0 : decode cX0_init 0 = .ok (.aload_n 0, 1) := by decide +kernel
theorem dX0_init_1 : decode cX0_init 1 = .ok (.invokespecial 1, 3) := by decide +kernel
theorem dX0_init_4 : decode cX0_init 4 = .ok (.aload_n 0, 1) := by decide +kernel
theorem dX0_init_5 : decode cX0_init 5 = .ok (.bipush 40, 2) := by decide +kernel
theorem dX0_init_7 : decode cX0_init 7 = .ok (.newarray .int, 2) := by decide +kernel
theorem dX0_init_9 : decode cX0_init 9 = .ok (.putfield 9, 3) := by decide +kernel
theorem dX0_init_12 : decode cX0_init 12 = .ok (.aload_n 0, 1) := by decide +kernel
theorem dX0_init_13 : decode cX0_init 13 = .ok (.bipush 40, 2) := by decide +kernel
theorem dX0_init_15 : decode cX0_init 15 = .ok (.newarray .int, 2) := by decide +kernel
theorem dX0_init_17 : decode cX0_init 17 = .ok (.putfield 13, 3) := by decide +kernel
theorem dX0_init_20 : decode cX0_init 20 = .ok (.aload_n 0, 1) := by decide +kernel
theorem dX0_init_21 : decode cX0_init 21 = .ok (.bipush 40, 2) := by decide +kernel
theorem dX0_init_23 : decode cX0_init 23 = .ok (.newarray .int, 2) := by decide +kernel
theorem dX0_init_25 : decode cX0_init 25 = .ok (.putfield 16, 3) := by decide +kernel
theorem dX0_init_28 : decode cX0_init 28 = .ok (.aload_n 0, 1) := by decide +kernel
theorem dX0_init_29 : decode cX0_init 29 = .ok (.bipush 40, 2) := by decide +kernel
theorem dX0_init_31 : decode cX0_init 31 = .ok (.newarray .int, 2) := by decide +kernel
theorem dX0_init_33 : decode cX0_init 33 = .ok (.putfield 19, 3) := by decide +kernel
theorem dX0_init_36 : decode cX0_init 36 = .ok (.return_, 1) := by decide +kernel
theorem dX0_note_0 : decode cX0_note 0 = .ok (.aload_n 0, 1) := by decide +kernel
theorem dX0_note_1 : decode cX0_note 1 = .ok (.getfield 22, 3) := by decide +kernel
theorem dX0_note_4 : decode cX0_note 4 = .ok (.bipush 40, 2) := by decide +kernel
theorem dX0_note_6 : decode cX0_note 6 = .ok (.if_icmp .lt 7, 3) := by decide +kernel
theorem dX0_note_9 : decode cX0_note 9 = .ok (.aload_n 0, 1) := by decide +kernel
theorem dX0_note_10 : decode cX0_note 10 = .ok (.invokevirtual 26, 3) := by decide +kernel
theorem dX0_note_13 : decode cX0_note 13 = .ok (.aload_n 0, 1) := by decide +kernel
theorem dX0_note_14 : decode cX0_note 14 = .ok (.getfield 9, 3) := by decide +kernel
theorem dX0_note_17 : decode cX0_note 17 = .ok (.aload_n 0, 1) := by decide +kernel
theorem dX0_note_18 : decode cX0_note 18 = .ok (.getfield 22, 3) := by decide +kernel
theorem dX0_note_21 : decode cX0_note 21 = .ok (.iload_n 1, 1) := by decide +kernel
theorem dX0_note_22 : decode cX0_note 22 = .ok (.iastore, 1) := by decide +kernel
theorem dX0_note_23 : decode cX0_note 23 = .ok (.aload_n 0, 1) := by decide +kernel
theorem dX0_note_24 : decode cX0_note 24 = .ok (.getfield 13, 3) := by decide +kernel
theorem dX0_note_27 : decode cX0_note 27 = .ok (.aload_n 0, 1) := by decide +kernel
theorem dX0_note_28 : decode cX0_note 28 = .ok (.getfield 22, 3) := by decide +kernel
theorem dX0_note_31 : decode cX0_note 31 = .ok (.iload_n 2, 1) := by decide +kernel
theorem dX0_note_32 : decode cX0_note 32 = .ok (.iastore, 1) := by decide +kernel
theorem dX0_note_33 : decode cX0_note 33 = .ok (.aload_n 0, 1) := by decide +kernel
theorem dX0_note_34 : decode cX0_note 34 = .ok (.getfield 16, 3) := by decide +kernel
theorem dX0_note_37 : decode cX0_note 37 = .ok (.aload_n 0, 1) := by decide +kernel
theorem dX0_note_38 : decode cX0_note 38 = .ok (.getfield 22, 3) := by decide +kernel
theorem dX0_note_41 : decode cX0_note 41 = .ok (.iload_n 3, 1) := by decide +kernel
theorem dX0_note_42 : decode cX0_note 42 = .ok (.iastore, 1) := by decide +kernel
theorem dX0_note_43 : decode cX0_note 43 = .ok (.aload_n 0, 1) := by decide +kernel
theorem dX0_note_44 : decode cX0_note 44 = .ok (.getfield 19, 3) := by decide +kernel
theorem dX0_note_47 : decode cX0_note 47 = .ok (.aload_n 0, 1) := by decide +kernel
theorem dX0_note_48 : decode cX0_note 48 = .ok (.getfield 22, 3) := by decide +kernel
theorem dX0_note_51 : decode cX0_note 51 = .ok (.iload 4, 2) := by decide +kernel
theorem dX0_note_53 : decode cX0_note 53 = .ok (.iastore, 1) := by decide +kernel
theorem dX0_note_54 : decode cX0_note 54 = .ok (.aload_n 0, 1) := by decide +kernel
theorem dX0_note_55 : decode cX0_note 55 = .ok (.dup, 1) := by decide +kernel
theorem dX0_note_56 : decode cX0_note 56 = .ok (.getfield 22, 3) := by decide +kernel
theorem dX0_note_59 : decode cX0_note 59 = .ok (.iconst 1, 1) := by decide +kernel
theorem dX0_note_60 : decode cX0_note 60 = .ok (.iadd, 1) := by decide +kernel
theorem dX0_note_61 : decode cX0_note 61 = .ok (.putfield 22, 3) := by decide +kernel
theorem dX0_note_64 : decode cX0_note 64 = .ok (.aload_n 0, 1) := by decide +kernel
theorem dX0_note_65 : decode cX0_note 65 = .ok (.iconst 0, 1) := by decide +kernel
theorem dX0_note_66 : decode cX0_note 66 = .ok (.putfield 29, 3) := by decide +kernel
theorem dX0_note_69 : decode cX0_note 69 = .ok (.return_, 1) := by decide +kernel
theorem dX0_forgetOldest_0 : decode cX0_forgetOldest 0 = .ok (.aload_n 0, 1) := by decide +kernel
theorem dX0_forgetOldest_1 : decode cX0_forgetOldest 1 = .ok (.getfield 9, 3) := by decide +kernel
theorem dX0_forgetOldest_4 : decode cX0_forgetOldest 4 = .ok (.iconst 1, 1) := by decide +kernel
theorem dX0_forgetOldest_5 : decode cX0_forgetOldest 5 = .ok (.aload_n 0, 1) := by decide +kernel
theorem dX0_forgetOldest_6 : decode cX0_forgetOldest 6 = .ok (.getfield 9, 3) := by decide +kernel
theorem dX0_forgetOldest_9 : decode cX0_forgetOldest 9 = .ok (.iconst 0, 1) := by decide +kernel
theorem dX0_forgetOldest_10 : decode cX0_forgetOldest 10 = .ok (.bipush 39, 2) := by decide +kernel
theorem dX0_forgetOldest_12 : decode cX0_forgetOldest 12 = .ok (.invokestatic 32, 3) := by decide +kernel
theorem dX0_forgetOldest_15 : decode cX0_forgetOldest 15 = .ok (.aload_n 0, 1) := by decide +kernel
theorem dX0_forgetOldest_16 : decode cX0_forgetOldest 16 = .ok (.getfield 13, 3) := by decide +kernel
theorem dX0_forgetOldest_19 : decode cX0_forgetOldest 19 = .ok (.iconst 1, 1) := by decide +kernel
theorem dX0_forgetOldest_20 : decode cX0_forgetOldest 20 = .ok (.aload_n 0, 1) := by decide +kernel
theorem dX0_forgetOldest_21 : decode cX0_forgetOldest 21 = .ok (.getfield 13, 3) := by decide +kernel
theorem dX0_forgetOldest_24 : decode cX0_forgetOldest 24 = .ok (.iconst 0, 1) := by decide +kernel
theorem dX0_forgetOldest_25 : decode cX0_forgetOldest 25 = .ok (.bipush 39, 2) := by decide +kernel
theorem dX0_forgetOldest_27 : decode cX0_forgetOldest 27 = .ok (.invokestatic 32, 3) := by decide +kernel
theorem dX0_forgetOldest_30 : decode cX0_forgetOldest 30 = .ok (.aload_n 0, 1) := by decide +kernel
theorem dX0_forgetOldest_31 : decode cX0_forgetOldest 31 = .ok (.getfield 16, 3) := by decide +kernel
theorem dX0_forgetOldest_34 : decode cX0_forgetOldest 34 = .ok (.iconst 1, 1) := by decide +kernel
theorem dX0_forgetOldest_35 : decode cX0_forgetOldest 35 = .ok (.aload_n 0, 1) := by decide +kernel
theorem dX0_forgetOldest_36 : decode cX0_forgetOldest 36 = .ok (.getfield 16, 3) := by decide +kernel
theorem dX0_forgetOldest_39 : decode cX0_forgetOldest 39 = .ok (.iconst 0, 1) := by decide +kernel
theorem dX0_forgetOldest_40 : decode cX0_forgetOldest 40 = .ok (.bipush 39, 2) := by decide +kernel
theorem dX0_forgetOldest_42 : decode cX0_forgetOldest 42 = .ok (.invokestatic 32, 3) := by decide +kernel
theorem dX0_forgetOldest_45 : decode cX0_forgetOldest 45 = .ok (.aload_n 0, 1) := by decide +kernel
theorem dX0_forgetOldest_46 : decode cX0_forgetOldest 46 = .ok (.getfield 19, 3) := by decide +kernel
theorem dX0_forgetOldest_49 : decode cX0_forgetOldest 49 = .ok (.iconst 1, 1) := by decide +kernel
theorem dX0_forgetOldest_50 : decode cX0_forgetOldest 50 = .ok (.aload_n 0, 1) := by decide +kernel
theorem dX0_forgetOldest_51 : decode cX0_forgetOldest 51 = .ok (.getfield 19, 3) := by decide +kernel
theorem dX0_forgetOldest_54 : decode cX0_forgetOldest 54 = .ok (.iconst 0, 1) := by decide +kernel
theorem dX0_forgetOldest_55 : decode cX0_forgetOldest 55 = .ok (.bipush 39, 2) := by decide +kernel
theorem dX0_forgetOldest_57 : decode cX0_forgetOldest 57 = .ok (.invokestatic 32, 3) := by decide +kernel
theorem dX0_forgetOldest_60 : decode cX0_forgetOldest 60 = .ok (.aload_n 0, 1) := by decide +kernel
theorem dX0_forgetOldest_61 : decode cX0_forgetOldest 61 = .ok (.bipush 39, 2) := by decide +kernel
theorem dX0_forgetOldest_63 : decode cX0_forgetOldest 63 = .ok (.putfield 22, 3) := by decide +kernel
theorem dX0_forgetOldest_66 : decode cX0_forgetOldest 66 = .ok (.return_, 1) := by decide +kernel
theorem dX0_stepBack_0 : decode cX0_stepBack 0 = .ok (.aload_n 0, 1) := by decide +kernel
theorem dX0_stepBack_1 : decode cX0_stepBack 1 = .ok (.getfield 22, 3) := by decide +kernel
theorem dX0_stepBack_4 : decode cX0_stepBack 4 = .ok (.ifCond .le 54, 3) := by decide +kernel
theorem dX0_stepBack_7 : decode cX0_stepBack 7 = .ok (.aload_n 0, 1) := by decide +kernel
theorem dX0_stepBack_8 : decode cX0_stepBack 8 = .ok (.dup, 1) := by decide +kernel
theorem dX0_stepBack_9 : decode cX0_stepBack 9 = .ok (.getfield 22, 3) := by decide +kernel
theorem dX0_stepBack_12 : decode cX0_stepBack 12 = .ok (.iconst 1, 1) := by decide +kernel
theorem dX0_stepBack_13 : decode cX0_stepBack 13 = .ok (.isub, 1) := by decide +kernel
theorem dX0_stepBack_14 : decode cX0_stepBack 14 = .ok (.putfield 22, 3) := by decide +kernel
theorem dX0_stepBack_17 : decode cX0_stepBack 17 = .ok (.aload_n 0, 1) := by decide +kernel
theorem dX0_stepBack_18 : decode cX0_stepBack 18 = .ok (.dup, 1) := by decide +kernel
theorem dX0_stepBack_19 : decode cX0_stepBack 19 = .ok (.getfield 29, 3) := by decide +kernel
theorem dX0_stepBack_22 : decode cX0_stepBack 22 = .ok (.iconst 1, 1) := by decide +kernel
theorem dX0_stepBack_23 : decode cX0_stepBack 23 = .ok (.iadd, 1) := by decide +kernel
theorem dX0_stepBack_24 : decode cX0_stepBack 24 = .ok (.putfield 29, 3) := by decide +kernel
theorem dX0_stepBack_27 : decode cX0_stepBack 27 = .ok (.aload_n 1, 1) := by decide +kernel
theorem dX0_stepBack_28 : decode cX0_stepBack 28 = .ok (.aload_n 0, 1) := by decide +kernel
theorem dX0_stepBack_29 : decode cX0_stepBack 29 = .ok (.getfield 9, 3) := by decide +kernel
theorem dX0_stepBack_32 : decode cX0_stepBack 32 = .ok (.aload_n 0, 1) := by decide +kernel
theorem dX0_stepBack_33 : decode cX0_stepBack 33 = .ok (.getfield 22, 3) := by decide +kernel
theorem dX0_stepBack_36 : decode cX0_stepBack 36 = .ok (.iaload, 1) := by decide +kernel
theorem dX0_stepBack_37 : decode cX0_stepBack 37 = .ok (.aload_n 0, 1) := by decide +kernel
theorem dX0_stepBack_38 : decode cX0_stepBack 38 = .ok (.getfield 13, 3) := by decide +kernel
theorem dX0_stepBack_41 : decode cX0_stepBack 41 = .ok (.aload_n 0, 1) := by decide +kernel
theorem dX0_stepBack_42 : decode cX0_stepBack 42 = .ok (.getfield 22, 3) := by decide +kernel
theorem dX0_stepBack_45 : decode cX0_stepBack 45 = .ok (.iaload, 1) := by decide +kernel
theorem dX0_stepBack_46 : decode cX0_stepBack 46 = .ok (.aload_n 0, 1) := by decide +kernel
theorem dX0_stepBack_47 : decode cX0_stepBack 47 = .ok (.getfield 16, 3) := by decide +kernel
theorem dX0_stepBack_50 : decode cX0_stepBack 50 = .ok (.aload_n 0, 1) := by decide +kernel
theorem dX0_stepBack_51 : decode cX0_stepBack 51 = .ok (.getfield 22, 3) := by decide +kernel
theorem dX0_stepBack_54 : decode cX0_stepBack 54 = .ok (.iaload, 1) := by decide +kernel
theorem dX0_stepBack_55 : decode cX0_stepBack 55 = .ok (.invokevirtual 38, 3) := by decide +kernel
theorem dX0_stepBack_58 : decode cX0_stepBack 58 = .ok (.return_, 1) := by decide +kernel
theorem dX0_stepForth_0 : decode cX0_stepForth 0 = .ok (.aload_n 0, 1) := by decide +kernel
theorem dX0_stepForth_1 : decode cX0_stepForth 1 = .ok (.getfield 29, 3) := by decide +kernel
theorem dX0_stepForth_4 : decode cX0_stepForth 4 = .ok (.ifCond .le 63, 3) := by decide +kernel
theorem dX0_stepForth_7 : decode cX0_stepForth 7 = .ok (.aload_n 0, 1) := by decide +kernel
theorem dX0_stepForth_8 : decode cX0_stepForth 8 = .ok (.getfield 22, 3) := by decide +kernel
theorem dX0_stepForth_11 : decode cX0_stepForth 11 = .ok (.bipush 40, 2) := by decide +kernel
theorem dX0_stepForth_13 : decode cX0_stepForth 13 = .ok (.if_icmp .ge 54, 3) := by decide +kernel
theorem dX0_stepForth_16 : decode cX0_stepForth 16 = .ok (.aload_n 1, 1) := by decide +kernel
theorem dX0_stepForth_17 : decode cX0_stepForth 17 = .ok (.aload_n 0, 1) := by decide +kernel
theorem dX0_stepForth_18 : decode cX0_stepForth 18 = .ok (.getfield 9, 3) := by decide +kernel
theorem dX0_stepForth_21 : decode cX0_stepForth 21 = .ok (.aload_n 0, 1) := by decide +kernel
theorem dX0_stepForth_22 : decode cX0_stepForth 22 = .ok (.getfield 22, 3) := by decide +kernel
theorem dX0_stepForth_25 : decode cX0_stepForth 25 = .ok (.iaload, 1) := by decide +kernel
theorem dX0_stepForth_26 : decode cX0_stepForth 26 = .ok (.aload_n 0, 1) := by decide +kernel
theorem dX0_stepForth_27 : decode cX0_stepForth 27 = .ok (.getfield 13, 3) := by decide +kernel
theorem dX0_stepForth_30 : decode cX0_stepForth 30 = .ok (.aload_n 0, 1) := by decide +kernel
theorem dX0_stepForth_31 : decode cX0_stepForth 31 = .ok (.getfield 22, 3) := by decide +kernel
theorem dX0_stepForth_34 : decode cX0_stepForth 34 = .ok (.iaload, 1) := by decide +kernel
theorem dX0_stepForth_35 : decode cX0_stepForth 35 = .ok (.aload_n 0, 1) := by decide +kernel
theorem dX0_stepForth_36 : decode cX0_stepForth 36 = .ok (.getfield 19, 3) := by decide +kernel
theorem dX0_stepForth_39 : decode cX0_stepForth 39 = .ok (.aload_n 0, 1) := by decide +kernel
theorem dX0_stepForth_40 : decode cX0_stepForth 40 = .ok (.getfield 22, 3) := by decide +kernel
theorem dX0_stepForth_43 : decode cX0_stepForth 43 = .ok (.iaload, 1) := by decide +kernel
theorem dX0_stepForth_44 : decode cX0_stepForth 44 = .ok (.invokevirtual 38, 3) := by decide +kernel
theorem dX0_stepForth_47 : decode cX0_stepForth 47 = .ok (.aload_n 0, 1) := by decide +kernel
theorem dX0_stepForth_48 : decode cX0_stepForth 48 = .ok (.dup, 1) := by decide +kernel
theorem dX0_stepForth_49 : decode cX0_stepForth 49 = .ok (.getfield 22, 3) := by decide +kernel
theorem dX0_stepForth_52 : decode cX0_stepForth 52 = .ok (.iconst 1, 1) := by decide +kernel
theorem dX0_stepForth_53 : decode cX0_stepForth 53 = .ok (.iadd, 1) := by decide +kernel
theorem dX0_stepForth_54 : decode cX0_stepForth 54 = .ok (.putfield 22, 3) := by decide +kernel
theorem dX0_stepForth_57 : decode cX0_stepForth 57 = .ok (.aload_n 0, 1) := by decide +kernel
theorem dX0_stepForth_58 : decode cX0_stepForth 58 = .ok (.dup, 1) := by decide +kernel
theorem dX0_stepForth_59 : decode cX0_stepForth 59 = .ok (.getfield 29, 3) := by decide +kernel
theorem dX0_stepForth_62 : decode cX0_stepForth 62 = .ok (.iconst 1, 1) := by decide +kernel
theorem dX0_stepForth_63 : decode cX0_stepForth 63 = .ok (.isub, 1) := by decide +kernel
theorem dX0_stepForth_64 : decode cX0_stepForth 64 = .ok (.putfield 29, 3) := by decide +kernel
theorem dX0_stepForth_67 : decode cX0_stepForth 67 = .ok (.return_, 1) := by decide +kernel
theorem dX1_init_0 : decode cX1_init 0 = .ok (.aload_n 0, 1) := by decide +kernel
theorem dX1_init_1 : decode cX1_init 1 = .ok (.invokespecial 3, 3) := by decide +kernel
theorem dX1_init_4 : decode cX1_init 4 = .ok (.aload_n 0, 1) := by decide +kernel
theorem dX1_init_5 : decode cX1_init 5 = .ok (.bipush 30, 2) := by decide +kernel
theorem dX1_init_7 : decode cX1_init 7 = .ok (.newarray .int, 2) := by decide +kernel
theorem dX1_init_9 : decode cX1_init 9 = .ok (.putfield 9, 3) := by decide +kernel
theorem dX1_init_12 : decode cX1_init 12 = .ok (.aload_n 0, 1) := by decide +kernel
theorem dX1_init_13 : decode cX1_init 13 = .ok (.bipush 30, 2) := by decide +kernel
theorem dX1_init_15 : decode cX1_init 15 = .ok (.newarray .int, 2) := by decide +kernel
theorem dX1_init_17 : decode cX1_init 17 = .ok (.putfield 15, 3) := by decide +kernel
theorem dX1_init_20 : decode cX1_init 20 = .ok (.aload_n 0, 1) := by decide +kernel
theorem dX1_init_21 : decode cX1_init 21 = .ok (.bipush 30, 2) := by decide +kernel
theorem dX1_init_23 : decode cX1_init 23 = .ok (.newarray .int, 2) := by decide +kernel
theorem dX1_init_25 : decode cX1_init 25 = .ok (.putfield 18, 3) := by decide +kernel
theorem dX1_init_28 : decode cX1_init 28 = .ok (.aload_n 0, 1) := by decide +kernel
theorem dX1_init_29 : decode cX1_init 29 = .ok (.iconst 5, 1) := by decide +kernel
theorem dX1_init_30 : decode cX1_init 30 = .ok (.newarray .int, 2) := by decide +kernel
theorem dX1_init_32 : decode cX1_init 32 = .ok (.putfield 21, 3) := by decide +kernel
theorem dX1_init_35 : decode cX1_init 35 = .ok (.return_, 1) := by decide +kernel
theorem dX1_takeFrom_0 : decode cX1_takeFrom 0 = .ok (.aload_n 1, 1) := by decide +kernel
theorem dX1_takeFrom_1 : decode cX1_takeFrom 1 = .ok (.getfield 9, 3) := by decide +kernel
theorem dX1_takeFrom_4 : decode cX1_takeFrom 4 = .ok (.iconst 0, 1) := by decide +kernel
theorem dX1_takeFrom_5 : decode cX1_takeFrom 5 = .ok (.aload_n 0, 1) := by decide +kernel
theorem dX1_takeFrom_6 : decode cX1_takeFrom 6 = .ok (.getfield 9, 3) := by decide +kernel
theorem dX1_takeFrom_9 : decode cX1_takeFrom 9 = .ok (.iconst 0, 1) := by decide +kernel
theorem dX1_takeFrom_10 : decode cX1_takeFrom 10 = .ok (.bipush 30, 2) := by decide +kernel
theorem dX1_takeFrom_12 : decode cX1_takeFrom 12 = .ok (.invokestatic 24, 3) := by decide +kernel
theorem dX1_takeFrom_15 : decode cX1_takeFrom 15 = .ok (.aload_n 1, 1) := by decide +kernel
theorem dX1_takeFrom_16 : decode cX1_takeFrom 16 = .ok (.getfield 15, 3) := by decide +kernel
theorem dX1_takeFrom_19 : decode cX1_takeFrom 19 = .ok (.iconst 0, 1) := by decide +kernel
theorem dX1_takeFrom_20 : decode cX1_takeFrom 20 = .ok (.aload_n 0, 1) := by decide +kernel
theorem dX1_takeFrom_21 : decode cX1_takeFrom 21 = .ok (.getfield 15, 3) := by decide +kernel
theorem dX1_takeFrom_24 : decode cX1_takeFrom 24 = .ok (.iconst 0, 1) := by decide +kernel
theorem dX1_takeFrom_25 : decode cX1_takeFrom 25 = .ok (.bipush 30, 2) := by decide +kernel
theorem dX1_takeFrom_27 : decode cX1_takeFrom 27 = .ok (.invokestatic 24, 3) := by decide +kernel
theorem dX1_takeFrom_30 : decode cX1_takeFrom 30 = .ok (.aload_n 1, 1) := by decide +kernel
theorem dX1_takeFrom_31 : decode cX1_takeFrom 31 = .ok (.getfield 18, 3) := by decide +kernel
theorem dX1_takeFrom_34 : decode cX1_takeFrom 34 = .ok (.iconst 0, 1) := by decide +kernel
theorem dX1_takeFrom_35 : decode cX1_takeFrom 35 = .ok (.aload_n 0, 1) := by decide +kernel
theorem dX1_takeFrom_36 : decode cX1_takeFrom 36 = .ok (.getfield 18, 3) := by decide +kernel
theorem dX1_takeFrom_39 : decode cX1_takeFrom 39 = .ok (.iconst 0, 1) := by decide +kernel
theorem dX1_takeFrom_40 : decode cX1_takeFrom 40 = .ok (.bipush 30, 2) := by decide +kernel
theorem dX1_takeFrom_42 : decode cX1_takeFrom 42 = .ok (.invokestatic 24, 3) := by decide +kernel
theorem dX1_takeFrom_45 : decode cX1_takeFrom 45 = .ok (.aload_n 1, 1) := by decide +kernel
theorem dX1_takeFrom_46 : decode cX1_takeFrom 46 = .ok (.getfield 21, 3) := by decide +kernel
theorem dX1_takeFrom_49 : decode cX1_takeFrom 49 = .ok (.iconst 0, 1) := by decide +kernel
theorem dX1_takeFrom_50 : decode cX1_takeFrom 50 = .ok (.aload_n 0, 1) := by decide +kernel
theorem dX1_takeFrom_51 : decode cX1_takeFrom 51 = .ok (.getfield 21, 3) := by decide +kernel
theorem dX1_takeFrom_54 : decode cX1_takeFrom 54 = .ok (.iconst 0, 1) := by decide +kernel
theorem dX1_takeFrom_55 : decode cX1_takeFrom 55 = .ok (.iconst 5, 1) := by decide +kernel
theorem dX1_takeFrom_56 : decode cX1_takeFrom 56 = .ok (.invokestatic 24, 3) := by decide +kernel
theorem dX1_takeFrom_59 : decode cX1_takeFrom 59 = .ok (.aload_n 0, 1) := by decide +kernel
theorem dX1_takeFrom_60 : decode cX1_takeFrom 60 = .ok (.aload_n 1, 1) := by decide +kernel
theorem dX1_takeFrom_61 : decode cX1_takeFrom 61 = .ok (.getfield 30, 3) := by decide +kernel
theorem dX1_takeFrom_64 : decode cX1_takeFrom 64 = .ok (.putfield 30, 3) := by decide +kernel
theorem dX1_takeFrom_67 : decode cX1_takeFrom 67 = .ok (.return_, 1) := by decide +kernel
theorem dX1_numberAt_0 : decode cX1_numberAt 0 = .ok (.iload_n 2, 1) := by decide +kernel
theorem dX1_numberAt_1 : decode cX1_numberAt 1 = .ok (.ifCond .ne 12, 3) := by decide +kernel
theorem dX1_numberAt_4 : decode cX1_numberAt 4 = .ok (.aload_n 0, 1) := by decide +kernel
theorem dX1_numberAt_5 : decode cX1_numberAt 5 = .ok (.getfield 9, 3) := by decide +kernel
theorem dX1_numberAt_8 : decode cX1_numberAt 8 = .ok (.iload_n 1, 1) := by decide +kernel
theorem dX1_numberAt_9 : decode cX1_numberAt 9 = .ok (.iaload, 1) := by decide +kernel
theorem dX1_numberAt_10 : decode cX1_numberAt 10 = .ok (.goto 23, 3) := by decide +kernel
theorem dX1_numberAt_13 : decode cX1_numberAt 13 = .ok (.iload_n 2, 1) := by decide +kernel
theorem dX1_numberAt_14 : decode cX1_numberAt 14 = .ok (.iconst 1, 1) := by decide +kernel
theorem dX1_numberAt_15 : decode cX1_numberAt 15 = .ok (.if_icmp .ne 12, 3) := by decide +kernel
theorem dX1_numberAt_18 : decode cX1_numberAt 18 = .ok (.aload_n 0, 1) := by decide +kernel
theorem dX1_numberAt_19 : decode cX1_numberAt 19 = .ok (.getfield 15, 3) := by decide +kernel
theorem dX1_numberAt_22 : decode cX1_numberAt 22 = .ok (.iload_n 1, 1) := by decide +kernel
theorem dX1_numberAt_23 : decode cX1_numberAt 23 = .ok (.iaload, 1) := by decide +kernel
theorem dX1_numberAt_24 : decode cX1_numberAt 24 = .ok (.goto 9, 3) := by decide +kernel
theorem dX1_numberAt_27 : decode cX1_numberAt 27 = .ok (.aload_n 0, 1) := by decide +kernel
theorem dX1_numberAt_28 : decode cX1_numberAt 28 = .ok (.getfield 18, 3) := by decide +kernel
theorem dX1_numberAt_31 : decode cX1_numberAt 31 = .ok (.iload_n 1, 1) := by decide +kernel
theorem dX1_numberAt_32 : decode cX1_numberAt 32 = .ok (.iaload, 1) := by decide +kernel
theorem dX1_numberAt_33 : decode cX1_numberAt 33 = .ok (.ireturn, 1) := by decide +kernel
theorem dX1_setNumberAt_0 : decode cX1_setNumberAt 0 = .ok (.iload_n 2, 1) := by decide +kernel
theorem dX1_setNumberAt_1 : decode cX1_setNumberAt 1 = .ok (.ifCond .ne 13, 3) := by decide +kernel
theorem dX1_setNumberAt_4 : decode cX1_setNumberAt 4 = .ok (.aload_n 0, 1) := by decide +kernel
theorem dX1_setNumberAt_5 : decode cX1_setNumberAt 5 = .ok (.getfield 9, 3) := by decide +kernel
theorem dX1_setNumberAt_8 : decode cX1_setNumberAt 8 = .ok (.iload_n 1, 1) := by decide +kernel
theorem dX1_setNumberAt_9 : decode cX1_setNumberAt 9 = .ok (.iload_n 3, 1) := by decide +kernel
theorem dX1_setNumberAt_10 : decode cX1_setNumberAt 10 = .ok (.iastore, 1) := by decide +kernel
theorem dX1_setNumberAt_11 : decode cX1_setNumberAt 11 = .ok (.goto 25, 3) := by decide +kernel
theorem dX1_setNumberAt_14 : decode cX1_setNumberAt 14 = .ok (.iload_n 2, 1) := by decide +kernel
theorem dX1_setNumberAt_15 : decode cX1_setNumberAt 15 = .ok (.iconst 1, 1) := by decide +kernel
theorem dX1_setNumberAt_16 : decode cX1_setNumberAt 16 = .ok (.if_icmp .ne 13, 3) := by decide +kernel
theorem dX1_setNumberAt_19 : decode cX1_setNumberAt 19 = .ok (.aload_n 0, 1) := by decide +kernel
theorem dX1_setNumberAt_20 : decode cX1_setNumberAt 20 = .ok (.getfield 15, 3) := by decide +kernel
theorem dX1_setNumberAt_23 : decode cX1_setNumberAt 23 = .ok (.iload_n 1, 1) := by decide +kernel
theorem dX1_setNumberAt_24 : decode cX1_setNumberAt 24 = .ok (.iload_n 3, 1) := by decide +kernel
theorem dX1_setNumberAt_25 : decode cX1_setNumberAt 25 = .ok (.iastore, 1) := by decide +kernel
theorem dX1_setNumberAt_26 : decode cX1_setNumberAt 26 = .ok (.goto 10, 3) := by decide +kernel
theorem dX1_setNumberAt_29 : decode cX1_setNumberAt 29 = .ok (.aload_n 0, 1) := by decide +kernel
theorem dX1_setNumberAt_30 : decode cX1_setNumberAt 30 = .ok (.getfield 18, 3) := by decide +kernel
theorem dX1_setNumberAt_33 : decode cX1_setNumberAt 33 = .ok (.iload_n 1, 1) := by decide +kernel
theorem dX1_setNumberAt_34 : decode cX1_setNumberAt 34 = .ok (.iload_n 3, 1) := by decide +kernel
theorem dX1_setNumberAt_35 : decode cX1_setNumberAt 35 = .ok (.iastore, 1) := by decide +kernel
theorem dX1_setNumberAt_36 : decode cX1_setNumberAt 36 = .ok (.return_, 1) := by decide +kernel
theorem dX1_setSquare_0 : decode cX1_setSquare 0 = .ok (.aload_n 0, 1) := by decide +kernel
theorem dX1_setSquare_1 : decode cX1_setSquare 1 = .ok (.getfield 9, 3) := by decide +kernel
theorem dX1_setSquare_4 : decode cX1_setSquare 4 = .ok (.iload_n 1, 1) := by decide +kernel
theorem dX1_setSquare_5 : decode cX1_setSquare 5 = .ok (.iload_n 2, 1) := by decide +kernel
theorem dX1_setSquare_6 : decode cX1_setSquare 6 = .ok (.iastore, 1) := by decide +kernel
theorem dX1_setSquare_7 : decode cX1_setSquare 7 = .ok (.aload_n 0, 1) := by decide +kernel
theorem dX1_setSquare_8 : decode cX1_setSquare 8 = .ok (.getfield 15, 3) := by decide +kernel
theorem dX1_setSquare_11 : decode cX1_setSquare 11 = .ok (.iload_n 1, 1) := by decide +kernel
theorem dX1_setSquare_12 : decode cX1_setSquare 12 = .ok (.iload_n 3, 1) := by decide +kernel
theorem dX1_setSquare_13 : decode cX1_setSquare 13 = .ok (.iastore, 1) := by decide +kernel
theorem dX1_setSquare_14 : decode cX1_setSquare 14 = .ok (.aload_n 0, 1) := by decide +kernel
theorem dX1_setSquare_15 : decode cX1_setSquare 15 = .ok (.getfield 18, 3) := by decide +kernel
theorem dX1_setSquare_18 : decode cX1_setSquare 18 = .ok (.iload_n 1, 1) := by decide +kernel
theorem dX1_setSquare_19 : decode cX1_setSquare 19 = .ok (.iload 4, 2) := by decide +kernel
theorem dX1_setSquare_21 : decode cX1_setSquare 21 = .ok (.iastore, 1) := by decide +kernel
theorem dX1_setSquare_22 : decode cX1_setSquare 22 = .ok (.return_, 1) := by decide +kernel
theorem dX1_stuffedSquares_0 : decode cX1_stuffedSquares 0 = .ok (.iconst 0, 1) := by decide +kernel
theorem dX1_stuffedSquares_1 : decode cX1_stuffedSquares 1 = .ok (.istore_n 1, 1) := by decide +kernel
theorem dX1_stuffedSquares_2 : decode cX1_stuffedSquares 2 = .ok (.iconst 0, 1) := by decide +kernel
theorem dX1_stuffedSquares_3 : decode cX1_stuffedSquares 3 = .ok (.istore_n 2, 1) := by decide +kernel
theorem dX1_stuffedSquares_4 : decode cX1_stuffedSquares 4 = .ok (.iload_n 2, 1) := by decide +kernel
theorem dX1_stuffedSquares_5 : decode cX1_stuffedSquares 5 = .ok (.bipush 30, 2) := by decide +kernel
theorem dX1_stuffedSquares_7 : decode cX1_stuffedSquares 7 = .ok (.if_icmp .ge 21, 3) := by decide +kernel
theorem dX1_stuffedSquares_10 : decode cX1_stuffedSquares 10 = .ok (.aload_n 0, 1) := by decide +kernel
theorem dX1_stuffedSquares_11 : decode cX1_stuffedSquares 11 = .ok (.getfield 15, 3) := by decide +kernel
theorem dX1_stuffedSquares_14 : decode cX1_stuffedSquares 14 = .ok (.iload_n 2, 1) := by decide +kernel
theorem dX1_stuffedSquares_15 : decode cX1_stuffedSquares 15 = .ok (.iaload, 1) := by decide +kernel
theorem dX1_stuffedSquares_16 : decode cX1_stuffedSquares 16 = .ok (.ifCond .le 6, 3) := by decide +kernel
theorem dX1_stuffedSquares_19 : decode cX1_stuffedSquares 19 = .ok (.iinc 1 1, 3) := by decide +kernel
theorem dX1_stuffedSquares_22 : decode cX1_stuffedSquares 22 = .ok (.iinc 2 1, 3) := by decide +kernel
theorem dX1_stuffedSquares_25 : decode cX1_stuffedSquares 25 = .ok (.goto (-21), 3) := by decide +kernel
theorem dX1_stuffedSquares_28 : decode cX1_stuffedSquares 28 = .ok (.iload_n 1, 1) := by decide +kernel
theorem dX1_stuffedSquares_29 : decode cX1_stuffedSquares 29 = .ok (.ireturn, 1) := by decide +kernel
theorem dX1_beside_0 : decode cX1_beside 0 = .ok (.iload_n 1, 1) := by decide +kernel
theorem dX1_beside_1 : decode cX1_beside 1 = .ok (.tableswitch 73 0 2 #[27, 42, 58], 27) := by decide +kernel
theorem dX1_beside_28 : decode cX1_beside 28 = .ok (.iload_n 0, 1) := by decide +kernel
theorem dX1_beside_29 : decode cX1_beside 29 = .ok (.bipush 6, 2) := by decide +kernel
theorem dX1_beside_31 : decode cX1_beside 31 = .ok (.if_icmp .lt 10, 3) := by decide +kernel
theorem dX1_beside_34 : decode cX1_beside 34 = .ok (.iload_n 0, 1) := by decide +kernel
theorem dX1_beside_35 : decode cX1_beside 35 = .ok (.bipush 6, 2) := by decide +kernel
theorem dX1_beside_37 : decode cX1_beside 37 = .ok (.isub, 1) := by decide +kernel
theorem dX1_beside_38 : decode cX1_beside 38 = .ok (.goto 4, 3) := by decide +kernel
theorem dX1_beside_41 : decode cX1_beside 41 = .ok (.iconst (-1), 1) := by decide +kernel
theorem dX1_beside_42 : decode cX1_beside 42 = .ok (.ireturn, 1) := by decide +kernel
theorem dX1_beside_43 : decode cX1_beside 43 = .ok (.iload_n 0, 1) := by decide +kernel
theorem dX1_beside_44 : decode cX1_beside 44 = .ok (.bipush 6, 2) := by decide +kernel
theorem dX1_beside_46 : decode cX1_beside 46 = .ok (.irem, 1) := by decide +kernel
theorem dX1_beside_47 : decode cX1_beside 47 = .ok (.iconst 5, 1) := by decide +kernel
theorem dX1_beside_48 : decode cX1_beside 48 = .ok (.if_icmp .ge 9, 3) := by decide +kernel
theorem dX1_beside_51 : decode cX1_beside 51 = .ok (.iload_n 0, 1) := by decide +kernel
theorem dX1_beside_52 : decode cX1_beside 52 = .ok (.iconst 1, 1) := by decide +kernel
theorem dX1_beside_53 : decode cX1_beside 53 = .ok (.iadd, 1) := by decide +kernel
theorem dX1_beside_54 : decode cX1_beside 54 = .ok (.goto 4, 3) := by decide +kernel
theorem dX1_beside_57 : decode cX1_beside 57 = .ok (.iconst (-1), 1) := by decide +kernel
theorem dX1_beside_58 : decode cX1_beside 58 = .ok (.ireturn, 1) := by decide +kernel
theorem dX1_beside_59 : decode cX1_beside 59 = .ok (.iload_n 0, 1) := by decide +kernel
theorem dX1_beside_60 : decode cX1_beside 60 = .ok (.bipush 24, 2) := by decide +kernel
theorem dX1_beside_62 : decode cX1_beside 62 = .ok (.if_icmp .ge 10, 3) := by decide +kernel
theorem dX1_beside_65 : decode cX1_beside 65 = .ok (.iload_n 0, 1) := by decide +kernel
theorem dX1_beside_66 : decode cX1_beside 66 = .ok (.bipush 6, 2) := by decide +kernel
theorem dX1_beside_68 : decode cX1_beside 68 = .ok (.iadd, 1) := by decide +kernel
theorem dX1_beside_69 : decode cX1_beside 69 = .ok (.goto 4, 3) := by decide +kernel
theorem dX1_beside_72 : decode cX1_beside 72 = .ok (.iconst (-1), 1) := by decide +kernel
theorem dX1_beside_73 : decode cX1_beside 73 = .ok (.ireturn, 1) := by decide +kernel
theorem dX1_beside_74 : decode cX1_beside 74 = .ok (.iload_n 0, 1) := by decide +kernel
theorem dX1_beside_75 : decode cX1_beside 75 = .ok (.bipush 6, 2) := by decide +kernel
theorem dX1_beside_77 : decode cX1_beside 77 = .ok (.irem, 1) := by decide +kernel
theorem dX1_beside_78 : decode cX1_beside 78 = .ok (.ifCond .le 9, 3) := by decide +kernel
theorem dX1_beside_81 : decode cX1_beside 81 = .ok (.iload_n 0, 1) := by decide +kernel
theorem dX1_beside_82 : decode cX1_beside 82 = .ok (.iconst 1, 1) := by decide +kernel
theorem dX1_beside_83 : decode cX1_beside 83 = .ok (.isub, 1) := by decide +kernel
theorem dX1_beside_84 : decode cX1_beside 84 = .ok (.goto 4, 3) := by decide +kernel
theorem dX1_beside_87 : decode cX1_beside 87 = .ok (.iconst (-1), 1) := by decide +kernel
theorem dX1_beside_88 : decode cX1_beside 88 = .ok (.ireturn, 1) := by decide +kernel
theorem dX1_isInside_0 : decode cX1_isInside 0 = .ok (.iload_n 0, 1) := by decide +kernel
theorem dX1_isInside_1 : decode cX1_isInside 1 = .ok (.bipush 6, 2) := by decide +kernel
theorem dX1_isInside_3 : decode cX1_isInside 3 = .ok (.irem, 1) := by decide +kernel
theorem dX1_isInside_4 : decode cX1_isInside 4 = .ok (.istore_n 1, 1) := by decide +kernel
theorem dX1_isInside_5 : decode cX1_isInside 5 = .ok (.iload_n 0, 1) := by decide +kernel
theorem dX1_isInside_6 : decode cX1_isInside 6 = .ok (.bipush 6, 2) := by decide +kernel
theorem dX1_isInside_8 : decode cX1_isInside 8 = .ok (.idiv, 1) := by decide +kernel
theorem dX1_isInside_9 : decode cX1_isInside 9 = .ok (.istore_n 2, 1) := by decide +kernel
theorem dX1_isInside_10 : decode cX1_isInside 10 = .ok (.iload_n 1, 1) := by decide +kernel
theorem dX1_isInside_11 : decode cX1_isInside 11 = .ok (.ifCond .le 21, 3) := by decide +kernel
theorem dX1_isInside_14 : decode cX1_isInside 14 = .ok (.iload_n 1, 1) := by decide +kernel
theorem dX1_isInside_15 : decode cX1_isInside 15 = .ok (.iconst 5, 1) := by decide +kernel
theorem dX1_isInside_16 : decode cX1_isInside 16 = .ok (.if_icmp .ge 16, 3) := by decide +kernel
theorem dX1_isInside_19 : decode cX1_isInside 19 = .ok (.iload_n 2, 1) := by decide +kernel
theorem dX1_isInside_20 : decode cX1_isInside 20 = .ok (.ifCond .le 12, 3) := by decide +kernel
theorem dX1_isInside_23 : decode cX1_isInside 23 = .ok (.iload_n 2, 1) := by decide +kernel
theorem dX1_isInside_24 : decode cX1_isInside 24 = .ok (.iconst 4, 1) := by decide +kernel
theorem dX1_isInside_25 : decode cX1_isInside 25 = .ok (.if_icmp .ge 7, 3) := by decide +kernel
theorem dX1_isInside_28 : decode cX1_isInside 28 = .ok (.iconst 1, 1) := by decide +kernel
theorem dX1_isInside_29 : decode cX1_isInside 29 = .ok (.goto 4, 3) := by decide +kernel
theorem dX1_isInside_32 : decode cX1_isInside 32 = .ok (.iconst 0, 1) := by decide +kernel
theorem dX1_isInside_33 : decode cX1_isInside 33 = .ok (.ireturn, 1) := by decide +kernel
theorem dX1_thickBeside_0 : decode cX1_thickBeside 0 = .ok (.iload_n 1, 1) := by decide +kernel
theorem dX1_thickBeside_1 : decode cX1_thickBeside 1 = .ok (.bipush 6, 2) := by decide +kernel
theorem dX1_thickBeside_3 : decode cX1_thickBeside 3 = .ok (.irem, 1) := by decide +kernel
theorem dX1_thickBeside_4 : decode cX1_thickBeside 4 = .ok (.istore_n 2, 1) := by decide +kernel
theorem dX1_thickBeside_5 : decode cX1_thickBeside 5 = .ok (.iload_n 1, 1) := by decide +kernel
theorem dX1_thickBeside_6 : decode cX1_thickBeside 6 = .ok (.bipush 6, 2) := by decide +kernel
theorem dX1_thickBeside_8 : decode cX1_thickBeside 8 = .ok (.if_icmp .lt 15, 3) := by decide +kernel
theorem dX1_thickBeside_11 : decode cX1_thickBeside 11 = .ok (.aload_n 0, 1) := by decide +kernel
theorem dX1_thickBeside_12 : decode cX1_thickBeside 12 = .ok (.getfield 15, 3) := by decide +kernel
theorem dX1_thickBeside_15 : decode cX1_thickBeside 15 = .ok (.iload_n 1, 1) := by decide +kernel
theorem dX1_thickBeside_16 : decode cX1_thickBeside 16 = .ok (.bipush 6, 2) := by decide +kernel
theorem dX1_thickBeside_18 : decode cX1_thickBeside 18 = .ok (.isub, 1) := by decide +kernel
theorem dX1_thickBeside_19 : decode cX1_thickBeside 19 = .ok (.iaload, 1) := by decide +kernel
theorem dX1_thickBeside_20 : decode cX1_thickBeside 20 = .ok (.goto 4, 3) := by decide +kernel
theorem dX1_thickBeside_23 : decode cX1_thickBeside 23 = .ok (.iconst 0, 1) := by decide +kernel
theorem dX1_thickBeside_24 : decode cX1_thickBeside 24 = .ok (.istore_n 3, 1) := by decide +kernel
theorem dX1_thickBeside_25 : decode cX1_thickBeside 25 = .ok (.iload_n 2, 1) := by decide +kernel
theorem dX1_thickBeside_26 : decode cX1_thickBeside 26 = .ok (.iconst 5, 1) := by decide +kernel
theorem dX1_thickBeside_27 : decode cX1_thickBeside 27 = .ok (.if_icmp .ge 14, 3) := by decide +kernel
theorem dX1_thickBeside_30 : decode cX1_thickBeside 30 = .ok (.aload_n 0, 1) := by decide +kernel
theorem dX1_thickBeside_31 : decode cX1_thickBeside 31 = .ok (.getfield 15, 3) := by decide +kernel
theorem dX1_thickBeside_34 : decode cX1_thickBeside 34 = .ok (.iload_n 1, 1) := by decide +kernel
theorem dX1_thickBeside_35 : decode cX1_thickBeside 35 = .ok (.iconst 1, 1) := by decide +kernel
theorem dX1_thickBeside_36 : decode cX1_thickBeside 36 = .ok (.iadd, 1) := by decide +kernel
theorem dX1_thickBeside_37 : decode cX1_thickBeside 37 = .ok (.iaload, 1) := by decide +kernel
theorem dX1_thickBeside_38 : decode cX1_thickBeside 38 = .ok (.goto 4, 3) := by decide +kernel
theorem dX1_thickBeside_41 : decode cX1_thickBeside 41 = .ok (.iconst 0, 1) := by decide +kernel
theorem dX1_thickBeside_42 : decode cX1_thickBeside 42 = .ok (.istore 4, 2) := by decide +kernel
theorem dX1_thickBeside_44 : decode cX1_thickBeside 44 = .ok (.iload_n 1, 1) := by decide +kernel
theorem dX1_thickBeside_45 : decode cX1_thickBeside 45 = .ok (.bipush 24, 2) := by decide +kernel
theorem dX1_thickBeside_47 : decode cX1_thickBeside 47 = .ok (.if_icmp .ge 15, 3) := by decide +kernel
theorem dX1_thickBeside_50 : decode cX1_thickBeside 50 = .ok (.aload_n 0, 1) := by decide +kernel
theorem dX1_thickBeside_51 : decode cX1_thickBeside 51 = .ok (.getfield 15, 3) := by decide +kernel
theorem dX1_thickBeside_54 : decode cX1_thickBeside 54 = .ok (.iload_n 1, 1) := by decide +kernel
theorem dX1_thickBeside_55 : decode cX1_thickBeside 55 = .ok (.bipush 6, 2) := by decide +kernel
theorem dX1_thickBeside_57 : decode cX1_thickBeside 57 = .ok (.iadd, 1) := by decide +kernel
theorem dX1_thickBeside_58 : decode cX1_thickBeside 58 = .ok (.iaload, 1) := by decide +kernel
theorem dX1_thickBeside_59 : decode cX1_thickBeside 59 = .ok (.goto 4, 3) := by decide +kernel
theorem dX1_thickBeside_62 : decode cX1_thickBeside 62 = .ok (.iconst 0, 1) := by decide +kernel
theorem dX1_thickBeside_63 : decode cX1_thickBeside 63 = .ok (.istore 5, 2) := by decide +kernel
theorem dX1_thickBeside_65 : decode cX1_thickBeside 65 = .ok (.iload_n 2, 1) := by decide +kernel
theorem dX1_thickBeside_66 : decode cX1_thickBeside 66 = .ok (.ifCond .le 14, 3) := by decide +kernel
theorem dX1_thickBeside_69 : decode cX1_thickBeside 69 = .ok (.aload_n 0, 1) := by decide +kernel
theorem dX1_thickBeside_70 : decode cX1_thickBeside 70 = .ok (.getfield 15, 3) := by decide +kernel
theorem dX1_thickBeside_73 : decode cX1_thickBeside 73 = .ok (.iload_n 1, 1) := by decide +kernel
theorem dX1_thickBeside_74 : decode cX1_thickBeside 74 = .ok (.iconst 1, 1) := by decide +kernel
theorem dX1_thickBeside_75 : decode cX1_thickBeside 75 = .ok (.isub, 1) := by decide +kernel
theorem dX1_thickBeside_76 : decode cX1_thickBeside 76 = .ok (.iaload, 1) := by decide +kernel
theorem dX1_thickBeside_77 : decode cX1_thickBeside 77 = .ok (.goto 4, 3) := by decide +kernel
theorem dX1_thickBeside_80 : decode cX1_thickBeside 80 = .ok (.iconst 0, 1) := by decide +kernel
theorem dX1_thickBeside_81 : decode cX1_thickBeside 81 = .ok (.istore 6, 2) := by decide +kernel
theorem dX1_thickBeside_83 : decode cX1_thickBeside 83 = .ok (.iload_n 3, 1) := by decide +kernel
theorem dX1_thickBeside_84 : decode cX1_thickBeside 84 = .ok (.iload 4, 2) := by decide +kernel
theorem dX1_thickBeside_86 : decode cX1_thickBeside 86 = .ok (.iadd, 1) := by decide +kernel
theorem dX1_thickBeside_87 : decode cX1_thickBeside 87 = .ok (.iload 5, 2) := by decide +kernel
theorem dX1_thickBeside_89 : decode cX1_thickBeside 89 = .ok (.iadd, 1) := by decide +kernel
theorem dX1_thickBeside_90 : decode cX1_thickBeside 90 = .ok (.iload 6, 2) := by decide +kernel
theorem dX1_thickBeside_92 : decode cX1_thickBeside 92 = .ok (.iadd, 1) := by decide +kernel
theorem dX1_thickBeside_93 : decode cX1_thickBeside 93 = .ok (.ireturn, 1) := by decide +kernel
theorem dX1_passMonth_0 : decode cX1_passMonth 0 = .ok (.aload_n 0, 1) := by decide +kernel
theorem dX1_passMonth_1 : decode cX1_passMonth 1 = .ok (.invokevirtual 34, 3) := by decide +kernel
theorem dX1_passMonth_4 : decode cX1_passMonth 4 = .ok (.aload_n 0, 1) := by decide +kernel
theorem dX1_passMonth_5 : decode cX1_passMonth 5 = .ok (.getfield 21, 3) := by decide +kernel
theorem dX1_passMonth_8 : decode cX1_passMonth 8 = .ok (.iconst 0, 1) := by decide +kernel
theorem dX1_passMonth_9 : decode cX1_passMonth 9 = .ok (.dup2, 1) := by decide +kernel
theorem dX1_passMonth_10 : decode cX1_passMonth 10 = .ok (.iaload, 1) := by decide +kernel
theorem dX1_passMonth_11 : decode cX1_passMonth 11 = .ok (.iconst 1, 1) := by decide +kernel
theorem dX1_passMonth_12 : decode cX1_passMonth 12 = .ok (.iadd, 1) := by decide +kernel
theorem dX1_passMonth_13 : decode cX1_passMonth 13 = .ok (.iastore, 1) := by decide +kernel
theorem dX1_passMonth_14 : decode cX1_passMonth 14 = .ok (.iload_n 1, 1) := by decide +kernel
theorem dX1_passMonth_15 : decode cX1_passMonth 15 = .ok (.ifCond .le 35, 3) := by decide +kernel
theorem dX1_passMonth_18 : decode cX1_passMonth 18 = .ok (.aload_n 0, 1) := by decide +kernel
theorem dX1_passMonth_19 : decode cX1_passMonth 19 = .ok (.getfield 21, 3) := by decide +kernel
theorem dX1_passMonth_22 : decode cX1_passMonth 22 = .ok (.iconst 0, 1) := by decide +kernel
theorem dX1_passMonth_23 : decode cX1_passMonth 23 = .ok (.iaload, 1) := by decide +kernel
theorem dX1_passMonth_24 : decode cX1_passMonth 24 = .ok (.iload_n 1, 1) := by decide +kernel
theorem dX1_passMonth_25 : decode cX1_passMonth 25 = .ok (.irem, 1) := by decide +kernel
theorem dX1_passMonth_26 : decode cX1_passMonth 26 = .ok (.ifCond .ne 24, 3) := by decide +kernel
theorem dX1_passMonth_29 : decode cX1_passMonth 29 = .ok (.aload_n 0, 1) := by decide +kernel
theorem dX1_passMonth_30 : decode cX1_passMonth 30 = .ok (.getfield 9, 3) := by decide +kernel
theorem dX1_passMonth_33 : decode cX1_passMonth 33 = .ok (.invokestatic 37, 3) := by decide +kernel
theorem dX1_passMonth_36 : decode cX1_passMonth 36 = .ok (.aload_n 0, 1) := by decide +kernel
theorem dX1_passMonth_37 : decode cX1_passMonth 37 = .ok (.getfield 15, 3) := by decide +kernel
theorem dX1_passMonth_40 : decode cX1_passMonth 40 = .ok (.invokestatic 37, 3) := by decide +kernel
theorem dX1_passMonth_43 : decode cX1_passMonth 43 = .ok (.aload_n 0, 1) := by decide +kernel
theorem dX1_passMonth_44 : decode cX1_passMonth 44 = .ok (.getfield 18, 3) := by decide +kernel
theorem dX1_passMonth_47 : decode cX1_passMonth 47 = .ok (.invokestatic 37, 3) := by decide +kernel
theorem dX1_passMonth_50 : decode cX1_passMonth 50 = .ok (.aload_n 0, 1) := by decide +kernel
theorem dX1_passMonth_51 : decode cX1_passMonth 51 = .ok (.aload_n 0, 1) := by decide +kernel
theorem dX1_passMonth_52 : decode cX1_passMonth 52 = .ok (.getfield 30, 3) := by decide +kernel
theorem dX1_passMonth_55 : decode cX1_passMonth 55 = .ok (.iconst 1, 1) := by decide +kernel
theorem dX1_passMonth_56 : decode cX1_passMonth 56 = .ok (.iadd, 1) := by decide +kernel
theorem dX1_passMonth_57 : decode cX1_passMonth 57 = .ok (.bipush 12, 2) := by decide +kernel
theorem dX1_passMonth_59 : decode cX1_passMonth 59 = .ok (.irem, 1) := by decide +kernel
theorem dX1_passMonth_60 : decode cX1_passMonth 60 = .ok (.putfield 30, 3) := by decide +kernel
theorem dX1_passMonth_63 : decode cX1_passMonth 63 = .ok (.return_, 1) := by decide +kernel
theorem dX1_wear_0 : decode cX1_wear 0 = .ok (.iconst 0, 1) := by decide +kernel
theorem dX1_wear_1 : decode cX1_wear 1 = .ok (.istore_n 1, 1) := by decide +kernel
theorem dX1_wear_2 : decode cX1_wear 2 = .ok (.iload_n 1, 1) := by decide +kernel
theorem dX1_wear_3 : decode cX1_wear 3 = .ok (.bipush 30, 2) := by decide +kernel
theorem dX1_wear_5 : decode cX1_wear 5 = .ok (.if_icmp .ge 56, 3) := by decide +kernel
theorem dX1_wear_8 : decode cX1_wear 8 = .ok (.aload_n 0, 1) := by decide +kernel
theorem dX1_wear_9 : decode cX1_wear 9 = .ok (.getfield 15, 3) := by decide +kernel
theorem dX1_wear_12 : decode cX1_wear 12 = .ok (.iload_n 1, 1) := by decide +kernel
theorem dX1_wear_13 : decode cX1_wear 13 = .ok (.iaload, 1) := by decide +kernel
theorem dX1_wear_14 : decode cX1_wear 14 = .ok (.ifCond .le 41, 3) := by decide +kernel
theorem dX1_wear_17 : decode cX1_wear 17 = .ok (.aload_n 0, 1) := by decide +kernel
theorem dX1_wear_18 : decode cX1_wear 18 = .ok (.getfield 18, 3) := by decide +kernel
theorem dX1_wear_21 : decode cX1_wear 21 = .ok (.iload_n 1, 1) := by decide +kernel
theorem dX1_wear_22 : decode cX1_wear 22 = .ok (.dup2, 1) := by decide +kernel
theorem dX1_wear_23 : decode cX1_wear 23 = .ok (.iaload, 1) := by decide +kernel
theorem dX1_wear_24 : decode cX1_wear 24 = .ok (.iconst 1, 1) := by decide +kernel
theorem dX1_wear_25 : decode cX1_wear 25 = .ok (.iadd, 1) := by decide +kernel
theorem dX1_wear_26 : decode cX1_wear 26 = .ok (.iastore, 1) := by decide +kernel
theorem dX1_wear_27 : decode cX1_wear 27 = .ok (.aload_n 0, 1) := by decide +kernel
theorem dX1_wear_28 : decode cX1_wear 28 = .ok (.getfield 18, 3) := by decide +kernel
theorem dX1_wear_31 : decode cX1_wear 31 = .ok (.iload_n 1, 1) := by decide +kernel
theorem dX1_wear_32 : decode cX1_wear 32 = .ok (.iaload, 1) := by decide +kernel
theorem dX1_wear_33 : decode cX1_wear 33 = .ok (.bipush 12, 2) := by decide +kernel
theorem dX1_wear_35 : decode cX1_wear 35 = .ok (.if_icmp .lt 20, 3) := by decide +kernel
theorem dX1_wear_38 : decode cX1_wear 38 = .ok (.aload_n 0, 1) := by decide +kernel
theorem dX1_wear_39 : decode cX1_wear 39 = .ok (.getfield 15, 3) := by decide +kernel
theorem dX1_wear_42 : decode cX1_wear 42 = .ok (.iload_n 1, 1) := by decide +kernel
theorem dX1_wear_43 : decode cX1_wear 43 = .ok (.dup2, 1) := by decide +kernel
theorem dX1_wear_44 : decode cX1_wear 44 = .ok (.iaload, 1) := by decide +kernel
theorem dX1_wear_45 : decode cX1_wear 45 = .ok (.iconst 1, 1) := by decide +kernel
theorem dX1_wear_46 : decode cX1_wear 46 = .ok (.isub, 1) := by decide +kernel
theorem dX1_wear_47 : decode cX1_wear 47 = .ok (.iastore, 1) := by decide +kernel
theorem dX1_wear_48 : decode cX1_wear 48 = .ok (.aload_n 0, 1) := by decide +kernel
theorem dX1_wear_49 : decode cX1_wear 49 = .ok (.getfield 18, 3) := by decide +kernel
theorem dX1_wear_52 : decode cX1_wear 52 = .ok (.iload_n 1, 1) := by decide +kernel
theorem dX1_wear_53 : decode cX1_wear 53 = .ok (.iconst 0, 1) := by decide +kernel
theorem dX1_wear_54 : decode cX1_wear 54 = .ok (.iastore, 1) := by decide +kernel
theorem dX1_wear_55 : decode cX1_wear 55 = .ok (.iinc 1 1, 3) := by decide +kernel
theorem dX1_wear_58 : decode cX1_wear 58 = .ok (.goto (-56), 3) := by decide +kernel
theorem dX1_wear_61 : decode cX1_wear 61 = .ok (.return_, 1) := by decide +kernel
theorem dX1_slideDown_0 : decode cX1_slideDown 0 = .ok (.iconst 0, 1) := by decide +kernel
theorem dX1_slideDown_1 : decode cX1_slideDown 1 = .ok (.istore_n 1, 1) := by decide +kernel
theorem dX1_slideDown_2 : decode cX1_slideDown 2 = .ok (.iload_n 1, 1) := by decide +kernel
theorem dX1_slideDown_3 : decode cX1_slideDown 3 = .ok (.bipush 6, 2) := by decide +kernel
theorem dX1_slideDown_5 : decode cX1_slideDown 5 = .ok (.if_icmp .ge 46, 3) := by decide +kernel
theorem dX1_slideDown_8 : decode cX1_slideDown 8 = .ok (.aload_n 0, 1) := by decide +kernel
theorem dX1_slideDown_9 : decode cX1_slideDown 9 = .ok (.bipush 24, 2) := by decide +kernel
theorem dX1_slideDown_11 : decode cX1_slideDown 11 = .ok (.iload_n 1, 1) := by decide +kernel
theorem dX1_slideDown_12 : decode cX1_slideDown 12 = .ok (.iadd, 1) := by decide +kernel
theorem dX1_slideDown_13 : decode cX1_slideDown 13 = .ok (.iaload, 1) := by decide +kernel
theorem dX1_slideDown_14 : decode cX1_slideDown 14 = .ok (.istore_n 2, 1) := by decide +kernel
theorem dX1_slideDown_15 : decode cX1_slideDown 15 = .ok (.bipush 24, 2) := by decide +kernel
theorem dX1_slideDown_17 : decode cX1_slideDown 17 = .ok (.iload_n 1, 1) := by decide +kernel
theorem dX1_slideDown_18 : decode cX1_slideDown 18 = .ok (.iadd, 1) := by decide +kernel
theorem dX1_slideDown_19 : decode cX1_slideDown 19 = .ok (.istore_n 3, 1) := by decide +kernel
theorem dX1_slideDown_20 : decode cX1_slideDown 20 = .ok (.iload_n 3, 1) := by decide +kernel
theorem dX1_slideDown_21 : decode cX1_slideDown 21 = .ok (.bipush 6, 2) := by decide +kernel
theorem dX1_slideDown_23 : decode cX1_slideDown 23 = .ok (.if_icmp .lt 18, 3) := by decide +kernel
theorem dX1_slideDown_26 : decode cX1_slideDown 26 = .ok (.aload_n 0, 1) := by decide +kernel
theorem dX1_slideDown_27 : decode cX1_slideDown 27 = .ok (.iload_n 3, 1) := by decide +kernel
theorem dX1_slideDown_28 : decode cX1_slideDown 28 = .ok (.aload_n 0, 1) := by decide +kernel
theorem dX1_slideDown_29 : decode cX1_slideDown 29 = .ok (.iload_n 3, 1) := by decide +kernel
theorem dX1_slideDown_30 : decode cX1_slideDown 30 = .ok (.bipush 6, 2) := by decide +kernel
theorem dX1_slideDown_32 : decode cX1_slideDown 32 = .ok (.isub, 1) := by decide +kernel
theorem dX1_slideDown_33 : decode cX1_slideDown 33 = .ok (.iaload, 1) := by decide +kernel
theorem dX1_slideDown_34 : decode cX1_slideDown 34 = .ok (.iastore, 1) := by decide +kernel
theorem dX1_slideDown_35 : decode cX1_slideDown 35 = .ok (.iinc 3 (-6), 3) := by decide +kernel
theorem dX1_slideDown_38 : decode cX1_slideDown 38 = .ok (.goto (-18), 3) := by decide +kernel
theorem dX1_slideDown_41 : decode cX1_slideDown 41 = .ok (.aload_n 0, 1) := by decide +kernel
theorem dX1_slideDown_42 : decode cX1_slideDown 42 = .ok (.iload_n 1, 1) := by decide +kernel
theorem dX1_slideDown_43 : decode cX1_slideDown 43 = .ok (.iload_n 2, 1) := by decide +kernel
theorem dX1_slideDown_44 : decode cX1_slideDown 44 = .ok (.iastore, 1) := by decide +kernel
theorem dX1_slideDown_45 : decode cX1_slideDown 45 = .ok (.iinc 1 1, 3) := by decide +kernel
theorem dX1_slideDown_48 : decode cX1_slideDown 48 = .ok (.goto (-46), 3) := by decide +kernel
theorem dX1_slideDown_51 : decode cX1_slideDown 51 = .ok (.return_, 1) := by decide +kernel
theorem dX1_moveRow_0 : decode cX1_moveRow 0 = .ok (.aload_n 0, 1) := by decide +kernel
theorem dX1_moveRow_1 : decode cX1_moveRow 1 = .ok (.getfield 9, 3) := by decide +kernel
theorem dX1_moveRow_4 : decode cX1_moveRow 4 = .ok (.iload_n 1, 1) := by decide +kernel
theorem dX1_moveRow_5 : decode cX1_moveRow 5 = .ok (.bipush 6, 2) := by decide +kernel
theorem dX1_moveRow_7 : decode cX1_moveRow 7 = .ok (.imul, 1) := by decide +kernel
theorem dX1_moveRow_8 : decode cX1_moveRow 8 = .ok (.iload_n 2, 1) := by decide +kernel
theorem dX1_moveRow_9 : decode cX1_moveRow 9 = .ok (.invokestatic 41, 3) := by decide +kernel
theorem dX1_moveRow_12 : decode cX1_moveRow 12 = .ok (.aload_n 0, 1) := by decide +kernel
theorem dX1_moveRow_13 : decode cX1_moveRow 13 = .ok (.getfield 15, 3) := by decide +kernel
theorem dX1_moveRow_16 : decode cX1_moveRow 16 = .ok (.iload_n 1, 1) := by decide +kernel
theorem dX1_moveRow_17 : decode cX1_moveRow 17 = .ok (.bipush 6, 2) := by decide +kernel
theorem dX1_moveRow_19 : decode cX1_moveRow 19 = .ok (.imul, 1) := by decide +kernel
theorem dX1_moveRow_20 : decode cX1_moveRow 20 = .ok (.iload_n 2, 1) := by decide +kernel
theorem dX1_moveRow_21 : decode cX1_moveRow 21 = .ok (.invokestatic 41, 3) := by decide +kernel
theorem dX1_moveRow_24 : decode cX1_moveRow 24 = .ok (.aload_n 0, 1) := by decide +kernel
theorem dX1_moveRow_25 : decode cX1_moveRow 25 = .ok (.getfield 18, 3) := by decide +kernel
theorem dX1_moveRow_28 : decode cX1_moveRow 28 = .ok (.iload_n 1, 1) := by decide +kernel
theorem dX1_moveRow_29 : decode cX1_moveRow 29 = .ok (.bipush 6, 2) := by decide +kernel
theorem dX1_moveRow_31 : decode cX1_moveRow 31 = .ok (.imul, 1) := by decide +kernel
theorem dX1_moveRow_32 : decode cX1_moveRow 32 = .ok (.iload_n 2, 1) := by decide +kernel
theorem dX1_moveRow_33 : decode cX1_moveRow 33 = .ok (.invokestatic 41, 3) := by decide +kernel
theorem dX1_moveRow_36 : decode cX1_moveRow 36 = .ok (.return_, 1) := by decide +kernel
theorem dX1_turn_0 : decode cX1_turn 0 = .ok (.iload_n 1, 1) := by decide +kernel
theorem dX1_turn_1 : decode cX1_turn 1 = .ok (.bipush 6, 2) := by decide +kernel
theorem dX1_turn_3 : decode cX1_turn 3 = .ok (.iadd, 1) := by decide +kernel
theorem dX1_turn_4 : decode cX1_turn 4 = .ok (.iconst 1, 1) := by decide +kernel
theorem dX1_turn_5 : decode cX1_turn 5 = .ok (.isub, 1) := by decide +kernel
theorem dX1_turn_6 : decode cX1_turn 6 = .ok (.istore_n 3, 1) := by decide +kernel
theorem dX1_turn_7 : decode cX1_turn 7 = .ok (.iload_n 2, 1) := by decide +kernel
theorem dX1_turn_8 : decode cX1_turn 8 = .ok (.ifCond .ne 26, 3) := by decide +kernel
theorem dX1_turn_11 : decode cX1_turn 11 = .ok (.aload_n 0, 1) := by decide +kernel
theorem dX1_turn_12 : decode cX1_turn 12 = .ok (.iload_n 3, 1) := by decide +kernel
theorem dX1_turn_13 : decode cX1_turn 13 = .ok (.iaload, 1) := by decide +kernel
theorem dX1_turn_14 : decode cX1_turn 14 = .ok (.istore 4, 2) := by decide +kernel
theorem dX1_turn_16 : decode cX1_turn 16 = .ok (.aload_n 0, 1) := by decide +kernel
theorem dX1_turn_17 : decode cX1_turn 17 = .ok (.iload_n 1, 1) := by decide +kernel
theorem dX1_turn_18 : decode cX1_turn 18 = .ok (.aload_n 0, 1) := by decide +kernel
theorem dX1_turn_19 : decode cX1_turn 19 = .ok (.iload_n 1, 1) := by decide +kernel
theorem dX1_turn_20 : decode cX1_turn 20 = .ok (.iconst 1, 1) := by decide +kernel
theorem dX1_turn_21 : decode cX1_turn 21 = .ok (.iadd, 1) := by decide +kernel
theorem dX1_turn_22 : decode cX1_turn 22 = .ok (.iconst 5, 1) := by decide +kernel
theorem dX1_turn_23 : decode cX1_turn 23 = .ok (.invokestatic 24, 3) := by decide +kernel
theorem dX1_turn_26 : decode cX1_turn 26 = .ok (.aload_n 0, 1) := by decide +kernel
theorem dX1_turn_27 : decode cX1_turn 27 = .ok (.iload_n 1, 1) := by decide +kernel
theorem dX1_turn_28 : decode cX1_turn 28 = .ok (.iload 4, 2) := by decide +kernel
theorem dX1_turn_30 : decode cX1_turn 30 = .ok (.iastore, 1) := by decide +kernel
theorem dX1_turn_31 : decode cX1_turn 31 = .ok (.goto 23, 3) := by decide +kernel
theorem dX1_turn_34 : decode cX1_turn 34 = .ok (.aload_n 0, 1) := by decide +kernel
theorem dX1_turn_35 : decode cX1_turn 35 = .ok (.iload_n 1, 1) := by decide +kernel
theorem dX1_turn_36 : decode cX1_turn 36 = .ok (.iaload, 1) := by decide +kernel
theorem dX1_turn_37 : decode cX1_turn 37 = .ok (.istore 4, 2) := by decide +kernel
theorem dX1_turn_39 : decode cX1_turn 39 = .ok (.aload_n 0, 1) := by decide +kernel
theorem dX1_turn_40 : decode cX1_turn 40 = .ok (.iload_n 1, 1) := by decide +kernel
theorem dX1_turn_41 : decode cX1_turn 41 = .ok (.iconst 1, 1) := by decide +kernel
theorem dX1_turn_42 : decode cX1_turn 42 = .ok (.iadd, 1) := by decide +kernel
theorem dX1_turn_43 : decode cX1_turn 43 = .ok (.aload_n 0, 1) := by decide +kernel
theorem dX1_turn_44 : decode cX1_turn 44 = .ok (.iload_n 1, 1) := by decide +kernel
theorem dX1_turn_45 : decode cX1_turn 45 = .ok (.iconst 5, 1) := by decide +kernel
theorem dX1_turn_46 : decode cX1_turn 46 = .ok (.invokestatic 24, 3) := by decide +kernel
theorem dX1_turn_49 : decode cX1_turn 49 = .ok (.aload_n 0, 1) := by decide +kernel
theorem dX1_turn_50 : decode cX1_turn 50 = .ok (.iload_n 3, 1) := by decide +kernel
theorem dX1_turn_51 : decode cX1_turn 51 = .ok (.iload 4, 2) := by decide +kernel
theorem dX1_turn_53 : decode cX1_turn 53 = .ok (.iastore, 1) := by decide +kernel
theorem dX1_turn_54 : decode cX1_turn 54 = .ok (.return_, 1) := by decide +kernel
theorem dX1_mixAbout_0 : decode cX1_mixAbout 0 = .ok (.iconst 0, 1) := by decide +kernel
theorem dX1_mixAbout_1 : decode cX1_mixAbout 1 = .ok (.istore_n 2, 1) := by decide +kernel
theorem dX1_mixAbout_2 : decode cX1_mixAbout 2 = .ok (.iconst 0, 1) := by decide +kernel
theorem dX1_mixAbout_3 : decode cX1_mixAbout 3 = .ok (.istore_n 3, 1) := by decide +kernel
theorem dX1_mixAbout_4 : decode cX1_mixAbout 4 = .ok (.iload_n 3, 1) := by decide +kernel
theorem dX1_mixAbout_5 : decode cX1_mixAbout 5 = .ok (.bipush 9, 2) := by decide +kernel
theorem dX1_mixAbout_7 : decode cX1_mixAbout 7 = .ok (.if_icmp .ge 22, 3) := by decide +kernel
theorem dX1_mixAbout_10 : decode cX1_mixAbout 10 = .ok (.iload_n 2, 1) := by decide +kernel
theorem dX1_mixAbout_11 : decode cX1_mixAbout 11 = .ok (.aload_n 0, 1) := by decide +kernel
theorem dX1_mixAbout_12 : decode cX1_mixAbout 12 = .ok (.getfield 15, 3) := by decide +kernel
theorem dX1_mixAbout_15 : decode cX1_mixAbout 15 = .ok (.iload_n 1, 1) := by decide +kernel
theorem dX1_mixAbout_16 : decode cX1_mixAbout 16 = .ok (.iload_n 3, 1) := by decide +kernel
theorem dX1_mixAbout_17 : decode cX1_mixAbout 17 = .ok (.invokestatic 45, 3) := by decide +kernel
theorem dX1_mixAbout_20 : decode cX1_mixAbout 20 = .ok (.iaload, 1) := by decide +kernel
theorem dX1_mixAbout_21 : decode cX1_mixAbout 21 = .ok (.iadd, 1) := by decide +kernel
theorem dX1_mixAbout_22 : decode cX1_mixAbout 22 = .ok (.istore_n 2, 1) := by decide +kernel
theorem dX1_mixAbout_23 : decode cX1_mixAbout 23 = .ok (.iinc 3 1, 3) := by decide +kernel
theorem dX1_mixAbout_26 : decode cX1_mixAbout 26 = .ok (.goto (-22), 3) := by decide +kernel
theorem dX1_mixAbout_29 : decode cX1_mixAbout 29 = .ok (.iconst 0, 1) := by decide +kernel
theorem dX1_mixAbout_30 : decode cX1_mixAbout 30 = .ok (.istore_n 3, 1) := by decide +kernel
theorem dX1_mixAbout_31 : decode cX1_mixAbout 31 = .ok (.iload_n 3, 1) := by decide +kernel
theorem dX1_mixAbout_32 : decode cX1_mixAbout 32 = .ok (.bipush 9, 2) := by decide +kernel
theorem dX1_mixAbout_34 : decode cX1_mixAbout 34 = .ok (.if_icmp .ge 23, 3) := by decide +kernel
theorem dX1_mixAbout_37 : decode cX1_mixAbout 37 = .ok (.aload_n 0, 1) := by decide +kernel
theorem dX1_mixAbout_38 : decode cX1_mixAbout 38 = .ok (.getfield 15, 3) := by decide +kernel
theorem dX1_mixAbout_41 : decode cX1_mixAbout 41 = .ok (.iload_n 1, 1) := by decide +kernel
theorem dX1_mixAbout_42 : decode cX1_mixAbout 42 = .ok (.iload_n 3, 1) := by decide +kernel
theorem dX1_mixAbout_43 : decode cX1_mixAbout 43 = .ok (.invokestatic 45, 3) := by decide +kernel
theorem dX1_mixAbout_46 : decode cX1_mixAbout 46 = .ok (.iload_n 2, 1) := by decide +kernel
theorem dX1_mixAbout_47 : decode cX1_mixAbout 47 = .ok (.bipush 9, 2) := by decide +kernel
theorem dX1_mixAbout_49 : decode cX1_mixAbout 49 = .ok (.idiv, 1) := by decide +kernel
theorem dX1_mixAbout_50 : decode cX1_mixAbout 50 = .ok (.iastore, 1) := by decide +kernel
theorem dX1_mixAbout_51 : decode cX1_mixAbout 51 = .ok (.iinc 3 1, 3) := by decide +kernel
theorem dX1_mixAbout_54 : decode cX1_mixAbout 54 = .ok (.goto (-23), 3) := by decide +kernel
theorem dX1_mixAbout_57 : decode cX1_mixAbout 57 = .ok (.aload_n 0, 1) := by decide +kernel
theorem dX1_mixAbout_58 : decode cX1_mixAbout 58 = .ok (.getfield 15, 3) := by decide +kernel
theorem dX1_mixAbout_61 : decode cX1_mixAbout 61 = .ok (.iload_n 1, 1) := by decide +kernel
theorem dX1_mixAbout_62 : decode cX1_mixAbout 62 = .ok (.bipush 9, 2) := by decide +kernel
theorem dX1_mixAbout_64 : decode cX1_mixAbout 64 = .ok (.iload_n 2, 1) := by decide +kernel
theorem dX1_mixAbout_65 : decode cX1_mixAbout 65 = .ok (.bipush 9, 2) := by decide +kernel
theorem dX1_mixAbout_67 : decode cX1_mixAbout 67 = .ok (.idiv, 1) := by decide +kernel
theorem dX1_mixAbout_68 : decode cX1_mixAbout 68 = .ok (.iload_n 2, 1) := by decide +kernel
theorem dX1_mixAbout_69 : decode cX1_mixAbout 69 = .ok (.bipush 9, 2) := by decide +kernel
theorem dX1_mixAbout_71 : decode cX1_mixAbout 71 = .ok (.irem, 1) := by decide +kernel
theorem dX1_mixAbout_72 : decode cX1_mixAbout 72 = .ok (.iadd, 1) := by decide +kernel
theorem dX1_mixAbout_73 : decode cX1_mixAbout 73 = .ok (.invokestatic 49, 3) := by decide +kernel
theorem dX1_mixAbout_76 : decode cX1_mixAbout 76 = .ok (.iastore, 1) := by decide +kernel
theorem dX1_mixAbout_77 : decode cX1_mixAbout 77 = .ok (.return_, 1) := by decide +kernel
theorem dX1_ninth_0 : decode cX1_ninth 0 = .ok (.iload_n 0, 1) := by decide +kernel
theorem dX1_ninth_1 : decode cX1_ninth 1 = .ok (.iload_n 1, 1) := by decide +kernel
theorem dX1_ninth_2 : decode cX1_ninth 2 = .ok (.iconst 3, 1) := by decide +kernel
theorem dX1_ninth_3 : decode cX1_ninth 3 = .ok (.idiv, 1) := by decide +kernel
theorem dX1_ninth_4 : decode cX1_ninth 4 = .ok (.iconst 1, 1) := by decide +kernel
theorem dX1_ninth_5 : decode cX1_ninth 5 = .ok (.isub, 1) := by decide +kernel
theorem dX1_ninth_6 : decode cX1_ninth 6 = .ok (.bipush 6, 2) := by decide +kernel
theorem dX1_ninth_8 : decode cX1_ninth 8 = .ok (.imul, 1) := by decide +kernel
theorem dX1_ninth_9 : decode cX1_ninth 9 = .ok (.iadd, 1) := by decide +kernel
theorem dX1_ninth_10 : decode cX1_ninth 10 = .ok (.iload_n 1, 1) := by decide +kernel
theorem dX1_ninth_11 : decode cX1_ninth 11 = .ok (.iconst 3, 1) := by decide +kernel
theorem dX1_ninth_12 : decode cX1_ninth 12 = .ok (.irem, 1) := by decide +kernel
theorem dX1_ninth_13 : decode cX1_ninth 13 = .ok (.iadd, 1) := by decide +kernel
theorem dX1_ninth_14 : decode cX1_ninth 14 = .ok (.iconst 1, 1) := by decide +kernel
theorem dX1_ninth_15 : decode cX1_ninth 15 = .ok (.isub, 1) := by decide +kernel
theorem dX1_ninth_16 : decode cX1_ninth 16 = .ok (.ireturn, 1) := by decide +kernel
theorem dX2_init_0 : decode cX2_init 0 = .ok (.aload_n 0, 1) := by decide +kernel
theorem dX2_init_1 : decode cX2_init 1 = .ok (.invokespecial 3, 3) := by decide +kernel
theorem dX2_init_4 : decode cX2_init 4 = .ok (.aload_n 0, 1) := by decide +kernel
theorem dX2_init_5 : decode cX2_init 5 = .ok (.bipush 120, 2) := by decide +kernel
theorem dX2_init_7 : decode cX2_init 7 = .ok (.newarray .int, 2) := by decide +kernel
theorem dX2_init_9 : decode cX2_init 9 = .ok (.putfield 9, 3) := by decide +kernel
theorem dX2_init_12 : decode cX2_init 12 = .ok (.aload_n 0, 1) := by decide +kernel
theorem dX2_init_13 : decode cX2_init 13 = .ok (.bipush 120, 2) := by decide +kernel
theorem dX2_init_15 : decode cX2_init 15 = .ok (.newarray .int, 2) := by decide +kernel
theorem dX2_init_17 : decode cX2_init 17 = .ok (.putfield 15, 3) := by decide +kernel
theorem dX2_init_20 : decode cX2_init 20 = .ok (.aload_n 0, 1) := by decide +kernel
theorem dX2_init_21 : decode cX2_init 21 = .ok (.bipush 120, 2) := by decide +kernel
theorem dX2_init_23 : decode cX2_init 23 = .ok (.newarray .int, 2) := by decide +kernel
theorem dX2_init_25 : decode cX2_init 25 = .ok (.putfield 18, 3) := by decide +kernel
theorem dX2_init_28 : decode cX2_init 28 = .ok (.aload_n 0, 1) := by decide +kernel
theorem dX2_init_29 : decode cX2_init 29 = .ok (.bipush 120, 2) := by decide +kernel
theorem dX2_init_31 : decode cX2_init 31 = .ok (.newarray .boolean, 2) := by decide +kernel
theorem dX2_init_33 : decode cX2_init 33 = .ok (.putfield 21, 3) := by decide +kernel
theorem dX2_init_36 : decode cX2_init 36 = .ok (.aload_n 0, 1) := by decide +kernel
theorem dX2_init_37 : decode cX2_init 37 = .ok (.bipush 120, 2) := by decide +kernel
theorem dX2_init_39 : decode cX2_init 39 = .ok (.newarray .int, 2) := by decide +kernel
theorem dX2_init_41 : decode cX2_init 41 = .ok (.putfield 25, 3) := by decide +kernel
theorem dX2_init_44 : decode cX2_init 44 = .ok (.aload_n 0, 1) := by decide +kernel
theorem dX2_init_45 : decode cX2_init 45 = .ok (.bipush 6, 2) := by decide +kernel
theorem dX2_init_47 : decode cX2_init 47 = .ok (.newarray .int, 2) := by decide +kernel
theorem dX2_init_49 : decode cX2_init 49 = .ok (.putfield 28, 3) := by decide +kernel
theorem dX2_init_52 : decode cX2_init 52 = .ok (.return_, 1) := by decide +kernel
theorem dX2_clear_0 : decode cX2_clear 0 = .ok (.aload_n 0, 1) := by decide +kernel
theorem dX2_clear_1 : decode cX2_clear 1 = .ok (.iconst 0, 1) := by decide +kernel
theorem dX2_clear_2 : decode cX2_clear 2 = .ok (.putfield 31, 3) := by decide +kernel
theorem dX2_clear_5 : decode cX2_clear 5 = .ok (.aload_n 0, 1) := by decide +kernel
theorem dX2_clear_6 : decode cX2_clear 6 = .ok (.iconst 0, 1) := by decide +kernel
theorem dX2_clear_7 : decode cX2_clear 7 = .ok (.putfield 35, 3) := by decide +kernel
theorem dX2_clear_10 : decode cX2_clear 10 = .ok (.return_, 1) := by decide +kernel
theorem dX2_addSign_0 : decode cX2_addSign 0 = .ok (.aload_n 0, 1) := by decide +kernel
theorem dX2_addSign_1 : decode cX2_addSign 1 = .ok (.getfield 31, 3) := by decide +kernel
theorem dX2_addSign_4 : decode cX2_addSign 4 = .ok (.bipush 120, 2) := by decide +kernel
theorem dX2_addSign_6 : decode cX2_addSign 6 = .ok (.if_icmp .ge 33, 3) := by decide +kernel
theorem dX2_addSign_9 : decode cX2_addSign 9 = .ok (.aload_n 0, 1) := by decide +kernel
theorem dX2_addSign_10 : decode cX2_addSign 10 = .ok (.getfield 9, 3) := by decide +kernel
theorem dX2_addSign_13 : decode cX2_addSign 13 = .ok (.aload_n 0, 1) := by decide +kernel
theorem dX2_addSign_14 : decode cX2_addSign 14 = .ok (.getfield 31, 3) := by decide +kernel
theorem dX2_addSign_17 : decode cX2_addSign 17 = .ok (.iload_n 1, 1) := by decide +kernel
theorem dX2_addSign_18 : decode cX2_addSign 18 = .ok (.iastore, 1) := by decide +kernel
theorem dX2_addSign_19 : decode cX2_addSign 19 = .ok (.aload_n 0, 1) := by decide +kernel
theorem dX2_addSign_20 : decode cX2_addSign 20 = .ok (.getfield 15, 3) := by decide +kernel
theorem dX2_addSign_23 : decode cX2_addSign 23 = .ok (.aload_n 0, 1) := by decide +kernel
theorem dX2_addSign_24 : decode cX2_addSign 24 = .ok (.getfield 31, 3) := by decide +kernel
theorem dX2_addSign_27 : decode cX2_addSign 27 = .ok (.iload_n 2, 1) := by decide +kernel
theorem dX2_addSign_28 : decode cX2_addSign 28 = .ok (.iastore, 1) := by decide +kernel
theorem dX2_addSign_29 : decode cX2_addSign 29 = .ok (.aload_n 0, 1) := by decide +kernel
theorem dX2_addSign_30 : decode cX2_addSign 30 = .ok (.dup, 1) := by decide +kernel
theorem dX2_addSign_31 : decode cX2_addSign 31 = .ok (.getfield 31, 3) := by decide +kernel
theorem dX2_addSign_34 : decode cX2_addSign 34 = .ok (.iconst 1, 1) := by decide +kernel
theorem dX2_addSign_35 : decode cX2_addSign 35 = .ok (.iadd, 1) := by decide +kernel
theorem dX2_addSign_36 : decode cX2_addSign 36 = .ok (.putfield 31, 3) := by decide +kernel
theorem dX2_addSign_39 : decode cX2_addSign 39 = .ok (.return_, 1) := by decide +kernel
theorem dX2_endPart_0 : decode cX2_endPart 0 = .ok (.aload_n 0, 1) := by decide +kernel
theorem dX2_endPart_1 : decode cX2_endPart 1 = .ok (.getfield 35, 3) := by decide +kernel
theorem dX2_endPart_4 : decode cX2_endPart 4 = .ok (.bipush 120, 2) := by decide +kernel
theorem dX2_endPart_6 : decode cX2_endPart 6 = .ok (.if_icmp .ge 36, 3) := by decide +kernel
theorem dX2_endPart_9 : decode cX2_endPart 9 = .ok (.aload_n 0, 1) := by decide +kernel
theorem dX2_endPart_10 : decode cX2_endPart 10 = .ok (.getfield 18, 3) := by decide +kernel
theorem dX2_endPart_13 : decode cX2_endPart 13 = .ok (.aload_n 0, 1) := by decide +kernel
theorem dX2_endPart_14 : decode cX2_endPart 14 = .ok (.getfield 35, 3) := by decide +kernel
theorem dX2_endPart_17 : decode cX2_endPart 17 = .ok (.aload_n 0, 1) := by decide +kernel
theorem dX2_endPart_18 : decode cX2_endPart 18 = .ok (.getfield 31, 3) := by decide +kernel
theorem dX2_endPart_21 : decode cX2_endPart 21 = .ok (.iastore, 1) := by decide +kernel
theorem dX2_endPart_22 : decode cX2_endPart 22 = .ok (.aload_n 0, 1) := by decide +kernel
theorem dX2_endPart_23 : decode cX2_endPart 23 = .ok (.getfield 21, 3) := by decide +kernel
theorem dX2_endPart_26 : decode cX2_endPart 26 = .ok (.aload_n 0, 1) := by decide +kernel
theorem dX2_endPart_27 : decode cX2_endPart 27 = .ok (.getfield 35, 3) := by decide +kernel
theorem dX2_endPart_30 : decode cX2_endPart 30 = .ok (.iload_n 1, 1) := by decide +kernel
theorem dX2_endPart_31 : decode cX2_endPart 31 = .ok (.bastore, 1) := by decide +kernel
theorem dX2_endPart_32 : decode cX2_endPart 32 = .ok (.aload_n 0, 1) := by decide +kernel
theorem dX2_endPart_33 : decode cX2_endPart 33 = .ok (.dup, 1) := by decide +kernel
theorem dX2_endPart_34 : decode cX2_endPart 34 = .ok (.getfield 35, 3) := by decide +kernel
theorem dX2_endPart_37 : decode cX2_endPart 37 = .ok (.iconst 1, 1) := by decide +kernel
theorem dX2_endPart_38 : decode cX2_endPart 38 = .ok (.iadd, 1) := by decide +kernel
theorem dX2_endPart_39 : decode cX2_endPart 39 = .ok (.putfield 35, 3) := by decide +kernel
theorem dX2_endPart_42 : decode cX2_endPart 42 = .ok (.return_, 1) := by decide +kernel
theorem dX2_warmth_0 : decode cX2_warmth 0 = .ok (.iconst 0, 1) := by decide +kernel
theorem dX2_warmth_1 : decode cX2_warmth 1 = .ok (.istore_n 3, 1) := by decide +kernel
theorem dX2_warmth_2 : decode cX2_warmth 2 = .ok (.aload_n 0, 1) := by decide +kernel
theorem dX2_warmth_3 : decode cX2_warmth 3 = .ok (.getfield 35, 3) := by decide +kernel
theorem dX2_warmth_6 : decode cX2_warmth 6 = .ok (.ifCond .ne 35, 3) := by decide +kernel
theorem dX2_warmth_9 : decode cX2_warmth 9 = .ok (.aload_n 1, 1) := by decide +kernel
theorem dX2_warmth_10 : decode cX2_warmth 10 = .ok (.getfield 38, 3) := by decide +kernel
theorem dX2_warmth_13 : decode cX2_warmth 13 = .ok (.iload_n 2, 1) := by decide +kernel
theorem dX2_warmth_14 : decode cX2_warmth 14 = .ok (.iaload, 1) := by decide +kernel
theorem dX2_warmth_15 : decode cX2_warmth 15 = .ok (.aload_n 1, 1) := by decide +kernel
theorem dX2_warmth_16 : decode cX2_warmth 16 = .ok (.getfield 43, 3) := by decide +kernel
theorem dX2_warmth_19 : decode cX2_warmth 19 = .ok (.iload_n 2, 1) := by decide +kernel
theorem dX2_warmth_20 : decode cX2_warmth 20 = .ok (.iaload, 1) := by decide +kernel
theorem dX2_warmth_21 : decode cX2_warmth 21 = .ok (.imul, 1) := by decide +kernel
theorem dX2_warmth_22 : decode cX2_warmth 22 = .ok (.aload_n 1, 1) := by decide +kernel
theorem dX2_warmth_23 : decode cX2_warmth 23 = .ok (.iload_n 2, 1) := by decide +kernel
theorem dX2_warmth_24 : decode cX2_warmth 24 = .ok (.invokevirtual 46, 3) := by decide +kernel
theorem dX2_warmth_27 : decode cX2_warmth 27 = .ok (.iconst 4, 1) := by decide +kernel
theorem dX2_warmth_28 : decode cX2_warmth 28 = .ok (.idiv, 1) := by decide +kernel
theorem dX2_warmth_29 : decode cX2_warmth 29 = .ok (.iadd, 1) := by decide +kernel
theorem dX2_warmth_30 : decode cX2_warmth 30 = .ok (.aload_n 1, 1) := by decide +kernel
theorem dX2_warmth_31 : decode cX2_warmth 31 = .ok (.getfield 50, 3) := by decide +kernel
theorem dX2_warmth_34 : decode cX2_warmth 34 = .ok (.iload_n 2, 1) := by decide +kernel
theorem dX2_warmth_35 : decode cX2_warmth 35 = .ok (.iaload, 1) := by decide +kernel
theorem dX2_warmth_36 : decode cX2_warmth 36 = .ok (.isub, 1) := by decide +kernel
theorem dX2_warmth_37 : decode cX2_warmth 37 = .ok (.istore_n 3, 1) := by decide +kernel
theorem dX2_warmth_38 : decode cX2_warmth 38 = .ok (.goto 9, 3) := by decide +kernel
theorem dX2_warmth_41 : decode cX2_warmth 41 = .ok (.aload_n 0, 1) := by decide +kernel
theorem dX2_warmth_42 : decode cX2_warmth 42 = .ok (.aload_n 1, 1) := by decide +kernel
theorem dX2_warmth_43 : decode cX2_warmth 43 = .ok (.iload_n 2, 1) := by decide +kernel
theorem dX2_warmth_44 : decode cX2_warmth 44 = .ok (.invokevirtual 53, 3) := by decide +kernel
theorem dX2_warmth_47 : decode cX2_warmth 47 = .ok (.iconst 0, 1) := by decide +kernel
theorem dX2_warmth_48 : decode cX2_warmth 48 = .ok (.istore 4, 2) := by decide +kernel
theorem dX2_warmth_50 : decode cX2_warmth 50 = .ok (.iload 4, 2) := by decide +kernel
theorem dX2_warmth_52 : decode cX2_warmth 52 = .ok (.aload_n 0, 1) := by decide +kernel
theorem dX2_warmth_53 : decode cX2_warmth 53 = .ok (.getfield 35, 3) := by decide +kernel
theorem dX2_warmth_56 : decode cX2_warmth 56 = .ok (.if_icmp .ge 36, 3) := by decide +kernel
theorem dX2_warmth_59 : decode cX2_warmth 59 = .ok (.aload_n 0, 1) := by decide +kernel
theorem dX2_warmth_60 : decode cX2_warmth 60 = .ok (.iload 4, 2) := by decide +kernel
theorem dX2_warmth_62 : decode cX2_warmth 62 = .ok (.invokevirtual 57, 3) := by decide +kernel
theorem dX2_warmth_65 : decode cX2_warmth 65 = .ok (.istore_n 3, 1) := by decide +kernel
theorem dX2_warmth_66 : decode cX2_warmth 66 = .ok (.aload_n 0, 1) := by decide +kernel
theorem dX2_warmth_67 : decode cX2_warmth 67 = .ok (.getfield 21, 3) := by decide +kernel
theorem dX2_warmth_70 : decode cX2_warmth 70 = .ok (.iload 4, 2) := by decide +kernel
theorem dX2_warmth_72 : decode cX2_warmth 72 = .ok (.baload, 1) := by decide +kernel
theorem dX2_warmth_73 : decode cX2_warmth 73 = .ok (.ifCond .ne 6, 3) := by decide +kernel
theorem dX2_warmth_76 : decode cX2_warmth 76 = .ok (.goto 16, 3) := by decide +kernel
theorem dX2_warmth_79 : decode cX2_warmth 79 = .ok (.iload_n 3, 1) := by decide +kernel
theorem dX2_warmth_80 : decode cX2_warmth 80 = .ok (.ifCond .ne 6, 3) := by decide +kernel
theorem dX2_warmth_83 : decode cX2_warmth 83 = .ok (.iinc 4 1, 3) := by decide +kernel
theorem dX2_warmth_86 : decode cX2_warmth 86 = .ok (.iinc 4 1, 3) := by decide +kernel
theorem dX2_warmth_89 : decode cX2_warmth 89 = .ok (.goto (-39), 3) := by decide +kernel
theorem dX2_warmth_92 : decode cX2_warmth 92 = .ok (.iconst 0, 1) := by decide +kernel
theorem dX2_warmth_93 : decode cX2_warmth 93 = .ok (.bipush 99, 2) := by decide +kernel
theorem dX2_warmth_95 : decode cX2_warmth 95 = .ok (.iload_n 3, 1) := by decide +kernel
theorem dX2_warmth_96 : decode cX2_warmth 96 = .ok (.invokestatic 60, 3) := by decide +kernel
theorem dX2_warmth_99 : decode cX2_warmth 99 = .ok (.invokestatic 66, 3) := by decide +kernel
theorem dX2_warmth_102 : decode cX2_warmth 102 = .ok (.ireturn, 1) := by decide +kernel
theorem dX2_lookAt_0 : decode cX2_lookAt 0 = .ok (.aload_n 0, 1) := by decide +kernel
theorem dX2_lookAt_1 : decode cX2_lookAt 1 = .ok (.getfield 28, 3) := by decide +kernel
theorem dX2_lookAt_4 : decode cX2_lookAt 4 = .ok (.iconst 0, 1) := by decide +kernel
theorem dX2_lookAt_5 : decode cX2_lookAt 5 = .ok (.aload_n 1, 1) := by decide +kernel
theorem dX2_lookAt_6 : decode cX2_lookAt 6 = .ok (.getfield 38, 3) := by decide +kernel
theorem dX2_lookAt_9 : decode cX2_lookAt 9 = .ok (.iload_n 2, 1) := by decide +kernel
theorem dX2_lookAt_10 : decode cX2_lookAt 10 = .ok (.iaload, 1) := by decide +kernel
theorem dX2_lookAt_11 : decode cX2_lookAt 11 = .ok (.iastore, 1) := by decide +kernel
theorem dX2_lookAt_12 : decode cX2_lookAt 12 = .ok (.aload_n 0, 1) := by decide +kernel
theorem dX2_lookAt_13 : decode cX2_lookAt 13 = .ok (.getfield 28, 3) := by decide +kernel
theorem dX2_lookAt_16 : decode cX2_lookAt 16 = .ok (.iconst 1, 1) := by decide +kernel
theorem dX2_lookAt_17 : decode cX2_lookAt 17 = .ok (.aload_n 1, 1) := by decide +kernel
theorem dX2_lookAt_18 : decode cX2_lookAt 18 = .ok (.getfield 43, 3) := by decide +kernel
theorem dX2_lookAt_21 : decode cX2_lookAt 21 = .ok (.iload_n 2, 1) := by decide +kernel
theorem dX2_lookAt_22 : decode cX2_lookAt 22 = .ok (.iaload, 1) := by decide +kernel
theorem dX2_lookAt_23 : decode cX2_lookAt 23 = .ok (.iastore, 1) := by decide +kernel
theorem dX2_lookAt_24 : decode cX2_lookAt 24 = .ok (.aload_n 0, 1) := by decide +kernel
theorem dX2_lookAt_25 : decode cX2_lookAt 25 = .ok (.getfield 28, 3) := by decide +kernel
theorem dX2_lookAt_28 : decode cX2_lookAt 28 = .ok (.iconst 2, 1) := by decide +kernel
theorem dX2_lookAt_29 : decode cX2_lookAt 29 = .ok (.aload_n 1, 1) := by decide +kernel
theorem dX2_lookAt_30 : decode cX2_lookAt 30 = .ok (.getfield 50, 3) := by decide +kernel
theorem dX2_lookAt_33 : decode cX2_lookAt 33 = .ok (.iload_n 2, 1) := by decide +kernel
theorem dX2_lookAt_34 : decode cX2_lookAt 34 = .ok (.iaload, 1) := by decide +kernel
theorem dX2_lookAt_35 : decode cX2_lookAt 35 = .ok (.iastore, 1) := by decide +kernel
theorem dX2_lookAt_36 : decode cX2_lookAt 36 = .ok (.aload_n 0, 1) := by decide +kernel
theorem dX2_lookAt_37 : decode cX2_lookAt 37 = .ok (.getfield 28, 3) := by decide +kernel
theorem dX2_lookAt_40 : decode cX2_lookAt 40 = .ok (.iconst 3, 1) := by decide +kernel
theorem dX2_lookAt_41 : decode cX2_lookAt 41 = .ok (.aload_n 1, 1) := by decide +kernel
theorem dX2_lookAt_42 : decode cX2_lookAt 42 = .ok (.getfield 69, 3) := by decide +kernel
theorem dX2_lookAt_45 : decode cX2_lookAt 45 = .ok (.iastore, 1) := by decide +kernel
theorem dX2_lookAt_46 : decode cX2_lookAt 46 = .ok (.aload_n 0, 1) := by decide +kernel
theorem dX2_lookAt_47 : decode cX2_lookAt 47 = .ok (.getfield 28, 3) := by decide +kernel
theorem dX2_lookAt_50 : decode cX2_lookAt 50 = .ok (.iconst 4, 1) := by decide +kernel
theorem dX2_lookAt_51 : decode cX2_lookAt 51 = .ok (.aload_n 1, 1) := by decide +kernel
theorem dX2_lookAt_52 : decode cX2_lookAt 52 = .ok (.iload_n 2, 1) := by decide +kernel
theorem dX2_lookAt_53 : decode cX2_lookAt 53 = .ok (.invokevirtual 46, 3) := by decide +kernel
theorem dX2_lookAt_56 : decode cX2_lookAt 56 = .ok (.iastore, 1) := by decide +kernel
theorem dX2_lookAt_57 : decode cX2_lookAt 57 = .ok (.aload_n 0, 1) := by decide +kernel
theorem dX2_lookAt_58 : decode cX2_lookAt 58 = .ok (.getfield 28, 3) := by decide +kernel
theorem dX2_lookAt_61 : decode cX2_lookAt 61 = .ok (.iconst 5, 1) := by decide +kernel
theorem dX2_lookAt_62 : decode cX2_lookAt 62 = .ok (.iload_n 2, 1) := by decide +kernel
theorem dX2_lookAt_63 : decode cX2_lookAt 63 = .ok (.bipush 6, 2) := by decide +kernel
theorem dX2_lookAt_65 : decode cX2_lookAt 65 = .ok (.idiv, 1) := by decide +kernel
theorem dX2_lookAt_66 : decode cX2_lookAt 66 = .ok (.iastore, 1) := by decide +kernel
theorem dX2_lookAt_67 : decode cX2_lookAt 67 = .ok (.return_, 1) := by decide +kernel
theorem dX2_valueOfPart_0 : decode cX2_valueOfPart 0 = .ok (.iconst 0, 1) := by decide +kernel
theorem dX2_valueOfPart_1 : decode cX2_valueOfPart 1 = .ok (.istore_n 2, 1) := by decide +kernel
theorem dX2_valueOfPart_2 : decode cX2_valueOfPart 2 = .ok (.iload_n 1, 1) := by decide +kernel
theorem dX2_valueOfPart_3 : decode cX2_valueOfPart 3 = .ok (.ifCond .ne 7, 3) := by decide +kernel
theorem dX2_valueOfPart_6 : decode cX2_valueOfPart 6 = .ok (.iconst 0, 1) := by decide +kernel
theorem dX2_valueOfPart_7 : decode cX2_valueOfPart 7 = .ok (.goto 11, 3) := by decide +kernel
theorem dX2_valueOfPart_10 : decode cX2_valueOfPart 10 = .ok (.aload_n 0, 1) := by decide +kernel
theorem dX2_valueOfPart_11 : decode cX2_valueOfPart 11 = .ok (.getfield 18, 3) := by decide +kernel
theorem dX2_valueOfPart_14 : decode cX2_valueOfPart 14 = .ok (.iload_n 1, 1) := by decide +kernel
theorem dX2_valueOfPart_15 : decode cX2_valueOfPart 15 = .ok (.iconst 1, 1) := by decide +kernel
theorem dX2_valueOfPart_16 : decode cX2_valueOfPart 16 = .ok (.isub, 1) := by decide +kernel
theorem dX2_valueOfPart_17 : decode cX2_valueOfPart 17 = .ok (.iaload, 1) := by decide +kernel
theorem dX2_valueOfPart_18 : decode cX2_valueOfPart 18 = .ok (.istore_n 3, 1) := by decide +kernel
theorem dX2_valueOfPart_19 : decode cX2_valueOfPart 19 = .ok (.iload_n 3, 1) := by decide +kernel
theorem dX2_valueOfPart_20 : decode cX2_valueOfPart 20 = .ok (.aload_n 0, 1) := by decide +kernel
theorem dX2_valueOfPart_21 : decode cX2_valueOfPart 21 = .ok (.getfield 18, 3) := by decide +kernel
theorem dX2_valueOfPart_24 : decode cX2_valueOfPart 24 = .ok (.iload_n 1, 1) := by decide +kernel
theorem dX2_valueOfPart_25 : decode cX2_valueOfPart 25 = .ok (.iaload, 1) := by decide +kernel
theorem dX2_valueOfPart_26 : decode cX2_valueOfPart 26 = .ok (.if_icmp .ge 175, 3) := by decide +kernel
theorem dX2_valueOfPart_29 : decode cX2_valueOfPart 29 = .ok (.aload_n 0, 1) := by decide +kernel
theorem dX2_valueOfPart_30 : decode cX2_valueOfPart 30 = .ok (.getfield 9, 3) := by decide +kernel
theorem dX2_valueOfPart_33 : decode cX2_valueOfPart 33 = .ok (.iload_n 3, 1) := by decide +kernel
theorem dX2_valueOfPart_34 : decode cX2_valueOfPart 34 = .ok (.iaload, 1) := by decide +kernel
theorem dX2_valueOfPart_35 : decode cX2_valueOfPart 35 = .ok (.istore 4, 2) := by decide +kernel
theorem dX2_valueOfPart_37 : decode cX2_valueOfPart 37 = .ok (.iload 4, 2) := by decide +kernel
theorem dX2_valueOfPart_39 : decode cX2_valueOfPart 39 = .ok (.bipush 48, 2) := by decide +kernel
theorem dX2_valueOfPart_41 : decode cX2_valueOfPart 41 = .ok (.if_icmp .eq 10, 3) := by decide +kernel
theorem dX2_valueOfPart_44 : decode cX2_valueOfPart 44 = .ok (.iload 4, 2) := by decide +kernel
theorem dX2_valueOfPart_46 : decode cX2_valueOfPart 46 = .ok (.bipush 97, 2) := by decide +kernel
theorem dX2_valueOfPart_48 : decode cX2_valueOfPart 48 = .ok (.if_icmp .ne 48, 3) := by decide +kernel
theorem dX2_valueOfPart_51 : decode cX2_valueOfPart 51 = .ok (.iload_n 2, 1) := by decide +kernel
theorem dX2_valueOfPart_52 : decode cX2_valueOfPart 52 = .ok (.bipush 120, 2) := by decide +kernel
theorem dX2_valueOfPart_54 : decode cX2_valueOfPart 54 = .ok (.if_icmp .ge 141, 3) := by decide +kernel
theorem dX2_valueOfPart_57 : decode cX2_valueOfPart 57 = .ok (.aload_n 0, 1) := by decide +kernel
theorem dX2_valueOfPart_58 : decode cX2_valueOfPart 58 = .ok (.getfield 25, 3) := by decide +kernel
theorem dX2_valueOfPart_61 : decode cX2_valueOfPart 61 = .ok (.iload_n 2, 1) := by decide +kernel
theorem dX2_valueOfPart_62 : decode cX2_valueOfPart 62 = .ok (.iload 4, 2) := by decide +kernel
theorem dX2_valueOfPart_64 : decode cX2_valueOfPart 64 = .ok (.bipush 48, 2) := by decide +kernel
theorem dX2_valueOfPart_66 : decode cX2_valueOfPart 66 = .ok (.if_icmp .ne 12, 3) := by decide +kernel
theorem dX2_valueOfPart_69 : decode cX2_valueOfPart 69 = .ok (.aload_n 0, 1) := by decide +kernel
theorem dX2_valueOfPart_70 : decode cX2_valueOfPart 70 = .ok (.getfield 15, 3) := by decide +kernel
theorem dX2_valueOfPart_73 : decode cX2_valueOfPart 73 = .ok (.iload_n 3, 1) := by decide +kernel
theorem dX2_valueOfPart_74 : decode cX2_valueOfPart 74 = .ok (.iaload, 1) := by decide +kernel
theorem dX2_valueOfPart_75 : decode cX2_valueOfPart 75 = .ok (.goto 14, 3) := by decide +kernel
theorem dX2_valueOfPart_78 : decode cX2_valueOfPart 78 = .ok (.aload_n 0, 1) := by decide +kernel
theorem dX2_valueOfPart_79 : decode cX2_valueOfPart 79 = .ok (.getfield 28, 3) := by decide +kernel
theorem dX2_valueOfPart_82 : decode cX2_valueOfPart 82 = .ok (.aload_n 0, 1) := by decide +kernel
theorem dX2_valueOfPart_83 : decode cX2_valueOfPart 83 = .ok (.getfield 15, 3) := by decide +kernel
theorem dX2_valueOfPart_86 : decode cX2_valueOfPart 86 = .ok (.iload_n 3, 1) := by decide +kernel
theorem dX2_valueOfPart_87 : decode cX2_valueOfPart 87 = .ok (.iaload, 1) := by decide +kernel
theorem dX2_valueOfPart_88 : decode cX2_valueOfPart 88 = .ok (.iaload, 1) := by decide +kernel
theorem dX2_valueOfPart_89 : decode cX2_valueOfPart 89 = .ok (.iastore, 1) := by decide +kernel
theorem dX2_valueOfPart_90 : decode cX2_valueOfPart 90 = .ok (.iinc 2 1, 3) := by decide +kernel
theorem dX2_valueOfPart_93 : decode cX2_valueOfPart 93 = .ok (.goto 102, 3) := by decide +kernel
theorem dX2_valueOfPart_96 : decode cX2_valueOfPart 96 = .ok (.iload 4, 2) := by decide +kernel
theorem dX2_valueOfPart_98 : decode cX2_valueOfPart 98 = .ok (.bipush 33, 2) := by decide +kernel
theorem dX2_valueOfPart_100 : decode cX2_valueOfPart 100 = .ok (.if_icmp .eq 10, 3) := by decide +kernel
theorem dX2_valueOfPart_103 : decode cX2_valueOfPart 103 = .ok (.iload 4, 2) := by decide +kernel
theorem dX2_valueOfPart_105 : decode cX2_valueOfPart 105 = .ok (.bipush 126, 2) := by decide +kernel
theorem dX2_valueOfPart_107 : decode cX2_valueOfPart 107 = .ok (.if_icmp .ne 53, 3) := by decide +kernel
theorem dX2_valueOfPart_110 : decode cX2_valueOfPart 110 = .ok (.iload_n 2, 1) := by decide +kernel
theorem dX2_valueOfPart_111 : decode cX2_valueOfPart 111 = .ok (.ifCond .le 84, 3) := by decide +kernel
theorem dX2_valueOfPart_114 : decode cX2_valueOfPart 114 = .ok (.aload_n 0, 1) := by decide +kernel
theorem dX2_valueOfPart_115 : decode cX2_valueOfPart 115 = .ok (.getfield 25, 3) := by decide +kernel
theorem dX2_valueOfPart_118 : decode cX2_valueOfPart 118 = .ok (.iload_n 2, 1) := by decide +kernel
theorem dX2_valueOfPart_119 : decode cX2_valueOfPart 119 = .ok (.iconst 1, 1) := by decide +kernel
theorem dX2_valueOfPart_120 : decode cX2_valueOfPart 120 = .ok (.isub, 1) := by decide +kernel
theorem dX2_valueOfPart_121 : decode cX2_valueOfPart 121 = .ok (.iload 4, 2) := by decide +kernel
theorem dX2_valueOfPart_123 : decode cX2_valueOfPart 123 = .ok (.bipush 33, 2) := by decide +kernel
theorem dX2_valueOfPart_125 : decode cX2_valueOfPart 125 = .ok (.if_icmp .eq 15, 3) := by decide +kernel
theorem dX2_valueOfPart_128 : decode cX2_valueOfPart 128 = .ok (.aload_n 0, 1) := by decide +kernel
theorem dX2_valueOfPart_129 : decode cX2_valueOfPart 129 = .ok (.getfield 25, 3) := by decide +kernel
theorem dX2_valueOfPart_132 : decode cX2_valueOfPart 132 = .ok (.iload_n 2, 1) := by decide +kernel
theorem dX2_valueOfPart_133 : decode cX2_valueOfPart 133 = .ok (.iconst 1, 1) := by decide +kernel
theorem dX2_valueOfPart_134 : decode cX2_valueOfPart 134 = .ok (.isub, 1) := by decide +kernel
theorem dX2_valueOfPart_135 : decode cX2_valueOfPart 135 = .ok (.iaload, 1) := by decide +kernel
theorem dX2_valueOfPart_136 : decode cX2_valueOfPart 136 = .ok (.ineg, 1) := by decide +kernel
theorem dX2_valueOfPart_137 : decode cX2_valueOfPart 137 = .ok (.goto 19, 3) := by decide +kernel
theorem dX2_valueOfPart_140 : decode cX2_valueOfPart 140 = .ok (.aload_n 0, 1) := by decide +kernel
theorem dX2_valueOfPart_141 : decode cX2_valueOfPart 141 = .ok (.getfield 25, 3) := by decide +kernel
theorem dX2_valueOfPart_144 : decode cX2_valueOfPart 144 = .ok (.iload_n 2, 1) := by decide +kernel
theorem dX2_valueOfPart_145 : decode cX2_valueOfPart 145 = .ok (.iconst 1, 1) := by decide +kernel
theorem dX2_valueOfPart_146 : decode cX2_valueOfPart 146 = .ok (.isub, 1) := by decide +kernel
theorem dX2_valueOfPart_147 : decode cX2_valueOfPart 147 = .ok (.iaload, 1) := by decide +kernel
theorem dX2_valueOfPart_148 : decode cX2_valueOfPart 148 = .ok (.ifCond .ne 7, 3) := by decide +kernel
theorem dX2_valueOfPart_151 : decode cX2_valueOfPart 151 = .ok (.iconst 1, 1) := by decide +kernel
theorem dX2_valueOfPart_152 : decode cX2_valueOfPart 152 = .ok (.goto 4, 3) := by decide +kernel
theorem dX2_valueOfPart_155 : decode cX2_valueOfPart 155 = .ok (.iconst 0, 1) := by decide +kernel
theorem dX2_valueOfPart_156 : decode cX2_valueOfPart 156 = .ok (.iastore, 1) := by decide +kernel
theorem dX2_valueOfPart_157 : decode cX2_valueOfPart 157 = .ok (.goto 38, 3) := by decide +kernel
theorem dX2_valueOfPart_160 : decode cX2_valueOfPart 160 = .ok (.iload_n 2, 1) := by decide +kernel
theorem dX2_valueOfPart_161 : decode cX2_valueOfPart 161 = .ok (.iconst 1, 1) := by decide +kernel
theorem dX2_valueOfPart_162 : decode cX2_valueOfPart 162 = .ok (.if_icmp .le 33, 3) := by decide +kernel
theorem dX2_valueOfPart_165 : decode cX2_valueOfPart 165 = .ok (.iinc 2 (-1), 3) := by decide +kernel
theorem dX2_valueOfPart_168 : decode cX2_valueOfPart 168 = .ok (.aload_n 0, 1) := by decide +kernel
theorem dX2_valueOfPart_169 : decode cX2_valueOfPart 169 = .ok (.getfield 25, 3) := by decide +kernel
theorem dX2_valueOfPart_172 : decode cX2_valueOfPart 172 = .ok (.iload_n 2, 1) := by decide +kernel
theorem dX2_valueOfPart_173 : decode cX2_valueOfPart 173 = .ok (.iconst 1, 1) := by decide +kernel
theorem dX2_valueOfPart_174 : decode cX2_valueOfPart 174 = .ok (.isub, 1) := by decide +kernel
theorem dX2_valueOfPart_175 : decode cX2_valueOfPart 175 = .ok (.iload 4, 2) := by decide +kernel
theorem dX2_valueOfPart_177 : decode cX2_valueOfPart 177 = .ok (.aload_n 0, 1) := by decide +kernel
theorem dX2_valueOfPart_178 : decode cX2_valueOfPart 178 = .ok (.getfield 25, 3) := by decide +kernel
theorem dX2_valueOfPart_181 : decode cX2_valueOfPart 181 = .ok (.iload_n 2, 1) := by decide +kernel
theorem dX2_valueOfPart_182 : decode cX2_valueOfPart 182 = .ok (.iconst 1, 1) := by decide +kernel
theorem dX2_valueOfPart_183 : decode cX2_valueOfPart 183 = .ok (.isub, 1) := by decide +kernel
theorem dX2_valueOfPart_184 : decode cX2_valueOfPart 184 = .ok (.iaload, 1) := by decide +kernel
theorem dX2_valueOfPart_185 : decode cX2_valueOfPart 185 = .ok (.aload_n 0, 1) := by decide +kernel
theorem dX2_valueOfPart_186 : decode cX2_valueOfPart 186 = .ok (.getfield 25, 3) := by decide +kernel
theorem dX2_valueOfPart_189 : decode cX2_valueOfPart 189 = .ok (.iload_n 2, 1) := by decide +kernel
theorem dX2_valueOfPart_190 : decode cX2_valueOfPart 190 = .ok (.iaload, 1) := by decide +kernel
theorem dX2_valueOfPart_191 : decode cX2_valueOfPart 191 = .ok (.invokestatic 72, 3) := by decide +kernel
theorem dX2_valueOfPart_194 : decode cX2_valueOfPart 194 = .ok (.iastore, 1) := by decide +kernel
theorem dX2_valueOfPart_195 : decode cX2_valueOfPart 195 = .ok (.iinc 3 1, 3) := by decide +kernel
theorem dX2_valueOfPart_198 : decode cX2_valueOfPart 198 = .ok (.goto (-179), 3) := by decide +kernel
theorem dX2_valueOfPart_201 : decode cX2_valueOfPart 201 = .ok (.iload_n 2, 1) := by decide +kernel
theorem dX2_valueOfPart_202 : decode cX2_valueOfPart 202 = .ok (.ifCond .le 12, 3) := by decide +kernel
theorem dX2_valueOfPart_205 : decode cX2_valueOfPart 205 = .ok (.aload_n 0, 1) := by decide +kernel
theorem dX2_valueOfPart_206 : decode cX2_valueOfPart 206 = .ok (.getfield 25, 3) := by decide +kernel
theorem dX2_valueOfPart_209 : decode cX2_valueOfPart 209 = .ok (.iconst 0, 1) := by decide +kernel
theorem dX2_valueOfPart_210 : decode cX2_valueOfPart 210 = .ok (.iaload, 1) := by decide +kernel
theorem dX2_valueOfPart_211 : decode cX2_valueOfPart 211 = .ok (.goto 4, 3) := by decide +kernel
theorem dX2_valueOfPart_214 : decode cX2_valueOfPart 214 = .ok (.iconst 0, 1) := by decide +kernel
theorem dX2_valueOfPart_215 : decode cX2_valueOfPart 215 = .ok (.ireturn, 1) := by decide +kernel
theorem dX2_nameOf_0 : decode cX2_nameOf 0 = .ok (.iload_n 0, 1) := by decide +kernel
theorem dX2_nameOf_1 : decode cX2_nameOf 1 = .ok (.tableswitch 79 109 121 #[73, 75, 79, 79, 79, 79, 67, 69, 79, 79, 71, 79, 77], 67) := by decide +kernel
theorem dX2_nameOf_68 : decode cX2_nameOf 68 = .ok (.iconst 0, 1) := by decide +kernel
theorem dX2_nameOf_69 : decode cX2_nameOf 69 = .ok (.ireturn, 1) := by decide +kernel
theorem dX2_nameOf_70 : decode cX2_nameOf 70 = .ok (.iconst 1, 1) := by decide +kernel
theorem dX2_nameOf_71 : decode cX2_nameOf 71 = .ok (.ireturn, 1) := by decide +kernel
theorem dX2_nameOf_72 : decode cX2_nameOf 72 = .ok (.iconst 2, 1) := by decide +kernel
theorem dX2_nameOf_73 : decode cX2_nameOf 73 = .ok (.ireturn, 1) := by decide +kernel
theorem dX2_nameOf_74 : decode cX2_nameOf 74 = .ok (.iconst 3, 1) := by decide +kernel
theorem dX2_nameOf_75 : decode cX2_nameOf 75 = .ok (.ireturn, 1) := by decide +kernel
theorem dX2_nameOf_76 : decode cX2_nameOf 76 = .ok (.iconst 4, 1) := by decide +kernel
theorem dX2_nameOf_77 : decode cX2_nameOf 77 = .ok (.ireturn, 1) := by decide +kernel
theorem dX2_nameOf_78 : decode cX2_nameOf 78 = .ok (.iconst 5, 1) := by decide +kernel
theorem dX2_nameOf_79 : decode cX2_nameOf 79 = .ok (.ireturn, 1) := by decide +kernel
theorem dX2_nameOf_80 : decode cX2_nameOf 80 = .ok (.iconst (-1), 1) := by decide +kernel
theorem dX2_nameOf_81 : decode cX2_nameOf 81 = .ok (.ireturn, 1) := by decide +kernel
theorem dX2_joined_0 : decode cX2_joined 0 = .ok (.iload_n 0, 1) := by decide +kernel
theorem dX2_joined_1 : decode cX2_joined 1 = .ok (.lookupswitch 168 #[(38, 97), (42, 152), (43, 144), (45, 148), (47, 156), (60, 111), (61, 122), (62, 133), (124, 83)], 83) := by decide +kernel
theorem dX2_joined_84 : decode cX2_joined 84 = .ok (.iload_n 1, 1) := by decide +kernel
theorem dX2_joined_85 : decode cX2_joined 85 = .ok (.ifCond .ne 7, 3) := by decide +kernel
theorem dX2_joined_88 : decode cX2_joined 88 = .ok (.iload_n 2, 1) := by decide +kernel
theorem dX2_joined_89 : decode cX2_joined 89 = .ok (.ifCond .eq 7, 3) := by decide +kernel
theorem dX2_joined_92 : decode cX2_joined 92 = .ok (.iconst 1, 1) := by decide +kernel
theorem dX2_joined_93 : decode cX2_joined 93 = .ok (.goto 4, 3) := by decide +kernel
theorem dX2_joined_96 : decode cX2_joined 96 = .ok (.iconst 0, 1) := by decide +kernel
theorem dX2_joined_97 : decode cX2_joined 97 = .ok (.ireturn, 1) := by decide +kernel
theorem dX2_joined_98 : decode cX2_joined 98 = .ok (.iload_n 1, 1) := by decide +kernel
theorem dX2_joined_99 : decode cX2_joined 99 = .ok (.ifCond .eq 11, 3) := by decide +kernel
theorem dX2_joined_102 : decode cX2_joined 102 = .ok (.iload_n 2, 1) := by decide +kernel
theorem dX2_joined_103 : decode cX2_joined 103 = .ok (.ifCond .eq 7, 3) := by decide +kernel
theorem dX2_joined_106 : decode cX2_joined 106 = .ok (.iconst 1, 1) := by decide +kernel
theorem dX2_joined_107 : decode cX2_joined 107 = .ok (.goto 4, 3) := by decide +kernel
theorem dX2_joined_110 : decode cX2_joined 110 = .ok (.iconst 0, 1) := by decide +kernel
theorem dX2_joined_111 : decode cX2_joined 111 = .ok (.ireturn, 1) := by decide +kernel
theorem dX2_joined_112 : decode cX2_joined 112 = .ok (.iload_n 1, 1) := by decide +kernel
theorem dX2_joined_113 : decode cX2_joined 113 = .ok (.iload_n 2, 1) := by decide +kernel
theorem dX2_joined_114 : decode cX2_joined 114 = .ok (.if_icmp .ge 7, 3) := by decide +kernel
theorem dX2_joined_117 : decode cX2_joined 117 = .ok (.iconst 1, 1) := by decide +kernel
theorem dX2_joined_118 : decode cX2_joined 118 = .ok (.goto 4, 3) := by decide +kernel
theorem dX2_joined_121 : decode cX2_joined 121 = .ok (.iconst 0, 1) := by decide +kernel
theorem dX2_joined_122 : decode cX2_joined 122 = .ok (.ireturn, 1) := by decide +kernel
theorem dX2_joined_123 : decode cX2_joined 123 = .ok (.iload_n 1, 1) := by decide +kernel
theorem dX2_joined_124 : decode cX2_joined 124 = .ok (.iload_n 2, 1) := by decide +kernel
theorem dX2_joined_125 : decode cX2_joined 125 = .ok (.if_icmp .ne 7, 3) := by decide +kernel
theorem dX2_joined_128 : decode cX2_joined 128 = .ok (.iconst 1, 1) := by decide +kernel
theorem dX2_joined_129 : decode cX2_joined 129 = .ok (.goto 4, 3) := by decide +kernel
theorem dX2_joined_132 : decode cX2_joined 132 = .ok (.iconst 0, 1) := by decide +kernel
theorem dX2_joined_133 : decode cX2_joined 133 = .ok (.ireturn, 1) := by decide +kernel
theorem dX2_joined_134 : decode cX2_joined 134 = .ok (.iload_n 1, 1) := by decide +kernel
theorem dX2_joined_135 : decode cX2_joined 135 = .ok (.iload_n 2, 1) := by decide +kernel
theorem dX2_joined_136 : decode cX2_joined 136 = .ok (.if_icmp .le 7, 3) := by decide +kernel
theorem dX2_joined_139 : decode cX2_joined 139 = .ok (.iconst 1, 1) := by decide +kernel
theorem dX2_joined_140 : decode cX2_joined 140 = .ok (.goto 4, 3) := by decide +kernel
theorem dX2_joined_143 : decode cX2_joined 143 = .ok (.iconst 0, 1) := by decide +kernel
theorem dX2_joined_144 : decode cX2_joined 144 = .ok (.ireturn, 1) := by decide +kernel
theorem dX2_joined_145 : decode cX2_joined 145 = .ok (.iload_n 1, 1) := by decide +kernel
theorem dX2_joined_146 : decode cX2_joined 146 = .ok (.iload_n 2, 1) := by decide +kernel
theorem dX2_joined_147 : decode cX2_joined 147 = .ok (.iadd, 1) := by decide +kernel
theorem dX2_joined_148 : decode cX2_joined 148 = .ok (.ireturn, 1) := by decide +kernel
theorem dX2_joined_149 : decode cX2_joined 149 = .ok (.iload_n 1, 1) := by decide +kernel
theorem dX2_joined_150 : decode cX2_joined 150 = .ok (.iload_n 2, 1) := by decide +kernel
theorem dX2_joined_151 : decode cX2_joined 151 = .ok (.isub, 1) := by decide +kernel
theorem dX2_joined_152 : decode cX2_joined 152 = .ok (.ireturn, 1) := by decide +kernel
theorem dX2_joined_153 : decode cX2_joined 153 = .ok (.iload_n 1, 1) := by decide +kernel
theorem dX2_joined_154 : decode cX2_joined 154 = .ok (.iload_n 2, 1) := by decide +kernel
theorem dX2_joined_155 : decode cX2_joined 155 = .ok (.imul, 1) := by decide +kernel
theorem dX2_joined_156 : decode cX2_joined 156 = .ok (.ireturn, 1) := by decide +kernel
theorem dX2_joined_157 : decode cX2_joined 157 = .ok (.iload_n 2, 1) := by decide +kernel
theorem dX2_joined_158 : decode cX2_joined 158 = .ok (.ifCond .ne 7, 3) := by decide +kernel
theorem dX2_joined_161 : decode cX2_joined 161 = .ok (.iconst 0, 1) := by decide +kernel
theorem dX2_joined_162 : decode cX2_joined 162 = .ok (.goto 6, 3) := by decide +kernel
theorem dX2_joined_165 : decode cX2_joined 165 = .ok (.iload_n 1, 1) := by decide +kernel
theorem dX2_joined_166 : decode cX2_joined 166 = .ok (.iload_n 2, 1) := by decide +kernel
theorem dX2_joined_167 : decode cX2_joined 167 = .ok (.idiv, 1) := by decide +kernel
theorem dX2_joined_168 : decode cX2_joined 168 = .ok (.ireturn, 1) := by decide +kernel
theorem dX2_joined_169 : decode cX2_joined 169 = .ok (.iload_n 2, 1) := by decide +kernel
theorem dX2_joined_170 : decode cX2_joined 170 = .ok (.ifCond .ne 7, 3) := by decide +kernel
theorem dX2_joined_173 : decode cX2_joined 173 = .ok (.iconst 0, 1) := by decide +kernel
theorem dX2_joined_174 : decode cX2_joined 174 = .ok (.goto 6, 3) := by decide +kernel
theorem dX2_joined_177 : decode cX2_joined 177 = .ok (.iload_n 1, 1) := by decide +kernel
theorem dX2_joined_178 : decode cX2_joined 178 = .ok (.iload_n 2, 1) := by decide +kernel
theorem dX2_joined_179 : decode cX2_joined 179 = .ok (.irem, 1) := by decide +kernel
theorem dX2_joined_180 : decode cX2_joined 180 = .ok (.ireturn, 1) := by decide +kernel
theorem dX3_init_0 : decode cX3_init 0 = .ok (.aload_n 0, 1) := by decide +kernel
theorem dX3_init_1 : decode cX3_init 1 = .ok (.invokespecial 3, 3) := by decide +kernel
theorem dX3_init_4 : decode cX3_init 4 = .ok (.aload_n 0, 1) := by decide +kernel
theorem dX3_init_5 : decode cX3_init 5 = .ok (.bipush 60, 2) := by decide +kernel
theorem dX3_init_7 : decode cX3_init 7 = .ok (.newarray .long, 2) := by decide +kernel
theorem dX3_init_9 : decode cX3_init 9 = .ok (.putfield 9, 3) := by decide +kernel
theorem dX3_init_12 : decode cX3_init 12 = .ok (.aload_n 0, 1) := by decide +kernel
theorem dX3_init_13 : decode cX3_init 13 = .ok (.bipush (-2), 2) := by decide +kernel
theorem dX3_init_15 : decode cX3_init 15 = .ok (.putfield 15, 3) := by decide +kernel
theorem dX3_init_18 : decode cX3_init 18 = .ok (.return_, 1) := by decide +kernel
theorem dX3_holdStitch_0 : decode cX3_holdStitch 0 = .ok (.aload_n 0, 1) := by decide +kernel
theorem dX3_holdStitch_1 : decode cX3_holdStitch 1 = .ok (.iload_n 1, 1) := by decide +kernel
theorem dX3_holdStitch_2 : decode cX3_holdStitch 2 = .ok (.ifCond .ge 8, 3) := by decide +kernel
theorem dX3_holdStitch_5 : decode cX3_holdStitch 5 = .ok (.bipush (-2), 2) := by decide +kernel
theorem dX3_holdStitch_7 : decode cX3_holdStitch 7 = .ok (.goto 4, 3) := by decide +kernel
theorem dX3_holdStitch_10 : decode cX3_holdStitch 10 = .ok (.iconst (-1), 1) := by decide +kernel
theorem dX3_holdStitch_11 : decode cX3_holdStitch 11 = .ok (.putfield 15, 3) := by decide +kernel
theorem dX3_holdStitch_14 : decode cX3_holdStitch 14 = .ok (.aload_n 0, 1) := by decide +kernel
theorem dX3_holdStitch_15 : decode cX3_holdStitch 15 = .ok (.iload_n 1, 1) := by decide +kernel
theorem dX3_holdStitch_16 : decode cX3_holdStitch 16 = .ok (.putfield 19, 3) := by decide +kernel
theorem dX3_holdStitch_19 : decode cX3_holdStitch 19 = .ok (.aload_n 0, 1) := by decide +kernel
theorem dX3_holdStitch_20 : decode cX3_holdStitch 20 = .ok (.iconst 0, 1) := by decide +kernel
theorem dX3_holdStitch_21 : decode cX3_holdStitch 21 = .ok (.putfield 22, 3) := by decide +kernel
theorem dX3_holdStitch_24 : decode cX3_holdStitch 24 = .ok (.return_, 1) := by decide +kernel
theorem dX3_holdRow_0 : decode cX3_holdRow 0 = .ok (.aload_n 0, 1) := by decide +kernel
theorem dX3_holdRow_1 : decode cX3_holdRow 1 = .ok (.iload_n 1, 1) := by decide +kernel
theorem dX3_holdRow_2 : decode cX3_holdRow 2 = .ok (.putfield 15, 3) := by decide +kernel
theorem dX3_holdRow_5 : decode cX3_holdRow 5 = .ok (.aload_n 0, 1) := by decide +kernel
theorem dX3_holdRow_6 : decode cX3_holdRow 6 = .ok (.iload_n 2, 1) := by decide +kernel
theorem dX3_holdRow_7 : decode cX3_holdRow 7 = .ok (.putfield 22, 3) := by decide +kernel
theorem dX3_holdRow_10 : decode cX3_holdRow 10 = .ok (.iconst 0, 1) := by decide +kernel
theorem dX3_holdRow_11 : decode cX3_holdRow 11 = .ok (.istore_n 3, 1) := by decide +kernel
theorem dX3_holdRow_12 : decode cX3_holdRow 12 = .ok (.iload_n 3, 1) := by decide +kernel
theorem dX3_holdRow_13 : decode cX3_holdRow 13 = .ok (.iload_n 2, 1) := by decide +kernel
theorem dX3_holdRow_14 : decode cX3_holdRow 14 = .ok (.if_icmp .ge 22, 3) := by decide +kernel
theorem dX3_holdRow_17 : decode cX3_holdRow 17 = .ok (.iload_n 3, 1) := by decide +kernel
theorem dX3_holdRow_18 : decode cX3_holdRow 18 = .ok (.bipush 60, 2) := by decide +kernel
theorem dX3_holdRow_20 : decode cX3_holdRow 20 = .ok (.if_icmp .ge 16, 3) := by decide +kernel
theorem dX3_holdRow_23 : decode cX3_holdRow 23 = .ok (.aload_n 0, 1) := by decide +kernel
theorem dX3_holdRow_24 : decode cX3_holdRow 24 = .ok (.getfield 9, 3) := by decide +kernel
theorem dX3_holdRow_27 : decode cX3_holdRow 27 = .ok (.iload_n 3, 1) := by decide +kernel
theorem dX3_holdRow_28 : decode cX3_holdRow 28 = .ok (.lconst 0, 1) := by decide +kernel
theorem dX3_holdRow_29 : decode cX3_holdRow 29 = .ok (.lastore, 1) := by decide +kernel
theorem dX3_holdRow_30 : decode cX3_holdRow 30 = .ok (.iinc 3 1, 3) := by decide +kernel
theorem dX3_holdRow_33 : decode cX3_holdRow 33 = .ok (.goto (-21), 3) := by decide +kernel
theorem dX3_holdRow_36 : decode cX3_holdRow 36 = .ok (.return_, 1) := by decide +kernel
theorem dX3_isRow_0 : decode cX3_isRow 0 = .ok (.aload_n 0, 1) := by decide +kernel
theorem dX3_isRow_1 : decode cX3_isRow 1 = .ok (.getfield 15, 3) := by decide +kernel
theorem dX3_isRow_4 : decode cX3_isRow 4 = .ok (.ifCond .lt 7, 3) := by decide +kernel
theorem dX3_isRow_7 : decode cX3_isRow 7 = .ok (.iconst 1, 1) := by decide +kernel
theorem dX3_isRow_8 : decode cX3_isRow 8 = .ok (.goto 4, 3) := by decide +kernel
theorem dX3_isRow_11 : decode cX3_isRow 11 = .ok (.iconst 0, 1) := by decide +kernel
theorem dX3_isRow_12 : decode cX3_isRow 12 = .ok (.ireturn, 1) := by decide +kernel
theorem dX3_hasPlaces_0 : decode cX3_hasPlaces 0 = .ok (.iload_n 1, 1) := by decide +kernel
theorem dX3_hasPlaces_1 : decode cX3_hasPlaces 1 = .ok (.ifCond .lt 29, 3) := by decide +kernel
theorem dX3_hasPlaces_4 : decode cX3_hasPlaces 4 = .ok (.iload_n 2, 1) := by decide +kernel
theorem dX3_hasPlaces_5 : decode cX3_hasPlaces 5 = .ok (.ifCond .lt 25, 3) := by decide +kernel
theorem dX3_hasPlaces_8 : decode cX3_hasPlaces 8 = .ok (.iload_n 2, 1) := by decide +kernel
theorem dX3_hasPlaces_9 : decode cX3_hasPlaces 9 = .ok (.aload_n 0, 1) := by decide +kernel
theorem dX3_hasPlaces_10 : decode cX3_hasPlaces 10 = .ok (.getfield 22, 3) := by decide +kernel
theorem dX3_hasPlaces_13 : decode cX3_hasPlaces 13 = .ok (.if_icmp .gt 17, 3) := by decide +kernel
theorem dX3_hasPlaces_16 : decode cX3_hasPlaces 16 = .ok (.iload_n 1, 1) := by decide +kernel
theorem dX3_hasPlaces_17 : decode cX3_hasPlaces 17 = .ok (.aload_n 0, 1) := by decide +kernel
theorem dX3_hasPlaces_18 : decode cX3_hasPlaces 18 = .ok (.getfield 22, 3) := by decide +kernel
theorem dX3_hasPlaces_21 : decode cX3_hasPlaces 21 = .ok (.iload_n 2, 1) := by decide +kernel
theorem dX3_hasPlaces_22 : decode cX3_hasPlaces 22 = .ok (.isub, 1) := by decide +kernel
theorem dX3_hasPlaces_23 : decode cX3_hasPlaces 23 = .ok (.if_icmp .gt 7, 3) := by decide +kernel
theorem dX3_hasPlaces_26 : decode cX3_hasPlaces 26 = .ok (.iconst 1, 1) := by decide +kernel
theorem dX3_hasPlaces_27 : decode cX3_hasPlaces 27 = .ok (.goto 4, 3) := by decide +kernel
theorem dX3_hasPlaces_30 : decode cX3_hasPlaces 30 = .ok (.iconst 0, 1) := by decide +kernel
theorem dX3_hasPlaces_31 : decode cX3_hasPlaces 31 = .ok (.ireturn, 1) := by decide +kernel
theorem dX3_lowestBits_0 : decode cX3_lowestBits 0 = .ok (.iload_n 0, 1) := by decide +kernel
theorem dX3_lowestBits_1 : decode cX3_lowestBits 1 = .ok (.tableswitch 47 0 3 #[31, 36, 41, 45], 31) := by decide +kernel
theorem dX3_lowestBits_32 : decode cX3_lowestBits 32 = .ok (.lload_n 1, 1) := by decide +kernel
theorem dX3_lowestBits_33 : decode cX3_lowestBits 33 = .ok (.l2i, 1) := by decide +kernel
theorem dX3_lowestBits_34 : decode cX3_lowestBits 34 = .ok (.i2b, 1) := by decide +kernel
theorem dX3_lowestBits_35 : decode cX3_lowestBits 35 = .ok (.i2l, 1) := by decide +kernel
theorem dX3_lowestBits_36 : decode cX3_lowestBits 36 = .ok (.lreturn, 1) := by decide +kernel
theorem dX3_lowestBits_37 : decode cX3_lowestBits 37 = .ok (.lload_n 1, 1) := by decide +kernel
theorem dX3_lowestBits_38 : decode cX3_lowestBits 38 = .ok (.l2i, 1) := by decide +kernel
theorem dX3_lowestBits_39 : decode cX3_lowestBits 39 = .ok (.i2s, 1) := by decide +kernel
theorem dX3_lowestBits_40 : decode cX3_lowestBits 40 = .ok (.i2l, 1) := by decide +kernel
theorem dX3_lowestBits_41 : decode cX3_lowestBits 41 = .ok (.lreturn, 1) := by decide +kernel
theorem dX3_lowestBits_42 : decode cX3_lowestBits 42 = .ok (.lload_n 1, 1) := by decide +kernel
theorem dX3_lowestBits_43 : decode cX3_lowestBits 43 = .ok (.l2i, 1) := by decide +kernel
theorem dX3_lowestBits_44 : decode cX3_lowestBits 44 = .ok (.i2l, 1) := by decide +kernel
theorem dX3_lowestBits_45 : decode cX3_lowestBits 45 = .ok (.lreturn, 1) := by decide +kernel
theorem dX3_lowestBits_46 : decode cX3_lowestBits 46 = .ok (.lload_n 1, 1) := by decide +kernel
theorem dX3_lowestBits_47 : decode cX3_lowestBits 47 = .ok (.lreturn, 1) := by decide +kernel
theorem dX3_lowestBits_48 : decode cX3_lowestBits 48 = .ok (.lload_n 1, 1) := by decide +kernel
theorem dX3_lowestBits_49 : decode cX3_lowestBits 49 = .ok (.lconst 0, 1) := by decide +kernel
theorem dX3_lowestBits_50 : decode cX3_lowestBits 50 = .ok (.lcmp, 1) := by decide +kernel
theorem dX3_lowestBits_51 : decode cX3_lowestBits 51 = .ok (.ifCond .eq 7, 3) := by decide +kernel
theorem dX3_lowestBits_54 : decode cX3_lowestBits 54 = .ok (.lconst 1, 1) := by decide +kernel
theorem dX3_lowestBits_55 : decode cX3_lowestBits 55 = .ok (.goto 4, 3) := by decide +kernel
theorem dX3_lowestBits_58 : decode cX3_lowestBits 58 = .ok (.lconst 0, 1) := by decide +kernel
theorem dX3_lowestBits_59 : decode cX3_lowestBits 59 = .ok (.lreturn, 1) := by decide +kernel
theorem dX4_init_0 : decode cX4_init 0 = .ok (.aload_n 0, 1) := by decide +kernel
theorem dX4_init_1 : decode cX4_init 1 = .ok (.invokespecial 3, 3) := by decide +kernel
theorem dX4_init_4 : decode cX4_init 4 = .ok (.aload_n 0, 1) := by decide +kernel
theorem dX4_init_5 : decode cX4_init 5 = .ok (.new 9, 3) := by decide +kernel
theorem dX4_init_8 : decode cX4_init 8 = .ok (.dup, 1) := by decide +kernel
theorem dX4_init_9 : decode cX4_init 9 = .ok (.invokespecial 11, 3) := by decide +kernel
theorem dX4_init_12 : decode cX4_init 12 = .ok (.putfield 12, 3) := by decide +kernel
theorem dX4_init_15 : decode cX4_init 15 = .ok (.aload_n 0, 1) := by decide +kernel
theorem dX4_init_16 : decode cX4_init 16 = .ok (.bipush 8, 2) := by decide +kernel
theorem dX4_init_18 : decode cX4_init 18 = .ok (.newarray .int, 2) := by decide +kernel
theorem dX4_init_20 : decode cX4_init 20 = .ok (.putfield 18, 3) := by decide +kernel
theorem dX4_init_23 : decode cX4_init 23 = .ok (.aload_n 0, 1) := by decide +kernel
theorem dX4_init_24 : decode cX4_init 24 = .ok (.bipush 8, 2) := by decide +kernel
theorem dX4_init_26 : decode cX4_init 26 = .ok (.newarray .int, 2) := by decide +kernel
theorem dX4_init_28 : decode cX4_init 28 = .ok (.putfield 22, 3) := by decide +kernel
theorem dX4_init_31 : decode cX4_init 31 = .ok (.aload_n 0, 1) := by decide +kernel
theorem dX4_init_32 : decode cX4_init 32 = .ok (.bipush 8, 2) := by decide +kernel
theorem dX4_init_34 : decode cX4_init 34 = .ok (.newarray .int, 2) := by decide +kernel
theorem dX4_init_36 : decode cX4_init 36 = .ok (.putfield 25, 3) := by decide +kernel
theorem dX4_init_39 : decode cX4_init 39 = .ok (.aload_n 0, 1) := by decide +kernel
theorem dX4_init_40 : decode cX4_init 40 = .ok (.new 28, 3) := by decide +kernel
theorem dX4_init_43 : decode cX4_init 43 = .ok (.dup, 1) := by decide +kernel
theorem dX4_init_44 : decode cX4_init 44 = .ok (.invokespecial 30, 3) := by decide +kernel
theorem dX4_init_47 : decode cX4_init 47 = .ok (.putfield 31, 3) := by decide +kernel
theorem dX4_init_50 : decode cX4_init 50 = .ok (.aload_n 0, 1) := by decide +kernel
theorem dX4_init_51 : decode cX4_init 51 = .ok (.new 28, 3) := by decide +kernel
theorem dX4_init_54 : decode cX4_init 54 = .ok (.dup, 1) := by decide +kernel
theorem dX4_init_55 : decode cX4_init 55 = .ok (.invokespecial 30, 3) := by decide +kernel
theorem dX4_init_58 : decode cX4_init 58 = .ok (.putfield 35, 3) := by decide +kernel
theorem dX4_init_61 : decode cX4_init 61 = .ok (.return_, 1) := by decide +kernel
theorem dX4_enactDraft_0 : decode cX4_enactDraft 0 = .ok (.aload_n 0, 1) := by decide +kernel
theorem dX4_enactDraft_1 : decode cX4_enactDraft 1 = .ok (.getfield 31, 3) := by decide +kernel
theorem dX4_enactDraft_4 : decode cX4_enactDraft 4 = .ok (.astore_n 1, 1) := by decide +kernel
theorem dX4_enactDraft_5 : decode cX4_enactDraft 5 = .ok (.aload_n 0, 1) := by decide +kernel
theorem dX4_enactDraft_6 : decode cX4_enactDraft 6 = .ok (.aload_n 0, 1) := by decide +kernel
theorem dX4_enactDraft_7 : decode cX4_enactDraft 7 = .ok (.getfield 35, 3) := by decide +kernel
theorem dX4_enactDraft_10 : decode cX4_enactDraft 10 = .ok (.putfield 31, 3) := by decide +kernel
theorem dX4_enactDraft_13 : decode cX4_enactDraft 13 = .ok (.aload_n 0, 1) := by decide +kernel
theorem dX4_enactDraft_14 : decode cX4_enactDraft 14 = .ok (.aload_n 1, 1) := by decide +kernel
theorem dX4_enactDraft_15 : decode cX4_enactDraft 15 = .ok (.putfield 35, 3) := by decide +kernel
theorem dX4_enactDraft_18 : decode cX4_enactDraft 18 = .ok (.return_, 1) := by decide +kernel
theorem dX4_isHouse_0 : decode cX4_isHouse 0 = .ok (.iload_n 1, 1) := by decide +kernel
theorem dX4_isHouse_1 : decode cX4_isHouse 1 = .ok (.ifCond .lt 15, 3) := by decide +kernel
theorem dX4_isHouse_4 : decode cX4_isHouse 4 = .ok (.iload_n 1, 1) := by decide +kernel
theorem dX4_isHouse_5 : decode cX4_isHouse 5 = .ok (.aload_n 0, 1) := by decide +kernel
theorem dX4_isHouse_6 : decode cX4_isHouse 6 = .ok (.getfield 38, 3) := by decide +kernel
theorem dX4_isHouse_9 : decode cX4_isHouse 9 = .ok (.if_icmp .ge 7, 3) := by decide +kernel
theorem dX4_isHouse_12 : decode cX4_isHouse 12 = .ok (.iconst 1, 1) := by decide +kernel
theorem dX4_isHouse_13 : decode cX4_isHouse 13 = .ok (.goto 4, 3) := by decide +kernel
theorem dX4_isHouse_16 : decode cX4_isHouse 16 = .ok (.iconst 0, 1) := by decide +kernel
theorem dX4_isHouse_17 : decode cX4_isHouse 17 = .ok (.ireturn, 1) := by decide +kernel
theorem dX4_addHouse_0 : decode cX4_addHouse 0 = .ok (.aload_n 0, 1) := by decide +kernel
theorem dX4_addHouse_1 : decode cX4_addHouse 1 = .ok (.getfield 38, 3) := by decide +kernel
theorem dX4_addHouse_4 : decode cX4_addHouse 4 = .ok (.bipush 8, 2) := by decide +kernel
theorem dX4_addHouse_6 : decode cX4_addHouse 6 = .ok (.if_icmp .lt 6, 3) := by decide +kernel
theorem dX4_addHouse_9 : decode cX4_addHouse 9 = .ok (.bipush (-3), 2) := by decide +kernel
theorem dX4_addHouse_11 : decode cX4_addHouse 11 = .ok (.ireturn, 1) := by decide +kernel
theorem dX4_addHouse_12 : decode cX4_addHouse 12 = .ok (.aload_n 0, 1) := by decide +kernel
theorem dX4_addHouse_13 : decode cX4_addHouse 13 = .ok (.getfield 18, 3) := by decide +kernel
theorem dX4_addHouse_16 : decode cX4_addHouse 16 = .ok (.aload_n 0, 1) := by decide +kernel
theorem dX4_addHouse_17 : decode cX4_addHouse 17 = .ok (.getfield 38, 3) := by decide +kernel
theorem dX4_addHouse_20 : decode cX4_addHouse 20 = .ok (.iload_n 1, 1) := by decide +kernel
theorem dX4_addHouse_21 : decode cX4_addHouse 21 = .ok (.iastore, 1) := by decide +kernel
theorem dX4_addHouse_22 : decode cX4_addHouse 22 = .ok (.aload_n 0, 1) := by decide +kernel
theorem dX4_addHouse_23 : decode cX4_addHouse 23 = .ok (.getfield 22, 3) := by decide +kernel
theorem dX4_addHouse_26 : decode cX4_addHouse 26 = .ok (.aload_n 0, 1) := by decide +kernel
theorem dX4_addHouse_27 : decode cX4_addHouse 27 = .ok (.getfield 38, 3) := by decide +kernel
theorem dX4_addHouse_30 : decode cX4_addHouse 30 = .ok (.iload_n 2, 1) := by decide +kernel
theorem dX4_addHouse_31 : decode cX4_addHouse 31 = .ok (.iastore, 1) := by decide +kernel
theorem dX4_addHouse_32 : decode cX4_addHouse 32 = .ok (.aload_n 0, 1) := by decide +kernel
theorem dX4_addHouse_33 : decode cX4_addHouse 33 = .ok (.getfield 25, 3) := by decide +kernel
theorem dX4_addHouse_36 : decode cX4_addHouse 36 = .ok (.aload_n 0, 1) := by decide +kernel
theorem dX4_addHouse_37 : decode cX4_addHouse 37 = .ok (.getfield 38, 3) := by decide +kernel
theorem dX4_addHouse_40 : decode cX4_addHouse 40 = .ok (.iload_n 3, 1) := by decide +kernel
theorem dX4_addHouse_41 : decode cX4_addHouse 41 = .ok (.iastore, 1) := by decide +kernel
theorem dX4_addHouse_42 : decode cX4_addHouse 42 = .ok (.aload_n 0, 1) := by decide +kernel
theorem dX4_addHouse_43 : decode cX4_addHouse 43 = .ok (.dup, 1) := by decide +kernel
theorem dX4_addHouse_44 : decode cX4_addHouse 44 = .ok (.getfield 38, 3) := by decide +kernel
theorem dX4_addHouse_47 : decode cX4_addHouse 47 = .ok (.iconst 1, 1) := by decide +kernel
theorem dX4_addHouse_48 : decode cX4_addHouse 48 = .ok (.iadd, 1) := by decide +kernel
theorem dX4_addHouse_49 : decode cX4_addHouse 49 = .ok (.putfield 38, 3) := by decide +kernel
theorem dX4_addHouse_52 : decode cX4_addHouse 52 = .ok (.aload_n 0, 1) := by decide +kernel
theorem dX4_addHouse_53 : decode cX4_addHouse 53 = .ok (.getfield 38, 3) := by decide +kernel
theorem dX4_addHouse_56 : decode cX4_addHouse 56 = .ok (.iconst 1, 1) := by decide +kernel
theorem dX4_addHouse_57 : decode cX4_addHouse 57 = .ok (.isub, 1) := by decide +kernel
theorem dX4_addHouse_58 : decode cX4_addHouse 58 = .ok (.ireturn, 1) := by decide +kernel
theorem dX4_hasNumber_0 : decode cX4_hasNumber 0 = .ok (.iload_n 2, 1) := by decide +kernel
theorem dX4_hasNumber_1 : decode cX4_hasNumber 1 = .ok (.ifCond .lt 9, 3) := by decide +kernel
theorem dX4_hasNumber_4 : decode cX4_hasNumber 4 = .ok (.iload_n 2, 1) := by decide +kernel
theorem dX4_hasNumber_5 : decode cX4_hasNumber 5 = .ok (.bipush 7, 2) := by decide +kernel
theorem dX4_hasNumber_7 : decode cX4_hasNumber 7 = .ok (.if_icmp .le 5, 3) := by decide +kernel
theorem dX4_hasNumber_10 : decode cX4_hasNumber 10 = .ok (.iconst 0, 1) := by decide +kernel
theorem dX4_hasNumber_11 : decode cX4_hasNumber 11 = .ok (.ireturn, 1) := by decide +kernel
theorem dX4_hasNumber_12 : decode cX4_hasNumber 12 = .ok (.iload_n 2, 1) := by decide +kernel
theorem dX4_hasNumber_13 : decode cX4_hasNumber 13 = .ok (.iconst 2, 1) := by decide +kernel
theorem dX4_hasNumber_14 : decode cX4_hasNumber 14 = .ok (.if_icmp .gt 8, 3) := by decide +kernel
theorem dX4_hasNumber_17 : decode cX4_hasNumber 17 = .ok (.iload_n 1, 1) := by decide +kernel
theorem dX4_hasNumber_18 : decode cX4_hasNumber 18 = .ok (.invokestatic 42, 3) := by decide +kernel
theorem dX4_hasNumber_21 : decode cX4_hasNumber 21 = .ok (.ireturn, 1) := by decide +kernel
theorem dX4_hasNumber_22 : decode cX4_hasNumber 22 = .ok (.iload_n 2, 1) := by decide +kernel
theorem dX4_hasNumber_23 : decode cX4_hasNumber 23 = .ok (.iconst 5, 1) := by decide +kernel
theorem dX4_hasNumber_24 : decode cX4_hasNumber 24 = .ok (.if_icmp .gt 11, 3) := by decide +kernel
theorem dX4_hasNumber_27 : decode cX4_hasNumber 27 = .ok (.aload_n 0, 1) := by decide +kernel
theorem dX4_hasNumber_28 : decode cX4_hasNumber 28 = .ok (.iload_n 1, 1) := by decide +kernel
theorem dX4_hasNumber_29 : decode cX4_hasNumber 29 = .ok (.invokevirtual 46, 3) := by decide +kernel
theorem dX4_hasNumber_32 : decode cX4_hasNumber 32 = .ok (.goto 12, 3) := by decide +kernel
theorem dX4_hasNumber_35 : decode cX4_hasNumber 35 = .ok (.iload_n 1, 1) := by decide +kernel
theorem dX4_hasNumber_36 : decode cX4_hasNumber 36 = .ok (.ifCond .ne 7, 3) := by decide +kernel
theorem dX4_hasNumber_39 : decode cX4_hasNumber 39 = .ok (.iconst 1, 1) := by decide +kernel
theorem dX4_hasNumber_40 : decode cX4_hasNumber 40 = .ok (.goto 4, 3) := by decide +kernel
theorem dX4_hasNumber_43 : decode cX4_hasNumber 43 = .ok (.iconst 0, 1) := by decide +kernel
theorem dX4_hasNumber_44 : decode cX4_hasNumber 44 = .ok (.ireturn, 1) := by decide +kernel
theorem dX4_numberOf_0 : decode cX4_numberOf 0 = .ok (.iload_n 2, 1) := by decide +kernel
theorem dX4_numberOf_1 : decode cX4_numberOf 1 = .ok (.tableswitch 69 3 7 #[35, 42, 49, 56, 64], 35) := by decide +kernel
theorem dX4_numberOf_36 : decode cX4_numberOf 36 = .ok (.aload_n 0, 1) := by decide +kernel
theorem dX4_numberOf_37 : decode cX4_numberOf 37 = .ok (.getfield 18, 3) := by decide +kernel
theorem dX4_numberOf_40 : decode cX4_numberOf 40 = .ok (.iload_n 1, 1) := by decide +kernel
theorem dX4_numberOf_41 : decode cX4_numberOf 41 = .ok (.iaload, 1) := by decide +kernel
theorem dX4_numberOf_42 : decode cX4_numberOf 42 = .ok (.ireturn, 1) := by decide +kernel
theorem dX4_numberOf_43 : decode cX4_numberOf 43 = .ok (.aload_n 0, 1) := by decide +kernel
theorem dX4_numberOf_44 : decode cX4_numberOf 44 = .ok (.getfield 22, 3) := by decide +kernel
theorem dX4_numberOf_47 : decode cX4_numberOf 47 = .ok (.iload_n 1, 1) := by decide +kernel
theorem dX4_numberOf_48 : decode cX4_numberOf 48 = .ok (.iaload, 1) := by decide +kernel
theorem dX4_numberOf_49 : decode cX4_numberOf 49 = .ok (.ireturn, 1) := by decide +kernel
theorem dX4_numberOf_50 : decode cX4_numberOf 50 = .ok (.aload_n 0, 1) := by decide +kernel
theorem dX4_numberOf_51 : decode cX4_numberOf 51 = .ok (.getfield 25, 3) := by decide +kernel
theorem dX4_numberOf_54 : decode cX4_numberOf 54 = .ok (.iload_n 1, 1) := by decide +kernel
theorem dX4_numberOf_55 : decode cX4_numberOf 55 = .ok (.iaload, 1) := by decide +kernel
theorem dX4_numberOf_56 : decode cX4_numberOf 56 = .ok (.ireturn, 1) := by decide +kernel
theorem dX4_numberOf_57 : decode cX4_numberOf 57 = .ok (.aload_n 0, 1) := by decide +kernel
theorem dX4_numberOf_58 : decode cX4_numberOf 58 = .ok (.getfield 12, 3) := by decide +kernel
theorem dX4_numberOf_61 : decode cX4_numberOf 61 = .ok (.getfield 49, 3) := by decide +kernel
theorem dX4_numberOf_64 : decode cX4_numberOf 64 = .ok (.ireturn, 1) := by decide +kernel
theorem dX4_numberOf_65 : decode cX4_numberOf 65 = .ok (.aload_n 0, 1) := by decide +kernel
theorem dX4_numberOf_66 : decode cX4_numberOf 66 = .ok (.getfield 52, 3) := by decide +kernel
theorem dX4_numberOf_69 : decode cX4_numberOf 69 = .ok (.ireturn, 1) := by decide +kernel
theorem dX4_numberOf_70 : decode cX4_numberOf 70 = .ok (.aload_n 0, 1) := by decide +kernel
theorem dX4_numberOf_71 : decode cX4_numberOf 71 = .ok (.getfield 12, 3) := by decide +kernel
theorem dX4_numberOf_74 : decode cX4_numberOf 74 = .ok (.iload_n 1, 1) := by decide +kernel
theorem dX4_numberOf_75 : decode cX4_numberOf 75 = .ok (.iload_n 2, 1) := by decide +kernel
theorem dX4_numberOf_76 : decode cX4_numberOf 76 = .ok (.invokevirtual 55, 3) := by decide +kernel
theorem dX4_numberOf_79 : decode cX4_numberOf 79 = .ok (.ireturn, 1) := by decide +kernel
theorem dX4_setNumber_0 : decode cX4_setNumber 0 = .ok (.iload_n 2, 1) := by decide +kernel
theorem dX4_setNumber_1 : decode cX4_setNumber 1 = .ok (.tableswitch 84 3 7 #[35, 45, 55, 65, 76], 35) := by decide +kernel
theorem dX4_setNumber_36 : decode cX4_setNumber 36 = .ok (.aload_n 0, 1) := by decide +kernel
theorem dX4_setNumber_37 : decode cX4_setNumber 37 = .ok (.getfield 18, 3) := by decide +kernel
theorem dX4_setNumber_40 : decode cX4_setNumber 40 = .ok (.iload_n 1, 1) := by decide +kernel
theorem dX4_setNumber_41 : decode cX4_setNumber 41 = .ok (.iload_n 3, 1) := by decide +kernel
theorem dX4_setNumber_42 : decode cX4_setNumber 42 = .ok (.iastore, 1) := by decide +kernel
theorem dX4_setNumber_43 : decode cX4_setNumber 43 = .ok (.goto 52, 3) := by decide +kernel
theorem dX4_setNumber_46 : decode cX4_setNumber 46 = .ok (.aload_n 0, 1) := by decide +kernel
theorem dX4_setNumber_47 : decode cX4_setNumber 47 = .ok (.getfield 22, 3) := by decide +kernel
theorem dX4_setNumber_50 : decode cX4_setNumber 50 = .ok (.iload_n 1, 1) := by decide +kernel
theorem dX4_setNumber_51 : decode cX4_setNumber 51 = .ok (.iload_n 3, 1) := by decide +kernel
theorem dX4_setNumber_52 : decode cX4_setNumber 52 = .ok (.iastore, 1) := by decide +kernel
theorem dX4_setNumber_53 : decode cX4_setNumber 53 = .ok (.goto 42, 3) := by decide +kernel
theorem dX4_setNumber_56 : decode cX4_setNumber 56 = .ok (.aload_n 0, 1) := by decide +kernel
theorem dX4_setNumber_57 : decode cX4_setNumber 57 = .ok (.getfield 25, 3) := by decide +kernel
theorem dX4_setNumber_60 : decode cX4_setNumber 60 = .ok (.iload_n 1, 1) := by decide +kernel
theorem dX4_setNumber_61 : decode cX4_setNumber 61 = .ok (.iload_n 3, 1) := by decide +kernel
theorem dX4_setNumber_62 : decode cX4_setNumber 62 = .ok (.iastore, 1) := by decide +kernel
theorem dX4_setNumber_63 : decode cX4_setNumber 63 = .ok (.goto 32, 3) := by decide +kernel
theorem dX4_setNumber_66 : decode cX4_setNumber 66 = .ok (.aload_n 0, 1) := by decide +kernel
theorem dX4_setNumber_67 : decode cX4_setNumber 67 = .ok (.getfield 12, 3) := by decide +kernel
theorem dX4_setNumber_70 : decode cX4_setNumber 70 = .ok (.iload_n 3, 1) := by decide +kernel
theorem dX4_setNumber_71 : decode cX4_setNumber 71 = .ok (.putfield 49, 3) := by decide +kernel
theorem dX4_setNumber_74 : decode cX4_setNumber 74 = .ok (.goto 21, 3) := by decide +kernel
theorem dX4_setNumber_77 : decode cX4_setNumber 77 = .ok (.aload_n 0, 1) := by decide +kernel
theorem dX4_setNumber_78 : decode cX4_setNumber 78 = .ok (.iload_n 3, 1) := by decide +kernel
theorem dX4_setNumber_79 : decode cX4_setNumber 79 = .ok (.putfield 52, 3) := by decide +kernel
theorem dX4_setNumber_82 : decode cX4_setNumber 82 = .ok (.goto 13, 3) := by decide +kernel
theorem dX4_setNumber_85 : decode cX4_setNumber 85 = .ok (.aload_n 0, 1) := by decide +kernel
theorem dX4_setNumber_86 : decode cX4_setNumber 86 = .ok (.getfield 12, 3) := by decide +kernel
theorem dX4_setNumber_89 : decode cX4_setNumber 89 = .ok (.iload_n 1, 1) := by decide +kernel
theorem dX4_setNumber_90 : decode cX4_setNumber 90 = .ok (.iload_n 2, 1) := by decide +kernel
theorem dX4_setNumber_91 : decode cX4_setNumber 91 = .ok (.iload_n 3, 1) := by decide +kernel
theorem dX4_setNumber_92 : decode cX4_setNumber 92 = .ok (.invokevirtual 59, 3) := by decide +kernel
theorem dX4_setNumber_95 : decode cX4_setNumber 95 = .ok (.return_, 1) := by decide +kernel
theorem dX4_isCold_0 : decode cX4_isCold 0 = .ok (.aload_n 0, 1) := by decide +kernel
theorem dX4_isCold_1 : decode cX4_isCold 1 = .ok (.getfield 25, 3) := by decide +kernel
theorem dX4_isCold_4 : decode cX4_isCold 4 = .ok (.iload_n 2, 1) := by decide +kernel
theorem dX4_isCold_5 : decode cX4_isCold 5 = .ok (.iaload, 1) := by decide +kernel
theorem dX4_isCold_6 : decode cX4_isCold 6 = .ok (.aload_n 1, 1) := by decide +kernel
theorem dX4_isCold_7 : decode cX4_isCold 7 = .ok (.getfield 49, 3) := by decide +kernel
theorem dX4_isCold_10 : decode cX4_isCold 10 = .ok (.ishr, 1) := by decide +kernel
theorem dX4_isCold_11 : decode cX4_isCold 11 = .ok (.iconst 1, 1) := by decide +kernel
theorem dX4_isCold_12 : decode cX4_isCold 12 = .ok (.iand, 1) := by decide +kernel
theorem dX4_isCold_13 : decode cX4_isCold 13 = .ok (.iconst 1, 1) := by decide +kernel
theorem dX4_isCold_14 : decode cX4_isCold 14 = .ok (.if_icmp .ne 7, 3) := by decide +kernel
theorem dX4_isCold_17 : decode cX4_isCold 17 = .ok (.iconst 1, 1) := by decide +kernel
theorem dX4_isCold_18 : decode cX4_isCold 18 = .ok (.goto 4, 3) := by decide +kernel
theorem dX4_isCold_21 : decode cX4_isCold 21 = .ok (.iconst 0, 1) := by decide +kernel
theorem dX4_isCold_22 : decode cX4_isCold 22 = .ok (.istore_n 3, 1) := by decide +kernel
theorem dX4_isCold_23 : decode cX4_isCold 23 = .ok (.iload_n 3, 1) := by decide +kernel
theorem dX4_isCold_24 : decode cX4_isCold 24 = .ok (.ifCond .eq 30, 3) := by decide +kernel
theorem dX4_isCold_27 : decode cX4_isCold 27 = .ok (.aload_n 0, 1) := by decide +kernel
theorem dX4_isCold_28 : decode cX4_isCold 28 = .ok (.getfield 31, 3) := by decide +kernel
theorem dX4_isCold_31 : decode cX4_isCold 31 = .ok (.aload_n 1, 1) := by decide +kernel
theorem dX4_isCold_32 : decode cX4_isCold 32 = .ok (.aload_n 0, 1) := by decide +kernel
theorem dX4_isCold_33 : decode cX4_isCold 33 = .ok (.getfield 18, 3) := by decide +kernel
theorem dX4_isCold_36 : decode cX4_isCold 36 = .ok (.iload_n 2, 1) := by decide +kernel
theorem dX4_isCold_37 : decode cX4_isCold 37 = .ok (.iaload, 1) := by decide +kernel
theorem dX4_isCold_38 : decode cX4_isCold 38 = .ok (.invokevirtual 63, 3) := by decide +kernel
theorem dX4_isCold_41 : decode cX4_isCold 41 = .ok (.aload_n 0, 1) := by decide +kernel
theorem dX4_isCold_42 : decode cX4_isCold 42 = .ok (.getfield 22, 3) := by decide +kernel
theorem dX4_isCold_45 : decode cX4_isCold 45 = .ok (.iload_n 2, 1) := by decide +kernel
theorem dX4_isCold_46 : decode cX4_isCold 46 = .ok (.iaload, 1) := by decide +kernel
theorem dX4_isCold_47 : decode cX4_isCold 47 = .ok (.if_icmp .ge 7, 3) := by decide +kernel
theorem dX4_isCold_50 : decode cX4_isCold 50 = .ok (.iconst 1, 1) := by decide +kernel
theorem dX4_isCold_51 : decode cX4_isCold 51 = .ok (.goto 4, 3) := by decide +kernel
theorem dX4_isCold_54 : decode cX4_isCold 54 = .ok (.iconst 0, 1) := by decide +kernel
theorem dX4_isCold_55 : decode cX4_isCold 55 = .ok (.ireturn, 1) := by decide +kernel
theorem dX4_coldBits_0 : decode cX4_coldBits 0 = .ok (.iconst 0, 1) := by decide +kernel
theorem dX4_coldBits_1 : decode cX4_coldBits 1 = .ok (.istore_n 2, 1) := by decide +kernel
theorem dX4_coldBits_2 : decode cX4_coldBits 2 = .ok (.iconst 0, 1) := by decide +kernel
theorem dX4_coldBits_3 : decode cX4_coldBits 3 = .ok (.istore_n 3, 1) := by decide +kernel
theorem dX4_coldBits_4 : decode cX4_coldBits 4 = .ok (.iload_n 3, 1) := by decide +kernel
theorem dX4_coldBits_5 : decode cX4_coldBits 5 = .ok (.aload_n 0, 1) := by decide +kernel
theorem dX4_coldBits_6 : decode cX4_coldBits 6 = .ok (.getfield 38, 3) := by decide +kernel
theorem dX4_coldBits_9 : decode cX4_coldBits 9 = .ok (.if_icmp .ge 24, 3) := by decide +kernel
theorem dX4_coldBits_12 : decode cX4_coldBits 12 = .ok (.aload_n 0, 1) := by decide +kernel
theorem dX4_coldBits_13 : decode cX4_coldBits 13 = .ok (.aload_n 1, 1) := by decide +kernel
theorem dX4_coldBits_14 : decode cX4_coldBits 14 = .ok (.iload_n 3, 1) := by decide +kernel
theorem dX4_coldBits_15 : decode cX4_coldBits 15 = .ok (.invokevirtual 67, 3) := by decide +kernel
theorem dX4_coldBits_18 : decode cX4_coldBits 18 = .ok (.ifCond .eq 9, 3) := by decide +kernel
theorem dX4_coldBits_21 : decode cX4_coldBits 21 = .ok (.iload_n 2, 1) := by decide +kernel
theorem dX4_coldBits_22 : decode cX4_coldBits 22 = .ok (.iconst 1, 1) := by decide +kernel
theorem dX4_coldBits_23 : decode cX4_coldBits 23 = .ok (.iload_n 3, 1) := by decide +kernel
theorem dX4_coldBits_24 : decode cX4_coldBits 24 = .ok (.ishl, 1) := by decide +kernel
theorem dX4_coldBits_25 : decode cX4_coldBits 25 = .ok (.ior, 1) := by decide +kernel
theorem dX4_coldBits_26 : decode cX4_coldBits 26 = .ok (.istore_n 2, 1) := by decide +kernel
theorem dX4_coldBits_27 : decode cX4_coldBits 27 = .ok (.iinc 3 1, 3) := by decide +kernel
theorem dX4_coldBits_30 : decode cX4_coldBits 30 = .ok (.goto (-26), 3) := by decide +kernel
theorem dX4_coldBits_33 : decode cX4_coldBits 33 = .ok (.iload_n 2, 1) := by decide +kernel
theorem dX4_coldBits_34 : decode cX4_coldBits 34 = .ok (.ireturn, 1) := by decide +kernel
theorem dX4_warmestPlace_0 : decode cX4_warmestPlace 0 = .ok (.iconst 0, 1) := by decide +kernel
theorem dX4_warmestPlace_1 : decode cX4_warmestPlace 1 = .ok (.istore_n 2, 1) := by decide +kernel
theorem dX4_warmestPlace_2 : decode cX4_warmestPlace 2 = .ok (.iconst (-1), 1) := by decide +kernel
theorem dX4_warmestPlace_3 : decode cX4_warmestPlace 3 = .ok (.istore_n 3, 1) := by decide +kernel
theorem dX4_warmestPlace_4 : decode cX4_warmestPlace 4 = .ok (.iconst 0, 1) := by decide +kernel
theorem dX4_warmestPlace_5 : decode cX4_warmestPlace 5 = .ok (.istore 4, 2) := by decide +kernel
theorem dX4_warmestPlace_7 : decode cX4_warmestPlace 7 = .ok (.iload 4, 2) := by decide +kernel
theorem dX4_warmestPlace_9 : decode cX4_warmestPlace 9 = .ok (.bipush 30, 2) := by decide +kernel
theorem dX4_warmestPlace_11 : decode cX4_warmestPlace 11 = .ok (.if_icmp .ge 33, 3) := by decide +kernel
theorem dX4_warmestPlace_14 : decode cX4_warmestPlace 14 = .ok (.aload_n 0, 1) := by decide +kernel
theorem dX4_warmestPlace_15 : decode cX4_warmestPlace 15 = .ok (.getfield 31, 3) := by decide +kernel
theorem dX4_warmestPlace_18 : decode cX4_warmestPlace 18 = .ok (.aload_n 1, 1) := by decide +kernel
theorem dX4_warmestPlace_19 : decode cX4_warmestPlace 19 = .ok (.iload 4, 2) := by decide +kernel
theorem dX4_warmestPlace_21 : decode cX4_warmestPlace 21 = .ok (.invokevirtual 63, 3) := by decide +kernel
theorem dX4_warmestPlace_24 : decode cX4_warmestPlace 24 = .ok (.istore 5, 2) := by decide +kernel
theorem dX4_warmestPlace_26 : decode cX4_warmestPlace 26 = .ok (.iload 5, 2) := by decide +kernel
theorem dX4_warmestPlace_28 : decode cX4_warmestPlace 28 = .ok (.iload_n 3, 1) := by decide +kernel
theorem dX4_warmestPlace_29 : decode cX4_warmestPlace 29 = .ok (.if_icmp .le 9, 3) := by decide +kernel
theorem dX4_warmestPlace_32 : decode cX4_warmestPlace 32 = .ok (.iload 4, 2) := by decide +kernel
theorem dX4_warmestPlace_34 : decode cX4_warmestPlace 34 = .ok (.istore_n 2, 1) := by decide +kernel
theorem dX4_warmestPlace_35 : decode cX4_warmestPlace 35 = .ok (.iload 5, 2) := by decide +kernel
theorem dX4_warmestPlace_37 : decode cX4_warmestPlace 37 = .ok (.istore_n 3, 1) := by decide +kernel
theorem dX4_warmestPlace_38 : decode cX4_warmestPlace 38 = .ok (.iinc 4 1, 3) := by decide +kernel
theorem dX4_warmestPlace_41 : decode cX4_warmestPlace 41 = .ok (.goto (-34), 3) := by decide +kernel
theorem dX4_warmestPlace_44 : decode cX4_warmestPlace 44 = .ok (.iload_n 2, 1) := by decide +kernel
theorem dX4_warmestPlace_45 : decode cX4_warmestPlace 45 = .ok (.ireturn, 1) := by decide +kernel
theorem dX5_init_0 : decode cX5_init 0 = .ok (.aload_n 0, 1) := by decide +kernel
theorem dX5_init_1 : decode cX5_init 1 = .ok (.invokespecial 3, 3) := by decide +kernel
theorem dX5_init_4 : decode cX5_init 4 = .ok (.aload_n 0, 1) := by decide +kernel
theorem dX5_init_5 : decode cX5_init 5 = .ok (.bipush 50, 2) := by decide +kernel
theorem dX5_init_7 : decode cX5_init 7 = .ok (.newarray .int, 2) := by decide +kernel
theorem dX5_init_9 : decode cX5_init 9 = .ok (.putfield 11, 3) := by decide +kernel
theorem dX5_init_12 : decode cX5_init 12 = .ok (.aload_n 0, 1) := by decide +kernel
theorem dX5_init_13 : decode cX5_init 13 = .ok (.bipush 24, 2) := by decide +kernel
theorem dX5_init_15 : decode cX5_init 15 = .ok (.newarray .int, 2) := by decide +kernel
theorem dX5_init_17 : decode cX5_init 17 = .ok (.putfield 15, 3) := by decide +kernel
theorem dX5_init_20 : decode cX5_init 20 = .ok (.return_, 1) := by decide +kernel
theorem dX5_isKind_0 : decode cX5_isKind 0 = .ok (.iload_n 0, 1) := by decide +kernel
theorem dX5_isKind_1 : decode cX5_isKind 1 = .ok (.ifCond .lt 13, 3) := by decide +kernel
theorem dX5_isKind_4 : decode cX5_isKind 4 = .ok (.iload_n 0, 1) := by decide +kernel
theorem dX5_isKind_5 : decode cX5_isKind 5 = .ok (.bipush 8, 2) := by decide +kernel
theorem dX5_isKind_7 : decode cX5_isKind 7 = .ok (.if_icmp .ge 7, 3) := by decide +kernel
theorem dX5_isKind_10 : decode cX5_isKind 10 = .ok (.iconst 1, 1) := by decide +kernel
theorem dX5_isKind_11 : decode cX5_isKind 11 = .ok (.goto 4, 3) := by decide +kernel
theorem dX5_isKind_14 : decode cX5_isKind 14 = .ok (.iconst 0, 1) := by decide +kernel
theorem dX5_isKind_15 : decode cX5_isKind 15 = .ok (.ireturn, 1) := by decide +kernel
theorem dX5_isStitch_0 : decode cX5_isStitch 0 = .ok (.iload_n 1, 1) := by decide +kernel
theorem dX5_isStitch_1 : decode cX5_isStitch 1 = .ok (.ifCond .lt 15, 3) := by decide +kernel
theorem dX5_isStitch_4 : decode cX5_isStitch 4 = .ok (.iload_n 1, 1) := by decide +kernel
theorem dX5_isStitch_5 : decode cX5_isStitch 5 = .ok (.aload_n 0, 1) := by decide +kernel
theorem dX5_isStitch_6 : decode cX5_isStitch 6 = .ok (.getfield 18, 3) := by decide +kernel
theorem dX5_isStitch_9 : decode cX5_isStitch 9 = .ok (.if_icmp .ge 7, 3) := by decide +kernel
theorem dX5_isStitch_12 : decode cX5_isStitch 12 = .ok (.iconst 1, 1) := by decide +kernel
theorem dX5_isStitch_13 : decode cX5_isStitch 13 = .ok (.goto 4, 3) := by decide +kernel
theorem dX5_isStitch_16 : decode cX5_isStitch 16 = .ok (.iconst 0, 1) := by decide +kernel
theorem dX5_isStitch_17 : decode cX5_isStitch 17 = .ok (.ireturn, 1) := by decide +kernel
theorem dX5_add_0 : decode cX5_add 0 = .ok (.aload_n 0, 1) := by decide +kernel
theorem dX5_add_1 : decode cX5_add 1 = .ok (.getfield 18, 3) := by decide +kernel
theorem dX5_add_4 : decode cX5_add 4 = .ok (.bipush 50, 2) := by decide +kernel
theorem dX5_add_6 : decode cX5_add 6 = .ok (.if_icmp .lt 6, 3) := by decide +kernel
theorem dX5_add_9 : decode cX5_add 9 = .ok (.bipush (-3), 2) := by decide +kernel
theorem dX5_add_11 : decode cX5_add 11 = .ok (.ireturn, 1) := by decide +kernel
theorem dX5_add_12 : decode cX5_add 12 = .ok (.aload_n 0, 1) := by decide +kernel
theorem dX5_add_13 : decode cX5_add 13 = .ok (.getfield 11, 3) := by decide +kernel
theorem dX5_add_16 : decode cX5_add 16 = .ok (.aload_n 0, 1) := by decide +kernel
theorem dX5_add_17 : decode cX5_add 17 = .ok (.getfield 18, 3) := by decide +kernel
theorem dX5_add_20 : decode cX5_add 20 = .ok (.iload_n 1, 1) := by decide +kernel
theorem dX5_add_21 : decode cX5_add 21 = .ok (.iastore, 1) := by decide +kernel
theorem dX5_add_22 : decode cX5_add 22 = .ok (.aload_n 0, 1) := by decide +kernel
theorem dX5_add_23 : decode cX5_add 23 = .ok (.dup, 1) := by decide +kernel
theorem dX5_add_24 : decode cX5_add 24 = .ok (.getfield 18, 3) := by decide +kernel
theorem dX5_add_27 : decode cX5_add 27 = .ok (.iconst 1, 1) := by decide +kernel
theorem dX5_add_28 : decode cX5_add 28 = .ok (.iadd, 1) := by decide +kernel
theorem dX5_add_29 : decode cX5_add 29 = .ok (.putfield 18, 3) := by decide +kernel
theorem dX5_add_32 : decode cX5_add 32 = .ok (.aload_n 0, 1) := by decide +kernel
theorem dX5_add_33 : decode cX5_add 33 = .ok (.getfield 18, 3) := by decide +kernel
theorem dX5_add_36 : decode cX5_add 36 = .ok (.iconst 1, 1) := by decide +kernel
theorem dX5_add_37 : decode cX5_add 37 = .ok (.isub, 1) := by decide +kernel
theorem dX5_add_38 : decode cX5_add 38 = .ok (.ireturn, 1) := by decide +kernel
theorem dX5_isOfKind_0 : decode cX5_isOfKind 0 = .ok (.aload_n 0, 1) := by decide +kernel
theorem dX5_isOfKind_1 : decode cX5_isOfKind 1 = .ok (.iload_n 1, 1) := by decide +kernel
theorem dX5_isOfKind_2 : decode cX5_isOfKind 2 = .ok (.invokevirtual 22, 3) := by decide +kernel
theorem dX5_isOfKind_5 : decode cX5_isOfKind 5 = .ok (.ifCond .ne 5, 3) := by decide +kernel
theorem dX5_isOfKind_8 : decode cX5_isOfKind 8 = .ok (.iconst 0, 1) := by decide +kernel
theorem dX5_isOfKind_9 : decode cX5_isOfKind 9 = .ok (.ireturn, 1) := by decide +kernel
theorem dX5_isOfKind_10 : decode cX5_isOfKind 10 = .ok (.aload_n 0, 1) := by decide +kernel
theorem dX5_isOfKind_11 : decode cX5_isOfKind 11 = .ok (.getfield 11, 3) := by decide +kernel
theorem dX5_isOfKind_14 : decode cX5_isOfKind 14 = .ok (.iload_n 1, 1) := by decide +kernel
theorem dX5_isOfKind_15 : decode cX5_isOfKind 15 = .ok (.iaload, 1) := by decide +kernel
theorem dX5_isOfKind_16 : decode cX5_isOfKind 16 = .ok (.istore_n 3, 1) := by decide +kernel
theorem dX5_isOfKind_17 : decode cX5_isOfKind 17 = .ok (.iconst 0, 1) := by decide +kernel
theorem dX5_isOfKind_18 : decode cX5_isOfKind 18 = .ok (.istore 4, 2) := by decide +kernel
theorem dX5_isOfKind_20 : decode cX5_isOfKind 20 = .ok (.iload 4, 2) := by decide +kernel
theorem dX5_isOfKind_22 : decode cX5_isOfKind 22 = .ok (.bipush 8, 2) := by decide +kernel
theorem dX5_isOfKind_24 : decode cX5_isOfKind 24 = .ok (.if_icmp .ge 24, 3) := by decide +kernel
theorem dX5_isOfKind_27 : decode cX5_isOfKind 27 = .ok (.iload_n 3, 1) := by decide +kernel
theorem dX5_isOfKind_28 : decode cX5_isOfKind 28 = .ok (.ifCond .lt 20, 3) := by decide +kernel
theorem dX5_isOfKind_31 : decode cX5_isOfKind 31 = .ok (.iload_n 3, 1) := by decide +kernel
theorem dX5_isOfKind_32 : decode cX5_isOfKind 32 = .ok (.iload_n 2, 1) := by decide +kernel
theorem dX5_isOfKind_33 : decode cX5_isOfKind 33 = .ok (.if_icmp .eq 15, 3) := by decide +kernel
theorem dX5_isOfKind_36 : decode cX5_isOfKind 36 = .ok (.getstatic 26, 3) := by decide +kernel
theorem dX5_isOfKind_39 : decode cX5_isOfKind 39 = .ok (.iload_n 3, 1) := by decide +kernel
theorem dX5_isOfKind_40 : decode cX5_isOfKind 40 = .ok (.iaload, 1) := by decide +kernel
theorem dX5_isOfKind_41 : decode cX5_isOfKind 41 = .ok (.istore_n 3, 1) := by decide +kernel
theorem dX5_isOfKind_42 : decode cX5_isOfKind 42 = .ok (.iinc 4 1, 3) := by decide +kernel
theorem dX5_isOfKind_45 : decode cX5_isOfKind 45 = .ok (.goto (-25), 3) := by decide +kernel
theorem dX5_isOfKind_48 : decode cX5_isOfKind 48 = .ok (.iload_n 3, 1) := by decide +kernel
theorem dX5_isOfKind_49 : decode cX5_isOfKind 49 = .ok (.iload_n 2, 1) := by decide +kernel
theorem dX5_isOfKind_50 : decode cX5_isOfKind 50 = .ok (.if_icmp .ne 7, 3) := by decide +kernel
theorem dX5_isOfKind_53 : decode cX5_isOfKind 53 = .ok (.iconst 1, 1) := by decide +kernel
theorem dX5_isOfKind_54 : decode cX5_isOfKind 54 = .ok (.goto 4, 3) := by decide +kernel
theorem dX5_isOfKind_57 : decode cX5_isOfKind 57 = .ok (.iconst 0, 1) := by decide +kernel
theorem dX5_isOfKind_58 : decode cX5_isOfKind 58 = .ok (.ireturn, 1) := by decide +kernel
theorem dX5_begin_0 : decode cX5_begin 0 = .ok (.aload_n 0, 1) := by decide +kernel
theorem dX5_begin_1 : decode cX5_begin 1 = .ok (.iconst 0, 1) := by decide +kernel
theorem dX5_begin_2 : decode cX5_begin 2 = .ok (.putfield 29, 3) := by decide +kernel
theorem dX5_begin_5 : decode cX5_begin 5 = .ok (.aload_n 0, 1) := by decide +kernel
theorem dX5_begin_6 : decode cX5_begin 6 = .ok (.iload_n 1, 1) := by decide +kernel
theorem dX5_begin_7 : decode cX5_begin 7 = .ok (.invokevirtual 22, 3) := by decide +kernel
theorem dX5_begin_10 : decode cX5_begin 10 = .ok (.ifCond .eq 12, 3) := by decide +kernel
theorem dX5_begin_13 : decode cX5_begin 13 = .ok (.iload_n 2, 1) := by decide +kernel
theorem dX5_begin_14 : decode cX5_begin 14 = .ok (.ifCond .lt 8, 3) := by decide +kernel
theorem dX5_begin_17 : decode cX5_begin 17 = .ok (.iload_n 2, 1) := by decide +kernel
theorem dX5_begin_18 : decode cX5_begin 18 = .ok (.iconst 3, 1) := by decide +kernel
theorem dX5_begin_19 : decode cX5_begin 19 = .ok (.if_icmp .le 5, 3) := by decide +kernel
theorem dX5_begin_22 : decode cX5_begin 22 = .ok (.iconst 0, 1) := by decide +kernel
theorem dX5_begin_23 : decode cX5_begin 23 = .ok (.ireturn, 1) := by decide +kernel
theorem dX5_begin_24 : decode cX5_begin 24 = .ok (.aload_n 0, 1) := by decide +kernel
theorem dX5_begin_25 : decode cX5_begin 25 = .ok (.iload_n 1, 1) := by decide +kernel
theorem dX5_begin_26 : decode cX5_begin 26 = .ok (.aload_n 0, 1) := by decide +kernel
theorem dX5_begin_27 : decode cX5_begin 27 = .ok (.getfield 11, 3) := by decide +kernel
theorem dX5_begin_30 : decode cX5_begin 30 = .ok (.iload_n 1, 1) := by decide +kernel
theorem dX5_begin_31 : decode cX5_begin 31 = .ok (.iaload, 1) := by decide +kernel
theorem dX5_begin_32 : decode cX5_begin 32 = .ok (.iload_n 2, 1) := by decide +kernel
theorem dX5_begin_33 : decode cX5_begin 33 = .ok (.iload_n 3, 1) := by decide +kernel
theorem dX5_begin_34 : decode cX5_begin 34 = .ok (.iconst 0, 1) := by decide +kernel
theorem dX5_begin_35 : decode cX5_begin 35 = .ok (.invokevirtual 32, 3) := by decide +kernel
theorem dX5_begin_38 : decode cX5_begin 38 = .ok (.ireturn, 1) := by decide +kernel
theorem dX5_run_0 : decode cX5_run 0 = .ok (.iload_n 2, 1) := by decide +kernel
theorem dX5_run_1 : decode cX5_run 1 = .ok (.istore 6, 2) := by decide +kernel
theorem dX5_run_3 : decode cX5_run 3 = .ok (.iconst 0, 1) := by decide +kernel
theorem dX5_run_4 : decode cX5_run 4 = .ok (.istore 7, 2) := by decide +kernel
theorem dX5_run_6 : decode cX5_run 6 = .ok (.iload 7, 2) := by decide +kernel
theorem dX5_run_8 : decode cX5_run 8 = .ok (.bipush 8, 2) := by decide +kernel
theorem dX5_run_10 : decode cX5_run 10 = .ok (.if_icmp .ge 35, 3) := by decide +kernel
theorem dX5_run_13 : decode cX5_run 13 = .ok (.iload 6, 2) := by decide +kernel
theorem dX5_run_15 : decode cX5_run 15 = .ok (.ifCond .lt 30, 3) := by decide +kernel
theorem dX5_run_18 : decode cX5_run 18 = .ok (.getstatic 36, 3) := by decide +kernel
theorem dX5_run_21 : decode cX5_run 21 = .ok (.iload 6, 2) := by decide +kernel
theorem dX5_run_23 : decode cX5_run 23 = .ok (.iconst 4, 1) := by decide +kernel
theorem dX5_run_24 : decode cX5_run 24 = .ok (.imul, 1) := by decide +kernel
theorem dX5_run_25 : decode cX5_run 25 = .ok (.iload_n 3, 1) := by decide +kernel
theorem dX5_run_26 : decode cX5_run 26 = .ok (.iadd, 1) := by decide +kernel
theorem dX5_run_27 : decode cX5_run 27 = .ok (.iaload, 1) := by decide +kernel
theorem dX5_run_28 : decode cX5_run 28 = .ok (.ifCond .ne 17, 3) := by decide +kernel
theorem dX5_run_31 : decode cX5_run 31 = .ok (.getstatic 26, 3) := by decide +kernel
theorem dX5_run_34 : decode cX5_run 34 = .ok (.iload 6, 2) := by decide +kernel
theorem dX5_run_36 : decode cX5_run 36 = .ok (.iaload, 1) := by decide +kernel
theorem dX5_run_37 : decode cX5_run 37 = .ok (.istore 6, 2) := by decide +kernel
theorem dX5_run_39 : decode cX5_run 39 = .ok (.iinc 7 1, 3) := by decide +kernel
theorem dX5_run_42 : decode cX5_run 42 = .ok (.goto (-36), 3) := by decide +kernel
theorem dX5_run_45 : decode cX5_run 45 = .ok (.iload 6, 2) := by decide +kernel
theorem dX5_run_47 : decode cX5_run 47 = .ok (.ifCond .lt 10, 3) := by decide +kernel
theorem dX5_run_50 : decode cX5_run 50 = .ok (.iload 5, 2) := by decide +kernel
theorem dX5_run_52 : decode cX5_run 52 = .ok (.bipush 40, 2) := by decide +kernel
theorem dX5_run_54 : decode cX5_run 54 = .ok (.if_icmp .le 5, 3) := by decide +kernel
theorem dX5_run_57 : decode cX5_run 57 = .ok (.iconst 0, 1) := by decide +kernel
theorem dX5_run_58 : decode cX5_run 58 = .ok (.ireturn, 1) := by decide +kernel
theorem dX5_run_59 : decode cX5_run 59 = .ok (.getstatic 36, 3) := by decide +kernel
theorem dX5_run_62 : decode cX5_run 62 = .ok (.iload 6, 2) := by decide +kernel
theorem dX5_run_64 : decode cX5_run 64 = .ok (.iconst 4, 1) := by decide +kernel
theorem dX5_run_65 : decode cX5_run 65 = .ok (.imul, 1) := by decide +kernel
theorem dX5_run_66 : decode cX5_run 66 = .ok (.iload_n 3, 1) := by decide +kernel
theorem dX5_run_67 : decode cX5_run 67 = .ok (.iadd, 1) := by decide +kernel
theorem dX5_run_68 : decode cX5_run 68 = .ok (.iaload, 1) := by decide +kernel
theorem dX5_run_69 : decode cX5_run 69 = .ok (.istore 7, 2) := by decide +kernel
theorem dX5_run_71 : decode cX5_run 71 = .ok (.aload_n 0, 1) := by decide +kernel
theorem dX5_run_72 : decode cX5_run 72 = .ok (.getfield 29, 3) := by decide +kernel
theorem dX5_run_75 : decode cX5_run 75 = .ok (.bipush 24, 2) := by decide +kernel
theorem dX5_run_77 : decode cX5_run 77 = .ok (.if_icmp .ge 14, 3) := by decide +kernel
theorem dX5_run_80 : decode cX5_run 80 = .ok (.aload_n 0, 1) := by decide +kernel
theorem dX5_run_81 : decode cX5_run 81 = .ok (.getfield 15, 3) := by decide +kernel
theorem dX5_run_84 : decode cX5_run 84 = .ok (.aload_n 0, 1) := by decide +kernel
theorem dX5_run_85 : decode cX5_run 85 = .ok (.getfield 29, 3) := by decide +kernel
theorem dX5_run_88 : decode cX5_run 88 = .ok (.iload 7, 2) := by decide +kernel
theorem dX5_run_90 : decode cX5_run 90 = .ok (.iastore, 1) := by decide +kernel
theorem dX5_run_91 : decode cX5_run 91 = .ok (.aload_n 0, 1) := by decide +kernel
theorem dX5_run_92 : decode cX5_run 92 = .ok (.dup, 1) := by decide +kernel
theorem dX5_run_93 : decode cX5_run 93 = .ok (.getfield 29, 3) := by decide +kernel
theorem dX5_run_96 : decode cX5_run 96 = .ok (.iconst 1, 1) := by decide +kernel
theorem dX5_run_97 : decode cX5_run 97 = .ok (.iadd, 1) := by decide +kernel
theorem dX5_run_98 : decode cX5_run 98 = .ok (.putfield 29, 3) := by decide +kernel
theorem dX5_run_101 : decode cX5_run 101 = .ok (.aload_n 0, 1) := by decide +kernel
theorem dX5_run_102 : decode cX5_run 102 = .ok (.iload 7, 2) := by decide +kernel
theorem dX5_run_104 : decode cX5_run 104 = .ok (.iload_n 1, 1) := by decide +kernel
theorem dX5_run_105 : decode cX5_run 105 = .ok (.getstatic 26, 3) := by decide +kernel
theorem dX5_run_108 : decode cX5_run 108 = .ok (.iload 6, 2) := by decide +kernel
theorem dX5_run_110 : decode cX5_run 110 = .ok (.iaload, 1) := by decide +kernel
theorem dX5_run_111 : decode cX5_run 111 = .ok (.iload 4, 2) := by decide +kernel
theorem dX5_run_113 : decode cX5_run 113 = .ok (.iload 5, 2) := by decide +kernel
theorem dX5_run_115 : decode cX5_run 115 = .ok (.iconst 1, 1) := by decide +kernel
theorem dX5_run_116 : decode cX5_run 116 = .ok (.iadd, 1) := by decide +kernel
theorem dX5_run_117 : decode cX5_run 117 = .ok (.invokevirtual 39, 3) := by decide +kernel
theorem dX5_run_120 : decode cX5_run 120 = .ok (.ireturn, 1) := by decide +kernel
theorem dX5_worked_0 : decode cX5_worked 0 = .ok (.aload_n 0, 1) := by decide +kernel
theorem dX5_worked_1 : decode cX5_worked 1 = .ok (.getfield 11, 3) := by decide +kernel
theorem dX5_worked_4 : decode cX5_worked 4 = .ok (.iload_n 2, 1) := by decide +kernel
theorem dX5_worked_5 : decode cX5_worked 5 = .ok (.iaload, 1) := by decide +kernel
theorem dX5_worked_6 : decode cX5_worked 6 = .ok (.istore 6, 2) := by decide +kernel
theorem dX5_worked_8 : decode cX5_worked 8 = .ok (.iload_n 1, 1) := by decide +kernel
theorem dX5_worked_9 : decode cX5_worked 9 = .ok (.lookupswitch 310 #[(1, 115), (2, 120), (10, 145), (11, 160), (20, 165), (30, 179), (40, 192), (41, 206), (50, 220), (60, 244), (70, 258), (80, 272), (81, 296)], 115) := by decide +kernel
theorem dX5_worked_124 : decode cX5_worked 124 = .ok (.iload 4, 2) := by decide +kernel
theorem dX5_worked_126 : decode cX5_worked 126 = .ok (.iload_n 2, 1) := by decide +kernel
theorem dX5_worked_127 : decode cX5_worked 127 = .ok (.iadd, 1) := by decide +kernel
theorem dX5_worked_128 : decode cX5_worked 128 = .ok (.ireturn, 1) := by decide +kernel
theorem dX5_worked_129 : decode cX5_worked 129 = .ok (.aload_n 0, 1) := by decide +kernel
theorem dX5_worked_130 : decode cX5_worked 130 = .ok (.iload_n 2, 1) := by decide +kernel
theorem dX5_worked_131 : decode cX5_worked 131 = .ok (.iload 6, 2) := by decide +kernel
theorem dX5_worked_133 : decode cX5_worked 133 = .ok (.iconst 1, 1) := by decide +kernel
theorem dX5_worked_134 : decode cX5_worked 134 = .ok (.iload 4, 2) := by decide +kernel
theorem dX5_worked_136 : decode cX5_worked 136 = .ok (.iload 5, 2) := by decide +kernel
theorem dX5_worked_138 : decode cX5_worked 138 = .ok (.invokevirtual 32, 3) := by decide +kernel
theorem dX5_worked_141 : decode cX5_worked 141 = .ok (.aload_n 0, 1) := by decide +kernel
theorem dX5_worked_142 : decode cX5_worked 142 = .ok (.iload_n 2, 1) := by decide +kernel
theorem dX5_worked_143 : decode cX5_worked 143 = .ok (.iload 6, 2) := by decide +kernel
theorem dX5_worked_145 : decode cX5_worked 145 = .ok (.iconst 2, 1) := by decide +kernel
theorem dX5_worked_146 : decode cX5_worked 146 = .ok (.iconst 1, 1) := by decide +kernel
theorem dX5_worked_147 : decode cX5_worked 147 = .ok (.iload 5, 2) := by decide +kernel
theorem dX5_worked_149 : decode cX5_worked 149 = .ok (.invokevirtual 32, 3) := by decide +kernel
theorem dX5_worked_152 : decode cX5_worked 152 = .ok (.isub, 1) := by decide +kernel
theorem dX5_worked_153 : decode cX5_worked 153 = .ok (.ireturn, 1) := by decide +kernel
theorem dX5_worked_154 : decode cX5_worked 154 = .ok (.aload_n 0, 1) := by decide +kernel
theorem dX5_worked_155 : decode cX5_worked 155 = .ok (.iload_n 2, 1) := by decide +kernel
theorem dX5_worked_156 : decode cX5_worked 156 = .ok (.iload 6, 2) := by decide +kernel
theorem dX5_worked_158 : decode cX5_worked 158 = .ok (.iconst 0, 1) := by decide +kernel
theorem dX5_worked_159 : decode cX5_worked 159 = .ok (.iload 4, 2) := by decide +kernel
theorem dX5_worked_161 : decode cX5_worked 161 = .ok (.iload 5, 2) := by decide +kernel
theorem dX5_worked_163 : decode cX5_worked 163 = .ok (.invokevirtual 32, 3) := by decide +kernel
theorem dX5_worked_166 : decode cX5_worked 166 = .ok (.iconst 2, 1) := by decide +kernel
theorem dX5_worked_167 : decode cX5_worked 167 = .ok (.imul, 1) := by decide +kernel
theorem dX5_worked_168 : decode cX5_worked 168 = .ok (.ireturn, 1) := by decide +kernel
theorem dX5_worked_169 : decode cX5_worked 169 = .ok (.iload 4, 2) := by decide +kernel
theorem dX5_worked_171 : decode cX5_worked 171 = .ok (.iload_n 2, 1) := by decide +kernel
theorem dX5_worked_172 : decode cX5_worked 172 = .ok (.ixor, 1) := by decide +kernel
theorem dX5_worked_173 : decode cX5_worked 173 = .ok (.ireturn, 1) := by decide +kernel
theorem dX5_worked_174 : decode cX5_worked 174 = .ok (.aload_n 0, 1) := by decide +kernel
theorem dX5_worked_175 : decode cX5_worked 175 = .ok (.iload_n 2, 1) := by decide +kernel
theorem dX5_worked_176 : decode cX5_worked 176 = .ok (.iload_n 3, 1) := by decide +kernel
theorem dX5_worked_177 : decode cX5_worked 177 = .ok (.iconst 0, 1) := by decide +kernel
theorem dX5_worked_178 : decode cX5_worked 178 = .ok (.iload 4, 2) := by decide +kernel
theorem dX5_worked_180 : decode cX5_worked 180 = .ok (.iload 5, 2) := by decide +kernel
theorem dX5_worked_182 : decode cX5_worked 182 = .ok (.invokevirtual 32, 3) := by decide +kernel
theorem dX5_worked_185 : decode cX5_worked 185 = .ok (.iconst 3, 1) := by decide +kernel
theorem dX5_worked_186 : decode cX5_worked 186 = .ok (.iadd, 1) := by decide +kernel
theorem dX5_worked_187 : decode cX5_worked 187 = .ok (.ireturn, 1) := by decide +kernel
theorem dX5_worked_188 : decode cX5_worked 188 = .ok (.aload_n 0, 1) := by decide +kernel
theorem dX5_worked_189 : decode cX5_worked 189 = .ok (.iload_n 2, 1) := by decide +kernel
theorem dX5_worked_190 : decode cX5_worked 190 = .ok (.iload_n 3, 1) := by decide +kernel
theorem dX5_worked_191 : decode cX5_worked 191 = .ok (.iconst 1, 1) := by decide +kernel
theorem dX5_worked_192 : decode cX5_worked 192 = .ok (.iload 4, 2) := by decide +kernel
theorem dX5_worked_194 : decode cX5_worked 194 = .ok (.iload 5, 2) := by decide +kernel
theorem dX5_worked_196 : decode cX5_worked 196 = .ok (.invokevirtual 32, 3) := by decide +kernel
theorem dX5_worked_199 : decode cX5_worked 199 = .ok (.ineg, 1) := by decide +kernel
theorem dX5_worked_200 : decode cX5_worked 200 = .ok (.ireturn, 1) := by decide +kernel
theorem dX5_worked_201 : decode cX5_worked 201 = .ok (.aload_n 0, 1) := by decide +kernel
theorem dX5_worked_202 : decode cX5_worked 202 = .ok (.iload_n 2, 1) := by decide +kernel
theorem dX5_worked_203 : decode cX5_worked 203 = .ok (.iload_n 3, 1) := by decide +kernel
theorem dX5_worked_204 : decode cX5_worked 204 = .ok (.iconst 2, 1) := by decide +kernel
theorem dX5_worked_205 : decode cX5_worked 205 = .ok (.iload 4, 2) := by decide +kernel
theorem dX5_worked_207 : decode cX5_worked 207 = .ok (.iload 5, 2) := by decide +kernel
theorem dX5_worked_209 : decode cX5_worked 209 = .ok (.invokevirtual 32, 3) := by decide +kernel
theorem dX5_worked_212 : decode cX5_worked 212 = .ok (.iconst 3, 1) := by decide +kernel
theorem dX5_worked_213 : decode cX5_worked 213 = .ok (.imul, 1) := by decide +kernel
theorem dX5_worked_214 : decode cX5_worked 214 = .ok (.ireturn, 1) := by decide +kernel
theorem dX5_worked_215 : decode cX5_worked 215 = .ok (.aload_n 0, 1) := by decide +kernel
theorem dX5_worked_216 : decode cX5_worked 216 = .ok (.iload_n 2, 1) := by decide +kernel
theorem dX5_worked_217 : decode cX5_worked 217 = .ok (.iload_n 3, 1) := by decide +kernel
theorem dX5_worked_218 : decode cX5_worked 218 = .ok (.iconst 1, 1) := by decide +kernel
theorem dX5_worked_219 : decode cX5_worked 219 = .ok (.iload 4, 2) := by decide +kernel
theorem dX5_worked_221 : decode cX5_worked 221 = .ok (.iconst 1, 1) := by decide +kernel
theorem dX5_worked_222 : decode cX5_worked 222 = .ok (.iadd, 1) := by decide +kernel
theorem dX5_worked_223 : decode cX5_worked 223 = .ok (.iload 5, 2) := by decide +kernel
theorem dX5_worked_225 : decode cX5_worked 225 = .ok (.invokevirtual 32, 3) := by decide +kernel
theorem dX5_worked_228 : decode cX5_worked 228 = .ok (.ireturn, 1) := by decide +kernel
theorem dX5_worked_229 : decode cX5_worked 229 = .ok (.aload_n 0, 1) := by decide +kernel
theorem dX5_worked_230 : decode cX5_worked 230 = .ok (.iload_n 2, 1) := by decide +kernel
theorem dX5_worked_231 : decode cX5_worked 231 = .ok (.iload_n 3, 1) := by decide +kernel
theorem dX5_worked_232 : decode cX5_worked 232 = .ok (.iconst 2, 1) := by decide +kernel
theorem dX5_worked_233 : decode cX5_worked 233 = .ok (.iload 4, 2) := by decide +kernel
theorem dX5_worked_235 : decode cX5_worked 235 = .ok (.iload 5, 2) := by decide +kernel
theorem dX5_worked_237 : decode cX5_worked 237 = .ok (.invokevirtual 32, 3) := by decide +kernel
theorem dX5_worked_240 : decode cX5_worked 240 = .ok (.aload_n 0, 1) := by decide +kernel
theorem dX5_worked_241 : decode cX5_worked 241 = .ok (.iload_n 2, 1) := by decide +kernel
theorem dX5_worked_242 : decode cX5_worked 242 = .ok (.iload 6, 2) := by decide +kernel
theorem dX5_worked_244 : decode cX5_worked 244 = .ok (.iconst 0, 1) := by decide +kernel
theorem dX5_worked_245 : decode cX5_worked 245 = .ok (.iconst 2, 1) := by decide +kernel
theorem dX5_worked_246 : decode cX5_worked 246 = .ok (.iload 5, 2) := by decide +kernel
theorem dX5_worked_248 : decode cX5_worked 248 = .ok (.invokevirtual 32, 3) := by decide +kernel
theorem dX5_worked_251 : decode cX5_worked 251 = .ok (.isub, 1) := by decide +kernel
theorem dX5_worked_252 : decode cX5_worked 252 = .ok (.ireturn, 1) := by decide +kernel
theorem dX5_worked_253 : decode cX5_worked 253 = .ok (.aload_n 0, 1) := by decide +kernel
theorem dX5_worked_254 : decode cX5_worked 254 = .ok (.iload_n 2, 1) := by decide +kernel
theorem dX5_worked_255 : decode cX5_worked 255 = .ok (.iload_n 3, 1) := by decide +kernel
theorem dX5_worked_256 : decode cX5_worked 256 = .ok (.iconst 3, 1) := by decide +kernel
theorem dX5_worked_257 : decode cX5_worked 257 = .ok (.iload 4, 2) := by decide +kernel
theorem dX5_worked_259 : decode cX5_worked 259 = .ok (.iload 5, 2) := by decide +kernel
theorem dX5_worked_261 : decode cX5_worked 261 = .ok (.invokevirtual 32, 3) := by decide +kernel
theorem dX5_worked_264 : decode cX5_worked 264 = .ok (.iconst 5, 1) := by decide +kernel
theorem dX5_worked_265 : decode cX5_worked 265 = .ok (.ixor, 1) := by decide +kernel
theorem dX5_worked_266 : decode cX5_worked 266 = .ok (.ireturn, 1) := by decide +kernel
theorem dX5_worked_267 : decode cX5_worked 267 = .ok (.aload_n 0, 1) := by decide +kernel
theorem dX5_worked_268 : decode cX5_worked 268 = .ok (.iload_n 2, 1) := by decide +kernel
theorem dX5_worked_269 : decode cX5_worked 269 = .ok (.iload_n 3, 1) := by decide +kernel
theorem dX5_worked_270 : decode cX5_worked 270 = .ok (.iconst 0, 1) := by decide +kernel
theorem dX5_worked_271 : decode cX5_worked 271 = .ok (.iload 4, 2) := by decide +kernel
theorem dX5_worked_273 : decode cX5_worked 273 = .ok (.iload 5, 2) := by decide +kernel
theorem dX5_worked_275 : decode cX5_worked 275 = .ok (.invokevirtual 32, 3) := by decide +kernel
theorem dX5_worked_278 : decode cX5_worked 278 = .ok (.iconst 2, 1) := by decide +kernel
theorem dX5_worked_279 : decode cX5_worked 279 = .ok (.imul, 1) := by decide +kernel
theorem dX5_worked_280 : decode cX5_worked 280 = .ok (.ireturn, 1) := by decide +kernel
theorem dX5_worked_281 : decode cX5_worked 281 = .ok (.aload_n 0, 1) := by decide +kernel
theorem dX5_worked_282 : decode cX5_worked 282 = .ok (.iload_n 2, 1) := by decide +kernel
theorem dX5_worked_283 : decode cX5_worked 283 = .ok (.iload_n 3, 1) := by decide +kernel
theorem dX5_worked_284 : decode cX5_worked 284 = .ok (.iconst 1, 1) := by decide +kernel
theorem dX5_worked_285 : decode cX5_worked 285 = .ok (.iload 4, 2) := by decide +kernel
theorem dX5_worked_287 : decode cX5_worked 287 = .ok (.iload 5, 2) := by decide +kernel
theorem dX5_worked_289 : decode cX5_worked 289 = .ok (.invokevirtual 32, 3) := by decide +kernel
theorem dX5_worked_292 : decode cX5_worked 292 = .ok (.aload_n 0, 1) := by decide +kernel
theorem dX5_worked_293 : decode cX5_worked 293 = .ok (.iload_n 2, 1) := by decide +kernel
theorem dX5_worked_294 : decode cX5_worked 294 = .ok (.iload 6, 2) := by decide +kernel
theorem dX5_worked_296 : decode cX5_worked 296 = .ok (.iconst 2, 1) := by decide +kernel
theorem dX5_worked_297 : decode cX5_worked 297 = .ok (.iconst 2, 1) := by decide +kernel
theorem dX5_worked_298 : decode cX5_worked 298 = .ok (.iload 5, 2) := by decide +kernel
theorem dX5_worked_300 : decode cX5_worked 300 = .ok (.invokevirtual 32, 3) := by decide +kernel
theorem dX5_worked_303 : decode cX5_worked 303 = .ok (.iadd, 1) := by decide +kernel
theorem dX5_worked_304 : decode cX5_worked 304 = .ok (.ireturn, 1) := by decide +kernel
theorem dX5_worked_305 : decode cX5_worked 305 = .ok (.aload_n 0, 1) := by decide +kernel
theorem dX5_worked_306 : decode cX5_worked 306 = .ok (.iload_n 2, 1) := by decide +kernel
theorem dX5_worked_307 : decode cX5_worked 307 = .ok (.iload_n 3, 1) := by decide +kernel
theorem dX5_worked_308 : decode cX5_worked 308 = .ok (.iconst 3, 1) := by decide +kernel
theorem dX5_worked_309 : decode cX5_worked 309 = .ok (.iload 4, 2) := by decide +kernel
theorem dX5_worked_311 : decode cX5_worked 311 = .ok (.iload 5, 2) := by decide +kernel
theorem dX5_worked_313 : decode cX5_worked 313 = .ok (.invokevirtual 32, 3) := by decide +kernel
theorem dX5_worked_316 : decode cX5_worked 316 = .ok (.iconst 1, 1) := by decide +kernel
theorem dX5_worked_317 : decode cX5_worked 317 = .ok (.isub, 1) := by decide +kernel
theorem dX5_worked_318 : decode cX5_worked 318 = .ok (.ireturn, 1) := by decide +kernel
theorem dX5_worked_319 : decode cX5_worked 319 = .ok (.iconst 0, 1) := by decide +kernel
theorem dX5_worked_320 : decode cX5_worked 320 = .ok (.ireturn, 1) := by decide +kernel
theorem dX6_init_0 : decode cX6_init 0 = .ok (.aload_n 0, 1) := by decide +kernel
theorem dX6_init_1 : decode cX6_init 1 = .ok (.invokespecial 3, 3) := by decide +kernel
theorem dX6_init_4 : decode cX6_init 4 = .ok (.aload_n 0, 1) := by decide +kernel
theorem dX6_init_5 : decode cX6_init 5 = .ok (.bipush 120, 2) := by decide +kernel
theorem dX6_init_7 : decode cX6_init 7 = .ok (.newarray .int, 2) := by decide +kernel
theorem dX6_init_9 : decode cX6_init 9 = .ok (.putfield 9, 3) := by decide +kernel
theorem dX6_init_12 : decode cX6_init 12 = .ok (.return_, 1) := by decide +kernel
theorem dX6_take_0 : decode cX6_take 0 = .ok (.aload_n 0, 1) := by decide +kernel
theorem dX6_take_1 : decode cX6_take 1 = .ok (.getfield 15, 3) := by decide +kernel
theorem dX6_take_4 : decode cX6_take 4 = .ok (.bipush 120, 2) := by decide +kernel
theorem dX6_take_6 : decode cX6_take 6 = .ok (.if_icmp .lt 5, 3) := by decide +kernel
theorem dX6_take_9 : decode cX6_take 9 = .ok (.iconst 0, 1) := by decide +kernel
theorem dX6_take_10 : decode cX6_take 10 = .ok (.ireturn, 1) := by decide +kernel
theorem dX6_take_11 : decode cX6_take 11 = .ok (.aload_n 0, 1) := by decide +kernel
theorem dX6_take_12 : decode cX6_take 12 = .ok (.getfield 9, 3) := by decide +kernel
theorem dX6_take_15 : decode cX6_take 15 = .ok (.aload_n 0, 1) := by decide +kernel
theorem dX6_take_16 : decode cX6_take 16 = .ok (.getfield 15, 3) := by decide +kernel
theorem dX6_take_19 : decode cX6_take 19 = .ok (.iload_n 1, 1) := by decide +kernel
theorem dX6_take_20 : decode cX6_take 20 = .ok (.iastore, 1) := by decide +kernel
theorem dX6_take_21 : decode cX6_take 21 = .ok (.aload_n 0, 1) := by decide +kernel
theorem dX6_take_22 : decode cX6_take 22 = .ok (.dup, 1) := by decide +kernel
theorem dX6_take_23 : decode cX6_take 23 = .ok (.getfield 15, 3) := by decide +kernel
theorem dX6_take_26 : decode cX6_take 26 = .ok (.iconst 1, 1) := by decide +kernel
theorem dX6_take_27 : decode cX6_take 27 = .ok (.iadd, 1) := by decide +kernel
theorem dX6_take_28 : decode cX6_take 28 = .ok (.putfield 15, 3) := by decide +kernel
theorem dX6_take_31 : decode cX6_take 31 = .ok (.iconst 1, 1) := by decide +kernel
theorem dX6_take_32 : decode cX6_take 32 = .ok (.ireturn, 1) := by decide +kernel
theorem dX6_readInto_0 : decode cX6_readInto 0 = .ok (.aload_n 0, 1) := by decide +kernel
theorem dX6_readInto_1 : decode cX6_readInto 1 = .ok (.aload_n 1, 1) := by decide +kernel
theorem dX6_readInto_2 : decode cX6_readInto 2 = .ok (.putfield 19, 3) := by decide +kernel
theorem dX6_readInto_5 : decode cX6_readInto 5 = .ok (.aload_n 0, 1) := by decide +kernel
theorem dX6_readInto_6 : decode cX6_readInto 6 = .ok (.getfield 19, 3) := by decide +kernel
theorem dX6_readInto_9 : decode cX6_readInto 9 = .ok (.invokevirtual 23, 3) := by decide +kernel
theorem dX6_readInto_12 : decode cX6_readInto 12 = .ok (.aload_n 0, 1) := by decide +kernel
theorem dX6_readInto_13 : decode cX6_readInto 13 = .ok (.iconst 0, 1) := by decide +kernel
theorem dX6_readInto_14 : decode cX6_readInto 14 = .ok (.putfield 28, 3) := by decide +kernel
theorem dX6_readInto_17 : decode cX6_readInto 17 = .ok (.iconst 0, 1) := by decide +kernel
theorem dX6_readInto_18 : decode cX6_readInto 18 = .ok (.istore_n 2, 1) := by decide +kernel
theorem dX6_readInto_19 : decode cX6_readInto 19 = .ok (.iload_n 2, 1) := by decide +kernel
theorem dX6_readInto_20 : decode cX6_readInto 20 = .ok (.aload_n 0, 1) := by decide +kernel
theorem dX6_readInto_21 : decode cX6_readInto 21 = .ok (.getfield 15, 3) := by decide +kernel
theorem dX6_readInto_24 : decode cX6_readInto 24 = .ok (.if_icmp .gt 58, 3) := by decide +kernel
theorem dX6_readInto_27 : decode cX6_readInto 27 = .ok (.aload_n 0, 1) := by decide +kernel
theorem dX6_readInto_28 : decode cX6_readInto 28 = .ok (.invokevirtual 31, 3) := by decide +kernel
theorem dX6_readInto_31 : decode cX6_readInto 31 = .ok (.ifCond .ne 8, 3) := by decide +kernel
theorem dX6_readInto_34 : decode cX6_readInto 34 = .ok (.aload_n 0, 1) := by decide +kernel
theorem dX6_readInto_35 : decode cX6_readInto 35 = .ok (.getfield 28, 3) := by decide +kernel
theorem dX6_readInto_38 : decode cX6_readInto 38 = .ok (.ireturn, 1) := by decide +kernel
theorem dX6_readInto_39 : decode cX6_readInto 39 = .ok (.aload_n 0, 1) := by decide +kernel
theorem dX6_readInto_40 : decode cX6_readInto 40 = .ok (.getfield 28, 3) := by decide +kernel
theorem dX6_readInto_43 : decode cX6_readInto 43 = .ok (.aload_n 0, 1) := by decide +kernel
theorem dX6_readInto_44 : decode cX6_readInto 44 = .ok (.getfield 15, 3) := by decide +kernel
theorem dX6_readInto_47 : decode cX6_readInto 47 = .ok (.if_icmp .lt 5, 3) := by decide +kernel
theorem dX6_readInto_50 : decode cX6_readInto 50 = .ok (.iconst (-1), 1) := by decide +kernel
theorem dX6_readInto_51 : decode cX6_readInto 51 = .ok (.ireturn, 1) := by decide +kernel
theorem dX6_readInto_52 : decode cX6_readInto 52 = .ok (.aload_n 0, 1) := by decide +kernel
theorem dX6_readInto_53 : decode cX6_readInto 53 = .ok (.invokevirtual 35, 3) := by decide +kernel
theorem dX6_readInto_56 : decode cX6_readInto 56 = .ok (.bipush 59, 2) := by decide +kernel
theorem dX6_readInto_58 : decode cX6_readInto 58 = .ok (.if_icmp .eq 8, 3) := by decide +kernel
theorem dX6_readInto_61 : decode cX6_readInto 61 = .ok (.aload_n 0, 1) := by decide +kernel
theorem dX6_readInto_62 : decode cX6_readInto 62 = .ok (.getfield 28, 3) := by decide +kernel
theorem dX6_readInto_65 : decode cX6_readInto 65 = .ok (.ireturn, 1) := by decide +kernel
theorem dX6_readInto_66 : decode cX6_readInto 66 = .ok (.aload_n 0, 1) := by decide +kernel
theorem dX6_readInto_67 : decode cX6_readInto 67 = .ok (.dup, 1) := by decide +kernel
theorem dX6_readInto_68 : decode cX6_readInto 68 = .ok (.getfield 28, 3) := by decide +kernel
theorem dX6_readInto_71 : decode cX6_readInto 71 = .ok (.iconst 1, 1) := by decide +kernel
theorem dX6_readInto_72 : decode cX6_readInto 72 = .ok (.iadd, 1) := by decide +kernel
theorem dX6_readInto_73 : decode cX6_readInto 73 = .ok (.putfield 28, 3) := by decide +kernel
theorem dX6_readInto_76 : decode cX6_readInto 76 = .ok (.iinc 2 1, 3) := by decide +kernel
theorem dX6_readInto_79 : decode cX6_readInto 79 = .ok (.goto (-60), 3) := by decide +kernel
theorem dX6_readInto_82 : decode cX6_readInto 82 = .ok (.aload_n 0, 1) := by decide +kernel
theorem dX6_readInto_83 : decode cX6_readInto 83 = .ok (.getfield 28, 3) := by decide +kernel
theorem dX6_readInto_86 : decode cX6_readInto 86 = .ok (.ireturn, 1) := by decide +kernel
theorem dX6_readLine_0 : decode cX6_readLine 0 = .ok (.aload_n 0, 1) := by decide +kernel
theorem dX6_readLine_1 : decode cX6_readLine 1 = .ok (.iconst 0, 1) := by decide +kernel
theorem dX6_readLine_2 : decode cX6_readLine 2 = .ok (.iconst 0, 1) := by decide +kernel
theorem dX6_readLine_3 : decode cX6_readLine 3 = .ok (.invokevirtual 39, 3) := by decide +kernel
theorem dX6_readLine_6 : decode cX6_readLine 6 = .ok (.ifCond .ne 5, 3) := by decide +kernel
theorem dX6_readLine_9 : decode cX6_readLine 9 = .ok (.iconst 0, 1) := by decide +kernel
theorem dX6_readLine_10 : decode cX6_readLine 10 = .ok (.ireturn, 1) := by decide +kernel
theorem dX6_readLine_11 : decode cX6_readLine 11 = .ok (.aload_n 0, 1) := by decide +kernel
theorem dX6_readLine_12 : decode cX6_readLine 12 = .ok (.invokevirtual 35, 3) := by decide +kernel
theorem dX6_readLine_15 : decode cX6_readLine 15 = .ok (.bipush 63, 2) := by decide +kernel
theorem dX6_readLine_17 : decode cX6_readLine 17 = .ok (.if_icmp .ne 7, 3) := by decide +kernel
theorem dX6_readLine_20 : decode cX6_readLine 20 = .ok (.iconst 1, 1) := by decide +kernel
theorem dX6_readLine_21 : decode cX6_readLine 21 = .ok (.goto 4, 3) := by decide +kernel
theorem dX6_readLine_24 : decode cX6_readLine 24 = .ok (.iconst 0, 1) := by decide +kernel
theorem dX6_readLine_25 : decode cX6_readLine 25 = .ok (.istore_n 1, 1) := by decide +kernel
theorem dX6_readLine_26 : decode cX6_readLine 26 = .ok (.aload_n 0, 1) := by decide +kernel
theorem dX6_readLine_27 : decode cX6_readLine 27 = .ok (.getfield 19, 3) := by decide +kernel
theorem dX6_readLine_30 : decode cX6_readLine 30 = .ok (.iload_n 1, 1) := by decide +kernel
theorem dX6_readLine_31 : decode cX6_readLine 31 = .ok (.invokevirtual 43, 3) := by decide +kernel
theorem dX6_readLine_34 : decode cX6_readLine 34 = .ok (.iload_n 1, 1) := by decide +kernel
theorem dX6_readLine_35 : decode cX6_readLine 35 = .ok (.ifCond .ne 5, 3) := by decide +kernel
theorem dX6_readLine_38 : decode cX6_readLine 38 = .ok (.iconst 1, 1) := by decide +kernel
theorem dX6_readLine_39 : decode cX6_readLine 39 = .ok (.ireturn, 1) := by decide +kernel
theorem dX6_readLine_40 : decode cX6_readLine 40 = .ok (.aload_n 0, 1) := by decide +kernel
theorem dX6_readLine_41 : decode cX6_readLine 41 = .ok (.dup, 1) := by decide +kernel
theorem dX6_readLine_42 : decode cX6_readLine 42 = .ok (.getfield 28, 3) := by decide +kernel
theorem dX6_readLine_45 : decode cX6_readLine 45 = .ok (.iconst 1, 1) := by decide +kernel
theorem dX6_readLine_46 : decode cX6_readLine 46 = .ok (.iadd, 1) := by decide +kernel
theorem dX6_readLine_47 : decode cX6_readLine 47 = .ok (.putfield 28, 3) := by decide +kernel
theorem dX6_readLine_50 : decode cX6_readLine 50 = .ok (.aload_n 0, 1) := by decide +kernel
theorem dX6_readLine_51 : decode cX6_readLine 51 = .ok (.iconst 0, 1) := by decide +kernel
theorem dX6_readLine_52 : decode cX6_readLine 52 = .ok (.iconst 0, 1) := by decide +kernel
theorem dX6_readLine_53 : decode cX6_readLine 53 = .ok (.invokevirtual 39, 3) := by decide +kernel
theorem dX6_readLine_56 : decode cX6_readLine 56 = .ok (.ifCond .ne 5, 3) := by decide +kernel
theorem dX6_readLine_59 : decode cX6_readLine 59 = .ok (.iconst 0, 1) := by decide +kernel
theorem dX6_readLine_60 : decode cX6_readLine 60 = .ok (.ireturn, 1) := by decide +kernel
theorem dX6_readLine_61 : decode cX6_readLine 61 = .ok (.aload_n 0, 1) := by decide +kernel
theorem dX6_readLine_62 : decode cX6_readLine 62 = .ok (.getfield 19, 3) := by decide +kernel
theorem dX6_readLine_65 : decode cX6_readLine 65 = .ok (.iconst 0, 1) := by decide +kernel
theorem dX6_readLine_66 : decode cX6_readLine 66 = .ok (.invokevirtual 43, 3) := by decide +kernel
theorem dX6_readLine_69 : decode cX6_readLine 69 = .ok (.iconst 1, 1) := by decide +kernel
theorem dX6_readLine_70 : decode cX6_readLine 70 = .ok (.ireturn, 1) := by decide +kernel
theorem dX6_readJoined_0 : decode cX6_readJoined 0 = .ok (.iload_n 1, 1) := by decide +kernel
theorem dX6_readJoined_1 : decode cX6_readJoined 1 = .ok (.iconst 5, 1) := by decide +kernel
theorem dX6_readJoined_2 : decode cX6_readJoined 2 = .ok (.if_icmp .lt 9, 3) := by decide +kernel
theorem dX6_readJoined_5 : decode cX6_readJoined 5 = .ok (.aload_n 0, 1) := by decide +kernel
theorem dX6_readJoined_6 : decode cX6_readJoined 6 = .ok (.iload_n 2, 1) := by decide +kernel
theorem dX6_readJoined_7 : decode cX6_readJoined 7 = .ok (.invokevirtual 47, 3) := by decide +kernel
theorem dX6_readJoined_10 : decode cX6_readJoined 10 = .ok (.ireturn, 1) := by decide +kernel
theorem dX6_readJoined_11 : decode cX6_readJoined 11 = .ok (.aload_n 0, 1) := by decide +kernel
theorem dX6_readJoined_12 : decode cX6_readJoined 12 = .ok (.iload_n 1, 1) := by decide +kernel
theorem dX6_readJoined_13 : decode cX6_readJoined 13 = .ok (.iconst 1, 1) := by decide +kernel
theorem dX6_readJoined_14 : decode cX6_readJoined 14 = .ok (.iadd, 1) := by decide +kernel
theorem dX6_readJoined_15 : decode cX6_readJoined 15 = .ok (.iload_n 2, 1) := by decide +kernel
theorem dX6_readJoined_16 : decode cX6_readJoined 16 = .ok (.invokevirtual 39, 3) := by decide +kernel
theorem dX6_readJoined_19 : decode cX6_readJoined 19 = .ok (.ifCond .ne 5, 3) := by decide +kernel
theorem dX6_readJoined_22 : decode cX6_readJoined 22 = .ok (.iconst 0, 1) := by decide +kernel
theorem dX6_readJoined_23 : decode cX6_readJoined 23 = .ok (.ireturn, 1) := by decide +kernel
theorem dX6_readJoined_24 : decode cX6_readJoined 24 = .ok (.iload_n 1, 1) := by decide +kernel
theorem dX6_readJoined_25 : decode cX6_readJoined 25 = .ok (.iconst 2, 1) := by decide +kernel
theorem dX6_readJoined_26 : decode cX6_readJoined 26 = .ok (.if_icmp .ne 7, 3) := by decide +kernel
theorem dX6_readJoined_29 : decode cX6_readJoined 29 = .ok (.iconst 1, 1) := by decide +kernel
theorem dX6_readJoined_30 : decode cX6_readJoined 30 = .ok (.goto 7, 3) := by decide +kernel
theorem dX6_readJoined_33 : decode cX6_readJoined 33 = .ok (.aload_n 0, 1) := by decide +kernel
theorem dX6_readJoined_34 : decode cX6_readJoined 34 = .ok (.getfield 15, 3) := by decide +kernel
theorem dX6_readJoined_37 : decode cX6_readJoined 37 = .ok (.istore_n 3, 1) := by decide +kernel
theorem dX6_readJoined_38 : decode cX6_readJoined 38 = .ok (.iconst 0, 1) := by decide +kernel
theorem dX6_readJoined_39 : decode cX6_readJoined 39 = .ok (.istore 4, 2) := by decide +kernel
theorem dX6_readJoined_41 : decode cX6_readJoined 41 = .ok (.iload 4, 2) := by decide +kernel
theorem dX6_readJoined_43 : decode cX6_readJoined 43 = .ok (.iload_n 3, 1) := by decide +kernel
theorem dX6_readJoined_44 : decode cX6_readJoined 44 = .ok (.if_icmp .ge 59, 3) := by decide +kernel
theorem dX6_readJoined_47 : decode cX6_readJoined 47 = .ok (.aload_n 0, 1) := by decide +kernel
theorem dX6_readJoined_48 : decode cX6_readJoined 48 = .ok (.invokevirtual 35, 3) := by decide +kernel
theorem dX6_readJoined_51 : decode cX6_readJoined 51 = .ok (.invokestatic 51, 3) := by decide +kernel
theorem dX6_readJoined_54 : decode cX6_readJoined 54 = .ok (.iload_n 1, 1) := by decide +kernel
theorem dX6_readJoined_55 : decode cX6_readJoined 55 = .ok (.if_icmp .ne 48, 3) := by decide +kernel
theorem dX6_readJoined_58 : decode cX6_readJoined 58 = .ok (.aload_n 0, 1) := by decide +kernel
theorem dX6_readJoined_59 : decode cX6_readJoined 59 = .ok (.invokevirtual 35, 3) := by decide +kernel
theorem dX6_readJoined_62 : decode cX6_readJoined 62 = .ok (.istore 5, 2) := by decide +kernel
theorem dX6_readJoined_64 : decode cX6_readJoined 64 = .ok (.aload_n 0, 1) := by decide +kernel
theorem dX6_readJoined_65 : decode cX6_readJoined 65 = .ok (.dup, 1) := by decide +kernel
theorem dX6_readJoined_66 : decode cX6_readJoined 66 = .ok (.getfield 28, 3) := by decide +kernel
theorem dX6_readJoined_69 : decode cX6_readJoined 69 = .ok (.iconst 1, 1) := by decide +kernel
theorem dX6_readJoined_70 : decode cX6_readJoined 70 = .ok (.iadd, 1) := by decide +kernel
theorem dX6_readJoined_71 : decode cX6_readJoined 71 = .ok (.putfield 28, 3) := by decide +kernel
theorem dX6_readJoined_74 : decode cX6_readJoined 74 = .ok (.aload_n 0, 1) := by decide +kernel
theorem dX6_readJoined_75 : decode cX6_readJoined 75 = .ok (.iload_n 1, 1) := by decide +kernel
theorem dX6_readJoined_76 : decode cX6_readJoined 76 = .ok (.iconst 1, 1) := by decide +kernel
theorem dX6_readJoined_77 : decode cX6_readJoined 77 = .ok (.iadd, 1) := by decide +kernel
theorem dX6_readJoined_78 : decode cX6_readJoined 78 = .ok (.iload_n 2, 1) := by decide +kernel
theorem dX6_readJoined_79 : decode cX6_readJoined 79 = .ok (.invokevirtual 39, 3) := by decide +kernel
theorem dX6_readJoined_82 : decode cX6_readJoined 82 = .ok (.ifCond .ne 5, 3) := by decide +kernel
theorem dX6_readJoined_85 : decode cX6_readJoined 85 = .ok (.iconst 0, 1) := by decide +kernel
theorem dX6_readJoined_86 : decode cX6_readJoined 86 = .ok (.ireturn, 1) := by decide +kernel
theorem dX6_readJoined_87 : decode cX6_readJoined 87 = .ok (.aload_n 0, 1) := by decide +kernel
theorem dX6_readJoined_88 : decode cX6_readJoined 88 = .ok (.getfield 19, 3) := by decide +kernel
theorem dX6_readJoined_91 : decode cX6_readJoined 91 = .ok (.iload 5, 2) := by decide +kernel
theorem dX6_readJoined_93 : decode cX6_readJoined 93 = .ok (.iconst 0, 1) := by decide +kernel
theorem dX6_readJoined_94 : decode cX6_readJoined 94 = .ok (.invokevirtual 55, 3) := by decide +kernel
theorem dX6_readJoined_97 : decode cX6_readJoined 97 = .ok (.iinc 4 1, 3) := by decide +kernel
theorem dX6_readJoined_100 : decode cX6_readJoined 100 = .ok (.goto (-59), 3) := by decide +kernel
theorem dX6_readJoined_103 : decode cX6_readJoined 103 = .ok (.iconst 1, 1) := by decide +kernel
theorem dX6_readJoined_104 : decode cX6_readJoined 104 = .ok (.ireturn, 1) := by decide +kernel
theorem dX6_readOperand_0 : decode cX6_readOperand 0 = .ok (.aload_n 0, 1) := by decide +kernel
theorem dX6_readOperand_1 : decode cX6_readOperand 1 = .ok (.invokevirtual 35, 3) := by decide +kernel
theorem dX6_readOperand_4 : decode cX6_readOperand 4 = .ok (.istore_n 2, 1) := by decide +kernel
theorem dX6_readOperand_5 : decode cX6_readOperand 5 = .ok (.iload_n 2, 1) := by decide +kernel
theorem dX6_readOperand_6 : decode cX6_readOperand 6 = .ok (.invokestatic 59, 3) := by decide +kernel
theorem dX6_readOperand_9 : decode cX6_readOperand 9 = .ok (.ifCond .eq 9, 3) := by decide +kernel
theorem dX6_readOperand_12 : decode cX6_readOperand 12 = .ok (.aload_n 0, 1) := by decide +kernel
theorem dX6_readOperand_13 : decode cX6_readOperand 13 = .ok (.invokevirtual 62, 3) := by decide +kernel
theorem dX6_readOperand_16 : decode cX6_readOperand 16 = .ok (.iconst 1, 1) := by decide +kernel
theorem dX6_readOperand_17 : decode cX6_readOperand 17 = .ok (.ireturn, 1) := by decide +kernel
theorem dX6_readOperand_18 : decode cX6_readOperand 18 = .ok (.iload_n 2, 1) := by decide +kernel
theorem dX6_readOperand_19 : decode cX6_readOperand 19 = .ok (.invokestatic 65, 3) := by decide +kernel
theorem dX6_readOperand_22 : decode cX6_readOperand 22 = .ok (.ifCond .lt 28, 3) := by decide +kernel
theorem dX6_readOperand_25 : decode cX6_readOperand 25 = .ok (.aload_n 0, 1) := by decide +kernel
theorem dX6_readOperand_26 : decode cX6_readOperand 26 = .ok (.dup, 1) := by decide +kernel
theorem dX6_readOperand_27 : decode cX6_readOperand 27 = .ok (.getfield 28, 3) := by decide +kernel
theorem dX6_readOperand_30 : decode cX6_readOperand 30 = .ok (.iconst 1, 1) := by decide +kernel
theorem dX6_readOperand_31 : decode cX6_readOperand 31 = .ok (.iadd, 1) := by decide +kernel
theorem dX6_readOperand_32 : decode cX6_readOperand 32 = .ok (.putfield 28, 3) := by decide +kernel
theorem dX6_readOperand_35 : decode cX6_readOperand 35 = .ok (.aload_n 0, 1) := by decide +kernel
theorem dX6_readOperand_36 : decode cX6_readOperand 36 = .ok (.getfield 19, 3) := by decide +kernel
theorem dX6_readOperand_39 : decode cX6_readOperand 39 = .ok (.bipush 97, 2) := by decide +kernel
theorem dX6_readOperand_41 : decode cX6_readOperand 41 = .ok (.iload_n 2, 1) := by decide +kernel
theorem dX6_readOperand_42 : decode cX6_readOperand 42 = .ok (.invokestatic 65, 3) := by decide +kernel
theorem dX6_readOperand_45 : decode cX6_readOperand 45 = .ok (.invokevirtual 55, 3) := by decide +kernel
theorem dX6_readOperand_48 : decode cX6_readOperand 48 = .ok (.iconst 1, 1) := by decide +kernel
theorem dX6_readOperand_49 : decode cX6_readOperand 49 = .ok (.ireturn, 1) := by decide +kernel
theorem dX6_readOperand_50 : decode cX6_readOperand 50 = .ok (.iload_n 2, 1) := by decide +kernel
theorem dX6_readOperand_51 : decode cX6_readOperand 51 = .ok (.bipush 33, 2) := by decide +kernel
theorem dX6_readOperand_53 : decode cX6_readOperand 53 = .ok (.if_icmp .eq 15, 3) := by decide +kernel
theorem dX6_readOperand_56 : decode cX6_readOperand 56 = .ok (.iload_n 2, 1) := by decide +kernel
theorem dX6_readOperand_57 : decode cX6_readOperand 57 = .ok (.bipush 45, 2) := by decide +kernel
theorem dX6_readOperand_59 : decode cX6_readOperand 59 = .ok (.if_icmp .eq 9, 3) := by decide +kernel
theorem dX6_readOperand_62 : decode cX6_readOperand 62 = .ok (.iload_n 2, 1) := by decide +kernel
theorem dX6_readOperand_63 : decode cX6_readOperand 63 = .ok (.bipush 40, 2) := by decide +kernel
theorem dX6_readOperand_65 : decode cX6_readOperand 65 = .ok (.if_icmp .ne 9, 3) := by decide +kernel
theorem dX6_readOperand_68 : decode cX6_readOperand 68 = .ok (.iload_n 1, 1) := by decide +kernel
theorem dX6_readOperand_69 : decode cX6_readOperand 69 = .ok (.bipush 6, 2) := by decide +kernel
theorem dX6_readOperand_71 : decode cX6_readOperand 71 = .ok (.if_icmp .lt 5, 3) := by decide +kernel
theorem dX6_readOperand_74 : decode cX6_readOperand 74 = .ok (.iconst 0, 1) := by decide +kernel
theorem dX6_readOperand_75 : decode cX6_readOperand 75 = .ok (.ireturn, 1) := by decide +kernel
theorem dX6_readOperand_76 : decode cX6_readOperand 76 = .ok (.aload_n 0, 1) := by decide +kernel
theorem dX6_readOperand_77 : decode cX6_readOperand 77 = .ok (.dup, 1) := by decide +kernel
theorem dX6_readOperand_78 : decode cX6_readOperand 78 = .ok (.getfield 28, 3) := by decide +kernel
theorem dX6_readOperand_81 : decode cX6_readOperand 81 = .ok (.iconst 1, 1) := by decide +kernel
theorem dX6_readOperand_82 : decode cX6_readOperand 82 = .ok (.iadd, 1) := by decide +kernel
theorem dX6_readOperand_83 : decode cX6_readOperand 83 = .ok (.putfield 28, 3) := by decide +kernel
theorem dX6_readOperand_86 : decode cX6_readOperand 86 = .ok (.iload_n 2, 1) := by decide +kernel
theorem dX6_readOperand_87 : decode cX6_readOperand 87 = .ok (.bipush 40, 2) := by decide +kernel
theorem dX6_readOperand_89 : decode cX6_readOperand 89 = .ok (.if_icmp .ne 13, 3) := by decide +kernel
theorem dX6_readOperand_92 : decode cX6_readOperand 92 = .ok (.aload_n 0, 1) := by decide +kernel
theorem dX6_readOperand_93 : decode cX6_readOperand 93 = .ok (.iload_n 1, 1) := by decide +kernel
theorem dX6_readOperand_94 : decode cX6_readOperand 94 = .ok (.iconst 1, 1) := by decide +kernel
theorem dX6_readOperand_95 : decode cX6_readOperand 95 = .ok (.iadd, 1) := by decide +kernel
theorem dX6_readOperand_96 : decode cX6_readOperand 96 = .ok (.invokevirtual 68, 3) := by decide +kernel
theorem dX6_readOperand_99 : decode cX6_readOperand 99 = .ok (.goto 11, 3) := by decide +kernel
theorem dX6_readOperand_102 : decode cX6_readOperand 102 = .ok (.aload_n 0, 1) := by decide +kernel
theorem dX6_readOperand_103 : decode cX6_readOperand 103 = .ok (.iload_n 2, 1) := by decide +kernel
theorem dX6_readOperand_104 : decode cX6_readOperand 104 = .ok (.iload_n 1, 1) := by decide +kernel
theorem dX6_readOperand_105 : decode cX6_readOperand 105 = .ok (.iconst 1, 1) := by decide +kernel
theorem dX6_readOperand_106 : decode cX6_readOperand 106 = .ok (.iadd, 1) := by decide +kernel
theorem dX6_readOperand_107 : decode cX6_readOperand 107 = .ok (.invokevirtual 71, 3) := by decide +kernel
theorem dX6_readOperand_110 : decode cX6_readOperand 110 = .ok (.ireturn, 1) := by decide +kernel
theorem dX6_readToClose_0 : decode cX6_readToClose 0 = .ok (.aload_n 0, 1) := by decide +kernel
theorem dX6_readToClose_1 : decode cX6_readToClose 1 = .ok (.iconst 0, 1) := by decide +kernel
theorem dX6_readToClose_2 : decode cX6_readToClose 2 = .ok (.iload_n 1, 1) := by decide +kernel
theorem dX6_readToClose_3 : decode cX6_readToClose 3 = .ok (.invokevirtual 39, 3) := by decide +kernel
theorem dX6_readToClose_6 : decode cX6_readToClose 6 = .ok (.ifCond .eq 12, 3) := by decide +kernel
theorem dX6_readToClose_9 : decode cX6_readToClose 9 = .ok (.aload_n 0, 1) := by decide +kernel
theorem dX6_readToClose_10 : decode cX6_readToClose 10 = .ok (.invokevirtual 35, 3) := by decide +kernel
theorem dX6_readToClose_13 : decode cX6_readToClose 13 = .ok (.bipush 41, 2) := by decide +kernel
theorem dX6_readToClose_15 : decode cX6_readToClose 15 = .ok (.if_icmp .eq 5, 3) := by decide +kernel
theorem dX6_readToClose_18 : decode cX6_readToClose 18 = .ok (.iconst 0, 1) := by decide +kernel
theorem dX6_readToClose_19 : decode cX6_readToClose 19 = .ok (.ireturn, 1) := by decide +kernel
theorem dX6_readToClose_20 : decode cX6_readToClose 20 = .ok (.aload_n 0, 1) := by decide +kernel
theorem dX6_readToClose_21 : decode cX6_readToClose 21 = .ok (.dup, 1) := by decide +kernel
theorem dX6_readToClose_22 : decode cX6_readToClose 22 = .ok (.getfield 28, 3) := by decide +kernel
theorem dX6_readToClose_25 : decode cX6_readToClose 25 = .ok (.iconst 1, 1) := by decide +kernel
theorem dX6_readToClose_26 : decode cX6_readToClose 26 = .ok (.iadd, 1) := by decide +kernel
theorem dX6_readToClose_27 : decode cX6_readToClose 27 = .ok (.putfield 28, 3) := by decide +kernel
theorem dX6_readToClose_30 : decode cX6_readToClose 30 = .ok (.iconst 1, 1) := by decide +kernel
theorem dX6_readToClose_31 : decode cX6_readToClose 31 = .ok (.ireturn, 1) := by decide +kernel
theorem dX6_readAhead_0 : decode cX6_readAhead 0 = .ok (.aload_n 0, 1) := by decide +kernel
theorem dX6_readAhead_1 : decode cX6_readAhead 1 = .ok (.iload_n 2, 1) := by decide +kernel
theorem dX6_readAhead_2 : decode cX6_readAhead 2 = .ok (.invokevirtual 47, 3) := by decide +kernel
theorem dX6_readAhead_5 : decode cX6_readAhead 5 = .ok (.ifCond .ne 5, 3) := by decide +kernel
theorem dX6_readAhead_8 : decode cX6_readAhead 8 = .ok (.iconst 0, 1) := by decide +kernel
theorem dX6_readAhead_9 : decode cX6_readAhead 9 = .ok (.ireturn, 1) := by decide +kernel
theorem dX6_readAhead_10 : decode cX6_readAhead 10 = .ok (.aload_n 0, 1) := by decide +kernel
theorem dX6_readAhead_11 : decode cX6_readAhead 11 = .ok (.getfield 19, 3) := by decide +kernel
theorem dX6_readAhead_14 : decode cX6_readAhead 14 = .ok (.iload_n 1, 1) := by decide +kernel
theorem dX6_readAhead_15 : decode cX6_readAhead 15 = .ok (.bipush 45, 2) := by decide +kernel
theorem dX6_readAhead_17 : decode cX6_readAhead 17 = .ok (.if_icmp .ne 8, 3) := by decide +kernel
theorem dX6_readAhead_20 : decode cX6_readAhead 20 = .ok (.bipush 126, 2) := by decide +kernel
theorem dX6_readAhead_22 : decode cX6_readAhead 22 = .ok (.goto 4, 3) := by decide +kernel
theorem dX6_readAhead_25 : decode cX6_readAhead 25 = .ok (.iload_n 1, 1) := by decide +kernel
theorem dX6_readAhead_26 : decode cX6_readAhead 26 = .ok (.iconst 0, 1) := by decide +kernel
theorem dX6_readAhead_27 : decode cX6_readAhead 27 = .ok (.invokevirtual 55, 3) := by decide +kernel
theorem dX6_readAhead_30 : decode cX6_readAhead 30 = .ok (.iconst 1, 1) := by decide +kernel
theorem dX6_readAhead_31 : decode cX6_readAhead 31 = .ok (.ireturn, 1) := by decide +kernel
theorem dX6_readNumber_0 : decode cX6_readNumber 0 = .ok (.iconst 0, 1) := by decide +kernel
theorem dX6_readNumber_1 : decode cX6_readNumber 1 = .ok (.istore_n 1, 1) := by decide +kernel
theorem dX6_readNumber_2 : decode cX6_readNumber 2 = .ok (.iconst 0, 1) := by decide +kernel
theorem dX6_readNumber_3 : decode cX6_readNumber 3 = .ok (.istore_n 2, 1) := by decide +kernel
theorem dX6_readNumber_4 : decode cX6_readNumber 4 = .ok (.iload_n 2, 1) := by decide +kernel
theorem dX6_readNumber_5 : decode cX6_readNumber 5 = .ok (.iconst 4, 1) := by decide +kernel
theorem dX6_readNumber_6 : decode cX6_readNumber 6 = .ok (.if_icmp .ge 42, 3) := by decide +kernel
theorem dX6_readNumber_9 : decode cX6_readNumber 9 = .ok (.aload_n 0, 1) := by decide +kernel
theorem dX6_readNumber_10 : decode cX6_readNumber 10 = .ok (.invokevirtual 35, 3) := by decide +kernel
theorem dX6_readNumber_13 : decode cX6_readNumber 13 = .ok (.invokestatic 59, 3) := by decide +kernel
theorem dX6_readNumber_16 : decode cX6_readNumber 16 = .ok (.ifCond .eq 32, 3) := by decide +kernel
theorem dX6_readNumber_19 : decode cX6_readNumber 19 = .ok (.iload_n 1, 1) := by decide +kernel
theorem dX6_readNumber_20 : decode cX6_readNumber 20 = .ok (.bipush 10, 2) := by decide +kernel
theorem dX6_readNumber_22 : decode cX6_readNumber 22 = .ok (.imul, 1) := by decide +kernel
theorem dX6_readNumber_23 : decode cX6_readNumber 23 = .ok (.aload_n 0, 1) := by decide +kernel
theorem dX6_readNumber_24 : decode cX6_readNumber 24 = .ok (.invokevirtual 35, 3) := by decide +kernel
theorem dX6_readNumber_27 : decode cX6_readNumber 27 = .ok (.iadd, 1) := by decide +kernel
theorem dX6_readNumber_28 : decode cX6_readNumber 28 = .ok (.bipush 48, 2) := by decide +kernel
theorem dX6_readNumber_30 : decode cX6_readNumber 30 = .ok (.isub, 1) := by decide +kernel
theorem dX6_readNumber_31 : decode cX6_readNumber 31 = .ok (.istore_n 1, 1) := by decide +kernel
theorem dX6_readNumber_32 : decode cX6_readNumber 32 = .ok (.aload_n 0, 1) := by decide +kernel
theorem dX6_readNumber_33 : decode cX6_readNumber 33 = .ok (.dup, 1) := by decide +kernel
theorem dX6_readNumber_34 : decode cX6_readNumber 34 = .ok (.getfield 28, 3) := by decide +kernel
theorem dX6_readNumber_37 : decode cX6_readNumber 37 = .ok (.iconst 1, 1) := by decide +kernel
theorem dX6_readNumber_38 : decode cX6_readNumber 38 = .ok (.iadd, 1) := by decide +kernel
theorem dX6_readNumber_39 : decode cX6_readNumber 39 = .ok (.putfield 28, 3) := by decide +kernel
theorem dX6_readNumber_42 : decode cX6_readNumber 42 = .ok (.iinc 2 1, 3) := by decide +kernel
theorem dX6_readNumber_45 : decode cX6_readNumber 45 = .ok (.goto (-41), 3) := by decide +kernel
theorem dX6_readNumber_48 : decode cX6_readNumber 48 = .ok (.aload_n 0, 1) := by decide +kernel
theorem dX6_readNumber_49 : decode cX6_readNumber 49 = .ok (.getfield 19, 3) := by decide +kernel
theorem dX6_readNumber_52 : decode cX6_readNumber 52 = .ok (.bipush 48, 2) := by decide +kernel
theorem dX6_readNumber_54 : decode cX6_readNumber 54 = .ok (.iload_n 1, 1) := by decide +kernel
theorem dX6_readNumber_55 : decode cX6_readNumber 55 = .ok (.invokevirtual 55, 3) := by decide +kernel
theorem dX6_readNumber_58 : decode cX6_readNumber 58 = .ok (.return_, 1) := by decide +kernel
theorem dX6_next_0 : decode cX6_next 0 = .ok (.aload_n 0, 1) := by decide +kernel
theorem dX6_next_1 : decode cX6_next 1 = .ok (.getfield 28, 3) := by decide +kernel
theorem dX6_next_4 : decode cX6_next 4 = .ok (.ifCond .lt 26, 3) := by decide +kernel
theorem dX6_next_7 : decode cX6_next 7 = .ok (.aload_n 0, 1) := by decide +kernel
theorem dX6_next_8 : decode cX6_next 8 = .ok (.getfield 28, 3) := by decide +kernel
theorem dX6_next_11 : decode cX6_next 11 = .ok (.aload_n 0, 1) := by decide +kernel
theorem dX6_next_12 : decode cX6_next 12 = .ok (.getfield 15, 3) := by decide +kernel
theorem dX6_next_15 : decode cX6_next 15 = .ok (.if_icmp .ge 15, 3) := by decide +kernel
theorem dX6_next_18 : decode cX6_next 18 = .ok (.aload_n 0, 1) := by decide +kernel
theorem dX6_next_19 : decode cX6_next 19 = .ok (.getfield 9, 3) := by decide +kernel
theorem dX6_next_22 : decode cX6_next 22 = .ok (.aload_n 0, 1) := by decide +kernel
theorem dX6_next_23 : decode cX6_next 23 = .ok (.getfield 28, 3) := by decide +kernel
theorem dX6_next_26 : decode cX6_next 26 = .ok (.iaload, 1) := by decide +kernel
theorem dX6_next_27 : decode cX6_next 27 = .ok (.goto 4, 3) := by decide +kernel
theorem dX6_next_30 : decode cX6_next 30 = .ok (.iconst (-1), 1) := by decide +kernel
theorem dX6_next_31 : decode cX6_next 31 = .ok (.ireturn, 1) := by decide +kernel
theorem dX6_isDigit_0 : decode cX6_isDigit 0 = .ok (.iload_n 0, 1) := by decide +kernel
theorem dX6_isDigit_1 : decode cX6_isDigit 1 = .ok (.bipush 48, 2) := by decide +kernel
theorem dX6_isDigit_3 : decode cX6_isDigit 3 = .ok (.if_icmp .lt 13, 3) := by decide +kernel
theorem dX6_isDigit_6 : decode cX6_isDigit 6 = .ok (.iload_n 0, 1) := by decide +kernel
theorem dX6_isDigit_7 : decode cX6_isDigit 7 = .ok (.bipush 57, 2) := by decide +kernel
theorem dX6_isDigit_9 : decode cX6_isDigit 9 = .ok (.if_icmp .gt 7, 3) := by decide +kernel
theorem dX6_isDigit_12 : decode cX6_isDigit 12 = .ok (.iconst 1, 1) := by decide +kernel
theorem dX6_isDigit_13 : decode cX6_isDigit 13 = .ok (.goto 4, 3) := by decide +kernel
theorem dX6_isDigit_16 : decode cX6_isDigit 16 = .ok (.iconst 0, 1) := by decide +kernel
theorem dX6_isDigit_17 : decode cX6_isDigit 17 = .ok (.ireturn, 1) := by decide +kernel
theorem dX6_rankOf_0 : decode cX6_rankOf 0 = .ok (.iload_n 0, 1) := by decide +kernel
theorem dX6_rankOf_1 : decode cX6_rankOf 1 = .ok (.lookupswitch 101 #[(37, 99), (38, 93), (42, 99), (43, 97), (45, 97), (47, 99), (60, 95), (61, 95), (62, 95), (124, 91)], 91) := by decide +kernel
theorem dX6_rankOf_92 : decode cX6_rankOf 92 = .ok (.iconst 0, 1) := by decide +kernel
theorem dX6_rankOf_93 : decode cX6_rankOf 93 = .ok (.ireturn, 1) := by decide +kernel
theorem dX6_rankOf_94 : decode cX6_rankOf 94 = .ok (.iconst 1, 1) := by decide +kernel
theorem dX6_rankOf_95 : decode cX6_rankOf 95 = .ok (.ireturn, 1) := by decide +kernel
theorem dX6_rankOf_96 : decode cX6_rankOf 96 = .ok (.iconst 2, 1) := by decide +kernel
theorem dX6_rankOf_97 : decode cX6_rankOf 97 = .ok (.ireturn, 1) := by decide +kernel
theorem dX6_rankOf_98 : decode cX6_rankOf 98 = .ok (.iconst 3, 1) := by decide +kernel
theorem dX6_rankOf_99 : decode cX6_rankOf 99 = .ok (.ireturn, 1) := by decide +kernel
theorem dX6_rankOf_100 : decode cX6_rankOf 100 = .ok (.iconst 4, 1) := by decide +kernel
theorem dX6_rankOf_101 : decode cX6_rankOf 101 = .ok (.ireturn, 1) := by decide +kernel
theorem dX6_rankOf_102 : decode cX6_rankOf 102 = .ok (.iconst (-1), 1) := by decide +kernel
theorem dX6_rankOf_103 : decode cX6_rankOf 103 = .ok (.ireturn, 1) := by decide +kernel
