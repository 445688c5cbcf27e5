theorem dX0_init_0 : decode cX0_init 0 = .ok (.aload_n 0, 1) := by decide +kernel
theorem dX0_init_1 : decode cX0_init 1 = .ok (.invokespecial 3, 3) := by decide +kernel
theorem dX0_init_4 : decode cX0_init 4 = .ok (.aload_n 0, 1) := by decide +kernel
theorem dX0_init_5 : decode cX0_init 5 = .ok (.bipush 10, 2) := by decide +kernel
theorem dX0_init_7 : decode cX0_init 7 = .ok (.newarray .int, 2) := by decide +kernel
theorem dX0_init_9 : decode cX0_init 9 = .ok (.putfield 9, 3) := by decide +kernel
theorem dX0_init_12 : decode cX0_init 12 = .ok (.aload_n 0, 1) := by decide +kernel
theorem dX0_init_13 : decode cX0_init 13 = .ok (.bipush 10, 2) := by decide +kernel
theorem dX0_init_15 : decode cX0_init 15 = .ok (.newarray .int, 2) := by decide +kernel
theorem dX0_init_17 : decode cX0_init 17 = .ok (.putfield 15, 3) := by decide +kernel
theorem dX0_init_20 : decode cX0_init 20 = .ok (.aload_n 0, 1) := by decide +kernel
theorem dX0_init_21 : decode cX0_init 21 = .ok (.bipush 10, 2) := by decide +kernel
theorem dX0_init_23 : decode cX0_init 23 = .ok (.newarray .int, 2) := by decide +kernel
theorem dX0_init_25 : decode cX0_init 25 = .ok (.putfield 18, 3) := by decide +kernel
theorem dX0_init_28 : decode cX0_init 28 = .ok (.aload_n 0, 1) := by decide +kernel
theorem dX0_init_29 : decode cX0_init 29 = .ok (.bipush 10, 2) := by decide +kernel
theorem dX0_init_31 : decode cX0_init 31 = .ok (.newarray .int, 2) := by decide +kernel
theorem dX0_init_33 : decode cX0_init 33 = .ok (.putfield 21, 3) := by decide +kernel
theorem dX0_init_36 : decode cX0_init 36 = .ok (.aload_n 0, 1) := by decide +kernel
theorem dX0_init_37 : decode cX0_init 37 = .ok (.bipush 10, 2) := by decide +kernel
theorem dX0_init_39 : decode cX0_init 39 = .ok (.newarray .int, 2) := by decide +kernel
theorem dX0_init_41 : decode cX0_init 41 = .ok (.putfield 24, 3) := by decide +kernel
theorem dX0_init_44 : decode cX0_init 44 = .ok (.aload_n 0, 1) := by decide +kernel
theorem dX0_init_45 : decode cX0_init 45 = .ok (.bipush 100, 2) := by decide +kernel
theorem dX0_init_47 : decode cX0_init 47 = .ok (.newarray .int, 2) := by decide +kernel
theorem dX0_init_49 : decode cX0_init 49 = .ok (.putfield 27, 3) := by decide +kernel
theorem dX0_init_52 : decode cX0_init 52 = .ok (.aload_n 0, 1) := by decide +kernel
theorem dX0_init_53 : decode cX0_init 53 = .ok (.iconst 3, 1) := by decide +kernel
theorem dX0_init_54 : decode cX0_init 54 = .ok (.newarray .int, 2) := by decide +kernel
theorem dX0_init_56 : decode cX0_init 56 = .ok (.dup, 1) := by decide +kernel
theorem dX0_init_57 : decode cX0_init 57 = .ok (.iconst 0, 1) := by decide +kernel
theorem dX0_init_58 : decode cX0_init 58 = .ok (.iconst 4, 1) := by decide +kernel
theorem dX0_init_59 : decode cX0_init 59 = .ok (.iastore, 1) := by decide +kernel
theorem dX0_init_60 : decode cX0_init 60 = .ok (.dup, 1) := by decide +kernel
theorem dX0_init_61 : decode cX0_init 61 = .ok (.iconst 1, 1) := by decide +kernel
theorem dX0_init_62 : decode cX0_init 62 = .ok (.iconst 1, 1) := by decide +kernel
theorem dX0_init_63 : decode cX0_init 63 = .ok (.iastore, 1) := by decide +kernel
theorem dX0_init_64 : decode cX0_init 64 = .ok (.dup, 1) := by decide +kernel
theorem dX0_init_65 : decode cX0_init 65 = .ok (.iconst 2, 1) := by decide +kernel
theorem dX0_init_66 : decode cX0_init 66 = .ok (.iconst 3, 1) := by decide +kernel
theorem dX0_init_67 : decode cX0_init 67 = .ok (.iastore, 1) := by decide +kernel
theorem dX0_init_68 : decode cX0_init 68 = .ok (.putfield 30, 3) := by decide +kernel
theorem dX0_init_71 : decode cX0_init 71 = .ok (.aload_n 0, 1) := by decide +kernel
theorem dX0_init_72 : decode cX0_init 72 = .ok (.bipush 36, 2) := by decide +kernel
theorem dX0_init_74 : decode cX0_init 74 = .ok (.newarray .int, 2) := by decide +kernel
theorem dX0_init_76 : decode cX0_init 76 = .ok (.putfield 33, 3) := by decide +kernel
theorem dX0_init_79 : decode cX0_init 79 = .ok (.return_, 1) := by decide +kernel
theorem dX0_takeFrom_0 : decode cX0_takeFrom 0 = .ok (.aload_n 0, 1) := by decide +kernel
theorem dX0_takeFrom_1 : decode cX0_takeFrom 1 = .ok (.aload_n 1, 1) := by decide +kernel
theorem dX0_takeFrom_2 : decode cX0_takeFrom 2 = .ok (.getfield 36, 3) := by decide +kernel
theorem dX0_takeFrom_5 : decode cX0_takeFrom 5 = .ok (.putfield 36, 3) := by decide +kernel
theorem dX0_takeFrom_8 : decode cX0_takeFrom 8 = .ok (.aload_n 1, 1) := by decide +kernel
theorem dX0_takeFrom_9 : decode cX0_takeFrom 9 = .ok (.getfield 9, 3) := by decide +kernel
theorem dX0_takeFrom_12 : decode cX0_takeFrom 12 = .ok (.iconst 0, 1) := by decide +kernel
theorem dX0_takeFrom_13 : decode cX0_takeFrom 13 = .ok (.aload_n 0, 1) := by decide +kernel
theorem dX0_takeFrom_14 : decode cX0_takeFrom 14 = .ok (.getfield 9, 3) := by decide +kernel
theorem dX0_takeFrom_17 : decode cX0_takeFrom 17 = .ok (.iconst 0, 1) := by decide +kernel
theorem dX0_takeFrom_18 : decode cX0_takeFrom 18 = .ok (.bipush 10, 2) := by decide +kernel
theorem dX0_takeFrom_20 : decode cX0_takeFrom 20 = .ok (.invokestatic 40, 3) := by decide +kernel
theorem dX0_takeFrom_23 : decode cX0_takeFrom 23 = .ok (.aload_n 1, 1) := by decide +kernel
theorem dX0_takeFrom_24 : decode cX0_takeFrom 24 = .ok (.getfield 15, 3) := by decide +kernel
theorem dX0_takeFrom_27 : decode cX0_takeFrom 27 = .ok (.iconst 0, 1) := by decide +kernel
theorem dX0_takeFrom_28 : decode cX0_takeFrom 28 = .ok (.aload_n 0, 1) := by decide +kernel
theorem dX0_takeFrom_29 : decode cX0_takeFrom 29 = .ok (.getfield 15, 3) := by decide +kernel
theorem dX0_takeFrom_32 : decode cX0_takeFrom 32 = .ok (.iconst 0, 1) := by decide +kernel
theorem dX0_takeFrom_33 : decode cX0_takeFrom 33 = .ok (.bipush 10, 2) := by decide +kernel
theorem dX0_takeFrom_35 : decode cX0_takeFrom 35 = .ok (.invokestatic 40, 3) := by decide +kernel
theorem dX0_takeFrom_38 : decode cX0_takeFrom 38 = .ok (.aload_n 1, 1) := by decide +kernel
theorem dX0_takeFrom_39 : decode cX0_takeFrom 39 = .ok (.getfield 18, 3) := by decide +kernel
theorem dX0_takeFrom_42 : decode cX0_takeFrom 42 = .ok (.iconst 0, 1) := by decide +kernel
theorem dX0_takeFrom_43 : decode cX0_takeFrom 43 = .ok (.aload_n 0, 1) := by decide +kernel
theorem dX0_takeFrom_44 : decode cX0_takeFrom 44 = .ok (.getfield 18, 3) := by decide +kernel
theorem dX0_takeFrom_47 : decode cX0_takeFrom 47 = .ok (.iconst 0, 1) := by decide +kernel
theorem dX0_takeFrom_48 : decode cX0_takeFrom 48 = .ok (.bipush 10, 2) := by decide +kernel
theorem dX0_takeFrom_50 : decode cX0_takeFrom 50 = .ok (.invokestatic 40, 3) := by decide +kernel
theorem dX0_takeFrom_53 : decode cX0_takeFrom 53 = .ok (.aload_n 1, 1) := by decide +kernel
theorem dX0_takeFrom_54 : decode cX0_takeFrom 54 = .ok (.getfield 21, 3) := by decide +kernel
theorem dX0_takeFrom_57 : decode cX0_takeFrom 57 = .ok (.iconst 0, 1) := by decide +kernel
theorem dX0_takeFrom_58 : decode cX0_takeFrom 58 = .ok (.aload_n 0, 1) := by decide +kernel
theorem dX0_takeFrom_59 : decode cX0_takeFrom 59 = .ok (.getfield 21, 3) := by decide +kernel
theorem dX0_takeFrom_62 : decode cX0_takeFrom 62 = .ok (.iconst 0, 1) := by decide +kernel
theorem dX0_takeFrom_63 : decode cX0_takeFrom 63 = .ok (.bipush 10, 2) := by decide +kernel
theorem dX0_takeFrom_65 : decode cX0_takeFrom 65 = .ok (.invokestatic 40, 3) := by decide +kernel
theorem dX0_takeFrom_68 : decode cX0_takeFrom 68 = .ok (.aload_n 1, 1) := by decide +kernel
theorem dX0_takeFrom_69 : decode cX0_takeFrom 69 = .ok (.getfield 24, 3) := by decide +kernel
theorem dX0_takeFrom_72 : decode cX0_takeFrom 72 = .ok (.iconst 0, 1) := by decide +kernel
theorem dX0_takeFrom_73 : decode cX0_takeFrom 73 = .ok (.aload_n 0, 1) := by decide +kernel
theorem dX0_takeFrom_74 : decode cX0_takeFrom 74 = .ok (.getfield 24, 3) := by decide +kernel
theorem dX0_takeFrom_77 : decode cX0_takeFrom 77 = .ok (.iconst 0, 1) := by decide +kernel
theorem dX0_takeFrom_78 : decode cX0_takeFrom 78 = .ok (.bipush 10, 2) := by decide +kernel
theorem dX0_takeFrom_80 : decode cX0_takeFrom 80 = .ok (.invokestatic 40, 3) := by decide +kernel
theorem dX0_takeFrom_83 : decode cX0_takeFrom 83 = .ok (.aload_n 1, 1) := by decide +kernel
theorem dX0_takeFrom_84 : decode cX0_takeFrom 84 = .ok (.getfield 27, 3) := by decide +kernel
theorem dX0_takeFrom_87 : decode cX0_takeFrom 87 = .ok (.iconst 0, 1) := by decide +kernel
theorem dX0_takeFrom_88 : decode cX0_takeFrom 88 = .ok (.aload_n 0, 1) := by decide +kernel
theorem dX0_takeFrom_89 : decode cX0_takeFrom 89 = .ok (.getfield 27, 3) := by decide +kernel
theorem dX0_takeFrom_92 : decode cX0_takeFrom 92 = .ok (.iconst 0, 1) := by decide +kernel
theorem dX0_takeFrom_93 : decode cX0_takeFrom 93 = .ok (.bipush 100, 2) := by decide +kernel
theorem dX0_takeFrom_95 : decode cX0_takeFrom 95 = .ok (.invokestatic 40, 3) := by decide +kernel
theorem dX0_takeFrom_98 : decode cX0_takeFrom 98 = .ok (.aload_n 1, 1) := by decide +kernel
theorem dX0_takeFrom_99 : decode cX0_takeFrom 99 = .ok (.getfield 30, 3) := by decide +kernel
theorem dX0_takeFrom_102 : decode cX0_takeFrom 102 = .ok (.iconst 0, 1) := by decide +kernel
theorem dX0_takeFrom_103 : decode cX0_takeFrom 103 = .ok (.aload_n 0, 1) := by decide +kernel
theorem dX0_takeFrom_104 : decode cX0_takeFrom 104 = .ok (.getfield 30, 3) := by decide +kernel
theorem dX0_takeFrom_107 : decode cX0_takeFrom 107 = .ok (.iconst 0, 1) := by decide +kernel
theorem dX0_takeFrom_108 : decode cX0_takeFrom 108 = .ok (.iconst 3, 1) := by decide +kernel
theorem dX0_takeFrom_109 : decode cX0_takeFrom 109 = .ok (.invokestatic 40, 3) := by decide +kernel
theorem dX0_takeFrom_112 : decode cX0_takeFrom 112 = .ok (.aload_n 1, 1) := by decide +kernel
theorem dX0_takeFrom_113 : decode cX0_takeFrom 113 = .ok (.getfield 33, 3) := by decide +kernel
theorem dX0_takeFrom_116 : decode cX0_takeFrom 116 = .ok (.iconst 0, 1) := by decide +kernel
theorem dX0_takeFrom_117 : decode cX0_takeFrom 117 = .ok (.aload_n 0, 1) := by decide +kernel
theorem dX0_takeFrom_118 : decode cX0_takeFrom 118 = .ok (.getfield 33, 3) := by decide +kernel
theorem dX0_takeFrom_121 : decode cX0_takeFrom 121 = .ok (.iconst 0, 1) := by decide +kernel
theorem dX0_takeFrom_122 : decode cX0_takeFrom 122 = .ok (.bipush 36, 2) := by decide +kernel
theorem dX0_takeFrom_124 : decode cX0_takeFrom 124 = .ok (.invokestatic 40, 3) := by decide +kernel
theorem dX0_takeFrom_127 : decode cX0_takeFrom 127 = .ok (.return_, 1) := by decide +kernel
theorem dX0_hasTale_0 : decode cX0_hasTale 0 = .ok (.iload_n 1, 1) := by decide +kernel
theorem dX0_hasTale_1 : decode cX0_hasTale 1 = .ok (.aload_n 0, 1) := by decide +kernel
theorem dX0_hasTale_2 : decode cX0_hasTale 2 = .ok (.getfield 36, 3) := by decide +kernel
theorem dX0_hasTale_5 : decode cX0_hasTale 5 = .ok (.invokestatic 46, 3) := by decide +kernel
theorem dX0_hasTale_8 : decode cX0_hasTale 8 = .ok (.ireturn, 1) := by decide +kernel
theorem dX0_hasStep_0 : decode cX0_hasStep 0 = .ok (.aload_n 0, 1) := by decide +kernel
theorem dX0_hasStep_1 : decode cX0_hasStep 1 = .ok (.iload_n 1, 1) := by decide +kernel
theorem dX0_hasStep_2 : decode cX0_hasStep 2 = .ok (.invokevirtual 50, 3) := by decide +kernel
theorem dX0_hasStep_5 : decode cX0_hasStep 5 = .ok (.ifCond .eq 20, 3) := by decide +kernel
theorem dX0_hasStep_8 : decode cX0_hasStep 8 = .ok (.iload_n 2, 1) := by decide +kernel
theorem dX0_hasStep_9 : decode cX0_hasStep 9 = .ok (.aload_n 0, 1) := by decide +kernel
theorem dX0_hasStep_10 : decode cX0_hasStep 10 = .ok (.getfield 24, 3) := by decide +kernel
theorem dX0_hasStep_13 : decode cX0_hasStep 13 = .ok (.iload_n 1, 1) := by decide +kernel
theorem dX0_hasStep_14 : decode cX0_hasStep 14 = .ok (.iaload, 1) := by decide +kernel
theorem dX0_hasStep_15 : decode cX0_hasStep 15 = .ok (.invokestatic 46, 3) := by decide +kernel
theorem dX0_hasStep_18 : decode cX0_hasStep 18 = .ok (.ifCond .eq 7, 3) := by decide +kernel
theorem dX0_hasStep_21 : decode cX0_hasStep 21 = .ok (.iconst 1, 1) := by decide +kernel
theorem dX0_hasStep_22 : decode cX0_hasStep 22 = .ok (.goto 4, 3) := by decide +kernel
theorem dX0_hasStep_25 : decode cX0_hasStep 25 = .ok (.iconst 0, 1) := by decide +kernel
theorem dX0_hasStep_26 : decode cX0_hasStep 26 = .ok (.ireturn, 1) := by decide +kernel
theorem dX0_stepAt_0 : decode cX0_stepAt 0 = .ok (.aload_n 0, 1) := by decide +kernel
theorem dX0_stepAt_1 : decode cX0_stepAt 1 = .ok (.getfield 27, 3) := by decide +kernel
theorem dX0_stepAt_4 : decode cX0_stepAt 4 = .ok (.iload_n 1, 1) := by decide +kernel
theorem dX0_stepAt_5 : decode cX0_stepAt 5 = .ok (.bipush 10, 2) := by decide +kernel
theorem dX0_stepAt_7 : decode cX0_stepAt 7 = .ok (.imul, 1) := by decide +kernel
theorem dX0_stepAt_8 : decode cX0_stepAt 8 = .ok (.iload_n 2, 1) := by decide +kernel
theorem dX0_stepAt_9 : decode cX0_stepAt 9 = .ok (.iadd, 1) := by decide +kernel
theorem dX0_stepAt_10 : decode cX0_stepAt 10 = .ok (.iaload, 1) := by decide +kernel
theorem dX0_stepAt_11 : decode cX0_stepAt 11 = .ok (.ireturn, 1) := by decide +kernel
theorem dX0_addTale_0 : decode cX0_addTale 0 = .ok (.aload_n 0, 1) := by decide +kernel
theorem dX0_addTale_1 : decode cX0_addTale 1 = .ok (.getfield 36, 3) := by decide +kernel
theorem dX0_addTale_4 : decode cX0_addTale 4 = .ok (.istore 4, 2) := by decide +kernel
theorem dX0_addTale_6 : decode cX0_addTale 6 = .ok (.aload_n 0, 1) := by decide +kernel
theorem dX0_addTale_7 : decode cX0_addTale 7 = .ok (.getfield 9, 3) := by decide +kernel
theorem dX0_addTale_10 : decode cX0_addTale 10 = .ok (.iload 4, 2) := by decide +kernel
theorem dX0_addTale_12 : decode cX0_addTale 12 = .ok (.iload_n 1, 1) := by decide +kernel
theorem dX0_addTale_13 : decode cX0_addTale 13 = .ok (.iastore, 1) := by decide +kernel
theorem dX0_addTale_14 : decode cX0_addTale 14 = .ok (.aload_n 0, 1) := by decide +kernel
theorem dX0_addTale_15 : decode cX0_addTale 15 = .ok (.getfield 15, 3) := by decide +kernel
theorem dX0_addTale_18 : decode cX0_addTale 18 = .ok (.iload 4, 2) := by decide +kernel
theorem dX0_addTale_20 : decode cX0_addTale 20 = .ok (.iload_n 2, 1) := by decide +kernel
theorem dX0_addTale_21 : decode cX0_addTale 21 = .ok (.iastore, 1) := by decide +kernel
theorem dX0_addTale_22 : decode cX0_addTale 22 = .ok (.aload_n 0, 1) := by decide +kernel
theorem dX0_addTale_23 : decode cX0_addTale 23 = .ok (.getfield 18, 3) := by decide +kernel
theorem dX0_addTale_26 : decode cX0_addTale 26 = .ok (.iload 4, 2) := by decide +kernel
theorem dX0_addTale_28 : decode cX0_addTale 28 = .ok (.iload_n 3, 1) := by decide +kernel
theorem dX0_addTale_29 : decode cX0_addTale 29 = .ok (.iastore, 1) := by decide +kernel
theorem dX0_addTale_30 : decode cX0_addTale 30 = .ok (.aload_n 0, 1) := by decide +kernel
theorem dX0_addTale_31 : decode cX0_addTale 31 = .ok (.getfield 21, 3) := by decide +kernel
theorem dX0_addTale_34 : decode cX0_addTale 34 = .ok (.iload 4, 2) := by decide +kernel
theorem dX0_addTale_36 : decode cX0_addTale 36 = .ok (.iconst (-1), 1) := by decide +kernel
theorem dX0_addTale_37 : decode cX0_addTale 37 = .ok (.iastore, 1) := by decide +kernel
theorem dX0_addTale_38 : decode cX0_addTale 38 = .ok (.aload_n 0, 1) := by decide +kernel
theorem dX0_addTale_39 : decode cX0_addTale 39 = .ok (.getfield 24, 3) := by decide +kernel
theorem dX0_addTale_42 : decode cX0_addTale 42 = .ok (.iload 4, 2) := by decide +kernel
theorem dX0_addTale_44 : decode cX0_addTale 44 = .ok (.iconst 0, 1) := by decide +kernel
theorem dX0_addTale_45 : decode cX0_addTale 45 = .ok (.iastore, 1) := by decide +kernel
theorem dX0_addTale_46 : decode cX0_addTale 46 = .ok (.aload_n 0, 1) := by decide +kernel
theorem dX0_addTale_47 : decode cX0_addTale 47 = .ok (.dup, 1) := by decide +kernel
theorem dX0_addTale_48 : decode cX0_addTale 48 = .ok (.getfield 36, 3) := by decide +kernel
theorem dX0_addTale_51 : decode cX0_addTale 51 = .ok (.iconst 1, 1) := by decide +kernel
theorem dX0_addTale_52 : decode cX0_addTale 52 = .ok (.iadd, 1) := by decide +kernel
theorem dX0_addTale_53 : decode cX0_addTale 53 = .ok (.putfield 36, 3) := by decide +kernel
theorem dX0_addTale_56 : decode cX0_addTale 56 = .ok (.iload 4, 2) := by decide +kernel
theorem dX0_addTale_58 : decode cX0_addTale 58 = .ok (.ireturn, 1) := by decide +kernel
theorem dX0_addStep_0 : decode cX0_addStep 0 = .ok (.aload_n 0, 1) := by decide +kernel
theorem dX0_addStep_1 : decode cX0_addStep 1 = .ok (.getfield 27, 3) := by decide +kernel
theorem dX0_addStep_4 : decode cX0_addStep 4 = .ok (.iload_n 1, 1) := by decide +kernel
theorem dX0_addStep_5 : decode cX0_addStep 5 = .ok (.bipush 10, 2) := by decide +kernel
theorem dX0_addStep_7 : decode cX0_addStep 7 = .ok (.imul, 1) := by decide +kernel
theorem dX0_addStep_8 : decode cX0_addStep 8 = .ok (.aload_n 0, 1) := by decide +kernel
theorem dX0_addStep_9 : decode cX0_addStep 9 = .ok (.getfield 24, 3) := by decide +kernel
theorem dX0_addStep_12 : decode cX0_addStep 12 = .ok (.iload_n 1, 1) := by decide +kernel
theorem dX0_addStep_13 : decode cX0_addStep 13 = .ok (.iaload, 1) := by decide +kernel
theorem dX0_addStep_14 : decode cX0_addStep 14 = .ok (.iadd, 1) := by decide +kernel
theorem dX0_addStep_15 : decode cX0_addStep 15 = .ok (.iload_n 2, 1) := by decide +kernel
theorem dX0_addStep_16 : decode cX0_addStep 16 = .ok (.iastore, 1) := by decide +kernel
theorem dX0_addStep_17 : decode cX0_addStep 17 = .ok (.aload_n 0, 1) := by decide +kernel
theorem dX0_addStep_18 : decode cX0_addStep 18 = .ok (.getfield 24, 3) := by decide +kernel
theorem dX0_addStep_21 : decode cX0_addStep 21 = .ok (.iload_n 1, 1) := by decide +kernel
theorem dX0_addStep_22 : decode cX0_addStep 22 = .ok (.dup2, 1) := by decide +kernel
theorem dX0_addStep_23 : decode cX0_addStep 23 = .ok (.iaload, 1) := by decide +kernel
theorem dX0_addStep_24 : decode cX0_addStep 24 = .ok (.iconst 1, 1) := by decide +kernel
theorem dX0_addStep_25 : decode cX0_addStep 25 = .ok (.iadd, 1) := by decide +kernel
theorem dX0_addStep_26 : decode cX0_addStep 26 = .ok (.iastore, 1) := by decide +kernel
theorem dX0_addStep_27 : decode cX0_addStep 27 = .ok (.return_, 1) := by decide +kernel
theorem dX0_changeMotif_0 : decode cX0_changeMotif 0 = .ok (.iconst 0, 1) := by decide +kernel
theorem dX0_changeMotif_1 : decode cX0_changeMotif 1 = .ok (.istore_n 3, 1) := by decide +kernel
theorem dX0_changeMotif_2 : decode cX0_changeMotif 2 = .ok (.iconst 0, 1) := by decide +kernel
theorem dX0_changeMotif_3 : decode cX0_changeMotif 3 = .ok (.istore 4, 2) := by decide +kernel
theorem dX0_changeMotif_5 : decode cX0_changeMotif 5 = .ok (.iload 4, 2) := by decide +kernel
theorem dX0_changeMotif_7 : decode cX0_changeMotif 7 = .ok (.aload_n 0, 1) := by decide +kernel
theorem dX0_changeMotif_8 : decode cX0_changeMotif 8 = .ok (.getfield 36, 3) := by decide +kernel
theorem dX0_changeMotif_11 : decode cX0_changeMotif 11 = .ok (.if_icmp .ge 79, 3) := by decide +kernel
theorem dX0_changeMotif_14 : decode cX0_changeMotif 14 = .ok (.iconst 0, 1) := by decide +kernel
theorem dX0_changeMotif_15 : decode cX0_changeMotif 15 = .ok (.istore 5, 2) := by decide +kernel
theorem dX0_changeMotif_17 : decode cX0_changeMotif 17 = .ok (.iload 5, 2) := by decide +kernel
theorem dX0_changeMotif_19 : decode cX0_changeMotif 19 = .ok (.aload_n 0, 1) := by decide +kernel
theorem dX0_changeMotif_20 : decode cX0_changeMotif 20 = .ok (.getfield 24, 3) := by decide +kernel
theorem dX0_changeMotif_23 : decode cX0_changeMotif 23 = .ok (.iload 4, 2) := by decide +kernel
theorem dX0_changeMotif_25 : decode cX0_changeMotif 25 = .ok (.iaload, 1) := by decide +kernel
theorem dX0_changeMotif_26 : decode cX0_changeMotif 26 = .ok (.if_icmp .ge 58, 3) := by decide +kernel
theorem dX0_changeMotif_29 : decode cX0_changeMotif 29 = .ok (.aload_n 0, 1) := by decide +kernel
theorem dX0_changeMotif_30 : decode cX0_changeMotif 30 = .ok (.iload 4, 2) := by decide +kernel
theorem dX0_changeMotif_32 : decode cX0_changeMotif 32 = .ok (.iload 5, 2) := by decide +kernel
theorem dX0_changeMotif_34 : decode cX0_changeMotif 34 = .ok (.invokevirtual 54, 3) := by decide +kernel
theorem dX0_changeMotif_37 : decode cX0_changeMotif 37 = .ok (.istore 6, 2) := by decide +kernel
theorem dX0_changeMotif_39 : decode cX0_changeMotif 39 = .ok (.iload 6, 2) := by decide +kernel
theorem dX0_changeMotif_41 : decode cX0_changeMotif 41 = .ok (.invokestatic 58, 3) := by decide +kernel
theorem dX0_changeMotif_44 : decode cX0_changeMotif 44 = .ok (.iload_n 1, 1) := by decide +kernel
theorem dX0_changeMotif_45 : decode cX0_changeMotif 45 = .ok (.if_icmp .ne 33, 3) := by decide +kernel
theorem dX0_changeMotif_48 : decode cX0_changeMotif 48 = .ok (.aload_n 0, 1) := by decide +kernel
theorem dX0_changeMotif_49 : decode cX0_changeMotif 49 = .ok (.getfield 27, 3) := by decide +kernel
theorem dX0_changeMotif_52 : decode cX0_changeMotif 52 = .ok (.iload 4, 2) := by decide +kernel
theorem dX0_changeMotif_54 : decode cX0_changeMotif 54 = .ok (.bipush 10, 2) := by decide +kernel
theorem dX0_changeMotif_56 : decode cX0_changeMotif 56 = .ok (.imul, 1) := by decide +kernel
theorem dX0_changeMotif_57 : decode cX0_changeMotif 57 = .ok (.iload 5, 2) := by decide +kernel
theorem dX0_changeMotif_59 : decode cX0_changeMotif 59 = .ok (.iadd, 1) := by decide +kernel
theorem dX0_changeMotif_60 : decode cX0_changeMotif 60 = .ok (.iload_n 2, 1) := by decide +kernel
theorem dX0_changeMotif_61 : decode cX0_changeMotif 61 = .ok (.iload 6, 2) := by decide +kernel
theorem dX0_changeMotif_63 : decode cX0_changeMotif 63 = .ok (.invokestatic 62, 3) := by decide +kernel
theorem dX0_changeMotif_66 : decode cX0_changeMotif 66 = .ok (.iload 6, 2) := by decide +kernel
theorem dX0_changeMotif_68 : decode cX0_changeMotif 68 = .ok (.invokestatic 65, 3) := by decide +kernel
theorem dX0_changeMotif_71 : decode cX0_changeMotif 71 = .ok (.invokestatic 68, 3) := by decide +kernel
theorem dX0_changeMotif_74 : decode cX0_changeMotif 74 = .ok (.iastore, 1) := by decide +kernel
theorem dX0_changeMotif_75 : decode cX0_changeMotif 75 = .ok (.iinc 3 1, 3) := by decide +kernel
theorem dX0_changeMotif_78 : decode cX0_changeMotif 78 = .ok (.iinc 5 1, 3) := by decide +kernel
theorem dX0_changeMotif_81 : decode cX0_changeMotif 81 = .ok (.goto (-64), 3) := by decide +kernel
theorem dX0_changeMotif_84 : decode cX0_changeMotif 84 = .ok (.iinc 4 1, 3) := by decide +kernel
theorem dX0_changeMotif_87 : decode cX0_changeMotif 87 = .ok (.goto (-82), 3) := by decide +kernel
theorem dX0_changeMotif_90 : decode cX0_changeMotif 90 = .ok (.iload_n 3, 1) := by decide +kernel
theorem dX0_changeMotif_91 : decode cX0_changeMotif 91 = .ok (.ireturn, 1) := by decide +kernel
theorem dX0_isTorn_0 : decode cX0_isTorn 0 = .ok (.aload_n 0, 1) := by decide +kernel
theorem dX0_isTorn_1 : decode cX0_isTorn 1 = .ok (.getfield 9, 3) := by decide +kernel
theorem dX0_isTorn_4 : decode cX0_isTorn 4 = .ok (.iload_n 1, 1) := by decide +kernel
theorem dX0_isTorn_5 : decode cX0_isTorn 5 = .ok (.iaload, 1) := by decide +kernel
theorem dX0_isTorn_6 : decode cX0_isTorn 6 = .ok (.iconst 1, 1) := by decide +kernel
theorem dX0_isTorn_7 : decode cX0_isTorn 7 = .ok (.invokestatic 72, 3) := by decide +kernel
theorem dX0_isTorn_10 : decode cX0_isTorn 10 = .ok (.ireturn, 1) := by decide +kernel
theorem dX0_isFramed_0 : decode cX0_isFramed 0 = .ok (.aload_n 0, 1) := by decide +kernel
theorem dX0_isFramed_1 : decode cX0_isFramed 1 = .ok (.getfield 9, 3) := by decide +kernel
theorem dX0_isFramed_4 : decode cX0_isFramed 4 = .ok (.iload_n 1, 1) := by decide +kernel
theorem dX0_isFramed_5 : decode cX0_isFramed 5 = .ok (.iaload, 1) := by decide +kernel
theorem dX0_isFramed_6 : decode cX0_isFramed 6 = .ok (.iconst 2, 1) := by decide +kernel
theorem dX0_isFramed_7 : decode cX0_isFramed 7 = .ok (.if_icmp .ne 17, 3) := by decide +kernel
theorem dX0_isFramed_10 : decode cX0_isFramed 10 = .ok (.aload_n 0, 1) := by decide +kernel
theorem dX0_isFramed_11 : decode cX0_isFramed 11 = .ok (.getfield 24, 3) := by decide +kernel
theorem dX0_isFramed_14 : decode cX0_isFramed 14 = .ok (.iload_n 1, 1) := by decide +kernel
theorem dX0_isFramed_15 : decode cX0_isFramed 15 = .ok (.iaload, 1) := by decide +kernel
theorem dX0_isFramed_16 : decode cX0_isFramed 16 = .ok (.iconst 2, 1) := by decide +kernel
theorem dX0_isFramed_17 : decode cX0_isFramed 17 = .ok (.if_icmp .lt 7, 3) := by decide +kernel
theorem dX0_isFramed_20 : decode cX0_isFramed 20 = .ok (.iconst 1, 1) := by decide +kernel
theorem dX0_isFramed_21 : decode cX0_isFramed 21 = .ok (.goto 4, 3) := by decide +kernel
theorem dX0_isFramed_24 : decode cX0_isFramed 24 = .ok (.iconst 0, 1) := by decide +kernel
theorem dX0_isFramed_25 : decode cX0_isFramed 25 = .ok (.ireturn, 1) := by decide +kernel
theorem dX0_firstLaid_0 : decode cX0_firstLaid 0 = .ok (.aload_n 0, 1) := by decide +kernel
theorem dX0_firstLaid_1 : decode cX0_firstLaid 1 = .ok (.iload_n 1, 1) := by decide +kernel
theorem dX0_firstLaid_2 : decode cX0_firstLaid 2 = .ok (.invokevirtual 75, 3) := by decide +kernel
theorem dX0_firstLaid_5 : decode cX0_firstLaid 5 = .ok (.ifCond .eq 7, 3) := by decide +kernel
theorem dX0_firstLaid_8 : decode cX0_firstLaid 8 = .ok (.iconst 1, 1) := by decide +kernel
theorem dX0_firstLaid_9 : decode cX0_firstLaid 9 = .ok (.goto 4, 3) := by decide +kernel
theorem dX0_firstLaid_12 : decode cX0_firstLaid 12 = .ok (.iconst 0, 1) := by decide +kernel
theorem dX0_firstLaid_13 : decode cX0_firstLaid 13 = .ok (.ireturn, 1) := by decide +kernel
theorem dX0_laidLength_0 : decode cX0_laidLength 0 = .ok (.aload_n 0, 1) := by decide +kernel
theorem dX0_laidLength_1 : decode cX0_laidLength 1 = .ok (.iload_n 1, 1) := by decide +kernel
theorem dX0_laidLength_2 : decode cX0_laidLength 2 = .ok (.invokevirtual 75, 3) := by decide +kernel
theorem dX0_laidLength_5 : decode cX0_laidLength 5 = .ok (.ifCond .eq 14, 3) := by decide +kernel
theorem dX0_laidLength_8 : decode cX0_laidLength 8 = .ok (.aload_n 0, 1) := by decide +kernel
theorem dX0_laidLength_9 : decode cX0_laidLength 9 = .ok (.getfield 24, 3) := by decide +kernel
theorem dX0_laidLength_12 : decode cX0_laidLength 12 = .ok (.iload_n 1, 1) := by decide +kernel
theorem dX0_laidLength_13 : decode cX0_laidLength 13 = .ok (.iaload, 1) := by decide +kernel
theorem dX0_laidLength_14 : decode cX0_laidLength 14 = .ok (.iconst 2, 1) := by decide +kernel
theorem dX0_laidLength_15 : decode cX0_laidLength 15 = .ok (.isub, 1) := by decide +kernel
theorem dX0_laidLength_16 : decode cX0_laidLength 16 = .ok (.goto 9, 3) := by decide +kernel
theorem dX0_laidLength_19 : decode cX0_laidLength 19 = .ok (.aload_n 0, 1) := by decide +kernel
theorem dX0_laidLength_20 : decode cX0_laidLength 20 = .ok (.getfield 24, 3) := by decide +kernel
theorem dX0_laidLength_23 : decode cX0_laidLength 23 = .ok (.iload_n 1, 1) := by decide +kernel
theorem dX0_laidLength_24 : decode cX0_laidLength 24 = .ok (.iaload, 1) := by decide +kernel
theorem dX0_laidLength_25 : decode cX0_laidLength 25 = .ok (.ireturn, 1) := by decide +kernel
theorem dX0_printsLeadTo_0 : decode cX0_printsLeadTo 0 = .ok (.iload_n 1, 1) := by decide +kernel
theorem dX0_printsLeadTo_1 : decode cX0_printsLeadTo 1 = .ok (.istore_n 3, 1) := by decide +kernel
theorem dX0_printsLeadTo_2 : decode cX0_printsLeadTo 2 = .ok (.iconst 0, 1) := by decide +kernel
theorem dX0_printsLeadTo_3 : decode cX0_printsLeadTo 3 = .ok (.istore 4, 2) := by decide +kernel
theorem dX0_printsLeadTo_5 : decode cX0_printsLeadTo 5 = .ok (.iload 4, 2) := by decide +kernel
theorem dX0_printsLeadTo_7 : decode cX0_printsLeadTo 7 = .ok (.bipush 10, 2) := by decide +kernel
theorem dX0_printsLeadTo_9 : decode cX0_printsLeadTo 9 = .ok (.if_icmp .ge 27, 3) := by decide +kernel
theorem dX0_printsLeadTo_12 : decode cX0_printsLeadTo 12 = .ok (.iload_n 3, 1) := by decide +kernel
theorem dX0_printsLeadTo_13 : decode cX0_printsLeadTo 13 = .ok (.ifCond .lt 23, 3) := by decide +kernel
theorem dX0_printsLeadTo_16 : decode cX0_printsLeadTo 16 = .ok (.iload_n 3, 1) := by decide +kernel
theorem dX0_printsLeadTo_17 : decode cX0_printsLeadTo 17 = .ok (.iload_n 2, 1) := by decide +kernel
theorem dX0_printsLeadTo_18 : decode cX0_printsLeadTo 18 = .ok (.if_icmp .ne 5, 3) := by decide +kernel
theorem dX0_printsLeadTo_21 : decode cX0_printsLeadTo 21 = .ok (.iconst 1, 1) := by decide +kernel
theorem dX0_printsLeadTo_22 : decode cX0_printsLeadTo 22 = .ok (.ireturn, 1) := by decide +kernel
theorem dX0_printsLeadTo_23 : decode cX0_printsLeadTo 23 = .ok (.aload_n 0, 1) := by decide +kernel
theorem dX0_printsLeadTo_24 : decode cX0_printsLeadTo 24 = .ok (.getfield 21, 3) := by decide +kernel
theorem dX0_printsLeadTo_27 : decode cX0_printsLeadTo 27 = .ok (.iload_n 3, 1) := by decide +kernel
theorem dX0_printsLeadTo_28 : decode cX0_printsLeadTo 28 = .ok (.iaload, 1) := by decide +kernel
theorem dX0_printsLeadTo_29 : decode cX0_printsLeadTo 29 = .ok (.istore_n 3, 1) := by decide +kernel
theorem dX0_printsLeadTo_30 : decode cX0_printsLeadTo 30 = .ok (.iinc 4 1, 3) := by decide +kernel
theorem dX0_printsLeadTo_33 : decode cX0_printsLeadTo 33 = .ok (.goto (-28), 3) := by decide +kernel
theorem dX0_printsLeadTo_36 : decode cX0_printsLeadTo 36 = .ok (.iconst 0, 1) := by decide +kernel
theorem dX0_printsLeadTo_37 : decode cX0_printsLeadTo 37 = .ok (.ireturn, 1) := by decide +kernel
theorem dX0_wayBetween_0 : decode cX0_wayBetween 0 = .ok (.aload_n 0, 1) := by decide +kernel
theorem dX0_wayBetween_1 : decode cX0_wayBetween 1 = .ok (.getfield 33, 3) := by decide +kernel
theorem dX0_wayBetween_4 : decode cX0_wayBetween 4 = .ok (.iload_n 1, 1) := by decide +kernel
theorem dX0_wayBetween_5 : decode cX0_wayBetween 5 = .ok (.bipush 6, 2) := by decide +kernel
theorem dX0_wayBetween_7 : decode cX0_wayBetween 7 = .ok (.imul, 1) := by decide +kernel
theorem dX0_wayBetween_8 : decode cX0_wayBetween 8 = .ok (.iload_n 2, 1) := by decide +kernel
theorem dX0_wayBetween_9 : decode cX0_wayBetween 9 = .ok (.iadd, 1) := by decide +kernel
theorem dX0_wayBetween_10 : decode cX0_wayBetween 10 = .ok (.iaload, 1) := by decide +kernel
theorem dX0_wayBetween_11 : decode cX0_wayBetween 11 = .ok (.ireturn, 1) := by decide +kernel
theorem dX0_setWay_0 : decode cX0_setWay 0 = .ok (.aload_n 0, 1) := by decide +kernel
theorem dX0_setWay_1 : decode cX0_setWay 1 = .ok (.getfield 33, 3) := by decide +kernel
theorem dX0_setWay_4 : decode cX0_setWay 4 = .ok (.iload_n 1, 1) := by decide +kernel
theorem dX0_setWay_5 : decode cX0_setWay 5 = .ok (.bipush 6, 2) := by decide +kernel
theorem dX0_setWay_7 : decode cX0_setWay 7 = .ok (.imul, 1) := by decide +kernel
theorem dX0_setWay_8 : decode cX0_setWay 8 = .ok (.iload_n 2, 1) := by decide +kernel
theorem dX0_setWay_9 : decode cX0_setWay 9 = .ok (.iadd, 1) := by decide +kernel
theorem dX0_setWay_10 : decode cX0_setWay 10 = .ok (.iload_n 3, 1) := by decide +kernel
theorem dX0_setWay_11 : decode cX0_setWay 11 = .ok (.iastore, 1) := by decide +kernel
theorem dX0_setWay_12 : decode cX0_setWay 12 = .ok (.aload_n 0, 1) := by decide +kernel
theorem dX0_setWay_13 : decode cX0_setWay 13 = .ok (.getfield 33, 3) := by decide +kernel
theorem dX0_setWay_16 : decode cX0_setWay 16 = .ok (.iload_n 2, 1) := by decide +kernel
theorem dX0_setWay_17 : decode cX0_setWay 17 = .ok (.bipush 6, 2) := by decide +kernel
theorem dX0_setWay_19 : decode cX0_setWay 19 = .ok (.imul, 1) := by decide +kernel
theorem dX0_setWay_20 : decode cX0_setWay 20 = .ok (.iload_n 1, 1) := by decide +kernel
theorem dX0_setWay_21 : decode cX0_setWay 21 = .ok (.iadd, 1) := by decide +kernel
theorem dX0_setWay_22 : decode cX0_setWay 22 = .ok (.iload_n 3, 1) := by decide +kernel
theorem dX0_setWay_23 : decode cX0_setWay 23 = .ok (.iastore, 1) := by decide +kernel
theorem dX0_setWay_24 : decode cX0_setWay 24 = .ok (.return_, 1) := by decide +kernel
theorem dX0_couldReach_0 : decode cX0_couldReach 0 = .ok (.aload_n 0, 1) := by decide +kernel
theorem dX0_couldReach_1 : decode cX0_couldReach 1 = .ok (.aload_n 0, 1) := by decide +kernel
theorem dX0_couldReach_2 : decode cX0_couldReach 2 = .ok (.getfield 15, 3) := by decide +kernel
theorem dX0_couldReach_5 : decode cX0_couldReach 5 = .ok (.iload_n 1, 1) := by decide +kernel
theorem dX0_couldReach_6 : decode cX0_couldReach 6 = .ok (.iaload, 1) := by decide +kernel
theorem dX0_couldReach_7 : decode cX0_couldReach 7 = .ok (.aload_n 0, 1) := by decide +kernel
theorem dX0_couldReach_8 : decode cX0_couldReach 8 = .ok (.getfield 15, 3) := by decide +kernel
theorem dX0_couldReach_11 : decode cX0_couldReach 11 = .ok (.iload_n 2, 1) := by decide +kernel
theorem dX0_couldReach_12 : decode cX0_couldReach 12 = .ok (.iaload, 1) := by decide +kernel
theorem dX0_couldReach_13 : decode cX0_couldReach 13 = .ok (.invokevirtual 78, 3) := by decide +kernel
theorem dX0_couldReach_16 : decode cX0_couldReach 16 = .ok (.istore_n 3, 1) := by decide +kernel
theorem dX0_couldReach_17 : decode cX0_couldReach 17 = .ok (.aload_n 0, 1) := by decide +kernel
theorem dX0_couldReach_18 : decode cX0_couldReach 18 = .ok (.getfield 18, 3) := by decide +kernel
theorem dX0_couldReach_21 : decode cX0_couldReach 21 = .ok (.iload_n 1, 1) := by decide +kernel
theorem dX0_couldReach_22 : decode cX0_couldReach 22 = .ok (.iaload, 1) := by decide +kernel
theorem dX0_couldReach_23 : decode cX0_couldReach 23 = .ok (.aload_n 0, 1) := by decide +kernel
theorem dX0_couldReach_24 : decode cX0_couldReach 24 = .ok (.getfield 18, 3) := by decide +kernel
theorem dX0_couldReach_27 : decode cX0_couldReach 27 = .ok (.iload_n 2, 1) := by decide +kernel
theorem dX0_couldReach_28 : decode cX0_couldReach 28 = .ok (.iaload, 1) := by decide +kernel
theorem dX0_couldReach_29 : decode cX0_couldReach 29 = .ok (.if_icmp .ge 24, 3) := by decide +kernel
theorem dX0_couldReach_32 : decode cX0_couldReach 32 = .ok (.aload_n 0, 1) := by decide +kernel
theorem dX0_couldReach_33 : decode cX0_couldReach 33 = .ok (.getfield 18, 3) := by decide +kernel
theorem dX0_couldReach_36 : decode cX0_couldReach 36 = .ok (.iload_n 1, 1) := by decide +kernel
theorem dX0_couldReach_37 : decode cX0_couldReach 37 = .ok (.iaload, 1) := by decide +kernel
theorem dX0_couldReach_38 : decode cX0_couldReach 38 = .ok (.iload_n 3, 1) := by decide +kernel
theorem dX0_couldReach_39 : decode cX0_couldReach 39 = .ok (.iadd, 1) := by decide +kernel
theorem dX0_couldReach_40 : decode cX0_couldReach 40 = .ok (.aload_n 0, 1) := by decide +kernel
theorem dX0_couldReach_41 : decode cX0_couldReach 41 = .ok (.getfield 18, 3) := by decide +kernel
theorem dX0_couldReach_44 : decode cX0_couldReach 44 = .ok (.iload_n 2, 1) := by decide +kernel
theorem dX0_couldReach_45 : decode cX0_couldReach 45 = .ok (.iaload, 1) := by decide +kernel
theorem dX0_couldReach_46 : decode cX0_couldReach 46 = .ok (.if_icmp .gt 7, 3) := by decide +kernel
theorem dX0_couldReach_49 : decode cX0_couldReach 49 = .ok (.iconst 1, 1) := by decide +kernel
theorem dX0_couldReach_50 : decode cX0_couldReach 50 = .ok (.goto 4, 3) := by decide +kernel
theorem dX0_couldReach_53 : decode cX0_couldReach 53 = .ok (.iconst 0, 1) := by decide +kernel
theorem dX0_couldReach_54 : decode cX0_couldReach 54 = .ok (.ireturn, 1) := by decide +kernel
theorem dX0_howManySteps_0 : decode cX0_howManySteps 0 = .ok (.iconst 0, 1) := by decide +kernel
theorem dX0_howManySteps_1 : decode cX0_howManySteps 1 = .ok (.istore_n 1, 1) := by decide +kernel
theorem dX0_howManySteps_2 : decode cX0_howManySteps 2 = .ok (.iconst 0, 1) := by decide +kernel
theorem dX0_howManySteps_3 : decode cX0_howManySteps 3 = .ok (.istore_n 2, 1) := by decide +kernel
theorem dX0_howManySteps_4 : decode cX0_howManySteps 4 = .ok (.iload_n 2, 1) := by decide +kernel
theorem dX0_howManySteps_5 : decode cX0_howManySteps 5 = .ok (.aload_n 0, 1) := by decide +kernel
theorem dX0_howManySteps_6 : decode cX0_howManySteps 6 = .ok (.getfield 36, 3) := by decide +kernel
theorem dX0_howManySteps_9 : decode cX0_howManySteps 9 = .ok (.if_icmp .ge 18, 3) := by decide +kernel
theorem dX0_howManySteps_12 : decode cX0_howManySteps 12 = .ok (.iload_n 1, 1) := by decide +kernel
theorem dX0_howManySteps_13 : decode cX0_howManySteps 13 = .ok (.aload_n 0, 1) := by decide +kernel
theorem dX0_howManySteps_14 : decode cX0_howManySteps 14 = .ok (.getfield 24, 3) := by decide +kernel
theorem dX0_howManySteps_17 : decode cX0_howManySteps 17 = .ok (.iload_n 2, 1) := by decide +kernel
theorem dX0_howManySteps_18 : decode cX0_howManySteps 18 = .ok (.iaload, 1) := by decide +kernel
theorem dX0_howManySteps_19 : decode cX0_howManySteps 19 = .ok (.iadd, 1) := by decide +kernel
theorem dX0_howManySteps_20 : decode cX0_howManySteps 20 = .ok (.istore_n 1, 1) := by decide +kernel
theorem dX0_howManySteps_21 : decode cX0_howManySteps 21 = .ok (.iinc 2 1, 3) := by decide +kernel
theorem dX0_howManySteps_24 : decode cX0_howManySteps 24 = .ok (.goto (-20), 3) := by decide +kernel
theorem dX0_howManySteps_27 : decode cX0_howManySteps 27 = .ok (.iload_n 1, 1) := by decide +kernel
theorem dX0_howManySteps_28 : decode cX0_howManySteps 28 = .ok (.ireturn, 1) := by decide +kernel
theorem dX0_howOften_0 : decode cX0_howOften 0 = .ok (.iconst 0, 1) := by decide +kernel
theorem dX0_howOften_1 : decode cX0_howOften 1 = .ok (.istore_n 3, 1) := by decide +kernel
theorem dX0_howOften_2 : decode cX0_howOften 2 = .ok (.iconst 0, 1) := by decide +kernel
theorem dX0_howOften_3 : decode cX0_howOften 3 = .ok (.istore 4, 2) := by decide +kernel
theorem dX0_howOften_5 : decode cX0_howOften 5 = .ok (.iload 4, 2) := by decide +kernel
theorem dX0_howOften_7 : decode cX0_howOften 7 = .ok (.aload_n 0, 1) := by decide +kernel
theorem dX0_howOften_8 : decode cX0_howOften 8 = .ok (.getfield 24, 3) := by decide +kernel
theorem dX0_howOften_11 : decode cX0_howOften 11 = .ok (.iload_n 2, 1) := by decide +kernel
theorem dX0_howOften_12 : decode cX0_howOften 12 = .ok (.iaload, 1) := by decide +kernel
theorem dX0_howOften_13 : decode cX0_howOften 13 = .ok (.if_icmp .ge 26, 3) := by decide +kernel
theorem dX0_howOften_16 : decode cX0_howOften 16 = .ok (.aload_n 0, 1) := by decide +kernel
theorem dX0_howOften_17 : decode cX0_howOften 17 = .ok (.iload_n 2, 1) := by decide +kernel
theorem dX0_howOften_18 : decode cX0_howOften 18 = .ok (.iload 4, 2) := by decide +kernel
theorem dX0_howOften_20 : decode cX0_howOften 20 = .ok (.invokevirtual 54, 3) := by decide +kernel
theorem dX0_howOften_23 : decode cX0_howOften 23 = .ok (.invokestatic 58, 3) := by decide +kernel
theorem dX0_howOften_26 : decode cX0_howOften 26 = .ok (.iload_n 1, 1) := by decide +kernel
theorem dX0_howOften_27 : decode cX0_howOften 27 = .ok (.if_icmp .ne 6, 3) := by decide +kernel
theorem dX0_howOften_30 : decode cX0_howOften 30 = .ok (.iinc 3 1, 3) := by decide +kernel
theorem dX0_howOften_33 : decode cX0_howOften 33 = .ok (.iinc 4 1, 3) := by decide +kernel
theorem dX0_howOften_36 : decode cX0_howOften 36 = .ok (.goto (-31), 3) := by decide +kernel
theorem dX0_howOften_39 : decode cX0_howOften 39 = .ok (.iload_n 3, 1) := by decide +kernel
theorem dX0_howOften_40 : decode cX0_howOften 40 = .ok (.ireturn, 1) := by decide +kernel
theorem dX0_howOftenAt_0 : decode cX0_howOftenAt 0 = .ok (.iconst 0, 1) := by decide +kernel
theorem dX0_howOftenAt_1 : decode cX0_howOftenAt 1 = .ok (.istore_n 3, 1) := by decide +kernel
theorem dX0_howOftenAt_2 : decode cX0_howOftenAt 2 = .ok (.iconst 0, 1) := by decide +kernel
theorem dX0_howOftenAt_3 : decode cX0_howOftenAt 3 = .ok (.istore 4, 2) := by decide +kernel
theorem dX0_howOftenAt_5 : decode cX0_howOftenAt 5 = .ok (.iload 4, 2) := by decide +kernel
theorem dX0_howOftenAt_7 : decode cX0_howOftenAt 7 = .ok (.aload_n 0, 1) := by decide +kernel
theorem dX0_howOftenAt_8 : decode cX0_howOftenAt 8 = .ok (.getfield 36, 3) := by decide +kernel
theorem dX0_howOftenAt_11 : decode cX0_howOftenAt 11 = .ok (.if_icmp .ge 29, 3) := by decide +kernel
theorem dX0_howOftenAt_14 : decode cX0_howOftenAt 14 = .ok (.aload_n 0, 1) := by decide +kernel
theorem dX0_howOftenAt_15 : decode cX0_howOftenAt 15 = .ok (.iload 4, 2) := by decide +kernel
theorem dX0_howOftenAt_17 : decode cX0_howOftenAt 17 = .ok (.iload_n 2, 1) := by decide +kernel
theorem dX0_howOftenAt_18 : decode cX0_howOftenAt 18 = .ok (.invokevirtual 81, 3) := by decide +kernel
theorem dX0_howOftenAt_21 : decode cX0_howOftenAt 21 = .ok (.ifCond .eq 13, 3) := by decide +kernel
theorem dX0_howOftenAt_24 : decode cX0_howOftenAt 24 = .ok (.iload_n 3, 1) := by decide +kernel
theorem dX0_howOftenAt_25 : decode cX0_howOftenAt 25 = .ok (.aload_n 0, 1) := by decide +kernel
theorem dX0_howOftenAt_26 : decode cX0_howOftenAt 26 = .ok (.iload_n 1, 1) := by decide +kernel
theorem dX0_howOftenAt_27 : decode cX0_howOftenAt 27 = .ok (.iload 4, 2) := by decide +kernel
theorem dX0_howOftenAt_29 : decode cX0_howOftenAt 29 = .ok (.invokevirtual 84, 3) := by decide +kernel
theorem dX0_howOftenAt_32 : decode cX0_howOftenAt 32 = .ok (.iadd, 1) := by decide +kernel
theorem dX0_howOftenAt_33 : decode cX0_howOftenAt 33 = .ok (.istore_n 3, 1) := by decide +kernel
theorem dX0_howOftenAt_34 : decode cX0_howOftenAt 34 = .ok (.iinc 4 1, 3) := by decide +kernel
theorem dX0_howOftenAt_37 : decode cX0_howOftenAt 37 = .ok (.goto (-32), 3) := by decide +kernel
theorem dX0_howOftenAt_40 : decode cX0_howOftenAt 40 = .ok (.iload_n 3, 1) := by decide +kernel
theorem dX0_howOftenAt_41 : decode cX0_howOftenAt 41 = .ok (.ireturn, 1) := by decide +kernel
theorem dX0_doubtsAt_0 : decode cX0_doubtsAt 0 = .ok (.iconst 0, 1) := by decide +kernel
theorem dX0_doubtsAt_1 : decode cX0_doubtsAt 1 = .ok (.istore_n 2, 1) := by decide +kernel
theorem dX0_doubtsAt_2 : decode cX0_doubtsAt 2 = .ok (.iconst 0, 1) := by decide +kernel
theorem dX0_doubtsAt_3 : decode cX0_doubtsAt 3 = .ok (.istore_n 3, 1) := by decide +kernel
theorem dX0_doubtsAt_4 : decode cX0_doubtsAt 4 = .ok (.iload_n 3, 1) := by decide +kernel
theorem dX0_doubtsAt_5 : decode cX0_doubtsAt 5 = .ok (.aload_n 0, 1) := by decide +kernel
theorem dX0_doubtsAt_6 : decode cX0_doubtsAt 6 = .ok (.getfield 36, 3) := by decide +kernel
theorem dX0_doubtsAt_9 : decode cX0_doubtsAt 9 = .ok (.if_icmp .ge 40, 3) := by decide +kernel
theorem dX0_doubtsAt_12 : decode cX0_doubtsAt 12 = .ok (.aload_n 0, 1) := by decide +kernel
theorem dX0_doubtsAt_13 : decode cX0_doubtsAt 13 = .ok (.iload_n 3, 1) := by decide +kernel
theorem dX0_doubtsAt_14 : decode cX0_doubtsAt 14 = .ok (.iload_n 1, 1) := by decide +kernel
theorem dX0_doubtsAt_15 : decode cX0_doubtsAt 15 = .ok (.invokevirtual 81, 3) := by decide +kernel
theorem dX0_doubtsAt_18 : decode cX0_doubtsAt 18 = .ok (.ifCond .eq 25, 3) := by decide +kernel
theorem dX0_doubtsAt_21 : decode cX0_doubtsAt 21 = .ok (.aload_n 0, 1) := by decide +kernel
theorem dX0_doubtsAt_22 : decode cX0_doubtsAt 22 = .ok (.iload_n 3, 1) := by decide +kernel
theorem dX0_doubtsAt_23 : decode cX0_doubtsAt 23 = .ok (.invokevirtual 87, 3) := by decide +kernel
theorem dX0_doubtsAt_26 : decode cX0_doubtsAt 26 = .ok (.ifCond .eq 17, 3) := by decide +kernel
theorem dX0_doubtsAt_29 : decode cX0_doubtsAt 29 = .ok (.aload_n 0, 1) := by decide +kernel
theorem dX0_doubtsAt_30 : decode cX0_doubtsAt 30 = .ok (.getfield 24, 3) := by decide +kernel
theorem dX0_doubtsAt_33 : decode cX0_doubtsAt 33 = .ok (.iload_n 3, 1) := by decide +kernel
theorem dX0_doubtsAt_34 : decode cX0_doubtsAt 34 = .ok (.iaload, 1) := by decide +kernel
theorem dX0_doubtsAt_35 : decode cX0_doubtsAt 35 = .ok (.bipush 10, 2) := by decide +kernel
theorem dX0_doubtsAt_37 : decode cX0_doubtsAt 37 = .ok (.if_icmp .ge 6, 3) := by decide +kernel
theorem dX0_doubtsAt_40 : decode cX0_doubtsAt 40 = .ok (.iinc 2 1, 3) := by decide +kernel
theorem dX0_doubtsAt_43 : decode cX0_doubtsAt 43 = .ok (.iinc 3 1, 3) := by decide +kernel
theorem dX0_doubtsAt_46 : decode cX0_doubtsAt 46 = .ok (.goto (-42), 3) := by decide +kernel
theorem dX0_doubtsAt_49 : decode cX0_doubtsAt 49 = .ok (.iload_n 2, 1) := by decide +kernel
theorem dX0_doubtsAt_50 : decode cX0_doubtsAt 50 = .ok (.ireturn, 1) := by decide +kernel
theorem dX0_isAt_0 : decode cX0_isAt 0 = .ok (.iload_n 2, 1) := by decide +kernel
theorem dX0_isAt_1 : decode cX0_isAt 1 = .ok (.iconst (-1), 1) := by decide +kernel
theorem dX0_isAt_2 : decode cX0_isAt 2 = .ok (.if_icmp .eq 13, 3) := by decide +kernel
theorem dX0_isAt_5 : decode cX0_isAt 5 = .ok (.aload_n 0, 1) := by decide +kernel
theorem dX0_isAt_6 : decode cX0_isAt 6 = .ok (.getfield 15, 3) := by decide +kernel
theorem dX0_isAt_9 : decode cX0_isAt 9 = .ok (.iload_n 1, 1) := by decide +kernel
theorem dX0_isAt_10 : decode cX0_isAt 10 = .ok (.iaload, 1) := by decide +kernel
theorem dX0_isAt_11 : decode cX0_isAt 11 = .ok (.iload_n 2, 1) := by decide +kernel
theorem dX0_isAt_12 : decode cX0_isAt 12 = .ok (.if_icmp .ne 7, 3) := by decide +kernel
theorem dX0_isAt_15 : decode cX0_isAt 15 = .ok (.iconst 1, 1) := by decide +kernel
theorem dX0_isAt_16 : decode cX0_isAt 16 = .ok (.goto 4, 3) := by decide +kernel
theorem dX0_isAt_19 : decode cX0_isAt 19 = .ok (.iconst 0, 1) := by decide +kernel
theorem dX0_isAt_20 : decode cX0_isAt 20 = .ok (.ireturn, 1) := by decide +kernel
theorem dX1_init_0 : decode cX1_init 0 = .ok (.aload_n 0, 1) := by decide +kernel
theorem dX1_init_1 : decode cX1_init 1 = .ok (.invokespecial 3, 3) := by decide +kernel
theorem dX1_init_4 : decode cX1_init 4 = .ok (.aload_n 0, 1) := by decide +kernel
theorem dX1_init_5 : decode cX1_init 5 = .ok (.iconst 4, 1) := by decide +kernel
theorem dX1_init_6 : decode cX1_init 6 = .ok (.newarray .int, 2) := by decide +kernel
theorem dX1_init_8 : decode cX1_init 8 = .ok (.putfield 9, 3) := by decide +kernel
theorem dX1_init_11 : decode cX1_init 11 = .ok (.aload_n 0, 1) := by decide +kernel
theorem dX1_init_12 : decode cX1_init 12 = .ok (.iconst 4, 1) := by decide +kernel
theorem dX1_init_13 : decode cX1_init 13 = .ok (.newarray .int, 2) := by decide +kernel
theorem dX1_init_15 : decode cX1_init 15 = .ok (.putfield 15, 3) := by decide +kernel
theorem dX1_init_18 : decode cX1_init 18 = .ok (.return_, 1) := by decide +kernel
theorem dX1_find_0 : decode cX1_find 0 = .ok (.aload_n 0, 1) := by decide +kernel
theorem dX1_find_1 : decode cX1_find 1 = .ok (.iconst 0, 1) := by decide +kernel
theorem dX1_find_2 : decode cX1_find 2 = .ok (.putfield 18, 3) := by decide +kernel
theorem dX1_find_5 : decode cX1_find 5 = .ok (.iconst 0, 1) := by decide +kernel
theorem dX1_find_6 : decode cX1_find 6 = .ok (.istore 4, 2) := by decide +kernel
theorem dX1_find_8 : decode cX1_find 8 = .ok (.iload 4, 2) := by decide +kernel
theorem dX1_find_10 : decode cX1_find 10 = .ok (.aload_n 1, 1) := by decide +kernel
theorem dX1_find_11 : decode cX1_find 11 = .ok (.getfield 22, 3) := by decide +kernel
theorem dX1_find_14 : decode cX1_find 14 = .ok (.iload_n 2, 1) := by decide +kernel
theorem dX1_find_15 : decode cX1_find 15 = .ok (.iaload, 1) := by decide +kernel
theorem dX1_find_16 : decode cX1_find 16 = .ok (.if_icmp .ge 105, 3) := by decide +kernel
theorem dX1_find_19 : decode cX1_find 19 = .ok (.iconst 0, 1) := by decide +kernel
theorem dX1_find_20 : decode cX1_find 20 = .ok (.istore 5, 2) := by decide +kernel
theorem dX1_find_22 : decode cX1_find 22 = .ok (.iload 5, 2) := by decide +kernel
theorem dX1_find_24 : decode cX1_find 24 = .ok (.aload_n 1, 1) := by decide +kernel
theorem dX1_find_25 : decode cX1_find 25 = .ok (.getfield 22, 3) := by decide +kernel
theorem dX1_find_28 : decode cX1_find 28 = .ok (.iload_n 3, 1) := by decide +kernel
theorem dX1_find_29 : decode cX1_find 29 = .ok (.iaload, 1) := by decide +kernel
theorem dX1_find_30 : decode cX1_find 30 = .ok (.if_icmp .ge 85, 3) := by decide +kernel
theorem dX1_find_33 : decode cX1_find 33 = .ok (.aload_n 1, 1) := by decide +kernel
theorem dX1_find_34 : decode cX1_find 34 = .ok (.getfield 22, 3) := by decide +kernel
theorem dX1_find_37 : decode cX1_find 37 = .ok (.iload_n 2, 1) := by decide +kernel
theorem dX1_find_38 : decode cX1_find 38 = .ok (.iaload, 1) := by decide +kernel
theorem dX1_find_39 : decode cX1_find 39 = .ok (.iload 4, 2) := by decide +kernel
theorem dX1_find_41 : decode cX1_find 41 = .ok (.isub, 1) := by decide +kernel
theorem dX1_find_42 : decode cX1_find 42 = .ok (.aload_n 1, 1) := by decide +kernel
theorem dX1_find_43 : decode cX1_find 43 = .ok (.getfield 22, 3) := by decide +kernel
theorem dX1_find_46 : decode cX1_find 46 = .ok (.iload_n 3, 1) := by decide +kernel
theorem dX1_find_47 : decode cX1_find 47 = .ok (.iaload, 1) := by decide +kernel
theorem dX1_find_48 : decode cX1_find 48 = .ok (.iload 5, 2) := by decide +kernel
theorem dX1_find_50 : decode cX1_find 50 = .ok (.isub, 1) := by decide +kernel
theorem dX1_find_51 : decode cX1_find 51 = .ok (.invokestatic 27, 3) := by decide +kernel
theorem dX1_find_54 : decode cX1_find 54 = .ok (.istore 6, 2) := by decide +kernel
theorem dX1_find_56 : decode cX1_find 56 = .ok (.aload_n 0, 1) := by decide +kernel
theorem dX1_find_57 : decode cX1_find 57 = .ok (.aload_n 1, 1) := by decide +kernel
theorem dX1_find_58 : decode cX1_find 58 = .ok (.getfield 33, 3) := by decide +kernel
theorem dX1_find_61 : decode cX1_find 61 = .ok (.iload_n 2, 1) := by decide +kernel
theorem dX1_find_62 : decode cX1_find 62 = .ok (.bipush 10, 2) := by decide +kernel
theorem dX1_find_64 : decode cX1_find 64 = .ok (.imul, 1) := by decide +kernel
theorem dX1_find_65 : decode cX1_find 65 = .ok (.iload 4, 2) := by decide +kernel
theorem dX1_find_67 : decode cX1_find 67 = .ok (.iadd, 1) := by decide +kernel
theorem dX1_find_68 : decode cX1_find 68 = .ok (.iload_n 3, 1) := by decide +kernel
theorem dX1_find_69 : decode cX1_find 69 = .ok (.bipush 10, 2) := by decide +kernel
theorem dX1_find_71 : decode cX1_find 71 = .ok (.imul, 1) := by decide +kernel
theorem dX1_find_72 : decode cX1_find 72 = .ok (.iload 5, 2) := by decide +kernel
theorem dX1_find_74 : decode cX1_find 74 = .ok (.iadd, 1) := by decide +kernel
theorem dX1_find_75 : decode cX1_find 75 = .ok (.iload 6, 2) := by decide +kernel
theorem dX1_find_77 : decode cX1_find 77 = .ok (.invokevirtual 36, 3) := by decide +kernel
theorem dX1_find_80 : decode cX1_find 80 = .ok (.istore 7, 2) := by decide +kernel
theorem dX1_find_82 : decode cX1_find 82 = .ok (.iload 7, 2) := by decide +kernel
theorem dX1_find_84 : decode cX1_find 84 = .ok (.aload_n 0, 1) := by decide +kernel
theorem dX1_find_85 : decode cX1_find 85 = .ok (.getfield 18, 3) := by decide +kernel
theorem dX1_find_88 : decode cX1_find 88 = .ok (.if_icmp .le 21, 3) := by decide +kernel
theorem dX1_find_91 : decode cX1_find 91 = .ok (.aload_n 0, 1) := by decide +kernel
theorem dX1_find_92 : decode cX1_find 92 = .ok (.iload 7, 2) := by decide +kernel
theorem dX1_find_94 : decode cX1_find 94 = .ok (.putfield 18, 3) := by decide +kernel
theorem dX1_find_97 : decode cX1_find 97 = .ok (.aload_n 0, 1) := by decide +kernel
theorem dX1_find_98 : decode cX1_find 98 = .ok (.iload 4, 2) := by decide +kernel
theorem dX1_find_100 : decode cX1_find 100 = .ok (.putfield 40, 3) := by decide +kernel
theorem dX1_find_103 : decode cX1_find 103 = .ok (.aload_n 0, 1) := by decide +kernel
theorem dX1_find_104 : decode cX1_find 104 = .ok (.iload 5, 2) := by decide +kernel
theorem dX1_find_106 : decode cX1_find 106 = .ok (.putfield 43, 3) := by decide +kernel
theorem dX1_find_109 : decode cX1_find 109 = .ok (.iinc 5 1, 3) := by decide +kernel
theorem dX1_find_112 : decode cX1_find 112 = .ok (.goto (-90), 3) := by decide +kernel
theorem dX1_find_115 : decode cX1_find 115 = .ok (.iinc 4 1, 3) := by decide +kernel
theorem dX1_find_118 : decode cX1_find 118 = .ok (.goto (-110), 3) := by decide +kernel
theorem dX1_find_121 : decode cX1_find 121 = .ok (.return_, 1) := by decide +kernel
theorem dX1_sameFrom_0 : decode cX1_sameFrom 0 = .ok (.aload_n 0, 1) := by decide +kernel
theorem dX1_sameFrom_1 : decode cX1_sameFrom 1 = .ok (.getfield 9, 3) := by decide +kernel
theorem dX1_sameFrom_4 : decode cX1_sameFrom 4 = .ok (.iconst (-1), 1) := by decide +kernel
theorem dX1_sameFrom_5 : decode cX1_sameFrom 5 = .ok (.invokestatic 46, 3) := by decide +kernel
theorem dX1_sameFrom_8 : decode cX1_sameFrom 8 = .ok (.aload_n 0, 1) := by decide +kernel
theorem dX1_sameFrom_9 : decode cX1_sameFrom 9 = .ok (.getfield 15, 3) := by decide +kernel
theorem dX1_sameFrom_12 : decode cX1_sameFrom 12 = .ok (.iconst (-1), 1) := by decide +kernel
theorem dX1_sameFrom_13 : decode cX1_sameFrom 13 = .ok (.invokestatic 46, 3) := by decide +kernel
theorem dX1_sameFrom_16 : decode cX1_sameFrom 16 = .ok (.iconst 0, 1) := by decide +kernel
theorem dX1_sameFrom_17 : decode cX1_sameFrom 17 = .ok (.istore 5, 2) := by decide +kernel
theorem dX1_sameFrom_19 : decode cX1_sameFrom 19 = .ok (.iload 5, 2) := by decide +kernel
theorem dX1_sameFrom_21 : decode cX1_sameFrom 21 = .ok (.iload 4, 2) := by decide +kernel
theorem dX1_sameFrom_23 : decode cX1_sameFrom 23 = .ok (.if_icmp .ge 28, 3) := by decide +kernel
theorem dX1_sameFrom_26 : decode cX1_sameFrom 26 = .ok (.aload_n 0, 1) := by decide +kernel
theorem dX1_sameFrom_27 : decode cX1_sameFrom 27 = .ok (.aload_n 1, 1) := by decide +kernel
theorem dX1_sameFrom_28 : decode cX1_sameFrom 28 = .ok (.iload_n 2, 1) := by decide +kernel
theorem dX1_sameFrom_29 : decode cX1_sameFrom 29 = .ok (.iload 5, 2) := by decide +kernel
theorem dX1_sameFrom_31 : decode cX1_sameFrom 31 = .ok (.iadd, 1) := by decide +kernel
theorem dX1_sameFrom_32 : decode cX1_sameFrom 32 = .ok (.iaload, 1) := by decide +kernel
theorem dX1_sameFrom_33 : decode cX1_sameFrom 33 = .ok (.aload_n 1, 1) := by decide +kernel
theorem dX1_sameFrom_34 : decode cX1_sameFrom 34 = .ok (.iload_n 3, 1) := by decide +kernel
theorem dX1_sameFrom_35 : decode cX1_sameFrom 35 = .ok (.iload 5, 2) := by decide +kernel
theorem dX1_sameFrom_37 : decode cX1_sameFrom 37 = .ok (.iadd, 1) := by decide +kernel
theorem dX1_sameFrom_38 : decode cX1_sameFrom 38 = .ok (.iaload, 1) := by decide +kernel
theorem dX1_sameFrom_39 : decode cX1_sameFrom 39 = .ok (.invokevirtual 52, 3) := by decide +kernel
theorem dX1_sameFrom_42 : decode cX1_sameFrom 42 = .ok (.ifCond .eq 9, 3) := by decide +kernel
theorem dX1_sameFrom_45 : decode cX1_sameFrom 45 = .ok (.iinc 5 1, 3) := by decide +kernel
theorem dX1_sameFrom_48 : decode cX1_sameFrom 48 = .ok (.goto (-29), 3) := by decide +kernel
theorem dX1_sameFrom_51 : decode cX1_sameFrom 51 = .ok (.iload 5, 2) := by decide +kernel
theorem dX1_sameFrom_53 : decode cX1_sameFrom 53 = .ok (.ireturn, 1) := by decide +kernel
theorem dX1_isSame_0 : decode cX1_isSame 0 = .ok (.iload_n 1, 1) := by decide +kernel
theorem dX1_isSame_1 : decode cX1_isSame 1 = .ok (.invokestatic 56, 3) := by decide +kernel
theorem dX1_isSame_4 : decode cX1_isSame 4 = .ok (.iload_n 2, 1) := by decide +kernel
theorem dX1_isSame_5 : decode cX1_isSame 5 = .ok (.invokestatic 56, 3) := by decide +kernel
theorem dX1_isSame_8 : decode cX1_isSame 8 = .ok (.if_icmp .ne 37, 3) := by decide +kernel
theorem dX1_isSame_11 : decode cX1_isSame 11 = .ok (.aload_n 0, 1) := by decide +kernel
theorem dX1_isSame_12 : decode cX1_isSame 12 = .ok (.iload_n 1, 1) := by decide +kernel
theorem dX1_isSame_13 : decode cX1_isSame 13 = .ok (.invokestatic 60, 3) := by decide +kernel
theorem dX1_isSame_16 : decode cX1_isSame 16 = .ok (.iload_n 2, 1) := by decide +kernel
theorem dX1_isSame_17 : decode cX1_isSame 17 = .ok (.invokestatic 60, 3) := by decide +kernel
theorem dX1_isSame_20 : decode cX1_isSame 20 = .ok (.invokevirtual 63, 3) := by decide +kernel
theorem dX1_isSame_23 : decode cX1_isSame 23 = .ok (.ifCond .eq 22, 3) := by decide +kernel
theorem dX1_isSame_26 : decode cX1_isSame 26 = .ok (.aload_n 0, 1) := by decide +kernel
theorem dX1_isSame_27 : decode cX1_isSame 27 = .ok (.iload_n 1, 1) := by decide +kernel
theorem dX1_isSame_28 : decode cX1_isSame 28 = .ok (.invokestatic 66, 3) := by decide +kernel
theorem dX1_isSame_31 : decode cX1_isSame 31 = .ok (.iload_n 2, 1) := by decide +kernel
theorem dX1_isSame_32 : decode cX1_isSame 32 = .ok (.invokestatic 66, 3) := by decide +kernel
theorem dX1_isSame_35 : decode cX1_isSame 35 = .ok (.invokevirtual 63, 3) := by decide +kernel
theorem dX1_isSame_38 : decode cX1_isSame 38 = .ok (.ifCond .eq 7, 3) := by decide +kernel
theorem dX1_isSame_41 : decode cX1_isSame 41 = .ok (.iconst 1, 1) := by decide +kernel
theorem dX1_isSame_42 : decode cX1_isSame 42 = .ok (.goto 4, 3) := by decide +kernel
theorem dX1_isSame_45 : decode cX1_isSame 45 = .ok (.iconst 0, 1) := by decide +kernel
theorem dX1_isSame_46 : decode cX1_isSame 46 = .ok (.ireturn, 1) := by decide +kernel
theorem dX1_leads_0 : decode cX1_leads 0 = .ok (.aload_n 0, 1) := by decide +kernel
theorem dX1_leads_1 : decode cX1_leads 1 = .ok (.getfield 9, 3) := by decide +kernel
theorem dX1_leads_4 : decode cX1_leads 4 = .ok (.iload_n 1, 1) := by decide +kernel
theorem dX1_leads_5 : decode cX1_leads 5 = .ok (.iaload, 1) := by decide +kernel
theorem dX1_leads_6 : decode cX1_leads 6 = .ok (.ifCond .ge 26, 3) := by decide +kernel
theorem dX1_leads_9 : decode cX1_leads 9 = .ok (.aload_n 0, 1) := by decide +kernel
theorem dX1_leads_10 : decode cX1_leads 10 = .ok (.getfield 15, 3) := by decide +kernel
theorem dX1_leads_13 : decode cX1_leads 13 = .ok (.iload_n 2, 1) := by decide +kernel
theorem dX1_leads_14 : decode cX1_leads 14 = .ok (.iaload, 1) := by decide +kernel
theorem dX1_leads_15 : decode cX1_leads 15 = .ok (.ifCond .ge 17, 3) := by decide +kernel
theorem dX1_leads_18 : decode cX1_leads 18 = .ok (.aload_n 0, 1) := by decide +kernel
theorem dX1_leads_19 : decode cX1_leads 19 = .ok (.getfield 9, 3) := by decide +kernel
theorem dX1_leads_22 : decode cX1_leads 22 = .ok (.iload_n 1, 1) := by decide +kernel
theorem dX1_leads_23 : decode cX1_leads 23 = .ok (.iload_n 2, 1) := by decide +kernel
theorem dX1_leads_24 : decode cX1_leads 24 = .ok (.iastore, 1) := by decide +kernel
theorem dX1_leads_25 : decode cX1_leads 25 = .ok (.aload_n 0, 1) := by decide +kernel
theorem dX1_leads_26 : decode cX1_leads 26 = .ok (.getfield 15, 3) := by decide +kernel
theorem dX1_leads_29 : decode cX1_leads 29 = .ok (.iload_n 2, 1) := by decide +kernel
theorem dX1_leads_30 : decode cX1_leads 30 = .ok (.iload_n 1, 1) := by decide +kernel
theorem dX1_leads_31 : decode cX1_leads 31 = .ok (.iastore, 1) := by decide +kernel
theorem dX1_leads_32 : decode cX1_leads 32 = .ok (.aload_n 0, 1) := by decide +kernel
theorem dX1_leads_33 : decode cX1_leads 33 = .ok (.getfield 9, 3) := by decide +kernel
theorem dX1_leads_36 : decode cX1_leads 36 = .ok (.iload_n 1, 1) := by decide +kernel
theorem dX1_leads_37 : decode cX1_leads 37 = .ok (.iaload, 1) := by decide +kernel
theorem dX1_leads_38 : decode cX1_leads 38 = .ok (.iload_n 2, 1) := by decide +kernel
theorem dX1_leads_39 : decode cX1_leads 39 = .ok (.if_icmp .ne 7, 3) := by decide +kernel
theorem dX1_leads_42 : decode cX1_leads 42 = .ok (.iconst 1, 1) := by decide +kernel
theorem dX1_leads_43 : decode cX1_leads 43 = .ok (.goto 4, 3) := by decide +kernel
theorem dX1_leads_46 : decode cX1_leads 46 = .ok (.iconst 0, 1) := by decide +kernel
theorem dX1_leads_47 : decode cX1_leads 47 = .ok (.ireturn, 1) := by decide +kernel
theorem dX2_init_0 : decode cX2_init 0 = .ok (.aload_n 0, 1) := by decide +kernel
theorem dX2_init_1 : decode cX2_init 1 = .ok (.invokespecial 3, 3) := by decide +kernel
theorem dX2_init_4 : decode cX2_init 4 = .ok (.aload_n 0, 1) := by decide +kernel
theorem dX2_init_5 : decode cX2_init 5 = .ok (.new 9, 3) := by decide +kernel
theorem dX2_init_8 : decode cX2_init 8 = .ok (.dup, 1) := by decide +kernel
theorem dX2_init_9 : decode cX2_init 9 = .ok (.invokespecial 11, 3) := by decide +kernel
theorem dX2_init_12 : decode cX2_init 12 = .ok (.putfield 12, 3) := by decide +kernel
theorem dX2_init_15 : decode cX2_init 15 = .ok (.aload_n 0, 1) := by decide +kernel
theorem dX2_init_16 : decode cX2_init 16 = .ok (.bipush 100, 2) := by decide +kernel
theorem dX2_init_18 : decode cX2_init 18 = .ok (.newarray .int, 2) := by decide +kernel
theorem dX2_init_20 : decode cX2_init 20 = .ok (.putfield 18, 3) := by decide +kernel
theorem dX2_init_23 : decode cX2_init 23 = .ok (.aload_n 0, 1) := by decide +kernel
theorem dX2_init_24 : decode cX2_init 24 = .ok (.getfield 18, 3) := by decide +kernel
theorem dX2_init_27 : decode cX2_init 27 = .ok (.iconst (-1), 1) := by decide +kernel
theorem dX2_init_28 : decode cX2_init 28 = .ok (.invokestatic 22, 3) := by decide +kernel
theorem dX2_init_31 : decode cX2_init 31 = .ok (.return_, 1) := by decide +kernel
theorem dX2_forget_0 : decode cX2_forget 0 = .ok (.iconst 0, 1) := by decide +kernel
theorem dX2_forget_1 : decode cX2_forget 1 = .ok (.istore_n 2, 1) := by decide +kernel
theorem dX2_forget_2 : decode cX2_forget 2 = .ok (.iload_n 2, 1) := by decide +kernel
theorem dX2_forget_3 : decode cX2_forget 3 = .ok (.bipush 10, 2) := by decide +kernel
theorem dX2_forget_5 : decode cX2_forget 5 = .ok (.if_icmp .ge 33, 3) := by decide +kernel
theorem dX2_forget_8 : decode cX2_forget 8 = .ok (.aload_n 0, 1) := by decide +kernel
theorem dX2_forget_9 : decode cX2_forget 9 = .ok (.getfield 18, 3) := by decide +kernel
theorem dX2_forget_12 : decode cX2_forget 12 = .ok (.iload_n 1, 1) := by decide +kernel
theorem dX2_forget_13 : decode cX2_forget 13 = .ok (.bipush 10, 2) := by decide +kernel
theorem dX2_forget_15 : decode cX2_forget 15 = .ok (.imul, 1) := by decide +kernel
theorem dX2_forget_16 : decode cX2_forget 16 = .ok (.iload_n 2, 1) := by decide +kernel
theorem dX2_forget_17 : decode cX2_forget 17 = .ok (.iadd, 1) := by decide +kernel
theorem dX2_forget_18 : decode cX2_forget 18 = .ok (.iconst (-1), 1) := by decide +kernel
theorem dX2_forget_19 : decode cX2_forget 19 = .ok (.iastore, 1) := by decide +kernel
theorem dX2_forget_20 : decode cX2_forget 20 = .ok (.aload_n 0, 1) := by decide +kernel
theorem dX2_forget_21 : decode cX2_forget 21 = .ok (.getfield 18, 3) := by decide +kernel
theorem dX2_forget_24 : decode cX2_forget 24 = .ok (.iload_n 2, 1) := by decide +kernel
theorem dX2_forget_25 : decode cX2_forget 25 = .ok (.bipush 10, 2) := by decide +kernel
theorem dX2_forget_27 : decode cX2_forget 27 = .ok (.imul, 1) := by decide +kernel
theorem dX2_forget_28 : decode cX2_forget 28 = .ok (.iload_n 1, 1) := by decide +kernel
theorem dX2_forget_29 : decode cX2_forget 29 = .ok (.iadd, 1) := by decide +kernel
theorem dX2_forget_30 : decode cX2_forget 30 = .ok (.iconst (-1), 1) := by decide +kernel
theorem dX2_forget_31 : decode cX2_forget 31 = .ok (.iastore, 1) := by decide +kernel
theorem dX2_forget_32 : decode cX2_forget 32 = .ok (.iinc 2 1, 3) := by decide +kernel
theorem dX2_forget_35 : decode cX2_forget 35 = .ok (.goto (-33), 3) := by decide +kernel
theorem dX2_forget_38 : decode cX2_forget 38 = .ok (.return_, 1) := by decide +kernel
theorem dX2_forgetAll_0 : decode cX2_forgetAll 0 = .ok (.aload_n 0, 1) := by decide +kernel
theorem dX2_forgetAll_1 : decode cX2_forgetAll 1 = .ok (.getfield 18, 3) := by decide +kernel
theorem dX2_forgetAll_4 : decode cX2_forgetAll 4 = .ok (.iconst (-1), 1) := by decide +kernel
theorem dX2_forgetAll_5 : decode cX2_forgetAll 5 = .ok (.invokestatic 22, 3) := by decide +kernel
theorem dX2_forgetAll_8 : decode cX2_forgetAll 8 = .ok (.return_, 1) := by decide +kernel
theorem dX2_between_0 : decode cX2_between 0 = .ok (.iload_n 2, 1) := by decide +kernel
theorem dX2_between_1 : decode cX2_between 1 = .ok (.bipush 10, 2) := by decide +kernel
theorem dX2_between_3 : decode cX2_between 3 = .ok (.imul, 1) := by decide +kernel
theorem dX2_between_4 : decode cX2_between 4 = .ok (.iload_n 3, 1) := by decide +kernel
theorem dX2_between_5 : decode cX2_between 5 = .ok (.iadd, 1) := by decide +kernel
theorem dX2_between_6 : decode cX2_between 6 = .ok (.istore 4, 2) := by decide +kernel
theorem dX2_between_8 : decode cX2_between 8 = .ok (.aload_n 0, 1) := by decide +kernel
theorem dX2_between_9 : decode cX2_between 9 = .ok (.getfield 18, 3) := by decide +kernel
theorem dX2_between_12 : decode cX2_between 12 = .ok (.iload 4, 2) := by decide +kernel
theorem dX2_between_14 : decode cX2_between 14 = .ok (.iaload, 1) := by decide +kernel
theorem dX2_between_15 : decode cX2_between 15 = .ok (.ifCond .ge 70, 3) := by decide +kernel
theorem dX2_between_18 : decode cX2_between 18 = .ok (.aload_n 0, 1) := by decide +kernel
theorem dX2_between_19 : decode cX2_between 19 = .ok (.getfield 12, 3) := by decide +kernel
theorem dX2_between_22 : decode cX2_between 22 = .ok (.getfield 28, 3) := by decide +kernel
theorem dX2_between_25 : decode cX2_between 25 = .ok (.aload_n 1, 1) := by decide +kernel
theorem dX2_between_26 : decode cX2_between 26 = .ok (.iload_n 2, 1) := by decide +kernel
theorem dX2_between_27 : decode cX2_between 27 = .ok (.invokevirtual 32, 3) := by decide +kernel
theorem dX2_between_30 : decode cX2_between 30 = .ok (.aload_n 0, 1) := by decide +kernel
theorem dX2_between_31 : decode cX2_between 31 = .ok (.getfield 12, 3) := by decide +kernel
theorem dX2_between_34 : decode cX2_between 34 = .ok (.getfield 38, 3) := by decide +kernel
theorem dX2_between_37 : decode cX2_between 37 = .ok (.aload_n 1, 1) := by decide +kernel
theorem dX2_between_38 : decode cX2_between 38 = .ok (.iload_n 3, 1) := by decide +kernel
theorem dX2_between_39 : decode cX2_between 39 = .ok (.invokevirtual 32, 3) := by decide +kernel
theorem dX2_between_42 : decode cX2_between 42 = .ok (.aload_n 0, 1) := by decide +kernel
theorem dX2_between_43 : decode cX2_between 43 = .ok (.getfield 12, 3) := by decide +kernel
theorem dX2_between_46 : decode cX2_between 46 = .ok (.aload_n 1, 1) := by decide +kernel
theorem dX2_between_47 : decode cX2_between 47 = .ok (.getfield 41, 3) := by decide +kernel
theorem dX2_between_50 : decode cX2_between 50 = .ok (.invokevirtual 46, 3) := by decide +kernel
theorem dX2_between_53 : decode cX2_between 53 = .ok (.aload_n 0, 1) := by decide +kernel
theorem dX2_between_54 : decode cX2_between 54 = .ok (.getfield 18, 3) := by decide +kernel
theorem dX2_between_57 : decode cX2_between 57 = .ok (.iload 4, 2) := by decide +kernel
theorem dX2_between_59 : decode cX2_between 59 = .ok (.aload_n 0, 1) := by decide +kernel
theorem dX2_between_60 : decode cX2_between 60 = .ok (.getfield 12, 3) := by decide +kernel
theorem dX2_between_63 : decode cX2_between 63 = .ok (.getfield 50, 3) := by decide +kernel
theorem dX2_between_66 : decode cX2_between 66 = .ok (.iastore, 1) := by decide +kernel
theorem dX2_between_67 : decode cX2_between 67 = .ok (.aload_n 0, 1) := by decide +kernel
theorem dX2_between_68 : decode cX2_between 68 = .ok (.getfield 18, 3) := by decide +kernel
theorem dX2_between_71 : decode cX2_between 71 = .ok (.iload_n 3, 1) := by decide +kernel
theorem dX2_between_72 : decode cX2_between 72 = .ok (.bipush 10, 2) := by decide +kernel
theorem dX2_between_74 : decode cX2_between 74 = .ok (.imul, 1) := by decide +kernel
theorem dX2_between_75 : decode cX2_between 75 = .ok (.iload_n 2, 1) := by decide +kernel
theorem dX2_between_76 : decode cX2_between 76 = .ok (.iadd, 1) := by decide +kernel
theorem dX2_between_77 : decode cX2_between 77 = .ok (.aload_n 0, 1) := by decide +kernel
theorem dX2_between_78 : decode cX2_between 78 = .ok (.getfield 12, 3) := by decide +kernel
theorem dX2_between_81 : decode cX2_between 81 = .ok (.getfield 50, 3) := by decide +kernel
theorem dX2_between_84 : decode cX2_between 84 = .ok (.iastore, 1) := by decide +kernel
theorem dX2_between_85 : decode cX2_between 85 = .ok (.aload_n 0, 1) := by decide +kernel
theorem dX2_between_86 : decode cX2_between 86 = .ok (.getfield 18, 3) := by decide +kernel
theorem dX2_between_89 : decode cX2_between 89 = .ok (.iload 4, 2) := by decide +kernel
theorem dX2_between_91 : decode cX2_between 91 = .ok (.iaload, 1) := by decide +kernel
theorem dX2_between_92 : decode cX2_between 92 = .ok (.ireturn, 1) := by decide +kernel
theorem dX2_reckonHeap_0 : decode cX2_reckonHeap 0 = .ok (.iconst 0, 1) := by decide +kernel
theorem dX2_reckonHeap_1 : decode cX2_reckonHeap 1 = .ok (.istore_n 3, 1) := by decide +kernel
theorem dX2_reckonHeap_2 : decode cX2_reckonHeap 2 = .ok (.iload_n 3, 1) := by decide +kernel
theorem dX2_reckonHeap_3 : decode cX2_reckonHeap 3 = .ok (.aload_n 1, 1) := by decide +kernel
theorem dX2_reckonHeap_4 : decode cX2_reckonHeap 4 = .ok (.getfield 54, 3) := by decide +kernel
theorem dX2_reckonHeap_7 : decode cX2_reckonHeap 7 = .ok (.if_icmp .ge 53, 3) := by decide +kernel
theorem dX2_reckonHeap_10 : decode cX2_reckonHeap 10 = .ok (.iload_n 3, 1) := by decide +kernel
theorem dX2_reckonHeap_11 : decode cX2_reckonHeap 11 = .ok (.istore 4, 2) := by decide +kernel
theorem dX2_reckonHeap_13 : decode cX2_reckonHeap 13 = .ok (.iload 4, 2) := by decide +kernel
theorem dX2_reckonHeap_15 : decode cX2_reckonHeap 15 = .ok (.aload_n 1, 1) := by decide +kernel
theorem dX2_reckonHeap_16 : decode cX2_reckonHeap 16 = .ok (.getfield 54, 3) := by decide +kernel
theorem dX2_reckonHeap_19 : decode cX2_reckonHeap 19 = .ok (.if_icmp .ge 35, 3) := by decide +kernel
theorem dX2_reckonHeap_22 : decode cX2_reckonHeap 22 = .ok (.iload_n 2, 1) := by decide +kernel
theorem dX2_reckonHeap_23 : decode cX2_reckonHeap 23 = .ok (.iload_n 3, 1) := by decide +kernel
theorem dX2_reckonHeap_24 : decode cX2_reckonHeap 24 = .ok (.invokestatic 57, 3) := by decide +kernel
theorem dX2_reckonHeap_27 : decode cX2_reckonHeap 27 = .ok (.ifCond .eq 21, 3) := by decide +kernel
theorem dX2_reckonHeap_30 : decode cX2_reckonHeap 30 = .ok (.iload_n 2, 1) := by decide +kernel
theorem dX2_reckonHeap_31 : decode cX2_reckonHeap 31 = .ok (.iload 4, 2) := by decide +kernel
theorem dX2_reckonHeap_33 : decode cX2_reckonHeap 33 = .ok (.invokestatic 57, 3) := by decide +kernel
theorem dX2_reckonHeap_36 : decode cX2_reckonHeap 36 = .ok (.ifCond .eq 12, 3) := by decide +kernel
theorem dX2_reckonHeap_39 : decode cX2_reckonHeap 39 = .ok (.aload_n 0, 1) := by decide +kernel
theorem dX2_reckonHeap_40 : decode cX2_reckonHeap 40 = .ok (.aload_n 1, 1) := by decide +kernel
theorem dX2_reckonHeap_41 : decode cX2_reckonHeap 41 = .ok (.iload_n 3, 1) := by decide +kernel
theorem dX2_reckonHeap_42 : decode cX2_reckonHeap 42 = .ok (.iload 4, 2) := by decide +kernel
theorem dX2_reckonHeap_44 : decode cX2_reckonHeap 44 = .ok (.invokevirtual 61, 3) := by decide +kernel
theorem dX2_reckonHeap_47 : decode cX2_reckonHeap 47 = .ok (.pop, 1) := by decide +kernel
theorem dX2_reckonHeap_48 : decode cX2_reckonHeap 48 = .ok (.iinc 4 1, 3) := by decide +kernel
theorem dX2_reckonHeap_51 : decode cX2_reckonHeap 51 = .ok (.goto (-38), 3) := by decide +kernel
theorem dX2_reckonHeap_54 : decode cX2_reckonHeap 54 = .ok (.iinc 3 1, 3) := by decide +kernel
theorem dX2_reckonHeap_57 : decode cX2_reckonHeap 57 = .ok (.goto (-55), 3) := by decide +kernel
theorem dX2_reckonHeap_60 : decode cX2_reckonHeap 60 = .ok (.return_, 1) := by decide +kernel
theorem dX2_layTales_0 : decode cX2_layTales 0 = .ok (.aload_n 0, 1) := by decide +kernel
theorem dX2_layTales_1 : decode cX2_layTales 1 = .ok (.getfield 12, 3) := by decide +kernel
theorem dX2_layTales_4 : decode cX2_layTales 4 = .ok (.getfield 28, 3) := by decide +kernel
theorem dX2_layTales_7 : decode cX2_layTales 7 = .ok (.aload_n 1, 1) := by decide +kernel
theorem dX2_layTales_8 : decode cX2_layTales 8 = .ok (.iload_n 2, 1) := by decide +kernel
theorem dX2_layTales_9 : decode cX2_layTales 9 = .ok (.invokevirtual 32, 3) := by decide +kernel
theorem dX2_layTales_12 : decode cX2_layTales 12 = .ok (.aload_n 0, 1) := by decide +kernel
theorem dX2_layTales_13 : decode cX2_layTales 13 = .ok (.getfield 12, 3) := by decide +kernel
theorem dX2_layTales_16 : decode cX2_layTales 16 = .ok (.getfield 38, 3) := by decide +kernel
theorem dX2_layTales_19 : decode cX2_layTales 19 = .ok (.aload_n 1, 1) := by decide +kernel
theorem dX2_layTales_20 : decode cX2_layTales 20 = .ok (.iload_n 3, 1) := by decide +kernel
theorem dX2_layTales_21 : decode cX2_layTales 21 = .ok (.invokevirtual 32, 3) := by decide +kernel
theorem dX2_layTales_24 : decode cX2_layTales 24 = .ok (.aload_n 0, 1) := by decide +kernel
theorem dX2_layTales_25 : decode cX2_layTales 25 = .ok (.getfield 12, 3) := by decide +kernel
theorem dX2_layTales_28 : decode cX2_layTales 28 = .ok (.aload_n 1, 1) := by decide +kernel
theorem dX2_layTales_29 : decode cX2_layTales 29 = .ok (.getfield 41, 3) := by decide +kernel
theorem dX2_layTales_32 : decode cX2_layTales 32 = .ok (.invokevirtual 46, 3) := by decide +kernel
theorem dX2_layTales_35 : decode cX2_layTales 35 = .ok (.aload_n 0, 1) := by decide +kernel
theorem dX2_layTales_36 : decode cX2_layTales 36 = .ok (.getfield 12, 3) := by decide +kernel
theorem dX2_layTales_39 : decode cX2_layTales 39 = .ok (.areturn, 1) := by decide +kernel
theorem dX2_pairTales_0 : decode cX2_pairTales 0 = .ok (.aload_n 0, 1) := by decide +kernel
theorem dX2_pairTales_1 : decode cX2_pairTales 1 = .ok (.aload_n 1, 1) := by decide +kernel
theorem dX2_pairTales_2 : decode cX2_pairTales 2 = .ok (.iload_n 2, 1) := by decide +kernel
theorem dX2_pairTales_3 : decode cX2_pairTales 3 = .ok (.iload_n 3, 1) := by decide +kernel
theorem dX2_pairTales_4 : decode cX2_pairTales 4 = .ok (.invokevirtual 65, 3) := by decide +kernel
theorem dX2_pairTales_7 : decode cX2_pairTales 7 = .ok (.pop, 1) := by decide +kernel
theorem dX2_pairTales_8 : decode cX2_pairTales 8 = .ok (.aload_n 0, 1) := by decide +kernel
theorem dX2_pairTales_9 : decode cX2_pairTales 9 = .ok (.getfield 12, 3) := by decide +kernel
theorem dX2_pairTales_12 : decode cX2_pairTales 12 = .ok (.invokevirtual 69, 3) := by decide +kernel
theorem dX2_pairTales_15 : decode cX2_pairTales 15 = .ok (.aload_n 0, 1) := by decide +kernel
theorem dX2_pairTales_16 : decode cX2_pairTales 16 = .ok (.getfield 12, 3) := by decide +kernel
theorem dX2_pairTales_19 : decode cX2_pairTales 19 = .ok (.areturn, 1) := by decide +kernel
theorem dX2_ofPart_0 : decode cX2_ofPart 0 = .ok (.aload_n 0, 1) := by decide +kernel
theorem dX2_ofPart_1 : decode cX2_ofPart 1 = .ok (.getfield 12, 3) := by decide +kernel
theorem dX2_ofPart_4 : decode cX2_ofPart 4 = .ok (.getfield 28, 3) := by decide +kernel
theorem dX2_ofPart_7 : decode cX2_ofPart 7 = .ok (.aload_n 1, 1) := by decide +kernel
theorem dX2_ofPart_8 : decode cX2_ofPart 8 = .ok (.iload_n 2, 1) := by decide +kernel
theorem dX2_ofPart_9 : decode cX2_ofPart 9 = .ok (.iload_n 3, 1) := by decide +kernel
theorem dX2_ofPart_10 : decode cX2_ofPart 10 = .ok (.iload 4, 2) := by decide +kernel
theorem dX2_ofPart_12 : decode cX2_ofPart 12 = .ok (.invokevirtual 72, 3) := by decide +kernel
theorem dX2_ofPart_15 : decode cX2_ofPart 15 = .ok (.aload_n 0, 1) := by decide +kernel
theorem dX2_ofPart_16 : decode cX2_ofPart 16 = .ok (.getfield 12, 3) := by decide +kernel
theorem dX2_ofPart_19 : decode cX2_ofPart 19 = .ok (.getfield 38, 3) := by decide +kernel
theorem dX2_ofPart_22 : decode cX2_ofPart 22 = .ok (.aload_n 1, 1) := by decide +kernel
theorem dX2_ofPart_23 : decode cX2_ofPart 23 = .ok (.iload 5, 2) := by decide +kernel
theorem dX2_ofPart_25 : decode cX2_ofPart 25 = .ok (.invokevirtual 32, 3) := by decide +kernel
theorem dX2_ofPart_28 : decode cX2_ofPart 28 = .ok (.aload_n 0, 1) := by decide +kernel
theorem dX2_ofPart_29 : decode cX2_ofPart 29 = .ok (.getfield 12, 3) := by decide +kernel
theorem dX2_ofPart_32 : decode cX2_ofPart 32 = .ok (.aload_n 1, 1) := by decide +kernel
theorem dX2_ofPart_33 : decode cX2_ofPart 33 = .ok (.getfield 41, 3) := by decide +kernel
theorem dX2_ofPart_36 : decode cX2_ofPart 36 = .ok (.invokevirtual 46, 3) := by decide +kernel
theorem dX2_ofPart_39 : decode cX2_ofPart 39 = .ok (.aload_n 0, 1) := by decide +kernel
theorem dX2_ofPart_40 : decode cX2_ofPart 40 = .ok (.getfield 12, 3) := by decide +kernel
theorem dX2_ofPart_43 : decode cX2_ofPart 43 = .ok (.getfield 50, 3) := by decide +kernel
theorem dX2_ofPart_46 : decode cX2_ofPart 46 = .ok (.ireturn, 1) := by decide +kernel
theorem dX3_init_0 : decode cX3_init 0 = .ok (.aload_n 0, 1) := by decide +kernel
theorem dX3_init_1 : decode cX3_init 1 = .ok (.invokespecial 3, 3) := by decide +kernel
theorem dX3_init_4 : decode cX3_init 4 = .ok (.aload_n 0, 1) := by decide +kernel
theorem dX3_init_5 : decode cX3_init 5 = .ok (.bipush 20, 2) := by decide +kernel
theorem dX3_init_7 : decode cX3_init 7 = .ok (.anewarray 9, 3) := by decide +kernel
theorem dX3_init_10 : decode cX3_init 10 = .ok (.putfield 11, 3) := by decide +kernel
theorem dX3_init_13 : decode cX3_init 13 = .ok (.iconst 0, 1) := by decide +kernel
theorem dX3_init_14 : decode cX3_init 14 = .ok (.istore_n 1, 1) := by decide +kernel
theorem dX3_init_15 : decode cX3_init 15 = .ok (.iload_n 1, 1) := by decide +kernel
theorem dX3_init_16 : decode cX3_init 16 = .ok (.bipush 20, 2) := by decide +kernel
theorem dX3_init_18 : decode cX3_init 18 = .ok (.if_icmp .ge 22, 3) := by decide +kernel
theorem dX3_init_21 : decode cX3_init 21 = .ok (.aload_n 0, 1) := by decide +kernel
theorem dX3_init_22 : decode cX3_init 22 = .ok (.getfield 11, 3) := by decide +kernel
theorem dX3_init_25 : decode cX3_init 25 = .ok (.iload_n 1, 1) := by decide +kernel
theorem dX3_init_26 : decode cX3_init 26 = .ok (.new 9, 3) := by decide +kernel
theorem dX3_init_29 : decode cX3_init 29 = .ok (.dup, 1) := by decide +kernel
theorem dX3_init_30 : decode cX3_init 30 = .ok (.invokespecial 17, 3) := by decide +kernel
theorem dX3_init_33 : decode cX3_init 33 = .ok (.aastore, 1) := by decide +kernel
theorem dX3_init_34 : decode cX3_init 34 = .ok (.iinc 1 1, 3) := by decide +kernel
theorem dX3_init_37 : decode cX3_init 37 = .ok (.goto (-22), 3) := by decide +kernel
theorem dX3_init_40 : decode cX3_init 40 = .ok (.return_, 1) := by decide +kernel
theorem dX3_keep_0 : decode cX3_keep 0 = .ok (.aload_n 0, 1) := by decide +kernel
theorem dX3_keep_1 : decode cX3_keep 1 = .ok (.getfield 11, 3) := by decide +kernel
theorem dX3_keep_4 : decode cX3_keep 4 = .ok (.aload_n 0, 1) := by decide +kernel
theorem dX3_keep_5 : decode cX3_keep 5 = .ok (.getfield 18, 3) := by decide +kernel
theorem dX3_keep_8 : decode cX3_keep 8 = .ok (.aaload, 1) := by decide +kernel
theorem dX3_keep_9 : decode cX3_keep 9 = .ok (.aload_n 1, 1) := by decide +kernel
theorem dX3_keep_10 : decode cX3_keep 10 = .ok (.invokevirtual 22, 3) := by decide +kernel
theorem dX3_keep_13 : decode cX3_keep 13 = .ok (.aload_n 0, 1) := by decide +kernel
theorem dX3_keep_14 : decode cX3_keep 14 = .ok (.aload_n 0, 1) := by decide +kernel
theorem dX3_keep_15 : decode cX3_keep 15 = .ok (.getfield 18, 3) := by decide +kernel
theorem dX3_keep_18 : decode cX3_keep 18 = .ok (.iconst 1, 1) := by decide +kernel
theorem dX3_keep_19 : decode cX3_keep 19 = .ok (.iadd, 1) := by decide +kernel
theorem dX3_keep_20 : decode cX3_keep 20 = .ok (.bipush 20, 2) := by decide +kernel
theorem dX3_keep_22 : decode cX3_keep 22 = .ok (.if_icmp .ge 12, 3) := by decide +kernel
theorem dX3_keep_25 : decode cX3_keep 25 = .ok (.aload_n 0, 1) := by decide +kernel
theorem dX3_keep_26 : decode cX3_keep 26 = .ok (.getfield 18, 3) := by decide +kernel
theorem dX3_keep_29 : decode cX3_keep 29 = .ok (.iconst 1, 1) := by decide +kernel
theorem dX3_keep_30 : decode cX3_keep 30 = .ok (.iadd, 1) := by decide +kernel
theorem dX3_keep_31 : decode cX3_keep 31 = .ok (.goto 4, 3) := by decide +kernel
theorem dX3_keep_34 : decode cX3_keep 34 = .ok (.iconst 0, 1) := by decide +kernel
theorem dX3_keep_35 : decode cX3_keep 35 = .ok (.putfield 18, 3) := by decide +kernel
theorem dX3_keep_38 : decode cX3_keep 38 = .ok (.aload_n 0, 1) := by decide +kernel
theorem dX3_keep_39 : decode cX3_keep 39 = .ok (.aload_n 0, 1) := by decide +kernel
theorem dX3_keep_40 : decode cX3_keep 40 = .ok (.getfield 26, 3) := by decide +kernel
theorem dX3_keep_43 : decode cX3_keep 43 = .ok (.iconst 1, 1) := by decide +kernel
theorem dX3_keep_44 : decode cX3_keep 44 = .ok (.iadd, 1) := by decide +kernel
theorem dX3_keep_45 : decode cX3_keep 45 = .ok (.bipush 20, 2) := by decide +kernel
theorem dX3_keep_47 : decode cX3_keep 47 = .ok (.invokestatic 29, 3) := by decide +kernel
theorem dX3_keep_50 : decode cX3_keep 50 = .ok (.putfield 26, 3) := by decide +kernel
theorem dX3_keep_53 : decode cX3_keep 53 = .ok (.return_, 1) := by decide +kernel
theorem dX3_giveBack_0 : decode cX3_giveBack 0 = .ok (.aload_n 0, 1) := by decide +kernel
theorem dX3_giveBack_1 : decode cX3_giveBack 1 = .ok (.aload_n 0, 1) := by decide +kernel
theorem dX3_giveBack_2 : decode cX3_giveBack 2 = .ok (.getfield 18, 3) := by decide +kernel
theorem dX3_giveBack_5 : decode cX3_giveBack 5 = .ok (.ifCond .le 12, 3) := by decide +kernel
theorem dX3_giveBack_8 : decode cX3_giveBack 8 = .ok (.aload_n 0, 1) := by decide +kernel
theorem dX3_giveBack_9 : decode cX3_giveBack 9 = .ok (.getfield 18, 3) := by decide +kernel
theorem dX3_giveBack_12 : decode cX3_giveBack 12 = .ok (.iconst 1, 1) := by decide +kernel
theorem dX3_giveBack_13 : decode cX3_giveBack 13 = .ok (.isub, 1) := by decide +kernel
theorem dX3_giveBack_14 : decode cX3_giveBack 14 = .ok (.goto 5, 3) := by decide +kernel
theorem dX3_giveBack_17 : decode cX3_giveBack 17 = .ok (.bipush 19, 2) := by decide +kernel
theorem dX3_giveBack_19 : decode cX3_giveBack 19 = .ok (.putfield 18, 3) := by decide +kernel
theorem dX3_giveBack_22 : decode cX3_giveBack 22 = .ok (.aload_n 1, 1) := by decide +kernel
theorem dX3_giveBack_23 : decode cX3_giveBack 23 = .ok (.aload_n 0, 1) := by decide +kernel
theorem dX3_giveBack_24 : decode cX3_giveBack 24 = .ok (.getfield 11, 3) := by decide +kernel
theorem dX3_giveBack_27 : decode cX3_giveBack 27 = .ok (.aload_n 0, 1) := by decide +kernel
theorem dX3_giveBack_28 : decode cX3_giveBack 28 = .ok (.getfield 18, 3) := by decide +kernel
theorem dX3_giveBack_31 : decode cX3_giveBack 31 = .ok (.aaload, 1) := by decide +kernel
theorem dX3_giveBack_32 : decode cX3_giveBack 32 = .ok (.invokevirtual 22, 3) := by decide +kernel
theorem dX3_giveBack_35 : decode cX3_giveBack 35 = .ok (.aload_n 0, 1) := by decide +kernel
theorem dX3_giveBack_36 : decode cX3_giveBack 36 = .ok (.dup, 1) := by decide +kernel
theorem dX3_giveBack_37 : decode cX3_giveBack 37 = .ok (.getfield 26, 3) := by decide +kernel
theorem dX3_giveBack_40 : decode cX3_giveBack 40 = .ok (.iconst 1, 1) := by decide +kernel
theorem dX3_giveBack_41 : decode cX3_giveBack 41 = .ok (.isub, 1) := by decide +kernel
theorem dX3_giveBack_42 : decode cX3_giveBack 42 = .ok (.putfield 26, 3) := by decide +kernel
theorem dX3_giveBack_45 : decode cX3_giveBack 45 = .ok (.return_, 1) := by decide +kernel
theorem dX4_init_0 : decode cX4_init 0 = .ok (.aload_n 0, 1) := by decide +kernel
theorem dX4_init_1 : decode cX4_init 1 = .ok (.invokespecial 3, 3) := by decide +kernel
theorem dX4_init_4 : decode cX4_init 4 = .ok (.aload_n 0, 1) := by decide +kernel
theorem dX4_init_5 : decode cX4_init 5 = .ok (.new 9, 3) := by decide +kernel
theorem dX4_init_8 : decode cX4_init 8 = .ok (.dup, 1) := by decide +kernel
theorem dX4_init_9 : decode cX4_init 9 = .ok (.invokespecial 11, 3) := by decide +kernel
theorem dX4_init_12 : decode cX4_init 12 = .ok (.putfield 12, 3) := by decide +kernel
theorem dX4_init_15 : decode cX4_init 15 = .ok (.aload_n 0, 1) := by decide +kernel
theorem dX4_init_16 : decode cX4_init 16 = .ok (.new 9, 3) := by decide +kernel
theorem dX4_init_19 : decode cX4_init 19 = .ok (.dup, 1) := by decide +kernel
theorem dX4_init_20 : decode cX4_init 20 = .ok (.invokespecial 11, 3) := by decide +kernel
theorem dX4_init_23 : decode cX4_init 23 = .ok (.putfield 18, 3) := by decide +kernel
theorem dX4_init_26 : decode cX4_init 26 = .ok (.aload_n 0, 1) := by decide +kernel
theorem dX4_init_27 : decode cX4_init 27 = .ok (.bipush 10, 2) := by decide +kernel
theorem dX4_init_29 : decode cX4_init 29 = .ok (.newarray .int, 2) := by decide +kernel
theorem dX4_init_31 : decode cX4_init 31 = .ok (.putfield 21, 3) := by decide +kernel
theorem dX4_init_34 : decode cX4_init 34 = .ok (.aload_n 0, 1) := by decide +kernel
theorem dX4_init_35 : decode cX4_init 35 = .ok (.bipush 121, 2) := by decide +kernel
theorem dX4_init_37 : decode cX4_init 37 = .ok (.newarray .int, 2) := by decide +kernel
theorem dX4_init_39 : decode cX4_init 39 = .ok (.putfield 25, 3) := by decide +kernel
theorem dX4_init_42 : decode cX4_init 42 = .ok (.aload_n 0, 1) := by decide +kernel
theorem dX4_init_43 : decode cX4_init 43 = .ok (.bipush 10, 2) := by decide +kernel
theorem dX4_init_45 : decode cX4_init 45 = .ok (.newarray .int, 2) := by decide +kernel
theorem dX4_init_47 : decode cX4_init 47 = .ok (.putfield 28, 3) := by decide +kernel
theorem dX4_init_50 : decode cX4_init 50 = .ok (.return_, 1) := by decide +kernel
theorem dX4_findLeast_0 : decode cX4_findLeast 0 = .ok (.aload_n 0, 1) := by decide +kernel
theorem dX4_findLeast_1 : decode cX4_findLeast 1 = .ok (.aload_n 1, 1) := by decide +kernel
theorem dX4_findLeast_2 : decode cX4_findLeast 2 = .ok (.iconst 0, 1) := by decide +kernel
theorem dX4_findLeast_3 : decode cX4_findLeast 3 = .ok (.iaload, 1) := by decide +kernel
theorem dX4_findLeast_4 : decode cX4_findLeast 4 = .ok (.putfield 31, 3) := by decide +kernel
theorem dX4_findLeast_7 : decode cX4_findLeast 7 = .ok (.aload_n 0, 1) := by decide +kernel
theorem dX4_findLeast_8 : decode cX4_findLeast 8 = .ok (.aload_n 1, 1) := by decide +kernel
theorem dX4_findLeast_9 : decode cX4_findLeast 9 = .ok (.iconst 1, 1) := by decide +kernel
theorem dX4_findLeast_10 : decode cX4_findLeast 10 = .ok (.iaload, 1) := by decide +kernel
theorem dX4_findLeast_11 : decode cX4_findLeast 11 = .ok (.putfield 35, 3) := by decide +kernel
theorem dX4_findLeast_14 : decode cX4_findLeast 14 = .ok (.aload_n 0, 1) := by decide +kernel
theorem dX4_findLeast_15 : decode cX4_findLeast 15 = .ok (.aload_n 1, 1) := by decide +kernel
theorem dX4_findLeast_16 : decode cX4_findLeast 16 = .ok (.iconst 2, 1) := by decide +kernel
theorem dX4_findLeast_17 : decode cX4_findLeast 17 = .ok (.iaload, 1) := by decide +kernel
theorem dX4_findLeast_18 : decode cX4_findLeast 18 = .ok (.putfield 38, 3) := by decide +kernel
theorem dX4_findLeast_21 : decode cX4_findLeast 21 = .ok (.aload_n 0, 1) := by decide +kernel
theorem dX4_findLeast_22 : decode cX4_findLeast 22 = .ok (.ldc 41, 2) := by decide +kernel
theorem dX4_findLeast_24 : decode cX4_findLeast 24 = .ok (.putfield 42, 3) := by decide +kernel
theorem dX4_findLeast_27 : decode cX4_findLeast 27 = .ok (.iconst 0, 1) := by decide +kernel
theorem dX4_findLeast_28 : decode cX4_findLeast 28 = .ok (.istore_n 2, 1) := by decide +kernel
theorem dX4_findLeast_29 : decode cX4_findLeast 29 = .ok (.iload_n 2, 1) := by decide +kernel
theorem dX4_findLeast_30 : decode cX4_findLeast 30 = .ok (.getstatic 45, 3) := by decide +kernel
theorem dX4_findLeast_33 : decode cX4_findLeast 33 = .ok (.arraylength, 1) := by decide +kernel
theorem dX4_findLeast_34 : decode cX4_findLeast 34 = .ok (.if_icmp .ge 56, 3) := by decide +kernel
theorem dX4_findLeast_37 : decode cX4_findLeast 37 = .ok (.aload_n 0, 1) := by decide +kernel
theorem dX4_findLeast_38 : decode cX4_findLeast 38 = .ok (.getfield 42, 3) := by decide +kernel
theorem dX4_findLeast_41 : decode cX4_findLeast 41 = .ok (.ifCond .le 49, 3) := by decide +kernel
theorem dX4_findLeast_44 : decode cX4_findLeast 44 = .ok (.aload_n 0, 1) := by decide +kernel
theorem dX4_findLeast_45 : decode cX4_findLeast 45 = .ok (.getstatic 45, 3) := by decide +kernel
theorem dX4_findLeast_48 : decode cX4_findLeast 48 = .ok (.iload_n 2, 1) := by decide +kernel
theorem dX4_findLeast_49 : decode cX4_findLeast 49 = .ok (.iaload, 1) := by decide +kernel
theorem dX4_findLeast_50 : decode cX4_findLeast 50 = .ok (.invokevirtual 48, 3) := by decide +kernel
theorem dX4_findLeast_53 : decode cX4_findLeast 53 = .ok (.aload_n 0, 1) := by decide +kernel
theorem dX4_findLeast_54 : decode cX4_findLeast 54 = .ok (.aload_n 0, 1) := by decide +kernel
theorem dX4_findLeast_55 : decode cX4_findLeast 55 = .ok (.getfield 42, 3) := by decide +kernel
theorem dX4_findLeast_58 : decode cX4_findLeast 58 = .ok (.invokevirtual 52, 3) := by decide +kernel
theorem dX4_findLeast_61 : decode cX4_findLeast 61 = .ok (.istore_n 3, 1) := by decide +kernel
theorem dX4_findLeast_62 : decode cX4_findLeast 62 = .ok (.iload_n 3, 1) := by decide +kernel
theorem dX4_findLeast_63 : decode cX4_findLeast 63 = .ok (.aload_n 0, 1) := by decide +kernel
theorem dX4_findLeast_64 : decode cX4_findLeast 64 = .ok (.getfield 42, 3) := by decide +kernel
theorem dX4_findLeast_67 : decode cX4_findLeast 67 = .ok (.if_icmp .ge 17, 3) := by decide +kernel
theorem dX4_findLeast_70 : decode cX4_findLeast 70 = .ok (.aload_n 0, 1) := by decide +kernel
theorem dX4_findLeast_71 : decode cX4_findLeast 71 = .ok (.iload_n 3, 1) := by decide +kernel
theorem dX4_findLeast_72 : decode cX4_findLeast 72 = .ok (.putfield 42, 3) := by decide +kernel
theorem dX4_findLeast_75 : decode cX4_findLeast 75 = .ok (.aload_n 0, 1) := by decide +kernel
theorem dX4_findLeast_76 : decode cX4_findLeast 76 = .ok (.getstatic 45, 3) := by decide +kernel
theorem dX4_findLeast_79 : decode cX4_findLeast 79 = .ok (.iload_n 2, 1) := by decide +kernel
theorem dX4_findLeast_80 : decode cX4_findLeast 80 = .ok (.iaload, 1) := by decide +kernel
theorem dX4_findLeast_81 : decode cX4_findLeast 81 = .ok (.putfield 56, 3) := by decide +kernel
theorem dX4_findLeast_84 : decode cX4_findLeast 84 = .ok (.iinc 2 1, 3) := by decide +kernel
theorem dX4_findLeast_87 : decode cX4_findLeast 87 = .ok (.goto (-58), 3) := by decide +kernel
theorem dX4_findLeast_90 : decode cX4_findLeast 90 = .ok (.return_, 1) := by decide +kernel
theorem dX4_carrySteps_0 : decode cX4_carrySteps 0 = .ok (.iconst 0, 1) := by decide +kernel
theorem dX4_carrySteps_1 : decode cX4_carrySteps 1 = .ok (.istore_n 2, 1) := by decide +kernel
theorem dX4_carrySteps_2 : decode cX4_carrySteps 2 = .ok (.iload_n 2, 1) := by decide +kernel
theorem dX4_carrySteps_3 : decode cX4_carrySteps 3 = .ok (.aload_n 0, 1) := by decide +kernel
theorem dX4_carrySteps_4 : decode cX4_carrySteps 4 = .ok (.getfield 12, 3) := by decide +kernel
theorem dX4_carrySteps_7 : decode cX4_carrySteps 7 = .ok (.getfield 59, 3) := by decide +kernel
theorem dX4_carrySteps_10 : decode cX4_carrySteps 10 = .ok (.if_icmp .ge 48, 3) := by decide +kernel
theorem dX4_carrySteps_13 : decode cX4_carrySteps 13 = .ok (.aload_n 0, 1) := by decide +kernel
theorem dX4_carrySteps_14 : decode cX4_carrySteps 14 = .ok (.getfield 12, 3) := by decide +kernel
theorem dX4_carrySteps_17 : decode cX4_carrySteps 17 = .ok (.getfield 62, 3) := by decide +kernel
theorem dX4_carrySteps_20 : decode cX4_carrySteps 20 = .ok (.iload_n 2, 1) := by decide +kernel
theorem dX4_carrySteps_21 : decode cX4_carrySteps 21 = .ok (.iaload, 1) := by decide +kernel
theorem dX4_carrySteps_22 : decode cX4_carrySteps 22 = .ok (.istore_n 3, 1) := by decide +kernel
theorem dX4_carrySteps_23 : decode cX4_carrySteps 23 = .ok (.aload_n 0, 1) := by decide +kernel
theorem dX4_carrySteps_24 : decode cX4_carrySteps 24 = .ok (.getfield 21, 3) := by decide +kernel
theorem dX4_carrySteps_27 : decode cX4_carrySteps 27 = .ok (.iload_n 2, 1) := by decide +kernel
theorem dX4_carrySteps_28 : decode cX4_carrySteps 28 = .ok (.iload_n 3, 1) := by decide +kernel
theorem dX4_carrySteps_29 : decode cX4_carrySteps 29 = .ok (.invokestatic 65, 3) := by decide +kernel
theorem dX4_carrySteps_32 : decode cX4_carrySteps 32 = .ok (.iload_n 1, 1) := by decide +kernel
theorem dX4_carrySteps_33 : decode cX4_carrySteps 33 = .ok (.iload_n 3, 1) := by decide +kernel
theorem dX4_carrySteps_34 : decode cX4_carrySteps 34 = .ok (.invokestatic 68, 3) := by decide +kernel
theorem dX4_carrySteps_37 : decode cX4_carrySteps 37 = .ok (.invokestatic 71, 3) := by decide +kernel
theorem dX4_carrySteps_40 : decode cX4_carrySteps 40 = .ok (.iload_n 1, 1) := by decide +kernel
theorem dX4_carrySteps_41 : decode cX4_carrySteps 41 = .ok (.iload_n 3, 1) := by decide +kernel
theorem dX4_carrySteps_42 : decode cX4_carrySteps 42 = .ok (.invokestatic 75, 3) := by decide +kernel
theorem dX4_carrySteps_45 : decode cX4_carrySteps 45 = .ok (.invokestatic 71, 3) := by decide +kernel
theorem dX4_carrySteps_48 : decode cX4_carrySteps 48 = .ok (.invokestatic 78, 3) := by decide +kernel
theorem dX4_carrySteps_51 : decode cX4_carrySteps 51 = .ok (.iastore, 1) := by decide +kernel
theorem dX4_carrySteps_52 : decode cX4_carrySteps 52 = .ok (.iinc 2 1, 3) := by decide +kernel
theorem dX4_carrySteps_55 : decode cX4_carrySteps 55 = .ok (.goto (-53), 3) := by decide +kernel
theorem dX4_carrySteps_58 : decode cX4_carrySteps 58 = .ok (.return_, 1) := by decide +kernel
theorem dX4_fillRests_0 : decode cX4_fillRests 0 = .ok (.aload_n 0, 1) := by decide +kernel
theorem dX4_fillRests_1 : decode cX4_fillRests 1 = .ok (.getfield 12, 3) := by decide +kernel
theorem dX4_fillRests_4 : decode cX4_fillRests 4 = .ok (.getfield 59, 3) := by decide +kernel
theorem dX4_fillRests_7 : decode cX4_fillRests 7 = .ok (.istore_n 2, 1) := by decide +kernel
theorem dX4_fillRests_8 : decode cX4_fillRests 8 = .ok (.iload_n 2, 1) := by decide +kernel
theorem dX4_fillRests_9 : decode cX4_fillRests 9 = .ok (.ifCond .lt 157, 3) := by decide +kernel
theorem dX4_fillRests_12 : decode cX4_fillRests 12 = .ok (.ldc 41, 2) := by decide +kernel
theorem dX4_fillRests_14 : decode cX4_fillRests 14 = .ok (.istore_n 3, 1) := by decide +kernel
theorem dX4_fillRests_15 : decode cX4_fillRests 15 = .ok (.aload_n 0, 1) := by decide +kernel
theorem dX4_fillRests_16 : decode cX4_fillRests 16 = .ok (.getfield 18, 3) := by decide +kernel
theorem dX4_fillRests_19 : decode cX4_fillRests 19 = .ok (.getfield 59, 3) := by decide +kernel
theorem dX4_fillRests_22 : decode cX4_fillRests 22 = .ok (.istore 4, 2) := by decide +kernel
theorem dX4_fillRests_24 : decode cX4_fillRests 24 = .ok (.iload 4, 2) := by decide +kernel
theorem dX4_fillRests_26 : decode cX4_fillRests 26 = .ok (.ifCond .lt 127, 3) := by decide +kernel
theorem dX4_fillRests_29 : decode cX4_fillRests 29 = .ok (.iload_n 2, 1) := by decide +kernel
theorem dX4_fillRests_30 : decode cX4_fillRests 30 = .ok (.bipush 11, 2) := by decide +kernel
theorem dX4_fillRests_32 : decode cX4_fillRests 32 = .ok (.imul, 1) := by decide +kernel
theorem dX4_fillRests_33 : decode cX4_fillRests 33 = .ok (.iload 4, 2) := by decide +kernel
theorem dX4_fillRests_35 : decode cX4_fillRests 35 = .ok (.iadd, 1) := by decide +kernel
theorem dX4_fillRests_36 : decode cX4_fillRests 36 = .ok (.istore 5, 2) := by decide +kernel
theorem dX4_fillRests_38 : decode cX4_fillRests 38 = .ok (.aload_n 0, 1) := by decide +kernel
theorem dX4_fillRests_39 : decode cX4_fillRests 39 = .ok (.iload_n 2, 1) := by decide +kernel
theorem dX4_fillRests_40 : decode cX4_fillRests 40 = .ok (.iload 4, 2) := by decide +kernel
theorem dX4_fillRests_42 : decode cX4_fillRests 42 = .ok (.invokevirtual 82, 3) := by decide +kernel
theorem dX4_fillRests_45 : decode cX4_fillRests 45 = .ok (.istore 6, 2) := by decide +kernel
theorem dX4_fillRests_47 : decode cX4_fillRests 47 = .ok (.iload_n 2, 1) := by decide +kernel
theorem dX4_fillRests_48 : decode cX4_fillRests 48 = .ok (.aload_n 0, 1) := by decide +kernel
theorem dX4_fillRests_49 : decode cX4_fillRests 49 = .ok (.getfield 12, 3) := by decide +kernel
theorem dX4_fillRests_52 : decode cX4_fillRests 52 = .ok (.getfield 59, 3) := by decide +kernel
theorem dX4_fillRests_55 : decode cX4_fillRests 55 = .ok (.if_icmp .ge 76, 3) := by decide +kernel
theorem dX4_fillRests_58 : decode cX4_fillRests 58 = .ok (.iload 4, 2) := by decide +kernel
theorem dX4_fillRests_60 : decode cX4_fillRests 60 = .ok (.aload_n 0, 1) := by decide +kernel
theorem dX4_fillRests_61 : decode cX4_fillRests 61 = .ok (.getfield 18, 3) := by decide +kernel
theorem dX4_fillRests_64 : decode cX4_fillRests 64 = .ok (.getfield 59, 3) := by decide +kernel
theorem dX4_fillRests_67 : decode cX4_fillRests 67 = .ok (.if_icmp .ge 64, 3) := by decide +kernel
theorem dX4_fillRests_70 : decode cX4_fillRests 70 = .ok (.iload 6, 2) := by decide +kernel
theorem dX4_fillRests_72 : decode cX4_fillRests 72 = .ok (.aload_n 0, 1) := by decide +kernel
theorem dX4_fillRests_73 : decode cX4_fillRests 73 = .ok (.iload_n 2, 1) := by decide +kernel
theorem dX4_fillRests_74 : decode cX4_fillRests 74 = .ok (.iload 4, 2) := by decide +kernel
theorem dX4_fillRests_76 : decode cX4_fillRests 76 = .ok (.invokevirtual 85, 3) := by decide +kernel
theorem dX4_fillRests_79 : decode cX4_fillRests 79 = .ok (.aload_n 0, 1) := by decide +kernel
theorem dX4_fillRests_80 : decode cX4_fillRests 80 = .ok (.getfield 25, 3) := by decide +kernel
theorem dX4_fillRests_83 : decode cX4_fillRests 83 = .ok (.iload 5, 2) := by decide +kernel
theorem dX4_fillRests_85 : decode cX4_fillRests 85 = .ok (.bipush 11, 2) := by decide +kernel
theorem dX4_fillRests_87 : decode cX4_fillRests 87 = .ok (.iadd, 1) := by decide +kernel
theorem dX4_fillRests_88 : decode cX4_fillRests 88 = .ok (.iconst 1, 1) := by decide +kernel
theorem dX4_fillRests_89 : decode cX4_fillRests 89 = .ok (.iadd, 1) := by decide +kernel
theorem dX4_fillRests_90 : decode cX4_fillRests 90 = .ok (.iaload, 1) := by decide +kernel
theorem dX4_fillRests_91 : decode cX4_fillRests 91 = .ok (.iadd, 1) := by decide +kernel
theorem dX4_fillRests_92 : decode cX4_fillRests 92 = .ok (.invokestatic 88, 3) := by decide +kernel
theorem dX4_fillRests_95 : decode cX4_fillRests 95 = .ok (.istore 6, 2) := by decide +kernel
theorem dX4_fillRests_97 : decode cX4_fillRests 97 = .ok (.iload 6, 2) := by decide +kernel
theorem dX4_fillRests_99 : decode cX4_fillRests 99 = .ok (.aload_n 0, 1) := by decide +kernel
theorem dX4_fillRests_100 : decode cX4_fillRests 100 = .ok (.getfield 38, 3) := by decide +kernel
theorem dX4_fillRests_103 : decode cX4_fillRests 103 = .ok (.aload_n 0, 1) := by decide +kernel
theorem dX4_fillRests_104 : decode cX4_fillRests 104 = .ok (.getfield 25, 3) := by decide +kernel
theorem dX4_fillRests_107 : decode cX4_fillRests 107 = .ok (.iload 5, 2) := by decide +kernel
theorem dX4_fillRests_109 : decode cX4_fillRests 109 = .ok (.bipush 11, 2) := by decide +kernel
theorem dX4_fillRests_111 : decode cX4_fillRests 111 = .ok (.iadd, 1) := by decide +kernel
theorem dX4_fillRests_112 : decode cX4_fillRests 112 = .ok (.iaload, 1) := by decide +kernel
theorem dX4_fillRests_113 : decode cX4_fillRests 113 = .ok (.aload_n 0, 1) := by decide +kernel
theorem dX4_fillRests_114 : decode cX4_fillRests 114 = .ok (.getfield 25, 3) := by decide +kernel
theorem dX4_fillRests_117 : decode cX4_fillRests 117 = .ok (.iload 5, 2) := by decide +kernel
theorem dX4_fillRests_119 : decode cX4_fillRests 119 = .ok (.iconst 1, 1) := by decide +kernel
theorem dX4_fillRests_120 : decode cX4_fillRests 120 = .ok (.iadd, 1) := by decide +kernel
theorem dX4_fillRests_121 : decode cX4_fillRests 121 = .ok (.iaload, 1) := by decide +kernel
theorem dX4_fillRests_122 : decode cX4_fillRests 122 = .ok (.invokestatic 88, 3) := by decide +kernel
theorem dX4_fillRests_125 : decode cX4_fillRests 125 = .ok (.iadd, 1) := by decide +kernel
theorem dX4_fillRests_126 : decode cX4_fillRests 126 = .ok (.invokestatic 88, 3) := by decide +kernel
theorem dX4_fillRests_129 : decode cX4_fillRests 129 = .ok (.istore 6, 2) := by decide +kernel
theorem dX4_fillRests_131 : decode cX4_fillRests 131 = .ok (.aload_n 0, 1) := by decide +kernel
theorem dX4_fillRests_132 : decode cX4_fillRests 132 = .ok (.getfield 25, 3) := by decide +kernel
theorem dX4_fillRests_135 : decode cX4_fillRests 135 = .ok (.iload 5, 2) := by decide +kernel
theorem dX4_fillRests_137 : decode cX4_fillRests 137 = .ok (.iload 6, 2) := by decide +kernel
theorem dX4_fillRests_139 : decode cX4_fillRests 139 = .ok (.iastore, 1) := by decide +kernel
theorem dX4_fillRests_140 : decode cX4_fillRests 140 = .ok (.iload_n 3, 1) := by decide +kernel
theorem dX4_fillRests_141 : decode cX4_fillRests 141 = .ok (.iload 6, 2) := by decide +kernel
theorem dX4_fillRests_143 : decode cX4_fillRests 143 = .ok (.invokestatic 88, 3) := by decide +kernel
theorem dX4_fillRests_146 : decode cX4_fillRests 146 = .ok (.istore_n 3, 1) := by decide +kernel
theorem dX4_fillRests_147 : decode cX4_fillRests 147 = .ok (.iinc 4 (-1), 3) := by decide +kernel
theorem dX4_fillRests_150 : decode cX4_fillRests 150 = .ok (.goto (-126), 3) := by decide +kernel
theorem dX4_fillRests_153 : decode cX4_fillRests 153 = .ok (.iload_n 3, 1) := by decide +kernel
theorem dX4_fillRests_154 : decode cX4_fillRests 154 = .ok (.iload_n 1, 1) := by decide +kernel
theorem dX4_fillRests_155 : decode cX4_fillRests 155 = .ok (.if_icmp .lt 5, 3) := by decide +kernel
theorem dX4_fillRests_158 : decode cX4_fillRests 158 = .ok (.iload_n 1, 1) := by decide +kernel
theorem dX4_fillRests_159 : decode cX4_fillRests 159 = .ok (.ireturn, 1) := by decide +kernel
theorem dX4_fillRests_160 : decode cX4_fillRests 160 = .ok (.iinc 2 (-1), 3) := by decide +kernel
theorem dX4_fillRests_163 : decode cX4_fillRests 163 = .ok (.goto (-155), 3) := by decide +kernel
theorem dX4_fillRests_166 : decode cX4_fillRests 166 = .ok (.aload_n 0, 1) := by decide +kernel
theorem dX4_fillRests_167 : decode cX4_fillRests 167 = .ok (.getfield 25, 3) := by decide +kernel
theorem dX4_fillRests_170 : decode cX4_fillRests 170 = .ok (.iconst 0, 1) := by decide +kernel
theorem dX4_fillRests_171 : decode cX4_fillRests 171 = .ok (.iaload, 1) := by decide +kernel
theorem dX4_fillRests_172 : decode cX4_fillRests 172 = .ok (.ireturn, 1) := by decide +kernel
theorem dX4_endPrice_0 : decode cX4_endPrice 0 = .ok (.aload_n 0, 1) := by decide +kernel
theorem dX4_endPrice_1 : decode cX4_endPrice 1 = .ok (.getfield 18, 3) := by decide +kernel
theorem dX4_endPrice_4 : decode cX4_endPrice 4 = .ok (.getfield 93, 3) := by decide +kernel
theorem dX4_endPrice_7 : decode cX4_endPrice 7 = .ok (.ifCond .eq 7, 3) := by decide +kernel
theorem dX4_endPrice_10 : decode cX4_endPrice 10 = .ok (.iconst 0, 1) := by decide +kernel
theorem dX4_endPrice_11 : decode cX4_endPrice 11 = .ok (.goto 17, 3) := by decide +kernel
theorem dX4_endPrice_14 : decode cX4_endPrice 14 = .ok (.aload_n 0, 1) := by decide +kernel
theorem dX4_endPrice_15 : decode cX4_endPrice 15 = .ok (.getfield 12, 3) := by decide +kernel
theorem dX4_endPrice_18 : decode cX4_endPrice 18 = .ok (.getfield 59, 3) := by decide +kernel
theorem dX4_endPrice_21 : decode cX4_endPrice 21 = .ok (.iload_n 1, 1) := by decide +kernel
theorem dX4_endPrice_22 : decode cX4_endPrice 22 = .ok (.isub, 1) := by decide +kernel
theorem dX4_endPrice_23 : decode cX4_endPrice 23 = .ok (.aload_n 0, 1) := by decide +kernel
theorem dX4_endPrice_24 : decode cX4_endPrice 24 = .ok (.getfield 38, 3) := by decide +kernel
theorem dX4_endPrice_27 : decode cX4_endPrice 27 = .ok (.imul, 1) := by decide +kernel
theorem dX4_endPrice_28 : decode cX4_endPrice 28 = .ok (.istore_n 3, 1) := by decide +kernel
theorem dX4_endPrice_29 : decode cX4_endPrice 29 = .ok (.aload_n 0, 1) := by decide +kernel
theorem dX4_endPrice_30 : decode cX4_endPrice 30 = .ok (.getfield 12, 3) := by decide +kernel
theorem dX4_endPrice_33 : decode cX4_endPrice 33 = .ok (.getfield 93, 3) := by decide +kernel
theorem dX4_endPrice_36 : decode cX4_endPrice 36 = .ok (.ifCond .eq 7, 3) := by decide +kernel
theorem dX4_endPrice_39 : decode cX4_endPrice 39 = .ok (.iconst 0, 1) := by decide +kernel
theorem dX4_endPrice_40 : decode cX4_endPrice 40 = .ok (.goto 17, 3) := by decide +kernel
theorem dX4_endPrice_43 : decode cX4_endPrice 43 = .ok (.aload_n 0, 1) := by decide +kernel
theorem dX4_endPrice_44 : decode cX4_endPrice 44 = .ok (.getfield 18, 3) := by decide +kernel
theorem dX4_endPrice_47 : decode cX4_endPrice 47 = .ok (.getfield 59, 3) := by decide +kernel
theorem dX4_endPrice_50 : decode cX4_endPrice 50 = .ok (.iload_n 2, 1) := by decide +kernel
theorem dX4_endPrice_51 : decode cX4_endPrice 51 = .ok (.isub, 1) := by decide +kernel
theorem dX4_endPrice_52 : decode cX4_endPrice 52 = .ok (.aload_n 0, 1) := by decide +kernel
theorem dX4_endPrice_53 : decode cX4_endPrice 53 = .ok (.getfield 38, 3) := by decide +kernel
theorem dX4_endPrice_56 : decode cX4_endPrice 56 = .ok (.imul, 1) := by decide +kernel
theorem dX4_endPrice_57 : decode cX4_endPrice 57 = .ok (.istore 4, 2) := by decide +kernel
theorem dX4_endPrice_59 : decode cX4_endPrice 59 = .ok (.iload_n 3, 1) := by decide +kernel
theorem dX4_endPrice_60 : decode cX4_endPrice 60 = .ok (.iload 4, 2) := by decide +kernel
theorem dX4_endPrice_62 : decode cX4_endPrice 62 = .ok (.iadd, 1) := by decide +kernel
theorem dX4_endPrice_63 : decode cX4_endPrice 63 = .ok (.ireturn, 1) := by decide +kernel
theorem dX4_pairPrice_0 : decode cX4_pairPrice 0 = .ok (.aload_n 0, 1) := by decide +kernel
theorem dX4_pairPrice_1 : decode cX4_pairPrice 1 = .ok (.getfield 21, 3) := by decide +kernel
theorem dX4_pairPrice_4 : decode cX4_pairPrice 4 = .ok (.iload_n 1, 1) := by decide +kernel
theorem dX4_pairPrice_5 : decode cX4_pairPrice 5 = .ok (.iaload, 1) := by decide +kernel
theorem dX4_pairPrice_6 : decode cX4_pairPrice 6 = .ok (.aload_n 0, 1) := by decide +kernel
theorem dX4_pairPrice_7 : decode cX4_pairPrice 7 = .ok (.getfield 18, 3) := by decide +kernel
theorem dX4_pairPrice_10 : decode cX4_pairPrice 10 = .ok (.getfield 62, 3) := by decide +kernel
theorem dX4_pairPrice_13 : decode cX4_pairPrice 13 = .ok (.iload_n 2, 1) := by decide +kernel
theorem dX4_pairPrice_14 : decode cX4_pairPrice 14 = .ok (.iaload, 1) := by decide +kernel
theorem dX4_pairPrice_15 : decode cX4_pairPrice 15 = .ok (.ixor, 1) := by decide +kernel
theorem dX4_pairPrice_16 : decode cX4_pairPrice 16 = .ok (.istore_n 3, 1) := by decide +kernel
theorem dX4_pairPrice_17 : decode cX4_pairPrice 17 = .ok (.iload_n 3, 1) := by decide +kernel
theorem dX4_pairPrice_18 : decode cX4_pairPrice 18 = .ok (.sipush 240, 3) := by decide +kernel
theorem dX4_pairPrice_21 : decode cX4_pairPrice 21 = .ok (.iand, 1) := by decide +kernel
theorem dX4_pairPrice_22 : decode cX4_pairPrice 22 = .ok (.ifCond .eq 10, 3) := by decide +kernel
theorem dX4_pairPrice_25 : decode cX4_pairPrice 25 = .ok (.aload_n 0, 1) := by decide +kernel
theorem dX4_pairPrice_26 : decode cX4_pairPrice 26 = .ok (.getfield 31, 3) := by decide +kernel
theorem dX4_pairPrice_29 : decode cX4_pairPrice 29 = .ok (.goto 4, 3) := by decide +kernel
theorem dX4_pairPrice_32 : decode cX4_pairPrice 32 = .ok (.iconst 0, 1) := by decide +kernel
theorem dX4_pairPrice_33 : decode cX4_pairPrice 33 = .ok (.istore 4, 2) := by decide +kernel
theorem dX4_pairPrice_35 : decode cX4_pairPrice 35 = .ok (.iload_n 3, 1) := by decide +kernel
theorem dX4_pairPrice_36 : decode cX4_pairPrice 36 = .ok (.bipush 12, 2) := by decide +kernel
theorem dX4_pairPrice_38 : decode cX4_pairPrice 38 = .ok (.iand, 1) := by decide +kernel
theorem dX4_pairPrice_39 : decode cX4_pairPrice 39 = .ok (.ifCond .eq 12, 3) := by decide +kernel
theorem dX4_pairPrice_42 : decode cX4_pairPrice 42 = .ok (.iload 4, 2) := by decide +kernel
theorem dX4_pairPrice_44 : decode cX4_pairPrice 44 = .ok (.aload_n 0, 1) := by decide +kernel
theorem dX4_pairPrice_45 : decode cX4_pairPrice 45 = .ok (.getfield 35, 3) := by decide +kernel
theorem dX4_pairPrice_48 : decode cX4_pairPrice 48 = .ok (.iadd, 1) := by decide +kernel
theorem dX4_pairPrice_49 : decode cX4_pairPrice 49 = .ok (.istore 4, 2) := by decide +kernel
theorem dX4_pairPrice_51 : decode cX4_pairPrice 51 = .ok (.iload_n 3, 1) := by decide +kernel
theorem dX4_pairPrice_52 : decode cX4_pairPrice 52 = .ok (.iconst 3, 1) := by decide +kernel
theorem dX4_pairPrice_53 : decode cX4_pairPrice 53 = .ok (.iand, 1) := by decide +kernel
theorem dX4_pairPrice_54 : decode cX4_pairPrice 54 = .ok (.ifCond .eq 13, 3) := by decide +kernel
theorem dX4_pairPrice_57 : decode cX4_pairPrice 57 = .ok (.iload 4, 2) := by decide +kernel
theorem dX4_pairPrice_59 : decode cX4_pairPrice 59 = .ok (.aload_n 0, 1) := by decide +kernel
theorem dX4_pairPrice_60 : decode cX4_pairPrice 60 = .ok (.getfield 35, 3) := by decide +kernel
theorem dX4_pairPrice_63 : decode cX4_pairPrice 63 = .ok (.iadd, 1) := by decide +kernel
theorem dX4_pairPrice_64 : decode cX4_pairPrice 64 = .ok (.goto 5, 3) := by decide +kernel
theorem dX4_pairPrice_67 : decode cX4_pairPrice 67 = .ok (.iload 4, 2) := by decide +kernel
theorem dX4_pairPrice_69 : decode cX4_pairPrice 69 = .ok (.ireturn, 1) := by decide +kernel
theorem dX4_findPairs_0 : decode cX4_findPairs 0 = .ok (.aload_n 0, 1) := by decide +kernel
theorem dX4_findPairs_1 : decode cX4_findPairs 1 = .ok (.aload_n 0, 1) := by decide +kernel
theorem dX4_findPairs_2 : decode cX4_findPairs 2 = .ok (.getfield 56, 3) := by decide +kernel
theorem dX4_findPairs_5 : decode cX4_findPairs 5 = .ok (.invokevirtual 48, 3) := by decide +kernel
theorem dX4_findPairs_8 : decode cX4_findPairs 8 = .ok (.aload_n 0, 1) := by decide +kernel
theorem dX4_findPairs_9 : decode cX4_findPairs 9 = .ok (.ldc 41, 2) := by decide +kernel
theorem dX4_findPairs_11 : decode cX4_findPairs 11 = .ok (.invokevirtual 52, 3) := by decide +kernel
theorem dX4_findPairs_14 : decode cX4_findPairs 14 = .ok (.pop, 1) := by decide +kernel
theorem dX4_findPairs_15 : decode cX4_findPairs 15 = .ok (.aload_n 0, 1) := by decide +kernel
theorem dX4_findPairs_16 : decode cX4_findPairs 16 = .ok (.getfield 28, 3) := by decide +kernel
theorem dX4_findPairs_19 : decode cX4_findPairs 19 = .ok (.iconst (-1), 1) := by decide +kernel
theorem dX4_findPairs_20 : decode cX4_findPairs 20 = .ok (.invokestatic 97, 3) := by decide +kernel
theorem dX4_findPairs_23 : decode cX4_findPairs 23 = .ok (.iconst 0, 1) := by decide +kernel
theorem dX4_findPairs_24 : decode cX4_findPairs 24 = .ok (.istore_n 1, 1) := by decide +kernel
theorem dX4_findPairs_25 : decode cX4_findPairs 25 = .ok (.iconst 0, 1) := by decide +kernel
theorem dX4_findPairs_26 : decode cX4_findPairs 26 = .ok (.istore_n 2, 1) := by decide +kernel
theorem dX4_findPairs_27 : decode cX4_findPairs 27 = .ok (.iconst 0, 1) := by decide +kernel
theorem dX4_findPairs_28 : decode cX4_findPairs 28 = .ok (.istore_n 3, 1) := by decide +kernel
theorem dX4_findPairs_29 : decode cX4_findPairs 29 = .ok (.iconst 0, 1) := by decide +kernel
theorem dX4_findPairs_30 : decode cX4_findPairs 30 = .ok (.istore 4, 2) := by decide +kernel
theorem dX4_findPairs_32 : decode cX4_findPairs 32 = .ok (.aload_n 0, 1) := by decide +kernel
theorem dX4_findPairs_33 : decode cX4_findPairs 33 = .ok (.iconst 0, 1) := by decide +kernel
theorem dX4_findPairs_34 : decode cX4_findPairs 34 = .ok (.iconst 0, 1) := by decide +kernel
theorem dX4_findPairs_35 : decode cX4_findPairs 35 = .ok (.invokevirtual 82, 3) := by decide +kernel
theorem dX4_findPairs_38 : decode cX4_findPairs 38 = .ok (.aload_n 0, 1) := by decide +kernel
theorem dX4_findPairs_39 : decode cX4_findPairs 39 = .ok (.getfield 42, 3) := by decide +kernel
theorem dX4_findPairs_42 : decode cX4_findPairs 42 = .ok (.if_icmp .ne 7, 3) := by decide +kernel
theorem dX4_findPairs_45 : decode cX4_findPairs 45 = .ok (.iconst 1, 1) := by decide +kernel
theorem dX4_findPairs_46 : decode cX4_findPairs 46 = .ok (.goto 4, 3) := by decide +kernel
theorem dX4_findPairs_49 : decode cX4_findPairs 49 = .ok (.iconst 0, 1) := by decide +kernel
theorem dX4_findPairs_50 : decode cX4_findPairs 50 = .ok (.istore 5, 2) := by decide +kernel
theorem dX4_findPairs_52 : decode cX4_findPairs 52 = .ok (.iconst 0, 1) := by decide +kernel
theorem dX4_findPairs_53 : decode cX4_findPairs 53 = .ok (.istore 6, 2) := by decide +kernel
theorem dX4_findPairs_55 : decode cX4_findPairs 55 = .ok (.iload 6, 2) := by decide +kernel
theorem dX4_findPairs_57 : decode cX4_findPairs 57 = .ok (.bipush 20, 2) := by decide +kernel
theorem dX4_findPairs_59 : decode cX4_findPairs 59 = .ok (.if_icmp .ge 168, 3) := by decide +kernel
theorem dX4_findPairs_62 : decode cX4_findPairs 62 = .ok (.iload_n 1, 1) := by decide +kernel
theorem dX4_findPairs_63 : decode cX4_findPairs 63 = .ok (.aload_n 0, 1) := by decide +kernel
theorem dX4_findPairs_64 : decode cX4_findPairs 64 = .ok (.getfield 12, 3) := by decide +kernel
theorem dX4_findPairs_67 : decode cX4_findPairs 67 = .ok (.getfield 59, 3) := by decide +kernel
theorem dX4_findPairs_70 : decode cX4_findPairs 70 = .ok (.if_icmp .ge 157, 3) := by decide +kernel
theorem dX4_findPairs_73 : decode cX4_findPairs 73 = .ok (.iload_n 2, 1) := by decide +kernel
theorem dX4_findPairs_74 : decode cX4_findPairs 74 = .ok (.aload_n 0, 1) := by decide +kernel
theorem dX4_findPairs_75 : decode cX4_findPairs 75 = .ok (.getfield 18, 3) := by decide +kernel
theorem dX4_findPairs_78 : decode cX4_findPairs 78 = .ok (.getfield 59, 3) := by decide +kernel
theorem dX4_findPairs_81 : decode cX4_findPairs 81 = .ok (.if_icmp .ge 146, 3) := by decide +kernel
theorem dX4_findPairs_84 : decode cX4_findPairs 84 = .ok (.iload_n 3, 1) := by decide +kernel
theorem dX4_findPairs_85 : decode cX4_findPairs 85 = .ok (.iload 4, 2) := by decide +kernel
theorem dX4_findPairs_87 : decode cX4_findPairs 87 = .ok (.aload_n 0, 1) := by decide +kernel
theorem dX4_findPairs_88 : decode cX4_findPairs 88 = .ok (.getfield 38, 3) := by decide +kernel
theorem dX4_findPairs_91 : decode cX4_findPairs 91 = .ok (.imul, 1) := by decide +kernel
theorem dX4_findPairs_92 : decode cX4_findPairs 92 = .ok (.iadd, 1) := by decide +kernel
theorem dX4_findPairs_93 : decode cX4_findPairs 93 = .ok (.istore 7, 2) := by decide +kernel
theorem dX4_findPairs_95 : decode cX4_findPairs 95 = .ok (.iload_n 1, 1) := by decide +kernel
theorem dX4_findPairs_96 : decode cX4_findPairs 96 = .ok (.iconst 1, 1) := by decide +kernel
theorem dX4_findPairs_97 : decode cX4_findPairs 97 = .ok (.iadd, 1) := by decide +kernel
theorem dX4_findPairs_98 : decode cX4_findPairs 98 = .ok (.bipush 11, 2) := by decide +kernel
theorem dX4_findPairs_100 : decode cX4_findPairs 100 = .ok (.imul, 1) := by decide +kernel
theorem dX4_findPairs_101 : decode cX4_findPairs 101 = .ok (.iload_n 2, 1) := by decide +kernel
theorem dX4_findPairs_102 : decode cX4_findPairs 102 = .ok (.iadd, 1) := by decide +kernel
theorem dX4_findPairs_103 : decode cX4_findPairs 103 = .ok (.istore 8, 2) := by decide +kernel
theorem dX4_findPairs_105 : decode cX4_findPairs 105 = .ok (.iload 7, 2) := by decide +kernel
theorem dX4_findPairs_107 : decode cX4_findPairs 107 = .ok (.aload_n 0, 1) := by decide +kernel
theorem dX4_findPairs_108 : decode cX4_findPairs 108 = .ok (.iload_n 1, 1) := by decide +kernel
theorem dX4_findPairs_109 : decode cX4_findPairs 109 = .ok (.iload_n 2, 1) := by decide +kernel
theorem dX4_findPairs_110 : decode cX4_findPairs 110 = .ok (.invokevirtual 85, 3) := by decide +kernel
theorem dX4_findPairs_113 : decode cX4_findPairs 113 = .ok (.iadd, 1) := by decide +kernel
theorem dX4_findPairs_114 : decode cX4_findPairs 114 = .ok (.aload_n 0, 1) := by decide +kernel
theorem dX4_findPairs_115 : decode cX4_findPairs 115 = .ok (.getfield 25, 3) := by decide +kernel
theorem dX4_findPairs_118 : decode cX4_findPairs 118 = .ok (.iload 8, 2) := by decide +kernel
theorem dX4_findPairs_120 : decode cX4_findPairs 120 = .ok (.iconst 1, 1) := by decide +kernel
theorem dX4_findPairs_121 : decode cX4_findPairs 121 = .ok (.iadd, 1) := by decide +kernel
theorem dX4_findPairs_122 : decode cX4_findPairs 122 = .ok (.iaload, 1) := by decide +kernel
theorem dX4_findPairs_123 : decode cX4_findPairs 123 = .ok (.iadd, 1) := by decide +kernel
theorem dX4_findPairs_124 : decode cX4_findPairs 124 = .ok (.aload_n 0, 1) := by decide +kernel
theorem dX4_findPairs_125 : decode cX4_findPairs 125 = .ok (.getfield 42, 3) := by decide +kernel
theorem dX4_findPairs_128 : decode cX4_findPairs 128 = .ok (.if_icmp .ne 54, 3) := by decide +kernel
theorem dX4_findPairs_131 : decode cX4_findPairs 131 = .ok (.iload 7, 2) := by decide +kernel
theorem dX4_findPairs_133 : decode cX4_findPairs 133 = .ok (.aload_n 0, 1) := by decide +kernel
theorem dX4_findPairs_134 : decode cX4_findPairs 134 = .ok (.iload_n 1, 1) := by decide +kernel
theorem dX4_findPairs_135 : decode cX4_findPairs 135 = .ok (.iload_n 2, 1) := by decide +kernel
theorem dX4_findPairs_136 : decode cX4_findPairs 136 = .ok (.invokevirtual 85, 3) := by decide +kernel
theorem dX4_findPairs_139 : decode cX4_findPairs 139 = .ok (.iadd, 1) := by decide +kernel
theorem dX4_findPairs_140 : decode cX4_findPairs 140 = .ok (.istore_n 3, 1) := by decide +kernel
theorem dX4_findPairs_141 : decode cX4_findPairs 141 = .ok (.aload_n 0, 1) := by decide +kernel
theorem dX4_findPairs_142 : decode cX4_findPairs 142 = .ok (.getfield 28, 3) := by decide +kernel
theorem dX4_findPairs_145 : decode cX4_findPairs 145 = .ok (.iload_n 1, 1) := by decide +kernel
theorem dX4_findPairs_146 : decode cX4_findPairs 146 = .ok (.iload_n 2, 1) := by decide +kernel
theorem dX4_findPairs_147 : decode cX4_findPairs 147 = .ok (.iastore, 1) := by decide +kernel
theorem dX4_findPairs_148 : decode cX4_findPairs 148 = .ok (.iinc 1 1, 3) := by decide +kernel
theorem dX4_findPairs_151 : decode cX4_findPairs 151 = .ok (.iinc 2 1, 3) := by decide +kernel
theorem dX4_findPairs_154 : decode cX4_findPairs 154 = .ok (.iconst 0, 1) := by decide +kernel
theorem dX4_findPairs_155 : decode cX4_findPairs 155 = .ok (.istore 4, 2) := by decide +kernel
theorem dX4_findPairs_157 : decode cX4_findPairs 157 = .ok (.iload_n 3, 1) := by decide +kernel
theorem dX4_findPairs_158 : decode cX4_findPairs 158 = .ok (.aload_n 0, 1) := by decide +kernel
theorem dX4_findPairs_159 : decode cX4_findPairs 159 = .ok (.iload_n 1, 1) := by decide +kernel
theorem dX4_findPairs_160 : decode cX4_findPairs 160 = .ok (.iload_n 2, 1) := by decide +kernel
theorem dX4_findPairs_161 : decode cX4_findPairs 161 = .ok (.invokevirtual 82, 3) := by decide +kernel
theorem dX4_findPairs_164 : decode cX4_findPairs 164 = .ok (.iadd, 1) := by decide +kernel
theorem dX4_findPairs_165 : decode cX4_findPairs 165 = .ok (.aload_n 0, 1) := by decide +kernel
theorem dX4_findPairs_166 : decode cX4_findPairs 166 = .ok (.getfield 42, 3) := by decide +kernel
theorem dX4_findPairs_169 : decode cX4_findPairs 169 = .ok (.if_icmp .ne 7, 3) := by decide +kernel
theorem dX4_findPairs_172 : decode cX4_findPairs 172 = .ok (.iconst 1, 1) := by decide +kernel
theorem dX4_findPairs_173 : decode cX4_findPairs 173 = .ok (.goto 4, 3) := by decide +kernel
theorem dX4_findPairs_176 : decode cX4_findPairs 176 = .ok (.iconst 0, 1) := by decide +kernel
theorem dX4_findPairs_177 : decode cX4_findPairs 177 = .ok (.istore 5, 2) := by decide +kernel
theorem dX4_findPairs_179 : decode cX4_findPairs 179 = .ok (.goto 42, 3) := by decide +kernel
theorem dX4_findPairs_182 : decode cX4_findPairs 182 = .ok (.iload 5, 2) := by decide +kernel
theorem dX4_findPairs_184 : decode cX4_findPairs 184 = .ok (.ifCond .ne 25, 3) := by decide +kernel
theorem dX4_findPairs_187 : decode cX4_findPairs 187 = .ok (.iload 7, 2) := by decide +kernel
theorem dX4_findPairs_189 : decode cX4_findPairs 189 = .ok (.aload_n 0, 1) := by decide +kernel
theorem dX4_findPairs_190 : decode cX4_findPairs 190 = .ok (.getfield 38, 3) := by decide +kernel
theorem dX4_findPairs_193 : decode cX4_findPairs 193 = .ok (.iadd, 1) := by decide +kernel
theorem dX4_findPairs_194 : decode cX4_findPairs 194 = .ok (.aload_n 0, 1) := by decide +kernel
theorem dX4_findPairs_195 : decode cX4_findPairs 195 = .ok (.getfield 25, 3) := by decide +kernel
theorem dX4_findPairs_198 : decode cX4_findPairs 198 = .ok (.iload 8, 2) := by decide +kernel
theorem dX4_findPairs_200 : decode cX4_findPairs 200 = .ok (.iaload, 1) := by decide +kernel
theorem dX4_findPairs_201 : decode cX4_findPairs 201 = .ok (.iadd, 1) := by decide +kernel
theorem dX4_findPairs_202 : decode cX4_findPairs 202 = .ok (.aload_n 0, 1) := by decide +kernel
theorem dX4_findPairs_203 : decode cX4_findPairs 203 = .ok (.getfield 42, 3) := by decide +kernel
theorem dX4_findPairs_206 : decode cX4_findPairs 206 = .ok (.if_icmp .ne 9, 3) := by decide +kernel
theorem dX4_findPairs_209 : decode cX4_findPairs 209 = .ok (.iinc 1 1, 3) := by decide +kernel
theorem dX4_findPairs_212 : decode cX4_findPairs 212 = .ok (.goto 6, 3) := by decide +kernel
theorem dX4_findPairs_215 : decode cX4_findPairs 215 = .ok (.iinc 2 1, 3) := by decide +kernel
theorem dX4_findPairs_218 : decode cX4_findPairs 218 = .ok (.iinc 4 1, 3) := by decide +kernel
theorem dX4_findPairs_221 : decode cX4_findPairs 221 = .ok (.iinc 6 1, 3) := by decide +kernel
theorem dX4_findPairs_224 : decode cX4_findPairs 224 = .ok (.goto (-169), 3) := by decide +kernel
theorem dX4_findPairs_227 : decode cX4_findPairs 227 = .ok (.return_, 1) := by decide +kernel
theorem dX4_howManyPairs_0 : decode cX4_howManyPairs 0 = .ok (.iconst 0, 1) := by decide +kernel
theorem dX4_howManyPairs_1 : decode cX4_howManyPairs 1 = .ok (.istore_n 2, 1) := by decide +kernel
theorem dX4_howManyPairs_2 : decode cX4_howManyPairs 2 = .ok (.iconst 0, 1) := by decide +kernel
theorem dX4_howManyPairs_3 : decode cX4_howManyPairs 3 = .ok (.istore_n 3, 1) := by decide +kernel
theorem dX4_howManyPairs_4 : decode cX4_howManyPairs 4 = .ok (.iload_n 3, 1) := by decide +kernel
theorem dX4_howManyPairs_5 : decode cX4_howManyPairs 5 = .ok (.aload_n 0, 1) := by decide +kernel
theorem dX4_howManyPairs_6 : decode cX4_howManyPairs 6 = .ok (.getfield 12, 3) := by decide +kernel
theorem dX4_howManyPairs_9 : decode cX4_howManyPairs 9 = .ok (.getfield 59, 3) := by decide +kernel
theorem dX4_howManyPairs_12 : decode cX4_howManyPairs 12 = .ok (.if_icmp .ge 57, 3) := by decide +kernel
theorem dX4_howManyPairs_15 : decode cX4_howManyPairs 15 = .ok (.aload_n 0, 1) := by decide +kernel
theorem dX4_howManyPairs_16 : decode cX4_howManyPairs 16 = .ok (.getfield 28, 3) := by decide +kernel
theorem dX4_howManyPairs_19 : decode cX4_howManyPairs 19 = .ok (.iload_n 3, 1) := by decide +kernel
theorem dX4_howManyPairs_20 : decode cX4_howManyPairs 20 = .ok (.iaload, 1) := by decide +kernel
theorem dX4_howManyPairs_21 : decode cX4_howManyPairs 21 = .ok (.istore 4, 2) := by decide +kernel
theorem dX4_howManyPairs_23 : decode cX4_howManyPairs 23 = .ok (.iload 4, 2) := by decide +kernel
theorem dX4_howManyPairs_25 : decode cX4_howManyPairs 25 = .ok (.ifCond .lt 38, 3) := by decide +kernel
theorem dX4_howManyPairs_28 : decode cX4_howManyPairs 28 = .ok (.iload_n 1, 1) := by decide +kernel
theorem dX4_howManyPairs_29 : decode cX4_howManyPairs 29 = .ok (.ifCond .eq 31, 3) := by decide +kernel
theorem dX4_howManyPairs_32 : decode cX4_howManyPairs 32 = .ok (.aload_n 0, 1) := by decide +kernel
theorem dX4_howManyPairs_33 : decode cX4_howManyPairs 33 = .ok (.getfield 12, 3) := by decide +kernel
theorem dX4_howManyPairs_36 : decode cX4_howManyPairs 36 = .ok (.getfield 62, 3) := by decide +kernel
theorem dX4_howManyPairs_39 : decode cX4_howManyPairs 39 = .ok (.iload_n 3, 1) := by decide +kernel
theorem dX4_howManyPairs_40 : decode cX4_howManyPairs 40 = .ok (.iaload, 1) := by decide +kernel
theorem dX4_howManyPairs_41 : decode cX4_howManyPairs 41 = .ok (.invokestatic 65, 3) := by decide +kernel
theorem dX4_howManyPairs_44 : decode cX4_howManyPairs 44 = .ok (.aload_n 0, 1) := by decide +kernel
theorem dX4_howManyPairs_45 : decode cX4_howManyPairs 45 = .ok (.getfield 18, 3) := by decide +kernel
theorem dX4_howManyPairs_48 : decode cX4_howManyPairs 48 = .ok (.getfield 62, 3) := by decide +kernel
theorem dX4_howManyPairs_51 : decode cX4_howManyPairs 51 = .ok (.iload 4, 2) := by decide +kernel
theorem dX4_howManyPairs_53 : decode cX4_howManyPairs 53 = .ok (.iaload, 1) := by decide +kernel
theorem dX4_howManyPairs_54 : decode cX4_howManyPairs 54 = .ok (.invokestatic 65, 3) := by decide +kernel
theorem dX4_howManyPairs_57 : decode cX4_howManyPairs 57 = .ok (.if_icmp .ne 6, 3) := by decide +kernel
theorem dX4_howManyPairs_60 : decode cX4_howManyPairs 60 = .ok (.iinc 2 1, 3) := by decide +kernel
theorem dX4_howManyPairs_63 : decode cX4_howManyPairs 63 = .ok (.iinc 3 1, 3) := by decide +kernel
theorem dX4_howManyPairs_66 : decode cX4_howManyPairs 66 = .ok (.goto (-62), 3) := by decide +kernel
theorem dX4_howManyPairs_69 : decode cX4_howManyPairs 69 = .ok (.iload_n 2, 1) := by decide +kernel
theorem dX4_howManyPairs_70 : decode cX4_howManyPairs 70 = .ok (.ireturn, 1) := by decide +kernel
theorem dX5_init_0 : decode cX5_init 0 = .ok (.aload_n 0, 1) := by decide +kernel
theorem dX5_init_1 : decode cX5_init 1 = .ok (.invokespecial 3, 3) := by decide +kernel
theorem dX5_init_4 : decode cX5_init 4 = .ok (.aload_n 0, 1) := by decide +kernel
theorem dX5_init_5 : decode cX5_init 5 = .ok (.bipush 10, 2) := by decide +kernel
theorem dX5_init_7 : decode cX5_init 7 = .ok (.newarray .int, 2) := by decide +kernel
theorem dX5_init_9 : decode cX5_init 9 = .ok (.putfield 9, 3) := by decide +kernel
theorem dX5_init_12 : decode cX5_init 12 = .ok (.return_, 1) := by decide +kernel
theorem dX5_takeLaid_0 : decode cX5_takeLaid 0 = .ok (.aload_n 0, 1) := by decide +kernel
theorem dX5_takeLaid_1 : decode cX5_takeLaid 1 = .ok (.aload_n 1, 1) := by decide +kernel
theorem dX5_takeLaid_2 : decode cX5_takeLaid 2 = .ok (.iload_n 2, 1) := by decide +kernel
theorem dX5_takeLaid_3 : decode cX5_takeLaid 3 = .ok (.aload_n 1, 1) := by decide +kernel
theorem dX5_takeLaid_4 : decode cX5_takeLaid 4 = .ok (.iload_n 2, 1) := by decide +kernel
theorem dX5_takeLaid_5 : decode cX5_takeLaid 5 = .ok (.invokevirtual 15, 3) := by decide +kernel
theorem dX5_takeLaid_8 : decode cX5_takeLaid 8 = .ok (.aload_n 1, 1) := by decide +kernel
theorem dX5_takeLaid_9 : decode cX5_takeLaid 9 = .ok (.iload_n 2, 1) := by decide +kernel
theorem dX5_takeLaid_10 : decode cX5_takeLaid 10 = .ok (.invokevirtual 21, 3) := by decide +kernel
theorem dX5_takeLaid_13 : decode cX5_takeLaid 13 = .ok (.invokevirtual 24, 3) := by decide +kernel
theorem dX5_takeLaid_16 : decode cX5_takeLaid 16 = .ok (.aload_n 0, 1) := by decide +kernel
theorem dX5_takeLaid_17 : decode cX5_takeLaid 17 = .ok (.aload_n 1, 1) := by decide +kernel
theorem dX5_takeLaid_18 : decode cX5_takeLaid 18 = .ok (.iload_n 2, 1) := by decide +kernel
theorem dX5_takeLaid_19 : decode cX5_takeLaid 19 = .ok (.invokevirtual 28, 3) := by decide +kernel
theorem dX5_takeLaid_22 : decode cX5_takeLaid 22 = .ok (.putfield 32, 3) := by decide +kernel
theorem dX5_takeLaid_25 : decode cX5_takeLaid 25 = .ok (.return_, 1) := by decide +kernel
theorem dX5_takePart_0 : decode cX5_takePart 0 = .ok (.aload_n 1, 1) := by decide +kernel
theorem dX5_takePart_1 : decode cX5_takePart 1 = .ok (.getfield 35, 3) := by decide +kernel
theorem dX5_takePart_4 : decode cX5_takePart 4 = .ok (.iload_n 2, 1) := by decide +kernel
theorem dX5_takePart_5 : decode cX5_takePart 5 = .ok (.bipush 10, 2) := by decide +kernel
theorem dX5_takePart_7 : decode cX5_takePart 7 = .ok (.imul, 1) := by decide +kernel
theorem dX5_takePart_8 : decode cX5_takePart 8 = .ok (.iload_n 3, 1) := by decide +kernel
theorem dX5_takePart_9 : decode cX5_takePart 9 = .ok (.iadd, 1) := by decide +kernel
theorem dX5_takePart_10 : decode cX5_takePart 10 = .ok (.aload_n 0, 1) := by decide +kernel
theorem dX5_takePart_11 : decode cX5_takePart 11 = .ok (.getfield 9, 3) := by decide +kernel
theorem dX5_takePart_14 : decode cX5_takePart 14 = .ok (.iconst 0, 1) := by decide +kernel
theorem dX5_takePart_15 : decode cX5_takePart 15 = .ok (.iload 4, 2) := by decide +kernel
theorem dX5_takePart_17 : decode cX5_takePart 17 = .ok (.invokestatic 36, 3) := by decide +kernel
theorem dX5_takePart_20 : decode cX5_takePart 20 = .ok (.aload_n 0, 1) := by decide +kernel
theorem dX5_takePart_21 : decode cX5_takePart 21 = .ok (.iload 4, 2) := by decide +kernel
theorem dX5_takePart_23 : decode cX5_takePart 23 = .ok (.putfield 42, 3) := by decide +kernel
theorem dX5_takePart_26 : decode cX5_takePart 26 = .ok (.aload_n 0, 1) := by decide +kernel
theorem dX5_takePart_27 : decode cX5_takePart 27 = .ok (.iconst 0, 1) := by decide +kernel
theorem dX5_takePart_28 : decode cX5_takePart 28 = .ok (.putfield 32, 3) := by decide +kernel
theorem dX5_takePart_31 : decode cX5_takePart 31 = .ok (.return_, 1) := by decide +kernel
theorem dX6_init_0 : decode cX6_init 0 = .ok (.aload_n 0, 1) := by decide +kernel
theorem dX6_init_1 : decode cX6_init 1 = .ok (.invokespecial 3, 3) := by decide +kernel
theorem dX6_init_4 : decode cX6_init 4 = .ok (.aload_n 0, 1) := by decide +kernel
theorem dX6_init_5 : decode cX6_init 5 = .ok (.bipush 30, 2) := by decide +kernel
theorem dX6_init_7 : decode cX6_init 7 = .ok (.newarray .int, 2) := by decide +kernel
theorem dX6_init_9 : decode cX6_init 9 = .ok (.putfield 9, 3) := by decide +kernel
theorem dX6_init_12 : decode cX6_init 12 = .ok (.return_, 1) := by decide +kernel
theorem dX6_makeAnew_0 : decode cX6_makeAnew 0 = .ok (.aload_n 0, 1) := by decide +kernel
theorem dX6_makeAnew_1 : decode cX6_makeAnew 1 = .ok (.iload_n 1, 1) := by decide +kernel
theorem dX6_makeAnew_2 : decode cX6_makeAnew 2 = .ok (.putfield 15, 3) := by decide +kernel
theorem dX6_makeAnew_5 : decode cX6_makeAnew 5 = .ok (.aload_n 0, 1) := by decide +kernel
theorem dX6_makeAnew_6 : decode cX6_makeAnew 6 = .ok (.iload_n 1, 1) := by decide +kernel
theorem dX6_makeAnew_7 : decode cX6_makeAnew 7 = .ok (.ifCond .ne 7, 3) := by decide +kernel
theorem dX6_makeAnew_10 : decode cX6_makeAnew 10 = .ok (.iconst 0, 1) := by decide +kernel
theorem dX6_makeAnew_11 : decode cX6_makeAnew 11 = .ok (.goto 4, 3) := by decide +kernel
theorem dX6_makeAnew_14 : decode cX6_makeAnew 14 = .ok (.iload_n 2, 1) := by decide +kernel
theorem dX6_makeAnew_15 : decode cX6_makeAnew 15 = .ok (.putfield 19, 3) := by decide +kernel
theorem dX6_makeAnew_18 : decode cX6_makeAnew 18 = .ok (.aload_n 0, 1) := by decide +kernel
theorem dX6_makeAnew_19 : decode cX6_makeAnew 19 = .ok (.getfield 9, 3) := by decide +kernel
theorem dX6_makeAnew_22 : decode cX6_makeAnew 22 = .ok (.iconst 0, 1) := by decide +kernel
theorem dX6_makeAnew_23 : decode cX6_makeAnew 23 = .ok (.invokestatic 22, 3) := by decide +kernel
theorem dX6_makeAnew_26 : decode cX6_makeAnew 26 = .ok (.return_, 1) := by decide +kernel
theorem dX6_isMissing_0 : decode cX6_isMissing 0 = .ok (.aload_n 0, 1) := by decide +kernel
theorem dX6_isMissing_1 : decode cX6_isMissing 1 = .ok (.getfield 15, 3) := by decide +kernel
theorem dX6_isMissing_4 : decode cX6_isMissing 4 = .ok (.ifCond .ne 7, 3) := by decide +kernel
theorem dX6_isMissing_7 : decode cX6_isMissing 7 = .ok (.iconst 1, 1) := by decide +kernel
theorem dX6_isMissing_8 : decode cX6_isMissing 8 = .ok (.goto 4, 3) := by decide +kernel
theorem dX6_isMissing_11 : decode cX6_isMissing 11 = .ok (.iconst 0, 1) := by decide +kernel
theorem dX6_isMissing_12 : decode cX6_isMissing 12 = .ok (.ireturn, 1) := by decide +kernel
theorem dX6_write_0 : decode cX6_write 0 = .ok (.aload_n 0, 1) := by decide +kernel
theorem dX6_write_1 : decode cX6_write 1 = .ok (.getfield 9, 3) := by decide +kernel
theorem dX6_write_4 : decode cX6_write 4 = .ok (.iload_n 1, 1) := by decide +kernel
theorem dX6_write_5 : decode cX6_write 5 = .ok (.aload_n 0, 1) := by decide +kernel
theorem dX6_write_6 : decode cX6_write 6 = .ok (.getfield 15, 3) := by decide +kernel
theorem dX6_write_9 : decode cX6_write 9 = .ok (.bipush 8, 2) := by decide +kernel
theorem dX6_write_11 : decode cX6_write 11 = .ok (.if_icmp .ne 11, 3) := by decide +kernel
theorem dX6_write_14 : decode cX6_write 14 = .ok (.iload_n 2, 1) := by decide +kernel
theorem dX6_write_15 : decode cX6_write 15 = .ok (.sipush 255, 3) := by decide +kernel
theorem dX6_write_18 : decode cX6_write 18 = .ok (.iand, 1) := by decide +kernel
theorem dX6_write_19 : decode cX6_write 19 = .ok (.goto 20, 3) := by decide +kernel
theorem dX6_write_22 : decode cX6_write 22 = .ok (.aload_n 0, 1) := by decide +kernel
theorem dX6_write_23 : decode cX6_write 23 = .ok (.getfield 15, 3) := by decide +kernel
theorem dX6_write_26 : decode cX6_write 26 = .ok (.bipush 16, 2) := by decide +kernel
theorem dX6_write_28 : decode cX6_write 28 = .ok (.if_icmp .ne 10, 3) := by decide +kernel
theorem dX6_write_31 : decode cX6_write 31 = .ok (.iload_n 2, 1) := by decide +kernel
theorem dX6_write_32 : decode cX6_write 32 = .ok (.ldc 28, 2) := by decide +kernel
theorem dX6_write_34 : decode cX6_write 34 = .ok (.iand, 1) := by decide +kernel
theorem dX6_write_35 : decode cX6_write 35 = .ok (.goto 4, 3) := by decide +kernel
theorem dX6_write_38 : decode cX6_write 38 = .ok (.iload_n 2, 1) := by decide +kernel
theorem dX6_write_39 : decode cX6_write 39 = .ok (.iastore, 1) := by decide +kernel
theorem dX6_write_40 : decode cX6_write 40 = .ok (.return_, 1) := by decide +kernel
theorem dX6_holds_0 : decode cX6_holds 0 = .ok (.iload_n 1, 1) := by decide +kernel
theorem dX6_holds_1 : decode cX6_holds 1 = .ok (.ifCond .lt 21, 3) := by decide +kernel
theorem dX6_holds_4 : decode cX6_holds 4 = .ok (.iload_n 2, 1) := by decide +kernel
theorem dX6_holds_5 : decode cX6_holds 5 = .ok (.ifCond .lt 17, 3) := by decide +kernel
theorem dX6_holds_8 : decode cX6_holds 8 = .ok (.iload_n 2, 1) := by decide +kernel
theorem dX6_holds_9 : decode cX6_holds 9 = .ok (.aload_n 0, 1) := by decide +kernel
theorem dX6_holds_10 : decode cX6_holds 10 = .ok (.getfield 19, 3) := by decide +kernel
theorem dX6_holds_13 : decode cX6_holds 13 = .ok (.iload_n 1, 1) := by decide +kernel
theorem dX6_holds_14 : decode cX6_holds 14 = .ok (.isub, 1) := by decide +kernel
theorem dX6_holds_15 : decode cX6_holds 15 = .ok (.if_icmp .gt 7, 3) := by decide +kernel
theorem dX6_holds_18 : decode cX6_holds 18 = .ok (.iconst 1, 1) := by decide +kernel
theorem dX6_holds_19 : decode cX6_holds 19 = .ok (.goto 4, 3) := by decide +kernel
theorem dX6_holds_22 : decode cX6_holds 22 = .ok (.iconst 0, 1) := by decide +kernel
theorem dX6_holds_23 : decode cX6_holds 23 = .ok (.ireturn, 1) := by decide +kernel
theorem dX6_howManySteps_0 : decode cX6_howManySteps 0 = .ok (.aload_n 0, 1) := by decide +kernel
theorem dX6_howManySteps_1 : decode cX6_howManySteps 1 = .ok (.getfield 19, 3) := by decide +kernel
theorem dX6_howManySteps_4 : decode cX6_howManySteps 4 = .ok (.iconst 3, 1) := by decide +kernel
theorem dX6_howManySteps_5 : decode cX6_howManySteps 5 = .ok (.idiv, 1) := by decide +kernel
theorem dX6_howManySteps_6 : decode cX6_howManySteps 6 = .ok (.ireturn, 1) := by decide +kernel
theorem dX6_tellsSteps_0 : decode cX6_tellsSteps 0 = .ok (.iconst 0, 1) := by decide +kernel
theorem dX6_tellsSteps_1 : decode cX6_tellsSteps 1 = .ok (.istore_n 1, 1) := by decide +kernel
theorem dX6_tellsSteps_2 : decode cX6_tellsSteps 2 = .ok (.iload_n 1, 1) := by decide +kernel
theorem dX6_tellsSteps_3 : decode cX6_tellsSteps 3 = .ok (.aload_n 0, 1) := by decide +kernel
theorem dX6_tellsSteps_4 : decode cX6_tellsSteps 4 = .ok (.invokevirtual 29, 3) := by decide +kernel
theorem dX6_tellsSteps_7 : decode cX6_tellsSteps 7 = .ok (.if_icmp .ge 45, 3) := by decide +kernel
theorem dX6_tellsSteps_10 : decode cX6_tellsSteps 10 = .ok (.aload_n 0, 1) := by decide +kernel
theorem dX6_tellsSteps_11 : decode cX6_tellsSteps 11 = .ok (.getfield 9, 3) := by decide +kernel
theorem dX6_tellsSteps_14 : decode cX6_tellsSteps 14 = .ok (.iconst 3, 1) := by decide +kernel
theorem dX6_tellsSteps_15 : decode cX6_tellsSteps 15 = .ok (.iload_n 1, 1) := by decide +kernel
theorem dX6_tellsSteps_16 : decode cX6_tellsSteps 16 = .ok (.imul, 1) := by decide +kernel
theorem dX6_tellsSteps_17 : decode cX6_tellsSteps 17 = .ok (.iaload, 1) := by decide +kernel
theorem dX6_tellsSteps_18 : decode cX6_tellsSteps 18 = .ok (.aload_n 0, 1) := by decide +kernel
theorem dX6_tellsSteps_19 : decode cX6_tellsSteps 19 = .ok (.getfield 9, 3) := by decide +kernel
theorem dX6_tellsSteps_22 : decode cX6_tellsSteps 22 = .ok (.iconst 3, 1) := by decide +kernel
theorem dX6_tellsSteps_23 : decode cX6_tellsSteps 23 = .ok (.iload_n 1, 1) := by decide +kernel
theorem dX6_tellsSteps_24 : decode cX6_tellsSteps 24 = .ok (.imul, 1) := by decide +kernel
theorem dX6_tellsSteps_25 : decode cX6_tellsSteps 25 = .ok (.iconst 1, 1) := by decide +kernel
theorem dX6_tellsSteps_26 : decode cX6_tellsSteps 26 = .ok (.iadd, 1) := by decide +kernel
theorem dX6_tellsSteps_27 : decode cX6_tellsSteps 27 = .ok (.iaload, 1) := by decide +kernel
theorem dX6_tellsSteps_28 : decode cX6_tellsSteps 28 = .ok (.aload_n 0, 1) := by decide +kernel
theorem dX6_tellsSteps_29 : decode cX6_tellsSteps 29 = .ok (.getfield 9, 3) := by decide +kernel
theorem dX6_tellsSteps_32 : decode cX6_tellsSteps 32 = .ok (.iconst 3, 1) := by decide +kernel
theorem dX6_tellsSteps_33 : decode cX6_tellsSteps 33 = .ok (.iload_n 1, 1) := by decide +kernel
theorem dX6_tellsSteps_34 : decode cX6_tellsSteps 34 = .ok (.imul, 1) := by decide +kernel
theorem dX6_tellsSteps_35 : decode cX6_tellsSteps 35 = .ok (.iconst 2, 1) := by decide +kernel
theorem dX6_tellsSteps_36 : decode cX6_tellsSteps 36 = .ok (.iadd, 1) := by decide +kernel
theorem dX6_tellsSteps_37 : decode cX6_tellsSteps 37 = .ok (.iaload, 1) := by decide +kernel
theorem dX6_tellsSteps_38 : decode cX6_tellsSteps 38 = .ok (.invokestatic 33, 3) := by decide +kernel
theorem dX6_tellsSteps_41 : decode cX6_tellsSteps 41 = .ok (.ifCond .ne 5, 3) := by decide +kernel
theorem dX6_tellsSteps_44 : decode cX6_tellsSteps 44 = .ok (.iconst 0, 1) := by decide +kernel
theorem dX6_tellsSteps_45 : decode cX6_tellsSteps 45 = .ok (.ireturn, 1) := by decide +kernel
theorem dX6_tellsSteps_46 : decode cX6_tellsSteps 46 = .ok (.iinc 1 1, 3) := by decide +kernel
theorem dX6_tellsSteps_49 : decode cX6_tellsSteps 49 = .ok (.goto (-47), 3) := by decide +kernel
theorem dX6_tellsSteps_52 : decode cX6_tellsSteps 52 = .ok (.iconst 1, 1) := by decide +kernel
theorem dX6_tellsSteps_53 : decode cX6_tellsSteps 53 = .ok (.ireturn, 1) := by decide +kernel
theorem dX6_stepAt_0 : decode cX6_stepAt 0 = .ok (.aload_n 0, 1) := by decide +kernel
theorem dX6_stepAt_1 : decode cX6_stepAt 1 = .ok (.getfield 9, 3) := by decide +kernel
theorem dX6_stepAt_4 : decode cX6_stepAt 4 = .ok (.iconst 3, 1) := by decide +kernel
theorem dX6_stepAt_5 : decode cX6_stepAt 5 = .ok (.iload_n 1, 1) := by decide +kernel
theorem dX6_stepAt_6 : decode cX6_stepAt 6 = .ok (.imul, 1) := by decide +kernel
theorem dX6_stepAt_7 : decode cX6_stepAt 7 = .ok (.iaload, 1) := by decide +kernel
theorem dX6_stepAt_8 : decode cX6_stepAt 8 = .ok (.aload_n 0, 1) := by decide +kernel
theorem dX6_stepAt_9 : decode cX6_stepAt 9 = .ok (.getfield 9, 3) := by decide +kernel
theorem dX6_stepAt_12 : decode cX6_stepAt 12 = .ok (.iconst 3, 1) := by decide +kernel
theorem dX6_stepAt_13 : decode cX6_stepAt 13 = .ok (.iload_n 1, 1) := by decide +kernel
theorem dX6_stepAt_14 : decode cX6_stepAt 14 = .ok (.imul, 1) := by decide +kernel
theorem dX6_stepAt_15 : decode cX6_stepAt 15 = .ok (.iconst 1, 1) := by decide +kernel
theorem dX6_stepAt_16 : decode cX6_stepAt 16 = .ok (.iadd, 1) := by decide +kernel
theorem dX6_stepAt_17 : decode cX6_stepAt 17 = .ok (.iaload, 1) := by decide +kernel
theorem dX6_stepAt_18 : decode cX6_stepAt 18 = .ok (.aload_n 0, 1) := by decide +kernel
theorem dX6_stepAt_19 : decode cX6_stepAt 19 = .ok (.getfield 9, 3) := by decide +kernel
theorem dX6_stepAt_22 : decode cX6_stepAt 22 = .ok (.iconst 3, 1) := by decide +kernel
theorem dX6_stepAt_23 : decode cX6_stepAt 23 = .ok (.iload_n 1, 1) := by decide +kernel
theorem dX6_stepAt_24 : decode cX6_stepAt 24 = .ok (.imul, 1) := by decide +kernel
theorem dX6_stepAt_25 : decode cX6_stepAt 25 = .ok (.iconst 2, 1) := by decide +kernel
theorem dX6_stepAt_26 : decode cX6_stepAt 26 = .ok (.iadd, 1) := by decide +kernel
theorem dX6_stepAt_27 : decode cX6_stepAt 27 = .ok (.iaload, 1) := by decide +kernel
theorem dX6_stepAt_28 : decode cX6_stepAt 28 = .ok (.invokestatic 37, 3) := by decide +kernel
theorem dX6_stepAt_31 : decode cX6_stepAt 31 = .ok (.ireturn, 1) := by decide +kernel
theorem dX7_init_0 : decode cX7_init 0 = .ok (.aload_n 0, 1) := by decide +kernel
theorem dX7_init_1 : decode cX7_init 1 = .ok (.invokespecial 3, 3) := by decide +kernel
theorem dX7_init_4 : decode cX7_init 4 = .ok (.aload_n 0, 1) := by decide +kernel
theorem dX7_init_5 : decode cX7_init 5 = .ok (.bipush 10, 2) := by decide +kernel
theorem dX7_init_7 : decode cX7_init 7 = .ok (.newarray .int, 2) := by decide +kernel
theorem dX7_init_9 : decode cX7_init 9 = .ok (.putfield 9, 3) := by decide +kernel
theorem dX7_init_12 : decode cX7_init 12 = .ok (.aload_n 0, 1) := by decide +kernel
theorem dX7_init_13 : decode cX7_init 13 = .ok (.bipush 10, 2) := by decide +kernel
theorem dX7_init_15 : decode cX7_init 15 = .ok (.newarray .int, 2) := by decide +kernel
theorem dX7_init_17 : decode cX7_init 17 = .ok (.putfield 15, 3) := by decide +kernel
theorem dX7_init_20 : decode cX7_init 20 = .ok (.return_, 1) := by decide +kernel
theorem dX7_grow_0 : decode cX7_grow 0 = .ok (.iconst 0, 1) := by decide +kernel
theorem dX7_grow_1 : decode cX7_grow 1 = .ok (.istore_n 3, 1) := by decide +kernel
theorem dX7_grow_2 : decode cX7_grow 2 = .ok (.iload_n 3, 1) := by decide +kernel
theorem dX7_grow_3 : decode cX7_grow 3 = .ok (.bipush 10, 2) := by decide +kernel
theorem dX7_grow_5 : decode cX7_grow 5 = .ok (.if_icmp .ge 16, 3) := by decide +kernel
theorem dX7_grow_8 : decode cX7_grow 8 = .ok (.aload_n 0, 1) := by decide +kernel
theorem dX7_grow_9 : decode cX7_grow 9 = .ok (.getfield 9, 3) := by decide +kernel
theorem dX7_grow_12 : decode cX7_grow 12 = .ok (.iload_n 3, 1) := by decide +kernel
theorem dX7_grow_13 : decode cX7_grow 13 = .ok (.iload_n 3, 1) := by decide +kernel
theorem dX7_grow_14 : decode cX7_grow 14 = .ok (.iastore, 1) := by decide +kernel
theorem dX7_grow_15 : decode cX7_grow 15 = .ok (.iinc 3 1, 3) := by decide +kernel
theorem dX7_grow_18 : decode cX7_grow 18 = .ok (.goto (-16), 3) := by decide +kernel
theorem dX7_grow_21 : decode cX7_grow 21 = .ok (.aload_n 0, 1) := by decide +kernel
theorem dX7_grow_22 : decode cX7_grow 22 = .ok (.iconst 0, 1) := by decide +kernel
theorem dX7_grow_23 : decode cX7_grow 23 = .ok (.putfield 18, 3) := by decide +kernel
theorem dX7_grow_26 : decode cX7_grow 26 = .ok (.aload_n 0, 1) := by decide +kernel
theorem dX7_grow_27 : decode cX7_grow 27 = .ok (.iconst 0, 1) := by decide +kernel
theorem dX7_grow_28 : decode cX7_grow 28 = .ok (.putfield 22, 3) := by decide +kernel
theorem dX7_grow_31 : decode cX7_grow 31 = .ok (.iload_n 2, 1) := by decide +kernel
theorem dX7_grow_32 : decode cX7_grow 32 = .ok (.invokestatic 25, 3) := by decide +kernel
theorem dX7_grow_35 : decode cX7_grow 35 = .ok (.iconst 1, 1) := by decide +kernel
theorem dX7_grow_36 : decode cX7_grow 36 = .ok (.isub, 1) := by decide +kernel
theorem dX7_grow_37 : decode cX7_grow 37 = .ok (.istore_n 3, 1) := by decide +kernel
theorem dX7_grow_38 : decode cX7_grow 38 = .ok (.iconst 0, 1) := by decide +kernel
theorem dX7_grow_39 : decode cX7_grow 39 = .ok (.istore 4, 2) := by decide +kernel
theorem dX7_grow_41 : decode cX7_grow 41 = .ok (.iload 4, 2) := by decide +kernel
theorem dX7_grow_43 : decode cX7_grow 43 = .ok (.iload_n 3, 1) := by decide +kernel
theorem dX7_grow_44 : decode cX7_grow 44 = .ok (.if_icmp .ge 22, 3) := by decide +kernel
theorem dX7_grow_47 : decode cX7_grow 47 = .ok (.iload 4, 2) := by decide +kernel
theorem dX7_grow_49 : decode cX7_grow 49 = .ok (.bipush 10, 2) := by decide +kernel
theorem dX7_grow_51 : decode cX7_grow 51 = .ok (.if_icmp .ge 15, 3) := by decide +kernel
theorem dX7_grow_54 : decode cX7_grow 54 = .ok (.aload_n 0, 1) := by decide +kernel
theorem dX7_grow_55 : decode cX7_grow 55 = .ok (.aload_n 1, 1) := by decide +kernel
theorem dX7_grow_56 : decode cX7_grow 56 = .ok (.iload_n 2, 1) := by decide +kernel
theorem dX7_grow_57 : decode cX7_grow 57 = .ok (.invokevirtual 31, 3) := by decide +kernel
theorem dX7_grow_60 : decode cX7_grow 60 = .ok (.iinc 4 1, 3) := by decide +kernel
theorem dX7_grow_63 : decode cX7_grow 63 = .ok (.goto (-22), 3) := by decide +kernel
theorem dX7_grow_66 : decode cX7_grow 66 = .ok (.return_, 1) := by decide +kernel
theorem dX7_addBranch_0 : decode cX7_addBranch 0 = .ok (.iconst (-1), 1) := by decide +kernel
theorem dX7_addBranch_1 : decode cX7_addBranch 1 = .ok (.istore_n 3, 1) := by decide +kernel
theorem dX7_addBranch_2 : decode cX7_addBranch 2 = .ok (.iconst 0, 1) := by decide +kernel
theorem dX7_addBranch_3 : decode cX7_addBranch 3 = .ok (.istore 4, 2) := by decide +kernel
theorem dX7_addBranch_5 : decode cX7_addBranch 5 = .ok (.iload 4, 2) := by decide +kernel
theorem dX7_addBranch_7 : decode cX7_addBranch 7 = .ok (.bipush 10, 2) := by decide +kernel
theorem dX7_addBranch_9 : decode cX7_addBranch 9 = .ok (.if_icmp .ge 102, 3) := by decide +kernel
theorem dX7_addBranch_12 : decode cX7_addBranch 12 = .ok (.iload 4, 2) := by decide +kernel
theorem dX7_addBranch_14 : decode cX7_addBranch 14 = .ok (.iconst 1, 1) := by decide +kernel
theorem dX7_addBranch_15 : decode cX7_addBranch 15 = .ok (.iadd, 1) := by decide +kernel
theorem dX7_addBranch_16 : decode cX7_addBranch 16 = .ok (.istore 5, 2) := by decide +kernel
theorem dX7_addBranch_18 : decode cX7_addBranch 18 = .ok (.iload 5, 2) := by decide +kernel
theorem dX7_addBranch_20 : decode cX7_addBranch 20 = .ok (.bipush 10, 2) := by decide +kernel
theorem dX7_addBranch_22 : decode cX7_addBranch 22 = .ok (.if_icmp .ge 83, 3) := by decide +kernel
theorem dX7_addBranch_25 : decode cX7_addBranch 25 = .ok (.iload_n 2, 1) := by decide +kernel
theorem dX7_addBranch_26 : decode cX7_addBranch 26 = .ok (.iload 4, 2) := by decide +kernel
theorem dX7_addBranch_28 : decode cX7_addBranch 28 = .ok (.invokestatic 35, 3) := by decide +kernel
theorem dX7_addBranch_31 : decode cX7_addBranch 31 = .ok (.ifCond .eq 16, 3) := by decide +kernel
theorem dX7_addBranch_34 : decode cX7_addBranch 34 = .ok (.iload_n 2, 1) := by decide +kernel
theorem dX7_addBranch_35 : decode cX7_addBranch 35 = .ok (.iload 5, 2) := by decide +kernel
theorem dX7_addBranch_37 : decode cX7_addBranch 37 = .ok (.invokestatic 35, 3) := by decide +kernel
theorem dX7_addBranch_40 : decode cX7_addBranch 40 = .ok (.ifCond .eq 7, 3) := by decide +kernel
theorem dX7_addBranch_43 : decode cX7_addBranch 43 = .ok (.iconst 1, 1) := by decide +kernel
theorem dX7_addBranch_44 : decode cX7_addBranch 44 = .ok (.goto 4, 3) := by decide +kernel
theorem dX7_addBranch_47 : decode cX7_addBranch 47 = .ok (.iconst 0, 1) := by decide +kernel
theorem dX7_addBranch_48 : decode cX7_addBranch 48 = .ok (.istore 6, 2) := by decide +kernel
theorem dX7_addBranch_50 : decode cX7_addBranch 50 = .ok (.iload 4, 2) := by decide +kernel
theorem dX7_addBranch_52 : decode cX7_addBranch 52 = .ok (.bipush 10, 2) := by decide +kernel
theorem dX7_addBranch_54 : decode cX7_addBranch 54 = .ok (.imul, 1) := by decide +kernel
theorem dX7_addBranch_55 : decode cX7_addBranch 55 = .ok (.iload 5, 2) := by decide +kernel
theorem dX7_addBranch_57 : decode cX7_addBranch 57 = .ok (.iadd, 1) := by decide +kernel
theorem dX7_addBranch_58 : decode cX7_addBranch 58 = .ok (.istore 7, 2) := by decide +kernel
theorem dX7_addBranch_60 : decode cX7_addBranch 60 = .ok (.iload 6, 2) := by decide +kernel
theorem dX7_addBranch_62 : decode cX7_addBranch 62 = .ok (.ifCond .eq 37, 3) := by decide +kernel
theorem dX7_addBranch_65 : decode cX7_addBranch 65 = .ok (.aload_n 0, 1) := by decide +kernel
theorem dX7_addBranch_66 : decode cX7_addBranch 66 = .ok (.getfield 9, 3) := by decide +kernel
theorem dX7_addBranch_69 : decode cX7_addBranch 69 = .ok (.iload 4, 2) := by decide +kernel
theorem dX7_addBranch_71 : decode cX7_addBranch 71 = .ok (.iaload, 1) := by decide +kernel
theorem dX7_addBranch_72 : decode cX7_addBranch 72 = .ok (.aload_n 0, 1) := by decide +kernel
theorem dX7_addBranch_73 : decode cX7_addBranch 73 = .ok (.getfield 9, 3) := by decide +kernel
theorem dX7_addBranch_76 : decode cX7_addBranch 76 = .ok (.iload 5, 2) := by decide +kernel
theorem dX7_addBranch_78 : decode cX7_addBranch 78 = .ok (.iaload, 1) := by decide +kernel
theorem dX7_addBranch_79 : decode cX7_addBranch 79 = .ok (.if_icmp .eq 20, 3) := by decide +kernel
theorem dX7_addBranch_82 : decode cX7_addBranch 82 = .ok (.iload_n 3, 1) := by decide +kernel
theorem dX7_addBranch_83 : decode cX7_addBranch 83 = .ok (.ifCond .lt 13, 3) := by decide +kernel
theorem dX7_addBranch_86 : decode cX7_addBranch 86 = .ok (.aload_n 1, 1) := by decide +kernel
theorem dX7_addBranch_87 : decode cX7_addBranch 87 = .ok (.iload 7, 2) := by decide +kernel
theorem dX7_addBranch_89 : decode cX7_addBranch 89 = .ok (.iaload, 1) := by decide +kernel
theorem dX7_addBranch_90 : decode cX7_addBranch 90 = .ok (.aload_n 1, 1) := by decide +kernel
theorem dX7_addBranch_91 : decode cX7_addBranch 91 = .ok (.iload_n 3, 1) := by decide +kernel
theorem dX7_addBranch_92 : decode cX7_addBranch 92 = .ok (.iaload, 1) := by decide +kernel
theorem dX7_addBranch_93 : decode cX7_addBranch 93 = .ok (.if_icmp .ge 6, 3) := by decide +kernel
theorem dX7_addBranch_96 : decode cX7_addBranch 96 = .ok (.iload 7, 2) := by decide +kernel
theorem dX7_addBranch_98 : decode cX7_addBranch 98 = .ok (.istore_n 3, 1) := by decide +kernel
theorem dX7_addBranch_99 : decode cX7_addBranch 99 = .ok (.iinc 5 1, 3) := by decide +kernel
theorem dX7_addBranch_102 : decode cX7_addBranch 102 = .ok (.goto (-84), 3) := by decide +kernel
theorem dX7_addBranch_105 : decode cX7_addBranch 105 = .ok (.iinc 4 1, 3) := by decide +kernel
theorem dX7_addBranch_108 : decode cX7_addBranch 108 = .ok (.goto (-103), 3) := by decide +kernel
theorem dX7_addBranch_111 : decode cX7_addBranch 111 = .ok (.iload_n 3, 1) := by decide +kernel
theorem dX7_addBranch_112 : decode cX7_addBranch 112 = .ok (.ifCond .lt 72, 3) := by decide +kernel
theorem dX7_addBranch_115 : decode cX7_addBranch 115 = .ok (.iload_n 3, 1) := by decide +kernel
theorem dX7_addBranch_116 : decode cX7_addBranch 116 = .ok (.bipush 10, 2) := by decide +kernel
theorem dX7_addBranch_118 : decode cX7_addBranch 118 = .ok (.idiv, 1) := by decide +kernel
theorem dX7_addBranch_119 : decode cX7_addBranch 119 = .ok (.istore 4, 2) := by decide +kernel
theorem dX7_addBranch_121 : decode cX7_addBranch 121 = .ok (.iload_n 3, 1) := by decide +kernel
theorem dX7_addBranch_122 : decode cX7_addBranch 122 = .ok (.bipush 10, 2) := by decide +kernel
theorem dX7_addBranch_124 : decode cX7_addBranch 124 = .ok (.irem, 1) := by decide +kernel
theorem dX7_addBranch_125 : decode cX7_addBranch 125 = .ok (.istore 5, 2) := by decide +kernel
theorem dX7_addBranch_127 : decode cX7_addBranch 127 = .ok (.aload_n 0, 1) := by decide +kernel
theorem dX7_addBranch_128 : decode cX7_addBranch 128 = .ok (.getfield 15, 3) := by decide +kernel
theorem dX7_addBranch_131 : decode cX7_addBranch 131 = .ok (.aload_n 0, 1) := by decide +kernel
theorem dX7_addBranch_132 : decode cX7_addBranch 132 = .ok (.getfield 18, 3) := by decide +kernel
theorem dX7_addBranch_135 : decode cX7_addBranch 135 = .ok (.iload 4, 2) := by decide +kernel
theorem dX7_addBranch_137 : decode cX7_addBranch 137 = .ok (.bipush 16, 2) := by decide +kernel
theorem dX7_addBranch_139 : decode cX7_addBranch 139 = .ok (.imul, 1) := by decide +kernel
theorem dX7_addBranch_140 : decode cX7_addBranch 140 = .ok (.iload 5, 2) := by decide +kernel
theorem dX7_addBranch_142 : decode cX7_addBranch 142 = .ok (.iadd, 1) := by decide +kernel
theorem dX7_addBranch_143 : decode cX7_addBranch 143 = .ok (.iastore, 1) := by decide +kernel
theorem dX7_addBranch_144 : decode cX7_addBranch 144 = .ok (.aload_n 0, 1) := by decide +kernel
theorem dX7_addBranch_145 : decode cX7_addBranch 145 = .ok (.dup, 1) := by decide +kernel
theorem dX7_addBranch_146 : decode cX7_addBranch 146 = .ok (.getfield 18, 3) := by decide +kernel
theorem dX7_addBranch_149 : decode cX7_addBranch 149 = .ok (.iconst 1, 1) := by decide +kernel
theorem dX7_addBranch_150 : decode cX7_addBranch 150 = .ok (.iadd, 1) := by decide +kernel
theorem dX7_addBranch_151 : decode cX7_addBranch 151 = .ok (.putfield 18, 3) := by decide +kernel
theorem dX7_addBranch_154 : decode cX7_addBranch 154 = .ok (.aload_n 0, 1) := by decide +kernel
theorem dX7_addBranch_155 : decode cX7_addBranch 155 = .ok (.dup, 1) := by decide +kernel
theorem dX7_addBranch_156 : decode cX7_addBranch 156 = .ok (.getfield 22, 3) := by decide +kernel
theorem dX7_addBranch_159 : decode cX7_addBranch 159 = .ok (.aload_n 1, 1) := by decide +kernel
theorem dX7_addBranch_160 : decode cX7_addBranch 160 = .ok (.iload_n 3, 1) := by decide +kernel
theorem dX7_addBranch_161 : decode cX7_addBranch 161 = .ok (.iaload, 1) := by decide +kernel
theorem dX7_addBranch_162 : decode cX7_addBranch 162 = .ok (.iadd, 1) := by decide +kernel
theorem dX7_addBranch_163 : decode cX7_addBranch 163 = .ok (.putfield 22, 3) := by decide +kernel
theorem dX7_addBranch_166 : decode cX7_addBranch 166 = .ok (.aload_n 0, 1) := by decide +kernel
theorem dX7_addBranch_167 : decode cX7_addBranch 167 = .ok (.aload_n 0, 1) := by decide +kernel
theorem dX7_addBranch_168 : decode cX7_addBranch 168 = .ok (.getfield 9, 3) := by decide +kernel
theorem dX7_addBranch_171 : decode cX7_addBranch 171 = .ok (.iload 4, 2) := by decide +kernel
theorem dX7_addBranch_173 : decode cX7_addBranch 173 = .ok (.iaload, 1) := by decide +kernel
theorem dX7_addBranch_174 : decode cX7_addBranch 174 = .ok (.aload_n 0, 1) := by decide +kernel
theorem dX7_addBranch_175 : decode cX7_addBranch 175 = .ok (.getfield 9, 3) := by decide +kernel
theorem dX7_addBranch_178 : decode cX7_addBranch 178 = .ok (.iload 5, 2) := by decide +kernel
theorem dX7_addBranch_180 : decode cX7_addBranch 180 = .ok (.iaload, 1) := by decide +kernel
theorem dX7_addBranch_181 : decode cX7_addBranch 181 = .ok (.invokevirtual 39, 3) := by decide +kernel
theorem dX7_addBranch_184 : decode cX7_addBranch 184 = .ok (.return_, 1) := by decide +kernel
theorem dX7_joinParts_0 : decode cX7_joinParts 0 = .ok (.iconst 0, 1) := by decide +kernel
theorem dX7_joinParts_1 : decode cX7_joinParts 1 = .ok (.istore_n 3, 1) := by decide +kernel
theorem dX7_joinParts_2 : decode cX7_joinParts 2 = .ok (.iload_n 3, 1) := by decide +kernel
theorem dX7_joinParts_3 : decode cX7_joinParts 3 = .ok (.bipush 10, 2) := by decide +kernel
theorem dX7_joinParts_5 : decode cX7_joinParts 5 = .ok (.if_icmp .ge 26, 3) := by decide +kernel
theorem dX7_joinParts_8 : decode cX7_joinParts 8 = .ok (.aload_n 0, 1) := by decide +kernel
theorem dX7_joinParts_9 : decode cX7_joinParts 9 = .ok (.getfield 9, 3) := by decide +kernel
theorem dX7_joinParts_12 : decode cX7_joinParts 12 = .ok (.iload_n 3, 1) := by decide +kernel
theorem dX7_joinParts_13 : decode cX7_joinParts 13 = .ok (.iaload, 1) := by decide +kernel
theorem dX7_joinParts_14 : decode cX7_joinParts 14 = .ok (.iload_n 2, 1) := by decide +kernel
theorem dX7_joinParts_15 : decode cX7_joinParts 15 = .ok (.if_icmp .ne 10, 3) := by decide +kernel
theorem dX7_joinParts_18 : decode cX7_joinParts 18 = .ok (.aload_n 0, 1) := by decide +kernel
theorem dX7_joinParts_19 : decode cX7_joinParts 19 = .ok (.getfield 9, 3) := by decide +kernel
theorem dX7_joinParts_22 : decode cX7_joinParts 22 = .ok (.iload_n 3, 1) := by decide +kernel
theorem dX7_joinParts_23 : decode cX7_joinParts 23 = .ok (.iload_n 1, 1) := by decide +kernel
theorem dX7_joinParts_24 : decode cX7_joinParts 24 = .ok (.iastore, 1) := by decide +kernel
theorem dX7_joinParts_25 : decode cX7_joinParts 25 = .ok (.iinc 3 1, 3) := by decide +kernel
theorem dX7_joinParts_28 : decode cX7_joinParts 28 = .ok (.goto (-26), 3) := by decide +kernel
theorem dX7_joinParts_31 : decode cX7_joinParts 31 = .ok (.return_, 1) := by decide +kernel
theorem dX8_init_0 : decode cX8_init 0 = .ok (.aload_n 0, 1) := by decide +kernel
theorem dX8_init_1 : decode cX8_init 1 = .ok (.invokespecial 1, 3) := by decide +kernel
theorem dX8_init_4 : decode cX8_init 4 = .ok (.aload_n 0, 1) := by decide +kernel
theorem dX8_init_5 : decode cX8_init 5 = .ok (.new 7, 3) := by decide +kernel
theorem dX8_init_8 : decode cX8_init 8 = .ok (.dup, 1) := by decide +kernel
theorem dX8_init_9 : decode cX8_init 9 = .ok (.invokespecial 9, 3) := by decide +kernel
theorem dX8_init_12 : decode cX8_init 12 = .ok (.putfield 10, 3) := by decide +kernel
theorem dX8_init_15 : decode cX8_init 15 = .ok (.aload_n 0, 1) := by decide +kernel
theorem dX8_init_16 : decode cX8_init 16 = .ok (.new 16, 3) := by decide +kernel
theorem dX8_init_19 : decode cX8_init 19 = .ok (.dup, 1) := by decide +kernel
theorem dX8_init_20 : decode cX8_init 20 = .ok (.invokespecial 18, 3) := by decide +kernel
theorem dX8_init_23 : decode cX8_init 23 = .ok (.putfield 19, 3) := by decide +kernel
theorem dX8_init_26 : decode cX8_init 26 = .ok (.aload_n 0, 1) := by decide +kernel
theorem dX8_init_27 : decode cX8_init 27 = .ok (.new 23, 3) := by decide +kernel
theorem dX8_init_30 : decode cX8_init 30 = .ok (.dup, 1) := by decide +kernel
theorem dX8_init_31 : decode cX8_init 31 = .ok (.invokespecial 25, 3) := by decide +kernel
theorem dX8_init_34 : decode cX8_init 34 = .ok (.putfield 26, 3) := by decide +kernel
theorem dX8_init_37 : decode cX8_init 37 = .ok (.aload_n 0, 1) := by decide +kernel
theorem dX8_init_38 : decode cX8_init 38 = .ok (.new 30, 3) := by decide +kernel
theorem dX8_init_41 : decode cX8_init 41 = .ok (.dup, 1) := by decide +kernel
theorem dX8_init_42 : decode cX8_init 42 = .ok (.invokespecial 32, 3) := by decide +kernel
theorem dX8_init_45 : decode cX8_init 45 = .ok (.putfield 33, 3) := by decide +kernel
theorem dX8_init_48 : decode cX8_init 48 = .ok (.aload_n 0, 1) := by decide +kernel
theorem dX8_init_49 : decode cX8_init 49 = .ok (.new 37, 3) := by decide +kernel
theorem dX8_init_52 : decode cX8_init 52 = .ok (.dup, 1) := by decide +kernel
theorem dX8_init_53 : decode cX8_init 53 = .ok (.invokespecial 39, 3) := by decide +kernel
theorem dX8_init_56 : decode cX8_init 56 = .ok (.putfield 40, 3) := by decide +kernel
theorem dX8_init_59 : decode cX8_init 59 = .ok (.aload_n 0, 1) := by decide +kernel
theorem dX8_init_60 : decode cX8_init 60 = .ok (.iconst 4, 1) := by decide +kernel
theorem dX8_init_61 : decode cX8_init 61 = .ok (.anewarray 44, 3) := by decide +kernel
theorem dX8_init_64 : decode cX8_init 64 = .ok (.putfield 46, 3) := by decide +kernel
theorem dX8_init_67 : decode cX8_init 67 = .ok (.iconst 0, 1) := by decide +kernel
theorem dX8_init_68 : decode cX8_init 68 = .ok (.istore_n 1, 1) := by decide +kernel
theorem dX8_init_69 : decode cX8_init 69 = .ok (.iload_n 1, 1) := by decide +kernel
theorem dX8_init_70 : decode cX8_init 70 = .ok (.iconst 4, 1) := by decide +kernel
theorem dX8_init_71 : decode cX8_init 71 = .ok (.if_icmp .ge 22, 3) := by decide +kernel
theorem dX8_init_74 : decode cX8_init 74 = .ok (.aload_n 0, 1) := by decide +kernel
theorem dX8_init_75 : decode cX8_init 75 = .ok (.getfield 46, 3) := by decide +kernel
theorem dX8_init_78 : decode cX8_init 78 = .ok (.iload_n 1, 1) := by decide +kernel
theorem dX8_init_79 : decode cX8_init 79 = .ok (.new 44, 3) := by decide +kernel
theorem dX8_init_82 : decode cX8_init 82 = .ok (.dup, 1) := by decide +kernel
theorem dX8_init_83 : decode cX8_init 83 = .ok (.invokespecial 50, 3) := by decide +kernel
theorem dX8_init_86 : decode cX8_init 86 = .ok (.aastore, 1) := by decide +kernel
theorem dX8_init_87 : decode cX8_init 87 = .ok (.iinc 1 1, 3) := by decide +kernel
theorem dX8_init_90 : decode cX8_init 90 = .ok (.goto (-21), 3) := by decide +kernel
theorem dX8_init_93 : decode cX8_init 93 = .ok (.aload_n 0, 1) := by decide +kernel
theorem dX8_init_94 : decode cX8_init 94 = .ok (.iconst 0, 1) := by decide +kernel
theorem dX8_init_95 : decode cX8_init 95 = .ok (.putfield 51, 3) := by decide +kernel
theorem dX8_init_98 : decode cX8_init 98 = .ok (.return_, 1) := by decide +kernel
theorem dX8_tale_0 : decode cX8_tale 0 = .ok (.iload_n 1, 1) := by decide +kernel
theorem dX8_tale_1 : decode cX8_tale 1 = .ok (.iconst 4, 1) := by decide +kernel
theorem dX8_tale_2 : decode cX8_tale 2 = .ok (.invokestatic 55, 3) := by decide +kernel
theorem dX8_tale_5 : decode cX8_tale 5 = .ok (.ifCond .eq 22, 3) := by decide +kernel
theorem dX8_tale_8 : decode cX8_tale 8 = .ok (.iload_n 2, 1) := by decide +kernel
theorem dX8_tale_9 : decode cX8_tale 9 = .ok (.bipush 6, 2) := by decide +kernel
theorem dX8_tale_11 : decode cX8_tale 11 = .ok (.invokestatic 55, 3) := by decide +kernel
theorem dX8_tale_14 : decode cX8_tale 14 = .ok (.ifCond .eq 13, 3) := by decide +kernel
theorem dX8_tale_17 : decode cX8_tale 17 = .ok (.iload_n 3, 1) := by decide +kernel
theorem dX8_tale_18 : decode cX8_tale 18 = .ok (.sipush 1000, 3) := by decide +kernel
theorem dX8_tale_21 : decode cX8_tale 21 = .ok (.invokestatic 55, 3) := by decide +kernel
theorem dX8_tale_24 : decode cX8_tale 24 = .ok (.ifCond .ne 10, 3) := by decide +kernel
theorem dX8_tale_27 : decode cX8_tale 27 = .ok (.aload_n 0, 1) := by decide +kernel
theorem dX8_tale_28 : decode cX8_tale 28 = .ok (.ldc 59, 2) := by decide +kernel
theorem dX8_tale_30 : decode cX8_tale 30 = .ok (.invokevirtual 60, 3) := by decide +kernel
theorem dX8_tale_33 : decode cX8_tale 33 = .ok (.ireturn, 1) := by decide +kernel
theorem dX8_tale_34 : decode cX8_tale 34 = .ok (.aload_n 0, 1) := by decide +kernel
theorem dX8_tale_35 : decode cX8_tale 35 = .ok (.getfield 10, 3) := by decide +kernel
theorem dX8_tale_38 : decode cX8_tale 38 = .ok (.getfield 64, 3) := by decide +kernel
theorem dX8_tale_41 : decode cX8_tale 41 = .ok (.bipush 10, 2) := by decide +kernel
theorem dX8_tale_43 : decode cX8_tale 43 = .ok (.if_icmp .lt 10, 3) := by decide +kernel
theorem dX8_tale_46 : decode cX8_tale 46 = .ok (.aload_n 0, 1) := by decide +kernel
theorem dX8_tale_47 : decode cX8_tale 47 = .ok (.ldc 67, 2) := by decide +kernel
theorem dX8_tale_49 : decode cX8_tale 49 = .ok (.invokevirtual 60, 3) := by decide +kernel
theorem dX8_tale_52 : decode cX8_tale 52 = .ok (.ireturn, 1) := by decide +kernel
theorem dX8_tale_53 : decode cX8_tale 53 = .ok (.aload_n 0, 1) := by decide +kernel
theorem dX8_tale_54 : decode cX8_tale 54 = .ok (.getfield 19, 3) := by decide +kernel
theorem dX8_tale_57 : decode cX8_tale 57 = .ok (.aload_n 0, 1) := by decide +kernel
theorem dX8_tale_58 : decode cX8_tale 58 = .ok (.getfield 10, 3) := by decide +kernel
theorem dX8_tale_61 : decode cX8_tale 61 = .ok (.invokevirtual 68, 3) := by decide +kernel
theorem dX8_tale_64 : decode cX8_tale 64 = .ok (.aload_n 0, 1) := by decide +kernel
theorem dX8_tale_65 : decode cX8_tale 65 = .ok (.getfield 10, 3) := by decide +kernel
theorem dX8_tale_68 : decode cX8_tale 68 = .ok (.iload_n 1, 1) := by decide +kernel
theorem dX8_tale_69 : decode cX8_tale 69 = .ok (.iload_n 2, 1) := by decide +kernel
theorem dX8_tale_70 : decode cX8_tale 70 = .ok (.iload_n 3, 1) := by decide +kernel
theorem dX8_tale_71 : decode cX8_tale 71 = .ok (.invokevirtual 72, 3) := by decide +kernel
theorem dX8_tale_74 : decode cX8_tale 74 = .ok (.ireturn, 1) := by decide +kernel
theorem dX8_as_0 : decode cX8_as 0 = .ok (.aload_n 0, 1) := by decide +kernel
theorem dX8_as_1 : decode cX8_as 1 = .ok (.getfield 10, 3) := by decide +kernel
theorem dX8_as_4 : decode cX8_as 4 = .ok (.iload_n 1, 1) := by decide +kernel
theorem dX8_as_5 : decode cX8_as 5 = .ok (.invokevirtual 76, 3) := by decide +kernel
theorem dX8_as_8 : decode cX8_as 8 = .ok (.ifCond .eq 11, 3) := by decide +kernel
theorem dX8_as_11 : decode cX8_as 11 = .ok (.iload_n 2, 1) := by decide +kernel
theorem dX8_as_12 : decode cX8_as 12 = .ok (.iconst 4, 1) := by decide +kernel
theorem dX8_as_13 : decode cX8_as 13 = .ok (.invokestatic 55, 3) := by decide +kernel
theorem dX8_as_16 : decode cX8_as 16 = .ok (.ifCond .ne 10, 3) := by decide +kernel
theorem dX8_as_19 : decode cX8_as 19 = .ok (.aload_n 0, 1) := by decide +kernel
theorem dX8_as_20 : decode cX8_as 20 = .ok (.ldc 59, 2) := by decide +kernel
theorem dX8_as_22 : decode cX8_as 22 = .ok (.invokevirtual 60, 3) := by decide +kernel
theorem dX8_as_25 : decode cX8_as 25 = .ok (.ireturn, 1) := by decide +kernel
theorem dX8_as_26 : decode cX8_as 26 = .ok (.aload_n 0, 1) := by decide +kernel
theorem dX8_as_27 : decode cX8_as 27 = .ok (.getfield 10, 3) := by decide +kernel
theorem dX8_as_30 : decode cX8_as 30 = .ok (.getfield 80, 3) := by decide +kernel
theorem dX8_as_33 : decode cX8_as 33 = .ok (.iload_n 1, 1) := by decide +kernel
theorem dX8_as_34 : decode cX8_as 34 = .ok (.iaload, 1) := by decide +kernel
theorem dX8_as_35 : decode cX8_as 35 = .ok (.iload_n 2, 1) := by decide +kernel
theorem dX8_as_36 : decode cX8_as 36 = .ok (.invokestatic 84, 3) := by decide +kernel
theorem dX8_as_39 : decode cX8_as 39 = .ok (.ifCond .eq 7, 3) := by decide +kernel
theorem dX8_as_42 : decode cX8_as 42 = .ok (.iload_n 1, 1) := by decide +kernel
theorem dX8_as_43 : decode cX8_as 43 = .ok (.goto 9, 3) := by decide +kernel
theorem dX8_as_46 : decode cX8_as 46 = .ok (.aload_n 0, 1) := by decide +kernel
theorem dX8_as_47 : decode cX8_as 47 = .ok (.ldc 87, 2) := by decide +kernel
theorem dX8_as_49 : decode cX8_as 49 = .ok (.invokevirtual 60, 3) := by decide +kernel
theorem dX8_as_52 : decode cX8_as 52 = .ok (.ireturn, 1) := by decide +kernel
theorem dX8_step_0 : decode cX8_step 0 = .ok (.aload_n 0, 1) := by decide +kernel
theorem dX8_step_1 : decode cX8_step 1 = .ok (.getfield 10, 3) := by decide +kernel
theorem dX8_step_4 : decode cX8_step 4 = .ok (.iload_n 1, 1) := by decide +kernel
theorem dX8_step_5 : decode cX8_step 5 = .ok (.invokevirtual 76, 3) := by decide +kernel
theorem dX8_step_8 : decode cX8_step 8 = .ok (.ifCond .eq 13, 3) := by decide +kernel
theorem dX8_step_11 : decode cX8_step 11 = .ok (.iload_n 2, 1) := by decide +kernel
theorem dX8_step_12 : decode cX8_step 12 = .ok (.iload_n 3, 1) := by decide +kernel
theorem dX8_step_13 : decode cX8_step 13 = .ok (.iload 4, 2) := by decide +kernel
theorem dX8_step_15 : decode cX8_step 15 = .ok (.invokestatic 88, 3) := by decide +kernel
theorem dX8_step_18 : decode cX8_step 18 = .ok (.ifCond .ne 10, 3) := by decide +kernel
theorem dX8_step_21 : decode cX8_step 21 = .ok (.aload_n 0, 1) := by decide +kernel
theorem dX8_step_22 : decode cX8_step 22 = .ok (.ldc 59, 2) := by decide +kernel
theorem dX8_step_24 : decode cX8_step 24 = .ok (.invokevirtual 60, 3) := by decide +kernel
theorem dX8_step_27 : decode cX8_step 27 = .ok (.ireturn, 1) := by decide +kernel
theorem dX8_step_28 : decode cX8_step 28 = .ok (.aload_n 0, 1) := by decide +kernel
theorem dX8_step_29 : decode cX8_step 29 = .ok (.getfield 10, 3) := by decide +kernel
theorem dX8_step_32 : decode cX8_step 32 = .ok (.getfield 92, 3) := by decide +kernel
theorem dX8_step_35 : decode cX8_step 35 = .ok (.iload_n 1, 1) := by decide +kernel
theorem dX8_step_36 : decode cX8_step 36 = .ok (.iaload, 1) := by decide +kernel
theorem dX8_step_37 : decode cX8_step 37 = .ok (.bipush 10, 2) := by decide +kernel
theorem dX8_step_39 : decode cX8_step 39 = .ok (.if_icmp .lt 10, 3) := by decide +kernel
theorem dX8_step_42 : decode cX8_step 42 = .ok (.aload_n 0, 1) := by decide +kernel
theorem dX8_step_43 : decode cX8_step 43 = .ok (.ldc 67, 2) := by decide +kernel
theorem dX8_step_45 : decode cX8_step 45 = .ok (.invokevirtual 60, 3) := by decide +kernel
theorem dX8_step_48 : decode cX8_step 48 = .ok (.ireturn, 1) := by decide +kernel
theorem dX8_step_49 : decode cX8_step 49 = .ok (.aload_n 0, 1) := by decide +kernel
theorem dX8_step_50 : decode cX8_step 50 = .ok (.getfield 19, 3) := by decide +kernel
theorem dX8_step_53 : decode cX8_step 53 = .ok (.aload_n 0, 1) := by decide +kernel
theorem dX8_step_54 : decode cX8_step 54 = .ok (.getfield 10, 3) := by decide +kernel
theorem dX8_step_57 : decode cX8_step 57 = .ok (.invokevirtual 68, 3) := by decide +kernel
theorem dX8_step_60 : decode cX8_step 60 = .ok (.aload_n 0, 1) := by decide +kernel
theorem dX8_step_61 : decode cX8_step 61 = .ok (.getfield 10, 3) := by decide +kernel
theorem dX8_step_64 : decode cX8_step 64 = .ok (.iload_n 1, 1) := by decide +kernel
theorem dX8_step_65 : decode cX8_step 65 = .ok (.iload_n 2, 1) := by decide +kernel
theorem dX8_step_66 : decode cX8_step 66 = .ok (.iload_n 3, 1) := by decide +kernel
theorem dX8_step_67 : decode cX8_step 67 = .ok (.iload 4, 2) := by decide +kernel
theorem dX8_step_69 : decode cX8_step 69 = .ok (.invokestatic 95, 3) := by decide +kernel
theorem dX8_step_72 : decode cX8_step 72 = .ok (.invokevirtual 98, 3) := by decide +kernel
theorem dX8_step_75 : decode cX8_step 75 = .ok (.aload_n 0, 1) := by decide +kernel
theorem dX8_step_76 : decode cX8_step 76 = .ok (.getfield 26, 3) := by decide +kernel
theorem dX8_step_79 : decode cX8_step 79 = .ok (.iload_n 1, 1) := by decide +kernel
theorem dX8_step_80 : decode cX8_step 80 = .ok (.invokevirtual 102, 3) := by decide +kernel
theorem dX8_step_83 : decode cX8_step 83 = .ok (.aload_n 0, 1) := by decide +kernel
theorem dX8_step_84 : decode cX8_step 84 = .ok (.getfield 10, 3) := by decide +kernel
theorem dX8_step_87 : decode cX8_step 87 = .ok (.getfield 92, 3) := by decide +kernel
theorem dX8_step_90 : decode cX8_step 90 = .ok (.iload_n 1, 1) := by decide +kernel
theorem dX8_step_91 : decode cX8_step 91 = .ok (.iaload, 1) := by decide +kernel
theorem dX8_step_92 : decode cX8_step 92 = .ok (.ireturn, 1) := by decide +kernel
theorem dX8_unstep_0 : decode cX8_unstep 0 = .ok (.aload_n 0, 1) := by decide +kernel
theorem dX8_unstep_1 : decode cX8_unstep 1 = .ok (.getfield 10, 3) := by decide +kernel
theorem dX8_unstep_4 : decode cX8_unstep 4 = .ok (.iload_n 1, 1) := by decide +kernel
theorem dX8_unstep_5 : decode cX8_unstep 5 = .ok (.invokevirtual 76, 3) := by decide +kernel
theorem dX8_unstep_8 : decode cX8_unstep 8 = .ok (.ifCond .ne 10, 3) := by decide +kernel
theorem dX8_unstep_11 : decode cX8_unstep 11 = .ok (.aload_n 0, 1) := by decide +kernel
theorem dX8_unstep_12 : decode cX8_unstep 12 = .ok (.ldc 59, 2) := by decide +kernel
theorem dX8_unstep_14 : decode cX8_unstep 14 = .ok (.invokevirtual 60, 3) := by decide +kernel
theorem dX8_unstep_17 : decode cX8_unstep 17 = .ok (.ireturn, 1) := by decide +kernel
theorem dX8_unstep_18 : decode cX8_unstep 18 = .ok (.aload_n 0, 1) := by decide +kernel
theorem dX8_unstep_19 : decode cX8_unstep 19 = .ok (.getfield 10, 3) := by decide +kernel
theorem dX8_unstep_22 : decode cX8_unstep 22 = .ok (.getfield 92, 3) := by decide +kernel
theorem dX8_unstep_25 : decode cX8_unstep 25 = .ok (.iload_n 1, 1) := by decide +kernel
theorem dX8_unstep_26 : decode cX8_unstep 26 = .ok (.iaload, 1) := by decide +kernel
theorem dX8_unstep_27 : decode cX8_unstep 27 = .ok (.ifCond .gt 10, 3) := by decide +kernel
theorem dX8_unstep_30 : decode cX8_unstep 30 = .ok (.aload_n 0, 1) := by decide +kernel
theorem dX8_unstep_31 : decode cX8_unstep 31 = .ok (.ldc 106, 2) := by decide +kernel
theorem dX8_unstep_33 : decode cX8_unstep 33 = .ok (.invokevirtual 60, 3) := by decide +kernel
theorem dX8_unstep_36 : decode cX8_unstep 36 = .ok (.ireturn, 1) := by decide +kernel
theorem dX8_unstep_37 : decode cX8_unstep 37 = .ok (.aload_n 0, 1) := by decide +kernel
theorem dX8_unstep_38 : decode cX8_unstep 38 = .ok (.getfield 19, 3) := by decide +kernel
theorem dX8_unstep_41 : decode cX8_unstep 41 = .ok (.aload_n 0, 1) := by decide +kernel
theorem dX8_unstep_42 : decode cX8_unstep 42 = .ok (.getfield 10, 3) := by decide +kernel
theorem dX8_unstep_45 : decode cX8_unstep 45 = .ok (.invokevirtual 68, 3) := by decide +kernel
theorem dX8_unstep_48 : decode cX8_unstep 48 = .ok (.aload_n 0, 1) := by decide +kernel
theorem dX8_unstep_49 : decode cX8_unstep 49 = .ok (.getfield 10, 3) := by decide +kernel
theorem dX8_unstep_52 : decode cX8_unstep 52 = .ok (.getfield 92, 3) := by decide +kernel
theorem dX8_unstep_55 : decode cX8_unstep 55 = .ok (.iload_n 1, 1) := by decide +kernel
theorem dX8_unstep_56 : decode cX8_unstep 56 = .ok (.dup2, 1) := by decide +kernel
theorem dX8_unstep_57 : decode cX8_unstep 57 = .ok (.iaload, 1) := by decide +kernel
theorem dX8_unstep_58 : decode cX8_unstep 58 = .ok (.iconst 1, 1) := by decide +kernel
theorem dX8_unstep_59 : decode cX8_unstep 59 = .ok (.isub, 1) := by decide +kernel
theorem dX8_unstep_60 : decode cX8_unstep 60 = .ok (.iastore, 1) := by decide +kernel
theorem dX8_unstep_61 : decode cX8_unstep 61 = .ok (.aload_n 0, 1) := by decide +kernel
theorem dX8_unstep_62 : decode cX8_unstep 62 = .ok (.getfield 26, 3) := by decide +kernel
theorem dX8_unstep_65 : decode cX8_unstep 65 = .ok (.iload_n 1, 1) := by decide +kernel
theorem dX8_unstep_66 : decode cX8_unstep 66 = .ok (.invokevirtual 102, 3) := by decide +kernel
theorem dX8_unstep_69 : decode cX8_unstep 69 = .ok (.aload_n 0, 1) := by decide +kernel
theorem dX8_unstep_70 : decode cX8_unstep 70 = .ok (.getfield 10, 3) := by decide +kernel
theorem dX8_unstep_73 : decode cX8_unstep 73 = .ok (.getfield 92, 3) := by decide +kernel
theorem dX8_unstep_76 : decode cX8_unstep 76 = .ok (.iload_n 1, 1) := by decide +kernel
theorem dX8_unstep_77 : decode cX8_unstep 77 = .ok (.iaload, 1) := by decide +kernel
theorem dX8_unstep_78 : decode cX8_unstep 78 = .ok (.ireturn, 1) := by decide +kernel
theorem dX8_of_0 : decode cX8_of 0 = .ok (.aload_n 0, 1) := by decide +kernel
theorem dX8_of_1 : decode cX8_of 1 = .ok (.getfield 10, 3) := by decide +kernel
theorem dX8_of_4 : decode cX8_of 4 = .ok (.iload_n 1, 1) := by decide +kernel
theorem dX8_of_5 : decode cX8_of 5 = .ok (.iload_n 2, 1) := by decide +kernel
theorem dX8_of_6 : decode cX8_of 6 = .ok (.invokevirtual 107, 3) := by decide +kernel
theorem dX8_of_9 : decode cX8_of 9 = .ok (.ifCond .eq 11, 3) := by decide +kernel
theorem dX8_of_12 : decode cX8_of 12 = .ok (.iload_n 3, 1) := by decide +kernel
theorem dX8_of_13 : decode cX8_of 13 = .ok (.iconst 3, 1) := by decide +kernel
theorem dX8_of_14 : decode cX8_of 14 = .ok (.invokestatic 55, 3) := by decide +kernel
theorem dX8_of_17 : decode cX8_of 17 = .ok (.ifCond .ne 10, 3) := by decide +kernel
theorem dX8_of_20 : decode cX8_of 20 = .ok (.aload_n 0, 1) := by decide +kernel
theorem dX8_of_21 : decode cX8_of 21 = .ok (.ldc 59, 2) := by decide +kernel
theorem dX8_of_23 : decode cX8_of 23 = .ok (.invokevirtual 60, 3) := by decide +kernel
theorem dX8_of_26 : decode cX8_of 26 = .ok (.ireturn, 1) := by decide +kernel
theorem dX8_of_27 : decode cX8_of 27 = .ok (.aload_n 0, 1) := by decide +kernel
theorem dX8_of_28 : decode cX8_of 28 = .ok (.getfield 10, 3) := by decide +kernel
theorem dX8_of_31 : decode cX8_of 31 = .ok (.iload_n 1, 1) := by decide +kernel
theorem dX8_of_32 : decode cX8_of 32 = .ok (.iload_n 2, 1) := by decide +kernel
theorem dX8_of_33 : decode cX8_of 33 = .ok (.invokevirtual 110, 3) := by decide +kernel
theorem dX8_of_36 : decode cX8_of 36 = .ok (.istore 4, 2) := by decide +kernel
theorem dX8_of_38 : decode cX8_of 38 = .ok (.iload_n 3, 1) := by decide +kernel
theorem dX8_of_39 : decode cX8_of 39 = .ok (.ifCond .ne 11, 3) := by decide +kernel
theorem dX8_of_42 : decode cX8_of 42 = .ok (.iload 4, 2) := by decide +kernel
theorem dX8_of_44 : decode cX8_of 44 = .ok (.invokestatic 114, 3) := by decide +kernel
theorem dX8_of_47 : decode cX8_of 47 = .ok (.goto 21, 3) := by decide +kernel
theorem dX8_of_50 : decode cX8_of 50 = .ok (.iload_n 3, 1) := by decide +kernel
theorem dX8_of_51 : decode cX8_of 51 = .ok (.iconst 1, 1) := by decide +kernel
theorem dX8_of_52 : decode cX8_of 52 = .ok (.if_icmp .ne 11, 3) := by decide +kernel
theorem dX8_of_55 : decode cX8_of 55 = .ok (.iload 4, 2) := by decide +kernel
theorem dX8_of_57 : decode cX8_of 57 = .ok (.invokestatic 117, 3) := by decide +kernel
theorem dX8_of_60 : decode cX8_of 60 = .ok (.goto 8, 3) := by decide +kernel
theorem dX8_of_63 : decode cX8_of 63 = .ok (.iload 4, 2) := by decide +kernel
theorem dX8_of_65 : decode cX8_of 65 = .ok (.invokestatic 120, 3) := by decide +kernel
theorem dX8_of_68 : decode cX8_of 68 = .ok (.ireturn, 1) := by decide +kernel
theorem dX8_told_0 : decode cX8_told 0 = .ok (.aload_n 0, 1) := by decide +kernel
theorem dX8_told_1 : decode cX8_told 1 = .ok (.getfield 10, 3) := by decide +kernel
theorem dX8_told_4 : decode cX8_told 4 = .ok (.iload_n 1, 1) := by decide +kernel
theorem dX8_told_5 : decode cX8_told 5 = .ok (.invokevirtual 76, 3) := by decide +kernel
theorem dX8_told_8 : decode cX8_told 8 = .ok (.ifCond .ne 10, 3) := by decide +kernel
theorem dX8_told_11 : decode cX8_told 11 = .ok (.aload_n 0, 1) := by decide +kernel
theorem dX8_told_12 : decode cX8_told 12 = .ok (.ldc 59, 2) := by decide +kernel
theorem dX8_told_14 : decode cX8_told 14 = .ok (.invokevirtual 60, 3) := by decide +kernel
theorem dX8_told_17 : decode cX8_told 17 = .ok (.ireturn, 1) := by decide +kernel
theorem dX8_told_18 : decode cX8_told 18 = .ok (.iload_n 2, 1) := by decide +kernel
theorem dX8_told_19 : decode cX8_told 19 = .ok (.tableswitch 96 0 5 #[37, 47, 57, 67, 77, 86], 37) := by decide +kernel
theorem dX8_told_56 : decode cX8_told 56 = .ok (.aload_n 0, 1) := by decide +kernel
theorem dX8_told_57 : decode cX8_told 57 = .ok (.getfield 10, 3) := by decide +kernel
theorem dX8_told_60 : decode cX8_told 60 = .ok (.getfield 80, 3) := by decide +kernel
theorem dX8_told_63 : decode cX8_told 63 = .ok (.iload_n 1, 1) := by decide +kernel
theorem dX8_told_64 : decode cX8_told 64 = .ok (.iaload, 1) := by decide +kernel
theorem dX8_told_65 : decode cX8_told 65 = .ok (.ireturn, 1) := by decide +kernel
theorem dX8_told_66 : decode cX8_told 66 = .ok (.aload_n 0, 1) := by decide +kernel
theorem dX8_told_67 : decode cX8_told 67 = .ok (.getfield 10, 3) := by decide +kernel
theorem dX8_told_70 : decode cX8_told 70 = .ok (.getfield 123, 3) := by decide +kernel
theorem dX8_told_73 : decode cX8_told 73 = .ok (.iload_n 1, 1) := by decide +kernel
theorem dX8_told_74 : decode cX8_told 74 = .ok (.iaload, 1) := by decide +kernel
theorem dX8_told_75 : decode cX8_told 75 = .ok (.ireturn, 1) := by decide +kernel
theorem dX8_told_76 : decode cX8_told 76 = .ok (.aload_n 0, 1) := by decide +kernel
theorem dX8_told_77 : decode cX8_told 77 = .ok (.getfield 10, 3) := by decide +kernel
theorem dX8_told_80 : decode cX8_told 80 = .ok (.getfield 126, 3) := by decide +kernel
theorem dX8_told_83 : decode cX8_told 83 = .ok (.iload_n 1, 1) := by decide +kernel
theorem dX8_told_84 : decode cX8_told 84 = .ok (.iaload, 1) := by decide +kernel
theorem dX8_told_85 : decode cX8_told 85 = .ok (.ireturn, 1) := by decide +kernel
theorem dX8_told_86 : decode cX8_told 86 = .ok (.aload_n 0, 1) := by decide +kernel
theorem dX8_told_87 : decode cX8_told 87 = .ok (.getfield 10, 3) := by decide +kernel
theorem dX8_told_90 : decode cX8_told 90 = .ok (.getfield 92, 3) := by decide +kernel
theorem dX8_told_93 : decode cX8_told 93 = .ok (.iload_n 1, 1) := by decide +kernel
theorem dX8_told_94 : decode cX8_told 94 = .ok (.iaload, 1) := by decide +kernel
theorem dX8_told_95 : decode cX8_told 95 = .ok (.ireturn, 1) := by decide +kernel
theorem dX8_told_96 : decode cX8_told 96 = .ok (.aload_n 0, 1) := by decide +kernel
theorem dX8_told_97 : decode cX8_told 97 = .ok (.getfield 10, 3) := by decide +kernel
theorem dX8_told_100 : decode cX8_told 100 = .ok (.iload_n 1, 1) := by decide +kernel
theorem dX8_told_101 : decode cX8_told 101 = .ok (.invokevirtual 129, 3) := by decide +kernel
theorem dX8_told_104 : decode cX8_told 104 = .ok (.ireturn, 1) := by decide +kernel
theorem dX8_told_105 : decode cX8_told 105 = .ok (.aload_n 0, 1) := by decide +kernel
theorem dX8_told_106 : decode cX8_told 106 = .ok (.getfield 10, 3) := by decide +kernel
theorem dX8_told_109 : decode cX8_told 109 = .ok (.getfield 132, 3) := by decide +kernel
theorem dX8_told_112 : decode cX8_told 112 = .ok (.iload_n 1, 1) := by decide +kernel
theorem dX8_told_113 : decode cX8_told 113 = .ok (.iaload, 1) := by decide +kernel
theorem dX8_told_114 : decode cX8_told 114 = .ok (.ireturn, 1) := by decide +kernel
theorem dX8_told_115 : decode cX8_told 115 = .ok (.aload_n 0, 1) := by decide +kernel
theorem dX8_told_116 : decode cX8_told 116 = .ok (.ldc 59, 2) := by decide +kernel
theorem dX8_told_118 : decode cX8_told 118 = .ok (.invokevirtual 60, 3) := by decide +kernel
theorem dX8_told_121 : decode cX8_told 121 = .ok (.ireturn, 1) := by decide +kernel
theorem dX8_print_0 : decode cX8_print 0 = .ok (.aload_n 0, 1) := by decide +kernel
theorem dX8_print_1 : decode cX8_print 1 = .ok (.getfield 10, 3) := by decide +kernel
theorem dX8_print_4 : decode cX8_print 4 = .ok (.iload_n 1, 1) := by decide +kernel
theorem dX8_print_5 : decode cX8_print 5 = .ok (.invokevirtual 76, 3) := by decide +kernel
theorem dX8_print_8 : decode cX8_print 8 = .ok (.ifCond .eq 19, 3) := by decide +kernel
theorem dX8_print_11 : decode cX8_print 11 = .ok (.iload_n 2, 1) := by decide +kernel
theorem dX8_print_12 : decode cX8_print 12 = .ok (.iconst (-1), 1) := by decide +kernel
theorem dX8_print_13 : decode cX8_print 13 = .ok (.if_icmp .eq 21, 3) := by decide +kernel
theorem dX8_print_16 : decode cX8_print 16 = .ok (.aload_n 0, 1) := by decide +kernel
theorem dX8_print_17 : decode cX8_print 17 = .ok (.getfield 10, 3) := by decide +kernel
theorem dX8_print_20 : decode cX8_print 20 = .ok (.iload_n 2, 1) := by decide +kernel
theorem dX8_print_21 : decode cX8_print 21 = .ok (.invokevirtual 76, 3) := by decide +kernel
theorem dX8_print_24 : decode cX8_print 24 = .ok (.ifCond .ne 10, 3) := by decide +kernel
theorem dX8_print_27 : decode cX8_print 27 = .ok (.aload_n 0, 1) := by decide +kernel
theorem dX8_print_28 : decode cX8_print 28 = .ok (.ldc 59, 2) := by decide +kernel
theorem dX8_print_30 : decode cX8_print 30 = .ok (.invokevirtual 60, 3) := by decide +kernel
theorem dX8_print_33 : decode cX8_print 33 = .ok (.ireturn, 1) := by decide +kernel
theorem dX8_print_34 : decode cX8_print 34 = .ok (.aload_n 0, 1) := by decide +kernel
theorem dX8_print_35 : decode cX8_print 35 = .ok (.getfield 10, 3) := by decide +kernel
theorem dX8_print_38 : decode cX8_print 38 = .ok (.getfield 80, 3) := by decide +kernel
theorem dX8_print_41 : decode cX8_print 41 = .ok (.iload_n 1, 1) := by decide +kernel
theorem dX8_print_42 : decode cX8_print 42 = .ok (.iaload, 1) := by decide +kernel
theorem dX8_print_43 : decode cX8_print 43 = .ok (.iconst 3, 1) := by decide +kernel
theorem dX8_print_44 : decode cX8_print 44 = .ok (.if_icmp .eq 10, 3) := by decide +kernel
theorem dX8_print_47 : decode cX8_print 47 = .ok (.aload_n 0, 1) := by decide +kernel
theorem dX8_print_48 : decode cX8_print 48 = .ok (.ldc 87, 2) := by decide +kernel
theorem dX8_print_50 : decode cX8_print 50 = .ok (.invokevirtual 60, 3) := by decide +kernel
theorem dX8_print_53 : decode cX8_print 53 = .ok (.ireturn, 1) := by decide +kernel
theorem dX8_print_54 : decode cX8_print 54 = .ok (.aload_n 0, 1) := by decide +kernel
theorem dX8_print_55 : decode cX8_print 55 = .ok (.getfield 10, 3) := by decide +kernel
theorem dX8_print_58 : decode cX8_print 58 = .ok (.iload_n 2, 1) := by decide +kernel
theorem dX8_print_59 : decode cX8_print 59 = .ok (.iload_n 1, 1) := by decide +kernel
theorem dX8_print_60 : decode cX8_print 60 = .ok (.invokevirtual 135, 3) := by decide +kernel
theorem dX8_print_63 : decode cX8_print 63 = .ok (.ifCond .eq 10, 3) := by decide +kernel
theorem dX8_print_66 : decode cX8_print 66 = .ok (.aload_n 0, 1) := by decide +kernel
theorem dX8_print_67 : decode cX8_print 67 = .ok (.ldc 138, 2) := by decide +kernel
theorem dX8_print_69 : decode cX8_print 69 = .ok (.invokevirtual 60, 3) := by decide +kernel
theorem dX8_print_72 : decode cX8_print 72 = .ok (.ireturn, 1) := by decide +kernel
theorem dX8_print_73 : decode cX8_print 73 = .ok (.aload_n 0, 1) := by decide +kernel
theorem dX8_print_74 : decode cX8_print 74 = .ok (.getfield 19, 3) := by decide +kernel
theorem dX8_print_77 : decode cX8_print 77 = .ok (.aload_n 0, 1) := by decide +kernel
theorem dX8_print_78 : decode cX8_print 78 = .ok (.getfield 10, 3) := by decide +kernel
theorem dX8_print_81 : decode cX8_print 81 = .ok (.invokevirtual 68, 3) := by decide +kernel
theorem dX8_print_84 : decode cX8_print 84 = .ok (.aload_n 0, 1) := by decide +kernel
theorem dX8_print_85 : decode cX8_print 85 = .ok (.getfield 10, 3) := by decide +kernel
theorem dX8_print_88 : decode cX8_print 88 = .ok (.getfield 132, 3) := by decide +kernel
theorem dX8_print_91 : decode cX8_print 91 = .ok (.iload_n 1, 1) := by decide +kernel
theorem dX8_print_92 : decode cX8_print 92 = .ok (.iaload, 1) := by decide +kernel
theorem dX8_print_93 : decode cX8_print 93 = .ok (.istore_n 3, 1) := by decide +kernel
theorem dX8_print_94 : decode cX8_print 94 = .ok (.aload_n 0, 1) := by decide +kernel
theorem dX8_print_95 : decode cX8_print 95 = .ok (.getfield 10, 3) := by decide +kernel
theorem dX8_print_98 : decode cX8_print 98 = .ok (.getfield 132, 3) := by decide +kernel
theorem dX8_print_101 : decode cX8_print 101 = .ok (.iload_n 1, 1) := by decide +kernel
theorem dX8_print_102 : decode cX8_print 102 = .ok (.iload_n 2, 1) := by decide +kernel
theorem dX8_print_103 : decode cX8_print 103 = .ok (.iastore, 1) := by decide +kernel
theorem dX8_print_104 : decode cX8_print 104 = .ok (.iload_n 3, 1) := by decide +kernel
theorem dX8_print_105 : decode cX8_print 105 = .ok (.ireturn, 1) := by decide +kernel
theorem dX8_recode_0 : decode cX8_recode 0 = .ok (.iload_n 1, 1) := by decide +kernel
theorem dX8_recode_1 : decode cX8_recode 1 = .ok (.bipush 16, 2) := by decide +kernel
theorem dX8_recode_3 : decode cX8_recode 3 = .ok (.invokestatic 55, 3) := by decide +kernel
theorem dX8_recode_6 : decode cX8_recode 6 = .ok (.ifCond .eq 12, 3) := by decide +kernel
theorem dX8_recode_9 : decode cX8_recode 9 = .ok (.iload_n 2, 1) := by decide +kernel
theorem dX8_recode_10 : decode cX8_recode 10 = .ok (.bipush 16, 2) := by decide +kernel
theorem dX8_recode_12 : decode cX8_recode 12 = .ok (.invokestatic 55, 3) := by decide +kernel
theorem dX8_recode_15 : decode cX8_recode 15 = .ok (.ifCond .ne 10, 3) := by decide +kernel
theorem dX8_recode_18 : decode cX8_recode 18 = .ok (.aload_n 0, 1) := by decide +kernel
theorem dX8_recode_19 : decode cX8_recode 19 = .ok (.ldc 59, 2) := by decide +kernel
theorem dX8_recode_21 : decode cX8_recode 21 = .ok (.invokevirtual 60, 3) := by decide +kernel
theorem dX8_recode_24 : decode cX8_recode 24 = .ok (.ireturn, 1) := by decide +kernel
theorem dX8_recode_25 : decode cX8_recode 25 = .ok (.aload_n 0, 1) := by decide +kernel
theorem dX8_recode_26 : decode cX8_recode 26 = .ok (.getfield 19, 3) := by decide +kernel
theorem dX8_recode_29 : decode cX8_recode 29 = .ok (.aload_n 0, 1) := by decide +kernel
theorem dX8_recode_30 : decode cX8_recode 30 = .ok (.getfield 10, 3) := by decide +kernel
theorem dX8_recode_33 : decode cX8_recode 33 = .ok (.invokevirtual 68, 3) := by decide +kernel
theorem dX8_recode_36 : decode cX8_recode 36 = .ok (.aload_n 0, 1) := by decide +kernel
theorem dX8_recode_37 : decode cX8_recode 37 = .ok (.getfield 26, 3) := by decide +kernel
theorem dX8_recode_40 : decode cX8_recode 40 = .ok (.invokevirtual 139, 3) := by decide +kernel
theorem dX8_recode_43 : decode cX8_recode 43 = .ok (.aload_n 0, 1) := by decide +kernel
theorem dX8_recode_44 : decode cX8_recode 44 = .ok (.getfield 10, 3) := by decide +kernel
theorem dX8_recode_47 : decode cX8_recode 47 = .ok (.iload_n 1, 1) := by decide +kernel
theorem dX8_recode_48 : decode cX8_recode 48 = .ok (.iload_n 2, 1) := by decide +kernel
theorem dX8_recode_49 : decode cX8_recode 49 = .ok (.invokevirtual 142, 3) := by decide +kernel
theorem dX8_recode_52 : decode cX8_recode 52 = .ok (.ireturn, 1) := by decide +kernel
theorem dX8_price_0 : decode cX8_price 0 = .ok (.iload_n 1, 1) := by decide +kernel
theorem dX8_price_1 : decode cX8_price 1 = .ok (.iconst 3, 1) := by decide +kernel
theorem dX8_price_2 : decode cX8_price 2 = .ok (.invokestatic 55, 3) := by decide +kernel
theorem dX8_price_5 : decode cX8_price 5 = .ok (.ifCond .eq 12, 3) := by decide +kernel
theorem dX8_price_8 : decode cX8_price 8 = .ok (.iload_n 2, 1) := by decide +kernel
theorem dX8_price_9 : decode cX8_price 9 = .ok (.bipush 10, 2) := by decide +kernel
theorem dX8_price_11 : decode cX8_price 11 = .ok (.invokestatic 55, 3) := by decide +kernel
theorem dX8_price_14 : decode cX8_price 14 = .ok (.ifCond .ne 10, 3) := by decide +kernel
theorem dX8_price_17 : decode cX8_price 17 = .ok (.aload_n 0, 1) := by decide +kernel
theorem dX8_price_18 : decode cX8_price 18 = .ok (.ldc 59, 2) := by decide +kernel
theorem dX8_price_20 : decode cX8_price 20 = .ok (.invokevirtual 60, 3) := by decide +kernel
theorem dX8_price_23 : decode cX8_price 23 = .ok (.ireturn, 1) := by decide +kernel
theorem dX8_price_24 : decode cX8_price 24 = .ok (.aload_n 0, 1) := by decide +kernel
theorem dX8_price_25 : decode cX8_price 25 = .ok (.getfield 19, 3) := by decide +kernel
theorem dX8_price_28 : decode cX8_price 28 = .ok (.aload_n 0, 1) := by decide +kernel
theorem dX8_price_29 : decode cX8_price 29 = .ok (.getfield 10, 3) := by decide +kernel
theorem dX8_price_32 : decode cX8_price 32 = .ok (.invokevirtual 68, 3) := by decide +kernel
theorem dX8_price_35 : decode cX8_price 35 = .ok (.aload_n 0, 1) := by decide +kernel
theorem dX8_price_36 : decode cX8_price 36 = .ok (.getfield 26, 3) := by decide +kernel
theorem dX8_price_39 : decode cX8_price 39 = .ok (.invokevirtual 139, 3) := by decide +kernel
theorem dX8_price_42 : decode cX8_price 42 = .ok (.aload_n 0, 1) := by decide +kernel
theorem dX8_price_43 : decode cX8_price 43 = .ok (.getfield 10, 3) := by decide +kernel
theorem dX8_price_46 : decode cX8_price 46 = .ok (.getfield 145, 3) := by decide +kernel
theorem dX8_price_49 : decode cX8_price 49 = .ok (.iload_n 1, 1) := by decide +kernel
theorem dX8_price_50 : decode cX8_price 50 = .ok (.iaload, 1) := by decide +kernel
theorem dX8_price_51 : decode cX8_price 51 = .ok (.istore_n 3, 1) := by decide +kernel
theorem dX8_price_52 : decode cX8_price 52 = .ok (.aload_n 0, 1) := by decide +kernel
theorem dX8_price_53 : decode cX8_price 53 = .ok (.getfield 10, 3) := by decide +kernel
theorem dX8_price_56 : decode cX8_price 56 = .ok (.getfield 145, 3) := by decide +kernel
theorem dX8_price_59 : decode cX8_price 59 = .ok (.iload_n 1, 1) := by decide +kernel
theorem dX8_price_60 : decode cX8_price 60 = .ok (.iload_n 2, 1) := by decide +kernel
theorem dX8_price_61 : decode cX8_price 61 = .ok (.iastore, 1) := by decide +kernel
theorem dX8_price_62 : decode cX8_price 62 = .ok (.iload_n 3, 1) := by decide +kernel
theorem dX8_price_63 : decode cX8_price 63 = .ok (.ireturn, 1) := by decide +kernel
theorem dX8_way_0 : decode cX8_way 0 = .ok (.iload_n 1, 1) := by decide +kernel
theorem dX8_way_1 : decode cX8_way 1 = .ok (.bipush 6, 2) := by decide +kernel
theorem dX8_way_3 : decode cX8_way 3 = .ok (.invokestatic 55, 3) := by decide +kernel
theorem dX8_way_6 : decode cX8_way 6 = .ok (.ifCond .eq 22, 3) := by decide +kernel
theorem dX8_way_9 : decode cX8_way 9 = .ok (.iload_n 2, 1) := by decide +kernel
theorem dX8_way_10 : decode cX8_way 10 = .ok (.bipush 6, 2) := by decide +kernel
theorem dX8_way_12 : decode cX8_way 12 = .ok (.invokestatic 55, 3) := by decide +kernel
theorem dX8_way_15 : decode cX8_way 15 = .ok (.ifCond .eq 13, 3) := by decide +kernel
theorem dX8_way_18 : decode cX8_way 18 = .ok (.iload_n 3, 1) := by decide +kernel
theorem dX8_way_19 : decode cX8_way 19 = .ok (.sipush 1000, 3) := by decide +kernel
theorem dX8_way_22 : decode cX8_way 22 = .ok (.invokestatic 55, 3) := by decide +kernel
theorem dX8_way_25 : decode cX8_way 25 = .ok (.ifCond .ne 10, 3) := by decide +kernel
theorem dX8_way_28 : decode cX8_way 28 = .ok (.aload_n 0, 1) := by decide +kernel
theorem dX8_way_29 : decode cX8_way 29 = .ok (.ldc 59, 2) := by decide +kernel
theorem dX8_way_31 : decode cX8_way 31 = .ok (.invokevirtual 60, 3) := by decide +kernel
theorem dX8_way_34 : decode cX8_way 34 = .ok (.ireturn, 1) := by decide +kernel
theorem dX8_way_35 : decode cX8_way 35 = .ok (.iload_n 1, 1) := by decide +kernel
theorem dX8_way_36 : decode cX8_way 36 = .ok (.iload_n 2, 1) := by decide +kernel
theorem dX8_way_37 : decode cX8_way 37 = .ok (.if_icmp .ne 10, 3) := by decide +kernel
theorem dX8_way_40 : decode cX8_way 40 = .ok (.aload_n 0, 1) := by decide +kernel
theorem dX8_way_41 : decode cX8_way 41 = .ok (.ldc 148, 2) := by decide +kernel
theorem dX8_way_43 : decode cX8_way 43 = .ok (.invokevirtual 60, 3) := by decide +kernel
theorem dX8_way_46 : decode cX8_way 46 = .ok (.ireturn, 1) := by decide +kernel
theorem dX8_way_47 : decode cX8_way 47 = .ok (.aload_n 0, 1) := by decide +kernel
theorem dX8_way_48 : decode cX8_way 48 = .ok (.getfield 19, 3) := by decide +kernel
theorem dX8_way_51 : decode cX8_way 51 = .ok (.aload_n 0, 1) := by decide +kernel
theorem dX8_way_52 : decode cX8_way 52 = .ok (.getfield 10, 3) := by decide +kernel
theorem dX8_way_55 : decode cX8_way 55 = .ok (.invokevirtual 68, 3) := by decide +kernel
theorem dX8_way_58 : decode cX8_way 58 = .ok (.aload_n 0, 1) := by decide +kernel
theorem dX8_way_59 : decode cX8_way 59 = .ok (.getfield 10, 3) := by decide +kernel
theorem dX8_way_62 : decode cX8_way 62 = .ok (.iload_n 1, 1) := by decide +kernel
theorem dX8_way_63 : decode cX8_way 63 = .ok (.iload_n 2, 1) := by decide +kernel
theorem dX8_way_64 : decode cX8_way 64 = .ok (.invokevirtual 149, 3) := by decide +kernel
theorem dX8_way_67 : decode cX8_way 67 = .ok (.istore 4, 2) := by decide +kernel
theorem dX8_way_69 : decode cX8_way 69 = .ok (.aload_n 0, 1) := by decide +kernel
theorem dX8_way_70 : decode cX8_way 70 = .ok (.getfield 10, 3) := by decide +kernel
theorem dX8_way_73 : decode cX8_way 73 = .ok (.iload_n 1, 1) := by decide +kernel
theorem dX8_way_74 : decode cX8_way 74 = .ok (.iload_n 2, 1) := by decide +kernel
theorem dX8_way_75 : decode cX8_way 75 = .ok (.iload_n 3, 1) := by decide +kernel
theorem dX8_way_76 : decode cX8_way 76 = .ok (.invokevirtual 152, 3) := by decide +kernel
theorem dX8_way_79 : decode cX8_way 79 = .ok (.iload 4, 2) := by decide +kernel
theorem dX8_way_81 : decode cX8_way 81 = .ok (.ireturn, 1) := by decide +kernel
theorem dX8_cost_0 : decode cX8_cost 0 = .ok (.aload_n 0, 1) := by decide +kernel
theorem dX8_cost_1 : decode cX8_cost 1 = .ok (.getfield 10, 3) := by decide +kernel
theorem dX8_cost_4 : decode cX8_cost 4 = .ok (.iload_n 1, 1) := by decide +kernel
theorem dX8_cost_5 : decode cX8_cost 5 = .ok (.invokevirtual 76, 3) := by decide +kernel
theorem dX8_cost_8 : decode cX8_cost 8 = .ok (.ifCond .eq 14, 3) := by decide +kernel
theorem dX8_cost_11 : decode cX8_cost 11 = .ok (.aload_n 0, 1) := by decide +kernel
theorem dX8_cost_12 : decode cX8_cost 12 = .ok (.getfield 10, 3) := by decide +kernel
theorem dX8_cost_15 : decode cX8_cost 15 = .ok (.iload_n 2, 1) := by decide +kernel
theorem dX8_cost_16 : decode cX8_cost 16 = .ok (.invokevirtual 76, 3) := by decide +kernel
theorem dX8_cost_19 : decode cX8_cost 19 = .ok (.ifCond .ne 10, 3) := by decide +kernel
theorem dX8_cost_22 : decode cX8_cost 22 = .ok (.aload_n 0, 1) := by decide +kernel
theorem dX8_cost_23 : decode cX8_cost 23 = .ok (.ldc 59, 2) := by decide +kernel
theorem dX8_cost_25 : decode cX8_cost 25 = .ok (.invokevirtual 60, 3) := by decide +kernel
theorem dX8_cost_28 : decode cX8_cost 28 = .ok (.ireturn, 1) := by decide +kernel
theorem dX8_cost_29 : decode cX8_cost 29 = .ok (.aload_n 0, 1) := by decide +kernel
theorem dX8_cost_30 : decode cX8_cost 30 = .ok (.getfield 26, 3) := by decide +kernel
theorem dX8_cost_33 : decode cX8_cost 33 = .ok (.aload_n 0, 1) := by decide +kernel
theorem dX8_cost_34 : decode cX8_cost 34 = .ok (.getfield 10, 3) := by decide +kernel
theorem dX8_cost_37 : decode cX8_cost 37 = .ok (.iload_n 1, 1) := by decide +kernel
theorem dX8_cost_38 : decode cX8_cost 38 = .ok (.iload_n 2, 1) := by decide +kernel
theorem dX8_cost_39 : decode cX8_cost 39 = .ok (.invokevirtual 156, 3) := by decide +kernel
theorem dX8_cost_42 : decode cX8_cost 42 = .ok (.ireturn, 1) := by decide +kernel
theorem dX8_carried_0 : decode cX8_carried 0 = .ok (.aload_n 0, 1) := by decide +kernel
theorem dX8_carried_1 : decode cX8_carried 1 = .ok (.getfield 10, 3) := by decide +kernel
theorem dX8_carried_4 : decode cX8_carried 4 = .ok (.iload_n 1, 1) := by decide +kernel
theorem dX8_carried_5 : decode cX8_carried 5 = .ok (.invokevirtual 76, 3) := by decide +kernel
theorem dX8_carried_8 : decode cX8_carried 8 = .ok (.ifCond .eq 22, 3) := by decide +kernel
theorem dX8_carried_11 : decode cX8_carried 11 = .ok (.aload_n 0, 1) := by decide +kernel
theorem dX8_carried_12 : decode cX8_carried 12 = .ok (.getfield 10, 3) := by decide +kernel
theorem dX8_carried_15 : decode cX8_carried 15 = .ok (.iload_n 2, 1) := by decide +kernel
theorem dX8_carried_16 : decode cX8_carried 16 = .ok (.invokevirtual 76, 3) := by decide +kernel
theorem dX8_carried_19 : decode cX8_carried 19 = .ok (.ifCond .eq 11, 3) := by decide +kernel
theorem dX8_carried_22 : decode cX8_carried 22 = .ok (.iload_n 3, 1) := by decide +kernel
theorem dX8_carried_23 : decode cX8_carried 23 = .ok (.iconst 4, 1) := by decide +kernel
theorem dX8_carried_24 : decode cX8_carried 24 = .ok (.invokestatic 55, 3) := by decide +kernel
theorem dX8_carried_27 : decode cX8_carried 27 = .ok (.ifCond .ne 10, 3) := by decide +kernel
theorem dX8_carried_30 : decode cX8_carried 30 = .ok (.aload_n 0, 1) := by decide +kernel
theorem dX8_carried_31 : decode cX8_carried 31 = .ok (.ldc 59, 2) := by decide +kernel
theorem dX8_carried_33 : decode cX8_carried 33 = .ok (.invokevirtual 60, 3) := by decide +kernel
theorem dX8_carried_36 : decode cX8_carried 36 = .ok (.ireturn, 1) := by decide +kernel
theorem dX8_carried_37 : decode cX8_carried 37 = .ok (.aload_n 0, 1) := by decide +kernel
theorem dX8_carried_38 : decode cX8_carried 38 = .ok (.getfield 26, 3) := by decide +kernel
theorem dX8_carried_41 : decode cX8_carried 41 = .ok (.aload_n 0, 1) := by decide +kernel
theorem dX8_carried_42 : decode cX8_carried 42 = .ok (.getfield 10, 3) := by decide +kernel
theorem dX8_carried_45 : decode cX8_carried 45 = .ok (.iload_n 1, 1) := by decide +kernel
theorem dX8_carried_46 : decode cX8_carried 46 = .ok (.iload_n 2, 1) := by decide +kernel
theorem dX8_carried_47 : decode cX8_carried 47 = .ok (.invokevirtual 160, 3) := by decide +kernel
theorem dX8_carried_50 : decode cX8_carried 50 = .ok (.getfield 164, 3) := by decide +kernel
theorem dX8_carried_53 : decode cX8_carried 53 = .ok (.iload_n 3, 1) := by decide +kernel
theorem dX8_carried_54 : decode cX8_carried 54 = .ok (.invokestatic 169, 3) := by decide +kernel
theorem dX8_carried_57 : decode cX8_carried 57 = .ok (.ireturn, 1) := by decide +kernel
theorem dX8_pair_0 : decode cX8_pair 0 = .ok (.aload_n 0, 1) := by decide +kernel
theorem dX8_pair_1 : decode cX8_pair 1 = .ok (.getfield 10, 3) := by decide +kernel
theorem dX8_pair_4 : decode cX8_pair 4 = .ok (.iload_n 1, 1) := by decide +kernel
theorem dX8_pair_5 : decode cX8_pair 5 = .ok (.iload_n 3, 1) := by decide +kernel
theorem dX8_pair_6 : decode cX8_pair 6 = .ok (.invokevirtual 107, 3) := by decide +kernel
theorem dX8_pair_9 : decode cX8_pair 9 = .ok (.ifCond .eq 14, 3) := by decide +kernel
theorem dX8_pair_12 : decode cX8_pair 12 = .ok (.aload_n 0, 1) := by decide +kernel
theorem dX8_pair_13 : decode cX8_pair 13 = .ok (.getfield 10, 3) := by decide +kernel
theorem dX8_pair_16 : decode cX8_pair 16 = .ok (.iload_n 2, 1) := by decide +kernel
theorem dX8_pair_17 : decode cX8_pair 17 = .ok (.invokevirtual 76, 3) := by decide +kernel
theorem dX8_pair_20 : decode cX8_pair 20 = .ok (.ifCond .ne 10, 3) := by decide +kernel
theorem dX8_pair_23 : decode cX8_pair 23 = .ok (.aload_n 0, 1) := by decide +kernel
theorem dX8_pair_24 : decode cX8_pair 24 = .ok (.ldc 59, 2) := by decide +kernel
theorem dX8_pair_26 : decode cX8_pair 26 = .ok (.invokevirtual 60, 3) := by decide +kernel
theorem dX8_pair_29 : decode cX8_pair 29 = .ok (.ireturn, 1) := by decide +kernel
theorem dX8_pair_30 : decode cX8_pair 30 = .ok (.iload_n 3, 1) := by decide +kernel
theorem dX8_pair_31 : decode cX8_pair 31 = .ok (.aload_n 0, 1) := by decide +kernel
theorem dX8_pair_32 : decode cX8_pair 32 = .ok (.getfield 10, 3) := by decide +kernel
theorem dX8_pair_35 : decode cX8_pair 35 = .ok (.iload_n 1, 1) := by decide +kernel
theorem dX8_pair_36 : decode cX8_pair 36 = .ok (.invokevirtual 172, 3) := by decide +kernel
theorem dX8_pair_39 : decode cX8_pair 39 = .ok (.isub, 1) := by decide +kernel
theorem dX8_pair_40 : decode cX8_pair 40 = .ok (.istore 4, 2) := by decide +kernel
theorem dX8_pair_42 : decode cX8_pair 42 = .ok (.iload 4, 2) := by decide +kernel
theorem dX8_pair_44 : decode cX8_pair 44 = .ok (.aload_n 0, 1) := by decide +kernel
theorem dX8_pair_45 : decode cX8_pair 45 = .ok (.getfield 10, 3) := by decide +kernel
theorem dX8_pair_48 : decode cX8_pair 48 = .ok (.iload_n 1, 1) := by decide +kernel
theorem dX8_pair_49 : decode cX8_pair 49 = .ok (.invokevirtual 129, 3) := by decide +kernel
theorem dX8_pair_52 : decode cX8_pair 52 = .ok (.invokestatic 55, 3) := by decide +kernel
theorem dX8_pair_55 : decode cX8_pair 55 = .ok (.ifCond .ne 10, 3) := by decide +kernel
theorem dX8_pair_58 : decode cX8_pair 58 = .ok (.aload_n 0, 1) := by decide +kernel
theorem dX8_pair_59 : decode cX8_pair 59 = .ok (.ldc 87, 2) := by decide +kernel
theorem dX8_pair_61 : decode cX8_pair 61 = .ok (.invokevirtual 60, 3) := by decide +kernel
theorem dX8_pair_64 : decode cX8_pair 64 = .ok (.ireturn, 1) := by decide +kernel
theorem dX8_pair_65 : decode cX8_pair 65 = .ok (.aload_n 0, 1) := by decide +kernel
theorem dX8_pair_66 : decode cX8_pair 66 = .ok (.getfield 26, 3) := by decide +kernel
theorem dX8_pair_69 : decode cX8_pair 69 = .ok (.aload_n 0, 1) := by decide +kernel
theorem dX8_pair_70 : decode cX8_pair 70 = .ok (.getfield 10, 3) := by decide +kernel
theorem dX8_pair_73 : decode cX8_pair 73 = .ok (.iload_n 1, 1) := by decide +kernel
theorem dX8_pair_74 : decode cX8_pair 74 = .ok (.iload_n 2, 1) := by decide +kernel
theorem dX8_pair_75 : decode cX8_pair 75 = .ok (.invokevirtual 175, 3) := by decide +kernel
theorem dX8_pair_78 : decode cX8_pair 78 = .ok (.getfield 178, 3) := by decide +kernel
theorem dX8_pair_81 : decode cX8_pair 81 = .ok (.iload 4, 2) := by decide +kernel
theorem dX8_pair_83 : decode cX8_pair 83 = .ok (.iaload, 1) := by decide +kernel
theorem dX8_pair_84 : decode cX8_pair 84 = .ok (.istore 5, 2) := by decide +kernel
theorem dX8_pair_86 : decode cX8_pair 86 = .ok (.iload 5, 2) := by decide +kernel
theorem dX8_pair_88 : decode cX8_pair 88 = .ok (.ifCond .ge 7, 3) := by decide +kernel
theorem dX8_pair_91 : decode cX8_pair 91 = .ok (.iconst (-1), 1) := by decide +kernel
theorem dX8_pair_92 : decode cX8_pair 92 = .ok (.goto 14, 3) := by decide +kernel
theorem dX8_pair_95 : decode cX8_pair 95 = .ok (.iload 5, 2) := by decide +kernel
theorem dX8_pair_97 : decode cX8_pair 97 = .ok (.aload_n 0, 1) := by decide +kernel
theorem dX8_pair_98 : decode cX8_pair 98 = .ok (.getfield 10, 3) := by decide +kernel
theorem dX8_pair_101 : decode cX8_pair 101 = .ok (.iload_n 2, 1) := by decide +kernel
theorem dX8_pair_102 : decode cX8_pair 102 = .ok (.invokevirtual 172, 3) := by decide +kernel
theorem dX8_pair_105 : decode cX8_pair 105 = .ok (.iadd, 1) := by decide +kernel
theorem dX8_pair_106 : decode cX8_pair 106 = .ok (.ireturn, 1) := by decide +kernel
theorem dX8_pairs_0 : decode cX8_pairs 0 = .ok (.aload_n 0, 1) := by decide +kernel
theorem dX8_pairs_1 : decode cX8_pairs 1 = .ok (.getfield 10, 3) := by decide +kernel
theorem dX8_pairs_4 : decode cX8_pairs 4 = .ok (.iload_n 1, 1) := by decide +kernel
theorem dX8_pairs_5 : decode cX8_pairs 5 = .ok (.invokevirtual 76, 3) := by decide +kernel
theorem dX8_pairs_8 : decode cX8_pairs 8 = .ok (.ifCond .eq 14, 3) := by decide +kernel
theorem dX8_pairs_11 : decode cX8_pairs 11 = .ok (.aload_n 0, 1) := by decide +kernel
theorem dX8_pairs_12 : decode cX8_pairs 12 = .ok (.getfield 10, 3) := by decide +kernel
theorem dX8_pairs_15 : decode cX8_pairs 15 = .ok (.iload_n 2, 1) := by decide +kernel
theorem dX8_pairs_16 : decode cX8_pairs 16 = .ok (.invokevirtual 76, 3) := by decide +kernel
theorem dX8_pairs_19 : decode cX8_pairs 19 = .ok (.ifCond .ne 10, 3) := by decide +kernel
theorem dX8_pairs_22 : decode cX8_pairs 22 = .ok (.aload_n 0, 1) := by decide +kernel
theorem dX8_pairs_23 : decode cX8_pairs 23 = .ok (.ldc 59, 2) := by decide +kernel
theorem dX8_pairs_25 : decode cX8_pairs 25 = .ok (.invokevirtual 60, 3) := by decide +kernel
theorem dX8_pairs_28 : decode cX8_pairs 28 = .ok (.ireturn, 1) := by decide +kernel
theorem dX8_pairs_29 : decode cX8_pairs 29 = .ok (.aload_n 0, 1) := by decide +kernel
theorem dX8_pairs_30 : decode cX8_pairs 30 = .ok (.getfield 26, 3) := by decide +kernel
theorem dX8_pairs_33 : decode cX8_pairs 33 = .ok (.aload_n 0, 1) := by decide +kernel
theorem dX8_pairs_34 : decode cX8_pairs 34 = .ok (.getfield 10, 3) := by decide +kernel
theorem dX8_pairs_37 : decode cX8_pairs 37 = .ok (.iload_n 1, 1) := by decide +kernel
theorem dX8_pairs_38 : decode cX8_pairs 38 = .ok (.iload_n 2, 1) := by decide +kernel
theorem dX8_pairs_39 : decode cX8_pairs 39 = .ok (.invokevirtual 175, 3) := by decide +kernel
theorem dX8_pairs_42 : decode cX8_pairs 42 = .ok (.iload_n 3, 1) := by decide +kernel
theorem dX8_pairs_43 : decode cX8_pairs 43 = .ok (.invokevirtual 181, 3) := by decide +kernel
theorem dX8_pairs_46 : decode cX8_pairs 46 = .ok (.ireturn, 1) := by decide +kernel
theorem dX8_mould_0 : decode cX8_mould 0 = .ok (.aload_n 0, 1) := by decide +kernel
theorem dX8_mould_1 : decode cX8_mould 1 = .ok (.iload_n 1, 1) := by decide +kernel
theorem dX8_mould_2 : decode cX8_mould 2 = .ok (.invokevirtual 185, 3) := by decide +kernel
theorem dX8_mould_5 : decode cX8_mould 5 = .ok (.istore_n 2, 1) := by decide +kernel
theorem dX8_mould_6 : decode cX8_mould 6 = .ok (.iload_n 2, 1) := by decide +kernel
theorem dX8_mould_7 : decode cX8_mould 7 = .ok (.ifCond .ge 9, 3) := by decide +kernel
theorem dX8_mould_10 : decode cX8_mould 10 = .ok (.aload_n 0, 1) := by decide +kernel
theorem dX8_mould_11 : decode cX8_mould 11 = .ok (.iload_n 2, 1) := by decide +kernel
theorem dX8_mould_12 : decode cX8_mould 12 = .ok (.invokevirtual 60, 3) := by decide +kernel
theorem dX8_mould_15 : decode cX8_mould 15 = .ok (.ireturn, 1) := by decide +kernel
theorem dX8_mould_16 : decode cX8_mould 16 = .ok (.aload_n 0, 1) := by decide +kernel
theorem dX8_mould_17 : decode cX8_mould 17 = .ok (.getfield 26, 3) := by decide +kernel
theorem dX8_mould_20 : decode cX8_mould 20 = .ok (.aload_n 0, 1) := by decide +kernel
theorem dX8_mould_21 : decode cX8_mould 21 = .ok (.getfield 10, 3) := by decide +kernel
theorem dX8_mould_24 : decode cX8_mould 24 = .ok (.iload_n 1, 1) := by decide +kernel
theorem dX8_mould_25 : decode cX8_mould 25 = .ok (.invokevirtual 188, 3) := by decide +kernel
theorem dX8_mould_28 : decode cX8_mould 28 = .ok (.aload_n 0, 1) := by decide +kernel
theorem dX8_mould_29 : decode cX8_mould 29 = .ok (.iload_n 1, 1) := by decide +kernel
theorem dX8_mould_30 : decode cX8_mould 30 = .ok (.invokevirtual 192, 3) := by decide +kernel
theorem dX8_mould_33 : decode cX8_mould 33 = .ok (.ireturn, 1) := by decide +kernel
theorem dX8_spread_0 : decode cX8_spread 0 = .ok (.aload_n 0, 1) := by decide +kernel
theorem dX8_spread_1 : decode cX8_spread 1 = .ok (.iload_n 1, 1) := by decide +kernel
theorem dX8_spread_2 : decode cX8_spread 2 = .ok (.invokevirtual 185, 3) := by decide +kernel
theorem dX8_spread_5 : decode cX8_spread 5 = .ok (.istore_n 2, 1) := by decide +kernel
theorem dX8_spread_6 : decode cX8_spread 6 = .ok (.iload_n 2, 1) := by decide +kernel
theorem dX8_spread_7 : decode cX8_spread 7 = .ok (.ifCond .ge 9, 3) := by decide +kernel
theorem dX8_spread_10 : decode cX8_spread 10 = .ok (.aload_n 0, 1) := by decide +kernel
theorem dX8_spread_11 : decode cX8_spread 11 = .ok (.iload_n 2, 1) := by decide +kernel
theorem dX8_spread_12 : decode cX8_spread 12 = .ok (.invokevirtual 60, 3) := by decide +kernel
theorem dX8_spread_15 : decode cX8_spread 15 = .ok (.ireturn, 1) := by decide +kernel
theorem dX8_spread_16 : decode cX8_spread 16 = .ok (.aload_n 0, 1) := by decide +kernel
theorem dX8_spread_17 : decode cX8_spread 17 = .ok (.getfield 26, 3) := by decide +kernel
theorem dX8_spread_20 : decode cX8_spread 20 = .ok (.aload_n 0, 1) := by decide +kernel
theorem dX8_spread_21 : decode cX8_spread 21 = .ok (.getfield 10, 3) := by decide +kernel
theorem dX8_spread_24 : decode cX8_spread 24 = .ok (.iload_n 1, 1) := by decide +kernel
theorem dX8_spread_25 : decode cX8_spread 25 = .ok (.invokevirtual 188, 3) := by decide +kernel
theorem dX8_spread_28 : decode cX8_spread 28 = .ok (.aload_n 0, 1) := by decide +kernel
theorem dX8_spread_29 : decode cX8_spread 29 = .ok (.aload_n 0, 1) := by decide +kernel
theorem dX8_spread_30 : decode cX8_spread 30 = .ok (.iload_n 1, 1) := by decide +kernel
theorem dX8_spread_31 : decode cX8_spread 31 = .ok (.invokevirtual 192, 3) := by decide +kernel
theorem dX8_spread_34 : decode cX8_spread 34 = .ok (.iload_n 1, 1) := by decide +kernel
theorem dX8_spread_35 : decode cX8_spread 35 = .ok (.invokevirtual 195, 3) := by decide +kernel
theorem dX8_spread_38 : decode cX8_spread 38 = .ok (.ireturn, 1) := by decide +kernel
theorem dX8_tree_0 : decode cX8_tree 0 = .ok (.aload_n 0, 1) := by decide +kernel
theorem dX8_tree_1 : decode cX8_tree 1 = .ok (.iload_n 1, 1) := by decide +kernel
theorem dX8_tree_2 : decode cX8_tree 2 = .ok (.invokevirtual 185, 3) := by decide +kernel
theorem dX8_tree_5 : decode cX8_tree 5 = .ok (.istore_n 2, 1) := by decide +kernel
theorem dX8_tree_6 : decode cX8_tree 6 = .ok (.iload_n 2, 1) := by decide +kernel
theorem dX8_tree_7 : decode cX8_tree 7 = .ok (.ifCond .ge 9, 3) := by decide +kernel
theorem dX8_tree_10 : decode cX8_tree 10 = .ok (.aload_n 0, 1) := by decide +kernel
theorem dX8_tree_11 : decode cX8_tree 11 = .ok (.iload_n 2, 1) := by decide +kernel
theorem dX8_tree_12 : decode cX8_tree 12 = .ok (.invokevirtual 60, 3) := by decide +kernel
theorem dX8_tree_15 : decode cX8_tree 15 = .ok (.ireturn, 1) := by decide +kernel
theorem dX8_tree_16 : decode cX8_tree 16 = .ok (.aload_n 0, 1) := by decide +kernel
theorem dX8_tree_17 : decode cX8_tree 17 = .ok (.getfield 26, 3) := by decide +kernel
theorem dX8_tree_20 : decode cX8_tree 20 = .ok (.aload_n 0, 1) := by decide +kernel
theorem dX8_tree_21 : decode cX8_tree 21 = .ok (.getfield 10, 3) := by decide +kernel
theorem dX8_tree_24 : decode cX8_tree 24 = .ok (.iload_n 1, 1) := by decide +kernel
theorem dX8_tree_25 : decode cX8_tree 25 = .ok (.invokevirtual 188, 3) := by decide +kernel
theorem dX8_tree_28 : decode cX8_tree 28 = .ok (.aload_n 0, 1) := by decide +kernel
theorem dX8_tree_29 : decode cX8_tree 29 = .ok (.getfield 33, 3) := by decide +kernel
theorem dX8_tree_32 : decode cX8_tree 32 = .ok (.aload_n 0, 1) := by decide +kernel
theorem dX8_tree_33 : decode cX8_tree 33 = .ok (.getfield 26, 3) := by decide +kernel
theorem dX8_tree_36 : decode cX8_tree 36 = .ok (.getfield 198, 3) := by decide +kernel
theorem dX8_tree_39 : decode cX8_tree 39 = .ok (.iload_n 1, 1) := by decide +kernel
theorem dX8_tree_40 : decode cX8_tree 40 = .ok (.invokevirtual 201, 3) := by decide +kernel
theorem dX8_tree_43 : decode cX8_tree 43 = .ok (.aload_n 0, 1) := by decide +kernel
theorem dX8_tree_44 : decode cX8_tree 44 = .ok (.getfield 33, 3) := by decide +kernel
theorem dX8_tree_47 : decode cX8_tree 47 = .ok (.getfield 205, 3) := by decide +kernel
theorem dX8_tree_50 : decode cX8_tree 50 = .ok (.ireturn, 1) := by decide +kernel
theorem dX8_branch_0 : decode cX8_branch 0 = .ok (.aload_n 0, 1) := by decide +kernel
theorem dX8_branch_1 : decode cX8_branch 1 = .ok (.iload_n 1, 1) := by decide +kernel
theorem dX8_branch_2 : decode cX8_branch 2 = .ok (.invokevirtual 185, 3) := by decide +kernel
theorem dX8_branch_5 : decode cX8_branch 5 = .ok (.istore_n 3, 1) := by decide +kernel
theorem dX8_branch_6 : decode cX8_branch 6 = .ok (.iload_n 3, 1) := by decide +kernel
theorem dX8_branch_7 : decode cX8_branch 7 = .ok (.ifCond .ge 9, 3) := by decide +kernel
theorem dX8_branch_10 : decode cX8_branch 10 = .ok (.aload_n 0, 1) := by decide +kernel
theorem dX8_branch_11 : decode cX8_branch 11 = .ok (.iload_n 3, 1) := by decide +kernel
theorem dX8_branch_12 : decode cX8_branch 12 = .ok (.invokevirtual 60, 3) := by decide +kernel
theorem dX8_branch_15 : decode cX8_branch 15 = .ok (.ireturn, 1) := by decide +kernel
theorem dX8_branch_16 : decode cX8_branch 16 = .ok (.aload_n 0, 1) := by decide +kernel
theorem dX8_branch_17 : decode cX8_branch 17 = .ok (.getfield 26, 3) := by decide +kernel
theorem dX8_branch_20 : decode cX8_branch 20 = .ok (.aload_n 0, 1) := by decide +kernel
theorem dX8_branch_21 : decode cX8_branch 21 = .ok (.getfield 10, 3) := by decide +kernel
theorem dX8_branch_24 : decode cX8_branch 24 = .ok (.iload_n 1, 1) := by decide +kernel
theorem dX8_branch_25 : decode cX8_branch 25 = .ok (.invokevirtual 188, 3) := by decide +kernel
theorem dX8_branch_28 : decode cX8_branch 28 = .ok (.aload_n 0, 1) := by decide +kernel
theorem dX8_branch_29 : decode cX8_branch 29 = .ok (.getfield 33, 3) := by decide +kernel
theorem dX8_branch_32 : decode cX8_branch 32 = .ok (.aload_n 0, 1) := by decide +kernel
theorem dX8_branch_33 : decode cX8_branch 33 = .ok (.getfield 26, 3) := by decide +kernel
theorem dX8_branch_36 : decode cX8_branch 36 = .ok (.getfield 198, 3) := by decide +kernel
theorem dX8_branch_39 : decode cX8_branch 39 = .ok (.iload_n 1, 1) := by decide +kernel
theorem dX8_branch_40 : decode cX8_branch 40 = .ok (.invokevirtual 201, 3) := by decide +kernel
theorem dX8_branch_43 : decode cX8_branch 43 = .ok (.iload_n 2, 1) := by decide +kernel
theorem dX8_branch_44 : decode cX8_branch 44 = .ok (.aload_n 0, 1) := by decide +kernel
theorem dX8_branch_45 : decode cX8_branch 45 = .ok (.getfield 33, 3) := by decide +kernel
theorem dX8_branch_48 : decode cX8_branch 48 = .ok (.getfield 208, 3) := by decide +kernel
theorem dX8_branch_51 : decode cX8_branch 51 = .ok (.invokestatic 55, 3) := by decide +kernel
theorem dX8_branch_54 : decode cX8_branch 54 = .ok (.ifCond .eq 15, 3) := by decide +kernel
theorem dX8_branch_57 : decode cX8_branch 57 = .ok (.aload_n 0, 1) := by decide +kernel
theorem dX8_branch_58 : decode cX8_branch 58 = .ok (.getfield 33, 3) := by decide +kernel
theorem dX8_branch_61 : decode cX8_branch 61 = .ok (.getfield 211, 3) := by decide +kernel
theorem dX8_branch_64 : decode cX8_branch 64 = .ok (.iload_n 2, 1) := by decide +kernel
theorem dX8_branch_65 : decode cX8_branch 65 = .ok (.iaload, 1) := by decide +kernel
theorem dX8_branch_66 : decode cX8_branch 66 = .ok (.goto 9, 3) := by decide +kernel
theorem dX8_branch_69 : decode cX8_branch 69 = .ok (.aload_n 0, 1) := by decide +kernel
theorem dX8_branch_70 : decode cX8_branch 70 = .ok (.ldc 106, 2) := by decide +kernel
theorem dX8_branch_72 : decode cX8_branch 72 = .ok (.invokevirtual 60, 3) := by decide +kernel
theorem dX8_branch_75 : decode cX8_branch 75 = .ok (.ireturn, 1) := by decide +kernel
theorem dX8_nearest_0 : decode cX8_nearest 0 = .ok (.aload_n 0, 1) := by decide +kernel
theorem dX8_nearest_1 : decode cX8_nearest 1 = .ok (.getfield 10, 3) := by decide +kernel
theorem dX8_nearest_4 : decode cX8_nearest 4 = .ok (.iload_n 1, 1) := by decide +kernel
theorem dX8_nearest_5 : decode cX8_nearest 5 = .ok (.invokevirtual 76, 3) := by decide +kernel
theorem dX8_nearest_8 : decode cX8_nearest 8 = .ok (.ifCond .ne 10, 3) := by decide +kernel
theorem dX8_nearest_11 : decode cX8_nearest 11 = .ok (.aload_n 0, 1) := by decide +kernel
theorem dX8_nearest_12 : decode cX8_nearest 12 = .ok (.ldc 59, 2) := by decide +kernel
theorem dX8_nearest_14 : decode cX8_nearest 14 = .ok (.invokevirtual 60, 3) := by decide +kernel
theorem dX8_nearest_17 : decode cX8_nearest 17 = .ok (.ireturn, 1) := by decide +kernel
theorem dX8_nearest_18 : decode cX8_nearest 18 = .ok (.aload_n 0, 1) := by decide +kernel
theorem dX8_nearest_19 : decode cX8_nearest 19 = .ok (.iload_n 1, 1) := by decide +kernel
theorem dX8_nearest_20 : decode cX8_nearest 20 = .ok (.iconst 0, 1) := by decide +kernel
theorem dX8_nearest_21 : decode cX8_nearest 21 = .ok (.invokevirtual 214, 3) := by decide +kernel
theorem dX8_nearest_24 : decode cX8_nearest 24 = .ok (.istore_n 2, 1) := by decide +kernel
theorem dX8_nearest_25 : decode cX8_nearest 25 = .ok (.iload_n 2, 1) := by decide +kernel
theorem dX8_nearest_26 : decode cX8_nearest 26 = .ok (.ifCond .ge 12, 3) := by decide +kernel
theorem dX8_nearest_29 : decode cX8_nearest 29 = .ok (.aload_n 0, 1) := by decide +kernel
theorem dX8_nearest_30 : decode cX8_nearest 30 = .ok (.ldc 106, 2) := by decide +kernel
theorem dX8_nearest_32 : decode cX8_nearest 32 = .ok (.invokevirtual 60, 3) := by decide +kernel
theorem dX8_nearest_35 : decode cX8_nearest 35 = .ok (.goto 4, 3) := by decide +kernel
theorem dX8_nearest_38 : decode cX8_nearest 38 = .ok (.iload_n 2, 1) := by decide +kernel
theorem dX8_nearest_39 : decode cX8_nearest 39 = .ok (.ireturn, 1) := by decide +kernel
theorem dX8_source_0 : decode cX8_source 0 = .ok (.aload_n 0, 1) := by decide +kernel
theorem dX8_source_1 : decode cX8_source 1 = .ok (.getfield 10, 3) := by decide +kernel
theorem dX8_source_4 : decode cX8_source 4 = .ok (.iload_n 1, 1) := by decide +kernel
theorem dX8_source_5 : decode cX8_source 5 = .ok (.invokevirtual 76, 3) := by decide +kernel
theorem dX8_source_8 : decode cX8_source 8 = .ok (.ifCond .ne 10, 3) := by decide +kernel
theorem dX8_source_11 : decode cX8_source 11 = .ok (.aload_n 0, 1) := by decide +kernel
theorem dX8_source_12 : decode cX8_source 12 = .ok (.ldc 59, 2) := by decide +kernel
theorem dX8_source_14 : decode cX8_source 14 = .ok (.invokevirtual 60, 3) := by decide +kernel
theorem dX8_source_17 : decode cX8_source 17 = .ok (.ireturn, 1) := by decide +kernel
theorem dX8_source_18 : decode cX8_source 18 = .ok (.aload_n 0, 1) := by decide +kernel
theorem dX8_source_19 : decode cX8_source 19 = .ok (.iload_n 1, 1) := by decide +kernel
theorem dX8_source_20 : decode cX8_source 20 = .ok (.invokevirtual 218, 3) := by decide +kernel
theorem dX8_source_23 : decode cX8_source 23 = .ok (.istore_n 2, 1) := by decide +kernel
theorem dX8_source_24 : decode cX8_source 24 = .ok (.iload_n 2, 1) := by decide +kernel
theorem dX8_source_25 : decode cX8_source 25 = .ok (.ifCond .ge 12, 3) := by decide +kernel
theorem dX8_source_28 : decode cX8_source 28 = .ok (.aload_n 0, 1) := by decide +kernel
theorem dX8_source_29 : decode cX8_source 29 = .ok (.ldc 106, 2) := by decide +kernel
theorem dX8_source_31 : decode cX8_source 31 = .ok (.invokevirtual 60, 3) := by decide +kernel
theorem dX8_source_34 : decode cX8_source 34 = .ok (.goto 4, 3) := by decide +kernel
theorem dX8_source_37 : decode cX8_source 37 = .ok (.iload_n 2, 1) := by decide +kernel
theorem dX8_source_38 : decode cX8_source 38 = .ok (.ireturn, 1) := by decide +kernel
theorem dX8_first_0 : decode cX8_first 0 = .ok (.aload_n 0, 1) := by decide +kernel
theorem dX8_first_1 : decode cX8_first 1 = .ok (.getfield 10, 3) := by decide +kernel
theorem dX8_first_4 : decode cX8_first 4 = .ok (.iload_n 1, 1) := by decide +kernel
theorem dX8_first_5 : decode cX8_first 5 = .ok (.invokevirtual 76, 3) := by decide +kernel
theorem dX8_first_8 : decode cX8_first 8 = .ok (.ifCond .ne 10, 3) := by decide +kernel
theorem dX8_first_11 : decode cX8_first 11 = .ok (.aload_n 0, 1) := by decide +kernel
theorem dX8_first_12 : decode cX8_first 12 = .ok (.ldc 59, 2) := by decide +kernel
theorem dX8_first_14 : decode cX8_first 14 = .ok (.invokevirtual 60, 3) := by decide +kernel
theorem dX8_first_17 : decode cX8_first 17 = .ok (.ireturn, 1) := by decide +kernel
theorem dX8_first_18 : decode cX8_first 18 = .ok (.iload_n 1, 1) := by decide +kernel
theorem dX8_first_19 : decode cX8_first 19 = .ok (.istore_n 2, 1) := by decide +kernel
theorem dX8_first_20 : decode cX8_first 20 = .ok (.iconst 0, 1) := by decide +kernel
theorem dX8_first_21 : decode cX8_first 21 = .ok (.istore_n 3, 1) := by decide +kernel
theorem dX8_first_22 : decode cX8_first 22 = .ok (.iload_n 3, 1) := by decide +kernel
theorem dX8_first_23 : decode cX8_first 23 = .ok (.aload_n 0, 1) := by decide +kernel
theorem dX8_first_24 : decode cX8_first 24 = .ok (.getfield 10, 3) := by decide +kernel
theorem dX8_first_27 : decode cX8_first 27 = .ok (.getfield 64, 3) := by decide +kernel
theorem dX8_first_30 : decode cX8_first 30 = .ok (.if_icmp .ge 26, 3) := by decide +kernel
theorem dX8_first_33 : decode cX8_first 33 = .ok (.aload_n 0, 1) := by decide +kernel
theorem dX8_first_34 : decode cX8_first 34 = .ok (.iload_n 2, 1) := by decide +kernel
theorem dX8_first_35 : decode cX8_first 35 = .ok (.invokevirtual 218, 3) := by decide +kernel
theorem dX8_first_38 : decode cX8_first 38 = .ok (.istore 4, 2) := by decide +kernel
theorem dX8_first_40 : decode cX8_first 40 = .ok (.iload 4, 2) := by decide +kernel
theorem dX8_first_42 : decode cX8_first 42 = .ok (.ifCond .ge 5, 3) := by decide +kernel
theorem dX8_first_45 : decode cX8_first 45 = .ok (.iload_n 2, 1) := by decide +kernel
theorem dX8_first_46 : decode cX8_first 46 = .ok (.ireturn, 1) := by decide +kernel
theorem dX8_first_47 : decode cX8_first 47 = .ok (.iload 4, 2) := by decide +kernel
theorem dX8_first_49 : decode cX8_first 49 = .ok (.istore_n 2, 1) := by decide +kernel
theorem dX8_first_50 : decode cX8_first 50 = .ok (.iinc 3 1, 3) := by decide +kernel
theorem dX8_first_53 : decode cX8_first 53 = .ok (.goto (-31), 3) := by decide +kernel
theorem dX8_first_56 : decode cX8_first 56 = .ok (.aload_n 0, 1) := by decide +kernel
theorem dX8_first_57 : decode cX8_first 57 = .ok (.ldc 138, 2) := by decide +kernel
theorem dX8_first_59 : decode cX8_first 59 = .ok (.invokevirtual 60, 3) := by decide +kernel
theorem dX8_first_62 : decode cX8_first 62 = .ok (.ireturn, 1) := by decide +kernel
theorem dX8_borrowed_0 : decode cX8_borrowed 0 = .ok (.aload_n 0, 1) := by decide +kernel
theorem dX8_borrowed_1 : decode cX8_borrowed 1 = .ok (.getfield 10, 3) := by decide +kernel
theorem dX8_borrowed_4 : decode cX8_borrowed 4 = .ok (.iload_n 1, 1) := by decide +kernel
theorem dX8_borrowed_5 : decode cX8_borrowed 5 = .ok (.invokevirtual 76, 3) := by decide +kernel
theorem dX8_borrowed_8 : decode cX8_borrowed 8 = .ok (.ifCond .eq 22, 3) := by decide +kernel
theorem dX8_borrowed_11 : decode cX8_borrowed 11 = .ok (.aload_n 0, 1) := by decide +kernel
theorem dX8_borrowed_12 : decode cX8_borrowed 12 = .ok (.getfield 10, 3) := by decide +kernel
theorem dX8_borrowed_15 : decode cX8_borrowed 15 = .ok (.iload_n 2, 1) := by decide +kernel
theorem dX8_borrowed_16 : decode cX8_borrowed 16 = .ok (.invokevirtual 76, 3) := by decide +kernel
theorem dX8_borrowed_19 : decode cX8_borrowed 19 = .ok (.ifCond .eq 11, 3) := by decide +kernel
theorem dX8_borrowed_22 : decode cX8_borrowed 22 = .ok (.iload_n 3, 1) := by decide +kernel
theorem dX8_borrowed_23 : decode cX8_borrowed 23 = .ok (.iconst 3, 1) := by decide +kernel
theorem dX8_borrowed_24 : decode cX8_borrowed 24 = .ok (.invokestatic 55, 3) := by decide +kernel
theorem dX8_borrowed_27 : decode cX8_borrowed 27 = .ok (.ifCond .ne 10, 3) := by decide +kernel
theorem dX8_borrowed_30 : decode cX8_borrowed 30 = .ok (.aload_n 0, 1) := by decide +kernel
theorem dX8_borrowed_31 : decode cX8_borrowed 31 = .ok (.ldc 59, 2) := by decide +kernel
theorem dX8_borrowed_33 : decode cX8_borrowed 33 = .ok (.invokevirtual 60, 3) := by decide +kernel
theorem dX8_borrowed_36 : decode cX8_borrowed 36 = .ok (.ireturn, 1) := by decide +kernel
theorem dX8_borrowed_37 : decode cX8_borrowed 37 = .ok (.aload_n 0, 1) := by decide +kernel
theorem dX8_borrowed_38 : decode cX8_borrowed 38 = .ok (.getfield 40, 3) := by decide +kernel
theorem dX8_borrowed_41 : decode cX8_borrowed 41 = .ok (.aload_n 0, 1) := by decide +kernel
theorem dX8_borrowed_42 : decode cX8_borrowed 42 = .ok (.getfield 10, 3) := by decide +kernel
theorem dX8_borrowed_45 : decode cX8_borrowed 45 = .ok (.iload_n 1, 1) := by decide +kernel
theorem dX8_borrowed_46 : decode cX8_borrowed 46 = .ok (.iload_n 2, 1) := by decide +kernel
theorem dX8_borrowed_47 : decode cX8_borrowed 47 = .ok (.invokevirtual 221, 3) := by decide +kernel
theorem dX8_borrowed_50 : decode cX8_borrowed 50 = .ok (.iload_n 3, 1) := by decide +kernel
theorem dX8_borrowed_51 : decode cX8_borrowed 51 = .ok (.ifCond .ne 11, 3) := by decide +kernel
theorem dX8_borrowed_54 : decode cX8_borrowed 54 = .ok (.aload_n 0, 1) := by decide +kernel
theorem dX8_borrowed_55 : decode cX8_borrowed 55 = .ok (.getfield 40, 3) := by decide +kernel
theorem dX8_borrowed_58 : decode cX8_borrowed 58 = .ok (.getfield 225, 3) := by decide +kernel
theorem dX8_borrowed_61 : decode cX8_borrowed 61 = .ok (.ireturn, 1) := by decide +kernel
theorem dX8_borrowed_62 : decode cX8_borrowed 62 = .ok (.aload_n 0, 1) := by decide +kernel
theorem dX8_borrowed_63 : decode cX8_borrowed 63 = .ok (.getfield 40, 3) := by decide +kernel
theorem dX8_borrowed_66 : decode cX8_borrowed 66 = .ok (.getfield 225, 3) := by decide +kernel
theorem dX8_borrowed_69 : decode cX8_borrowed 69 = .ok (.ifCond .ne 10, 3) := by decide +kernel
theorem dX8_borrowed_72 : decode cX8_borrowed 72 = .ok (.aload_n 0, 1) := by decide +kernel
theorem dX8_borrowed_73 : decode cX8_borrowed 73 = .ok (.ldc 106, 2) := by decide +kernel
theorem dX8_borrowed_75 : decode cX8_borrowed 75 = .ok (.invokevirtual 60, 3) := by decide +kernel
theorem dX8_borrowed_78 : decode cX8_borrowed 78 = .ok (.ireturn, 1) := by decide +kernel
theorem dX8_borrowed_79 : decode cX8_borrowed 79 = .ok (.iload_n 3, 1) := by decide +kernel
theorem dX8_borrowed_80 : decode cX8_borrowed 80 = .ok (.iconst 1, 1) := by decide +kernel
theorem dX8_borrowed_81 : decode cX8_borrowed 81 = .ok (.if_icmp .ne 13, 3) := by decide +kernel
theorem dX8_borrowed_84 : decode cX8_borrowed 84 = .ok (.aload_n 0, 1) := by decide +kernel
theorem dX8_borrowed_85 : decode cX8_borrowed 85 = .ok (.getfield 40, 3) := by decide +kernel
theorem dX8_borrowed_88 : decode cX8_borrowed 88 = .ok (.getfield 228, 3) := by decide +kernel
theorem dX8_borrowed_91 : decode cX8_borrowed 91 = .ok (.goto 10, 3) := by decide +kernel
theorem dX8_borrowed_94 : decode cX8_borrowed 94 = .ok (.aload_n 0, 1) := by decide +kernel
