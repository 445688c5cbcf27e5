theorem dX8_borrowed_95 : decode cX8_borrowed 95 = .ok (.getfield 40, 3) := by decide +kernel
theorem dX8_borrowed_98 : decode cX8_borrowed 98 = .ok (.getfield 231, 3) := by decide +kernel
theorem dX8_borrowed_101 : decode cX8_borrowed 101 = .ok (.ireturn, 1) := by decide +kernel
theorem dX8_joined_0 : decode cX8_joined 0 = .ok (.aload_n 0, 1) := by decide +kernel
theorem dX8_joined_1 : decode cX8_joined 1 = .ok (.getfield 10, 3) := by decide +kernel
theorem dX8_joined_4 : decode cX8_joined 4 = .ok (.iload_n 1, 1) := by decide +kernel
theorem dX8_joined_5 : decode cX8_joined 5 = .ok (.invokevirtual 76, 3) := by decide +kernel
theorem dX8_joined_8 : decode cX8_joined 8 = .ok (.ifCond .eq 25, 3) := by decide +kernel
theorem dX8_joined_11 : decode cX8_joined 11 = .ok (.aload_n 0, 1) := by decide +kernel
theorem dX8_joined_12 : decode cX8_joined 12 = .ok (.getfield 10, 3) := by decide +kernel
theorem dX8_joined_15 : decode cX8_joined 15 = .ok (.iload_n 2, 1) := by decide +kernel
theorem dX8_joined_16 : decode cX8_joined 16 = .ok (.invokevirtual 76, 3) := by decide +kernel
theorem dX8_joined_19 : decode cX8_joined 19 = .ok (.ifCond .eq 14, 3) := by decide +kernel
theorem dX8_joined_22 : decode cX8_joined 22 = .ok (.aload_n 0, 1) := by decide +kernel
theorem dX8_joined_23 : decode cX8_joined 23 = .ok (.getfield 10, 3) := by decide +kernel
theorem dX8_joined_26 : decode cX8_joined 26 = .ok (.iload_n 3, 1) := by decide +kernel
theorem dX8_joined_27 : decode cX8_joined 27 = .ok (.invokevirtual 76, 3) := by decide +kernel
theorem dX8_joined_30 : decode cX8_joined 30 = .ok (.ifCond .ne 10, 3) := by decide +kernel
theorem dX8_joined_33 : decode cX8_joined 33 = .ok (.aload_n 0, 1) := by decide +kernel
theorem dX8_joined_34 : decode cX8_joined 34 = .ok (.ldc 59, 2) := by decide +kernel
theorem dX8_joined_36 : decode cX8_joined 36 = .ok (.invokevirtual 60, 3) := by decide +kernel
theorem dX8_joined_39 : decode cX8_joined 39 = .ok (.ireturn, 1) := by decide +kernel
theorem dX8_joined_40 : decode cX8_joined 40 = .ok (.aload_n 0, 1) := by decide +kernel
theorem dX8_joined_41 : decode cX8_joined 41 = .ok (.getfield 10, 3) := by decide +kernel
theorem dX8_joined_44 : decode cX8_joined 44 = .ok (.getfield 92, 3) := by decide +kernel
theorem dX8_joined_47 : decode cX8_joined 47 = .ok (.iload_n 1, 1) := by decide +kernel
theorem dX8_joined_48 : decode cX8_joined 48 = .ok (.iaload, 1) := by decide +kernel
theorem dX8_joined_49 : decode cX8_joined 49 = .ok (.istore 5, 2) := by decide +kernel
theorem dX8_joined_51 : decode cX8_joined 51 = .ok (.iconst 0, 1) := by decide +kernel
theorem dX8_joined_52 : decode cX8_joined 52 = .ok (.istore 6, 2) := by decide +kernel
theorem dX8_joined_54 : decode cX8_joined 54 = .ok (.iconst 0, 1) := by decide +kernel
theorem dX8_joined_55 : decode cX8_joined 55 = .ok (.istore 7, 2) := by decide +kernel
theorem dX8_joined_57 : decode cX8_joined 57 = .ok (.iconst 0, 1) := by decide +kernel
theorem dX8_joined_58 : decode cX8_joined 58 = .ok (.istore 8, 2) := by decide +kernel
theorem dX8_joined_60 : decode cX8_joined 60 = .ok (.iload 8, 2) := by decide +kernel
theorem dX8_joined_62 : decode cX8_joined 62 = .ok (.iload 5, 2) := by decide +kernel
theorem dX8_joined_64 : decode cX8_joined 64 = .ok (.if_icmp .gt 68, 3) := by decide +kernel
theorem dX8_joined_67 : decode cX8_joined 67 = .ok (.aload_n 0, 1) := by decide +kernel
theorem dX8_joined_68 : decode cX8_joined 68 = .ok (.getfield 26, 3) := by decide +kernel
theorem dX8_joined_71 : decode cX8_joined 71 = .ok (.aload_n 0, 1) := by decide +kernel
theorem dX8_joined_72 : decode cX8_joined 72 = .ok (.getfield 10, 3) := by decide +kernel
theorem dX8_joined_75 : decode cX8_joined 75 = .ok (.iload_n 1, 1) := by decide +kernel
theorem dX8_joined_76 : decode cX8_joined 76 = .ok (.iconst 0, 1) := by decide +kernel
theorem dX8_joined_77 : decode cX8_joined 77 = .ok (.iload 8, 2) := by decide +kernel
theorem dX8_joined_79 : decode cX8_joined 79 = .ok (.iload_n 2, 1) := by decide +kernel
theorem dX8_joined_80 : decode cX8_joined 80 = .ok (.invokevirtual 234, 3) := by decide +kernel
theorem dX8_joined_83 : decode cX8_joined 83 = .ok (.aload_n 0, 1) := by decide +kernel
theorem dX8_joined_84 : decode cX8_joined 84 = .ok (.getfield 26, 3) := by decide +kernel
theorem dX8_joined_87 : decode cX8_joined 87 = .ok (.aload_n 0, 1) := by decide +kernel
theorem dX8_joined_88 : decode cX8_joined 88 = .ok (.getfield 10, 3) := by decide +kernel
theorem dX8_joined_91 : decode cX8_joined 91 = .ok (.iload_n 1, 1) := by decide +kernel
theorem dX8_joined_92 : decode cX8_joined 92 = .ok (.iload 8, 2) := by decide +kernel
theorem dX8_joined_94 : decode cX8_joined 94 = .ok (.iload 5, 2) := by decide +kernel
theorem dX8_joined_96 : decode cX8_joined 96 = .ok (.iload 8, 2) := by decide +kernel
theorem dX8_joined_98 : decode cX8_joined 98 = .ok (.isub, 1) := by decide +kernel
theorem dX8_joined_99 : decode cX8_joined 99 = .ok (.iload_n 3, 1) := by decide +kernel
theorem dX8_joined_100 : decode cX8_joined 100 = .ok (.invokevirtual 234, 3) := by decide +kernel
theorem dX8_joined_103 : decode cX8_joined 103 = .ok (.iadd, 1) := by decide +kernel
theorem dX8_joined_104 : decode cX8_joined 104 = .ok (.istore 9, 2) := by decide +kernel
theorem dX8_joined_106 : decode cX8_joined 106 = .ok (.iload 8, 2) := by decide +kernel
theorem dX8_joined_108 : decode cX8_joined 108 = .ok (.ifCond .eq 10, 3) := by decide +kernel
theorem dX8_joined_111 : decode cX8_joined 111 = .ok (.iload 9, 2) := by decide +kernel
theorem dX8_joined_113 : decode cX8_joined 113 = .ok (.iload 7, 2) := by decide +kernel
theorem dX8_joined_115 : decode cX8_joined 115 = .ok (.if_icmp .ge 11, 3) := by decide +kernel
theorem dX8_joined_118 : decode cX8_joined 118 = .ok (.iload 8, 2) := by decide +kernel
theorem dX8_joined_120 : decode cX8_joined 120 = .ok (.istore 6, 2) := by decide +kernel
theorem dX8_joined_122 : decode cX8_joined 122 = .ok (.iload 9, 2) := by decide +kernel
theorem dX8_joined_124 : decode cX8_joined 124 = .ok (.istore 7, 2) := by decide +kernel
theorem dX8_joined_126 : decode cX8_joined 126 = .ok (.iinc 8 1, 3) := by decide +kernel
theorem dX8_joined_129 : decode cX8_joined 129 = .ok (.goto (-69), 3) := by decide +kernel
theorem dX8_joined_132 : decode cX8_joined 132 = .ok (.iload 4, 2) := by decide +kernel
theorem dX8_joined_134 : decode cX8_joined 134 = .ok (.ifCond .eq 8, 3) := by decide +kernel
theorem dX8_joined_137 : decode cX8_joined 137 = .ok (.iload 7, 2) := by decide +kernel
theorem dX8_joined_139 : decode cX8_joined 139 = .ok (.goto 5, 3) := by decide +kernel
theorem dX8_joined_142 : decode cX8_joined 142 = .ok (.iload 6, 2) := by decide +kernel
theorem dX8_joined_144 : decode cX8_joined 144 = .ok (.ireturn, 1) := by decide +kernel
theorem dX8_count_0 : decode cX8_count 0 = .ok (.iload_n 1, 1) := by decide +kernel
theorem dX8_count_1 : decode cX8_count 1 = .ok (.bipush 16, 2) := by decide +kernel
theorem dX8_count_3 : decode cX8_count 3 = .ok (.invokestatic 55, 3) := by decide +kernel
theorem dX8_count_6 : decode cX8_count 6 = .ok (.ifCond .eq 17, 3) := by decide +kernel
theorem dX8_count_9 : decode cX8_count 9 = .ok (.iload_n 2, 1) := by decide +kernel
theorem dX8_count_10 : decode cX8_count 10 = .ok (.iconst (-1), 1) := by decide +kernel
theorem dX8_count_11 : decode cX8_count 11 = .ok (.if_icmp .eq 19, 3) := by decide +kernel
theorem dX8_count_14 : decode cX8_count 14 = .ok (.iload_n 2, 1) := by decide +kernel
theorem dX8_count_15 : decode cX8_count 15 = .ok (.bipush 6, 2) := by decide +kernel
theorem dX8_count_17 : decode cX8_count 17 = .ok (.invokestatic 55, 3) := by decide +kernel
theorem dX8_count_20 : decode cX8_count 20 = .ok (.ifCond .ne 10, 3) := by decide +kernel
theorem dX8_count_23 : decode cX8_count 23 = .ok (.aload_n 0, 1) := by decide +kernel
theorem dX8_count_24 : decode cX8_count 24 = .ok (.ldc 59, 2) := by decide +kernel
theorem dX8_count_26 : decode cX8_count 26 = .ok (.invokevirtual 60, 3) := by decide +kernel
theorem dX8_count_29 : decode cX8_count 29 = .ok (.ireturn, 1) := by decide +kernel
theorem dX8_count_30 : decode cX8_count 30 = .ok (.aload_n 0, 1) := by decide +kernel
theorem dX8_count_31 : decode cX8_count 31 = .ok (.getfield 10, 3) := by decide +kernel
theorem dX8_count_34 : decode cX8_count 34 = .ok (.iload_n 1, 1) := by decide +kernel
theorem dX8_count_35 : decode cX8_count 35 = .ok (.iload_n 2, 1) := by decide +kernel
theorem dX8_count_36 : decode cX8_count 36 = .ok (.invokevirtual 238, 3) := by decide +kernel
theorem dX8_count_39 : decode cX8_count 39 = .ok (.istore 4, 2) := by decide +kernel
theorem dX8_count_41 : decode cX8_count 41 = .ok (.iload_n 3, 1) := by decide +kernel
theorem dX8_count_42 : decode cX8_count 42 = .ok (.ifCond .eq 17, 3) := by decide +kernel
theorem dX8_count_45 : decode cX8_count 45 = .ok (.iload 4, 2) := by decide +kernel
theorem dX8_count_47 : decode cX8_count 47 = .ok (.aload_n 0, 1) := by decide +kernel
theorem dX8_count_48 : decode cX8_count 48 = .ok (.getfield 10, 3) := by decide +kernel
theorem dX8_count_51 : decode cX8_count 51 = .ok (.iload_n 2, 1) := by decide +kernel
theorem dX8_count_52 : decode cX8_count 52 = .ok (.invokevirtual 241, 3) := by decide +kernel
theorem dX8_count_55 : decode cX8_count 55 = .ok (.iadd, 1) := by decide +kernel
theorem dX8_count_56 : decode cX8_count 56 = .ok (.goto 5, 3) := by decide +kernel
theorem dX8_count_59 : decode cX8_count 59 = .ok (.iload 4, 2) := by decide +kernel
theorem dX8_count_61 : decode cX8_count 61 = .ok (.ireturn, 1) := by decide +kernel
theorem dX8_home_0 : decode cX8_home 0 = .ok (.iload_n 1, 1) := by decide +kernel
theorem dX8_home_1 : decode cX8_home 1 = .ok (.bipush 16, 2) := by decide +kernel
theorem dX8_home_3 : decode cX8_home 3 = .ok (.invokestatic 55, 3) := by decide +kernel
theorem dX8_home_6 : decode cX8_home 6 = .ok (.ifCond .ne 10, 3) := by decide +kernel
theorem dX8_home_9 : decode cX8_home 9 = .ok (.aload_n 0, 1) := by decide +kernel
theorem dX8_home_10 : decode cX8_home 10 = .ok (.ldc 59, 2) := by decide +kernel
theorem dX8_home_12 : decode cX8_home 12 = .ok (.invokevirtual 60, 3) := by decide +kernel
theorem dX8_home_15 : decode cX8_home 15 = .ok (.ireturn, 1) := by decide +kernel
theorem dX8_home_16 : decode cX8_home 16 = .ok (.iconst (-1), 1) := by decide +kernel
theorem dX8_home_17 : decode cX8_home 17 = .ok (.istore_n 2, 1) := by decide +kernel
theorem dX8_home_18 : decode cX8_home 18 = .ok (.iconst 0, 1) := by decide +kernel
theorem dX8_home_19 : decode cX8_home 19 = .ok (.istore_n 3, 1) := by decide +kernel
theorem dX8_home_20 : decode cX8_home 20 = .ok (.iconst 0, 1) := by decide +kernel
theorem dX8_home_21 : decode cX8_home 21 = .ok (.istore 4, 2) := by decide +kernel
theorem dX8_home_23 : decode cX8_home 23 = .ok (.iload 4, 2) := by decide +kernel
theorem dX8_home_25 : decode cX8_home 25 = .ok (.bipush 6, 2) := by decide +kernel
theorem dX8_home_27 : decode cX8_home 27 = .ok (.if_icmp .ge 33, 3) := by decide +kernel
theorem dX8_home_30 : decode cX8_home 30 = .ok (.aload_n 0, 1) := by decide +kernel
theorem dX8_home_31 : decode cX8_home 31 = .ok (.getfield 10, 3) := by decide +kernel
theorem dX8_home_34 : decode cX8_home 34 = .ok (.iload_n 1, 1) := by decide +kernel
theorem dX8_home_35 : decode cX8_home 35 = .ok (.iload 4, 2) := by decide +kernel
theorem dX8_home_37 : decode cX8_home 37 = .ok (.invokevirtual 238, 3) := by decide +kernel
theorem dX8_home_40 : decode cX8_home 40 = .ok (.istore 5, 2) := by decide +kernel
theorem dX8_home_42 : decode cX8_home 42 = .ok (.iload 5, 2) := by decide +kernel
theorem dX8_home_44 : decode cX8_home 44 = .ok (.iload_n 3, 1) := by decide +kernel
theorem dX8_home_45 : decode cX8_home 45 = .ok (.if_icmp .le 9, 3) := by decide +kernel
theorem dX8_home_48 : decode cX8_home 48 = .ok (.iload 4, 2) := by decide +kernel
theorem dX8_home_50 : decode cX8_home 50 = .ok (.istore_n 2, 1) := by decide +kernel
theorem dX8_home_51 : decode cX8_home 51 = .ok (.iload 5, 2) := by decide +kernel
theorem dX8_home_53 : decode cX8_home 53 = .ok (.istore_n 3, 1) := by decide +kernel
theorem dX8_home_54 : decode cX8_home 54 = .ok (.iinc 4 1, 3) := by decide +kernel
theorem dX8_home_57 : decode cX8_home 57 = .ok (.goto (-34), 3) := by decide +kernel
theorem dX8_home_60 : decode cX8_home 60 = .ok (.iload_n 2, 1) := by decide +kernel
theorem dX8_home_61 : decode cX8_home 61 = .ok (.ifCond .ge 12, 3) := by decide +kernel
theorem dX8_home_64 : decode cX8_home 64 = .ok (.aload_n 0, 1) := by decide +kernel
theorem dX8_home_65 : decode cX8_home 65 = .ok (.ldc 106, 2) := by decide +kernel
theorem dX8_home_67 : decode cX8_home 67 = .ok (.invokevirtual 60, 3) := by decide +kernel
theorem dX8_home_70 : decode cX8_home 70 = .ok (.goto 4, 3) := by decide +kernel
theorem dX8_home_73 : decode cX8_home 73 = .ok (.iload_n 2, 1) := by decide +kernel
theorem dX8_home_74 : decode cX8_home 74 = .ok (.ireturn, 1) := by decide +kernel
theorem dX8_sheet_0 : decode cX8_sheet 0 = .ok (.iload_n 1, 1) := by decide +kernel
theorem dX8_sheet_1 : decode cX8_sheet 1 = .ok (.iconst 4, 1) := by decide +kernel
theorem dX8_sheet_2 : decode cX8_sheet 2 = .ok (.invokestatic 55, 3) := by decide +kernel
theorem dX8_sheet_5 : decode cX8_sheet 5 = .ok (.ifCond .eq 25, 3) := by decide +kernel
theorem dX8_sheet_8 : decode cX8_sheet 8 = .ok (.iload_n 2, 1) := by decide +kernel
theorem dX8_sheet_9 : decode cX8_sheet 9 = .ok (.ifCond .eq 28, 3) := by decide +kernel
theorem dX8_sheet_12 : decode cX8_sheet 12 = .ok (.iload_n 2, 1) := by decide +kernel
theorem dX8_sheet_13 : decode cX8_sheet 13 = .ok (.bipush 8, 2) := by decide +kernel
theorem dX8_sheet_15 : decode cX8_sheet 15 = .ok (.if_icmp .eq 22, 3) := by decide +kernel
theorem dX8_sheet_18 : decode cX8_sheet 18 = .ok (.iload_n 2, 1) := by decide +kernel
theorem dX8_sheet_19 : decode cX8_sheet 19 = .ok (.bipush 16, 2) := by decide +kernel
theorem dX8_sheet_21 : decode cX8_sheet 21 = .ok (.if_icmp .eq 16, 3) := by decide +kernel
theorem dX8_sheet_24 : decode cX8_sheet 24 = .ok (.iload_n 2, 1) := by decide +kernel
theorem dX8_sheet_25 : decode cX8_sheet 25 = .ok (.bipush 32, 2) := by decide +kernel
theorem dX8_sheet_27 : decode cX8_sheet 27 = .ok (.if_icmp .eq 10, 3) := by decide +kernel
theorem dX8_sheet_30 : decode cX8_sheet 30 = .ok (.aload_n 0, 1) := by decide +kernel
theorem dX8_sheet_31 : decode cX8_sheet 31 = .ok (.ldc 59, 2) := by decide +kernel
theorem dX8_sheet_33 : decode cX8_sheet 33 = .ok (.invokevirtual 60, 3) := by decide +kernel
theorem dX8_sheet_36 : decode cX8_sheet 36 = .ok (.ireturn, 1) := by decide +kernel
theorem dX8_sheet_37 : decode cX8_sheet 37 = .ok (.iload_n 3, 1) := by decide +kernel
theorem dX8_sheet_38 : decode cX8_sheet 38 = .ok (.ifCond .ge 10, 3) := by decide +kernel
theorem dX8_sheet_41 : decode cX8_sheet 41 = .ok (.aload_n 0, 1) := by decide +kernel
theorem dX8_sheet_42 : decode cX8_sheet 42 = .ok (.ldc 148, 2) := by decide +kernel
theorem dX8_sheet_44 : decode cX8_sheet 44 = .ok (.invokevirtual 60, 3) := by decide +kernel
theorem dX8_sheet_47 : decode cX8_sheet 47 = .ok (.ireturn, 1) := by decide +kernel
theorem dX8_sheet_48 : decode cX8_sheet 48 = .ok (.iload_n 3, 1) := by decide +kernel
theorem dX8_sheet_49 : decode cX8_sheet 49 = .ok (.bipush 30, 2) := by decide +kernel
theorem dX8_sheet_51 : decode cX8_sheet 51 = .ok (.if_icmp .le 10, 3) := by decide +kernel
theorem dX8_sheet_54 : decode cX8_sheet 54 = .ok (.aload_n 0, 1) := by decide +kernel
theorem dX8_sheet_55 : decode cX8_sheet 55 = .ok (.ldc 59, 2) := by decide +kernel
theorem dX8_sheet_57 : decode cX8_sheet 57 = .ok (.invokevirtual 60, 3) := by decide +kernel
theorem dX8_sheet_60 : decode cX8_sheet 60 = .ok (.ireturn, 1) := by decide +kernel
theorem dX8_sheet_61 : decode cX8_sheet 61 = .ok (.aload_n 0, 1) := by decide +kernel
theorem dX8_sheet_62 : decode cX8_sheet 62 = .ok (.getfield 46, 3) := by decide +kernel
theorem dX8_sheet_65 : decode cX8_sheet 65 = .ok (.iload_n 1, 1) := by decide +kernel
theorem dX8_sheet_66 : decode cX8_sheet 66 = .ok (.aaload, 1) := by decide +kernel
theorem dX8_sheet_67 : decode cX8_sheet 67 = .ok (.iload_n 2, 1) := by decide +kernel
theorem dX8_sheet_68 : decode cX8_sheet 68 = .ok (.iload_n 3, 1) := by decide +kernel
theorem dX8_sheet_69 : decode cX8_sheet 69 = .ok (.invokevirtual 244, 3) := by decide +kernel
theorem dX8_sheet_72 : decode cX8_sheet 72 = .ok (.aload_n 0, 1) := by decide +kernel
theorem dX8_sheet_73 : decode cX8_sheet 73 = .ok (.getfield 46, 3) := by decide +kernel
theorem dX8_sheet_76 : decode cX8_sheet 76 = .ok (.iload_n 1, 1) := by decide +kernel
theorem dX8_sheet_77 : decode cX8_sheet 77 = .ok (.aaload, 1) := by decide +kernel
theorem dX8_sheet_78 : decode cX8_sheet 78 = .ok (.getfield 247, 3) := by decide +kernel
theorem dX8_sheet_81 : decode cX8_sheet 81 = .ok (.ireturn, 1) := by decide +kernel
theorem dX8_put_0 : decode cX8_put 0 = .ok (.iload_n 1, 1) := by decide +kernel
theorem dX8_put_1 : decode cX8_put 1 = .ok (.iconst 4, 1) := by decide +kernel
theorem dX8_put_2 : decode cX8_put 2 = .ok (.invokestatic 55, 3) := by decide +kernel
theorem dX8_put_5 : decode cX8_put 5 = .ok (.ifCond .ne 10, 3) := by decide +kernel
theorem dX8_put_8 : decode cX8_put 8 = .ok (.aload_n 0, 1) := by decide +kernel
theorem dX8_put_9 : decode cX8_put 9 = .ok (.ldc 59, 2) := by decide +kernel
theorem dX8_put_11 : decode cX8_put 11 = .ok (.invokevirtual 60, 3) := by decide +kernel
theorem dX8_put_14 : decode cX8_put 14 = .ok (.ireturn, 1) := by decide +kernel
theorem dX8_put_15 : decode cX8_put 15 = .ok (.aload_n 0, 1) := by decide +kernel
theorem dX8_put_16 : decode cX8_put 16 = .ok (.getfield 46, 3) := by decide +kernel
theorem dX8_put_19 : decode cX8_put 19 = .ok (.iload_n 1, 1) := by decide +kernel
theorem dX8_put_20 : decode cX8_put 20 = .ok (.aaload, 1) := by decide +kernel
theorem dX8_put_21 : decode cX8_put 21 = .ok (.invokevirtual 248, 3) := by decide +kernel
theorem dX8_put_24 : decode cX8_put 24 = .ok (.ifCond .eq 10, 3) := by decide +kernel
theorem dX8_put_27 : decode cX8_put 27 = .ok (.aload_n 0, 1) := by decide +kernel
theorem dX8_put_28 : decode cX8_put 28 = .ok (.ldc 252, 2) := by decide +kernel
theorem dX8_put_30 : decode cX8_put 30 = .ok (.invokevirtual 60, 3) := by decide +kernel
theorem dX8_put_33 : decode cX8_put 33 = .ok (.ireturn, 1) := by decide +kernel
theorem dX8_put_34 : decode cX8_put 34 = .ok (.iload_n 2, 1) := by decide +kernel
theorem dX8_put_35 : decode cX8_put 35 = .ok (.aload_n 0, 1) := by decide +kernel
theorem dX8_put_36 : decode cX8_put 36 = .ok (.getfield 46, 3) := by decide +kernel
theorem dX8_put_39 : decode cX8_put 39 = .ok (.iload_n 1, 1) := by decide +kernel
theorem dX8_put_40 : decode cX8_put 40 = .ok (.aaload, 1) := by decide +kernel
theorem dX8_put_41 : decode cX8_put 41 = .ok (.getfield 247, 3) := by decide +kernel
theorem dX8_put_44 : decode cX8_put 44 = .ok (.invokestatic 55, 3) := by decide +kernel
theorem dX8_put_47 : decode cX8_put 47 = .ok (.ifCond .ne 10, 3) := by decide +kernel
theorem dX8_put_50 : decode cX8_put 50 = .ok (.aload_n 0, 1) := by decide +kernel
theorem dX8_put_51 : decode cX8_put 51 = .ok (.ldc 59, 2) := by decide +kernel
theorem dX8_put_53 : decode cX8_put 53 = .ok (.invokevirtual 60, 3) := by decide +kernel
theorem dX8_put_56 : decode cX8_put 56 = .ok (.ireturn, 1) := by decide +kernel
theorem dX8_put_57 : decode cX8_put 57 = .ok (.aload_n 0, 1) := by decide +kernel
theorem dX8_put_58 : decode cX8_put 58 = .ok (.getfield 46, 3) := by decide +kernel
theorem dX8_put_61 : decode cX8_put 61 = .ok (.iload_n 1, 1) := by decide +kernel
theorem dX8_put_62 : decode cX8_put 62 = .ok (.aaload, 1) := by decide +kernel
theorem dX8_put_63 : decode cX8_put 63 = .ok (.iload_n 2, 1) := by decide +kernel
theorem dX8_put_64 : decode cX8_put 64 = .ok (.iload_n 3, 1) := by decide +kernel
theorem dX8_put_65 : decode cX8_put 65 = .ok (.invokevirtual 253, 3) := by decide +kernel
theorem dX8_put_68 : decode cX8_put 68 = .ok (.iconst 0, 1) := by decide +kernel
theorem dX8_put_69 : decode cX8_put 69 = .ok (.ireturn, 1) := by decide +kernel
theorem dX8_copy_0 : decode cX8_copy 0 = .ok (.iload_n 1, 1) := by decide +kernel
theorem dX8_copy_1 : decode cX8_copy 1 = .ok (.iconst 4, 1) := by decide +kernel
theorem dX8_copy_2 : decode cX8_copy 2 = .ok (.invokestatic 55, 3) := by decide +kernel
theorem dX8_copy_5 : decode cX8_copy 5 = .ok (.ifCond .eq 11, 3) := by decide +kernel
theorem dX8_copy_8 : decode cX8_copy 8 = .ok (.iload_n 3, 1) := by decide +kernel
theorem dX8_copy_9 : decode cX8_copy 9 = .ok (.iconst 4, 1) := by decide +kernel
theorem dX8_copy_10 : decode cX8_copy 10 = .ok (.invokestatic 55, 3) := by decide +kernel
theorem dX8_copy_13 : decode cX8_copy 13 = .ok (.ifCond .ne 10, 3) := by decide +kernel
theorem dX8_copy_16 : decode cX8_copy 16 = .ok (.aload_n 0, 1) := by decide +kernel
theorem dX8_copy_17 : decode cX8_copy 17 = .ok (.ldc 59, 2) := by decide +kernel
theorem dX8_copy_19 : decode cX8_copy 19 = .ok (.invokevirtual 60, 3) := by decide +kernel
theorem dX8_copy_22 : decode cX8_copy 22 = .ok (.ireturn, 1) := by decide +kernel
theorem dX8_copy_23 : decode cX8_copy 23 = .ok (.aload_n 0, 1) := by decide +kernel
theorem dX8_copy_24 : decode cX8_copy 24 = .ok (.getfield 46, 3) := by decide +kernel
theorem dX8_copy_27 : decode cX8_copy 27 = .ok (.iload_n 1, 1) := by decide +kernel
theorem dX8_copy_28 : decode cX8_copy 28 = .ok (.aaload, 1) := by decide +kernel
theorem dX8_copy_29 : decode cX8_copy 29 = .ok (.invokevirtual 248, 3) := by decide +kernel
theorem dX8_copy_32 : decode cX8_copy 32 = .ok (.ifCond .ne 15, 3) := by decide +kernel
theorem dX8_copy_35 : decode cX8_copy 35 = .ok (.aload_n 0, 1) := by decide +kernel
theorem dX8_copy_36 : decode cX8_copy 36 = .ok (.getfield 46, 3) := by decide +kernel
theorem dX8_copy_39 : decode cX8_copy 39 = .ok (.iload_n 3, 1) := by decide +kernel
theorem dX8_copy_40 : decode cX8_copy 40 = .ok (.aaload, 1) := by decide +kernel
theorem dX8_copy_41 : decode cX8_copy 41 = .ok (.invokevirtual 248, 3) := by decide +kernel
theorem dX8_copy_44 : decode cX8_copy 44 = .ok (.ifCond .eq 10, 3) := by decide +kernel
theorem dX8_copy_47 : decode cX8_copy 47 = .ok (.aload_n 0, 1) := by decide +kernel
theorem dX8_copy_48 : decode cX8_copy 48 = .ok (.ldc 252, 2) := by decide +kernel
theorem dX8_copy_50 : decode cX8_copy 50 = .ok (.invokevirtual 60, 3) := by decide +kernel
theorem dX8_copy_53 : decode cX8_copy 53 = .ok (.ireturn, 1) := by decide +kernel
theorem dX8_copy_54 : decode cX8_copy 54 = .ok (.aload_n 0, 1) := by decide +kernel
theorem dX8_copy_55 : decode cX8_copy 55 = .ok (.getfield 46, 3) := by decide +kernel
theorem dX8_copy_58 : decode cX8_copy 58 = .ok (.iload_n 1, 1) := by decide +kernel
theorem dX8_copy_59 : decode cX8_copy 59 = .ok (.aaload, 1) := by decide +kernel
theorem dX8_copy_60 : decode cX8_copy 60 = .ok (.getfield 256, 3) := by decide +kernel
theorem dX8_copy_63 : decode cX8_copy 63 = .ok (.aload_n 0, 1) := by decide +kernel
theorem dX8_copy_64 : decode cX8_copy 64 = .ok (.getfield 46, 3) := by decide +kernel
theorem dX8_copy_67 : decode cX8_copy 67 = .ok (.iload_n 3, 1) := by decide +kernel
theorem dX8_copy_68 : decode cX8_copy 68 = .ok (.aaload, 1) := by decide +kernel
theorem dX8_copy_69 : decode cX8_copy 69 = .ok (.getfield 256, 3) := by decide +kernel
theorem dX8_copy_72 : decode cX8_copy 72 = .ok (.if_icmp .eq 10, 3) := by decide +kernel
theorem dX8_copy_75 : decode cX8_copy 75 = .ok (.aload_n 0, 1) := by decide +kernel
theorem dX8_copy_76 : decode cX8_copy 76 = .ok (.ldc 87, 2) := by decide +kernel
theorem dX8_copy_78 : decode cX8_copy 78 = .ok (.invokevirtual 60, 3) := by decide +kernel
theorem dX8_copy_81 : decode cX8_copy 81 = .ok (.ireturn, 1) := by decide +kernel
theorem dX8_copy_82 : decode cX8_copy 82 = .ok (.aload_n 0, 1) := by decide +kernel
theorem dX8_copy_83 : decode cX8_copy 83 = .ok (.getfield 46, 3) := by decide +kernel
theorem dX8_copy_86 : decode cX8_copy 86 = .ok (.iload_n 1, 1) := by decide +kernel
theorem dX8_copy_87 : decode cX8_copy 87 = .ok (.aaload, 1) := by decide +kernel
theorem dX8_copy_88 : decode cX8_copy 88 = .ok (.iload_n 2, 1) := by decide +kernel
theorem dX8_copy_89 : decode cX8_copy 89 = .ok (.iload 5, 2) := by decide +kernel
theorem dX8_copy_91 : decode cX8_copy 91 = .ok (.invokevirtual 259, 3) := by decide +kernel
theorem dX8_copy_94 : decode cX8_copy 94 = .ok (.ifCond .eq 19, 3) := by decide +kernel
theorem dX8_copy_97 : decode cX8_copy 97 = .ok (.aload_n 0, 1) := by decide +kernel
theorem dX8_copy_98 : decode cX8_copy 98 = .ok (.getfield 46, 3) := by decide +kernel
theorem dX8_copy_101 : decode cX8_copy 101 = .ok (.iload_n 3, 1) := by decide +kernel
theorem dX8_copy_102 : decode cX8_copy 102 = .ok (.aaload, 1) := by decide +kernel
theorem dX8_copy_103 : decode cX8_copy 103 = .ok (.iload 4, 2) := by decide +kernel
theorem dX8_copy_105 : decode cX8_copy 105 = .ok (.iload 5, 2) := by decide +kernel
theorem dX8_copy_107 : decode cX8_copy 107 = .ok (.invokevirtual 259, 3) := by decide +kernel
theorem dX8_copy_110 : decode cX8_copy 110 = .ok (.ifCond .ne 10, 3) := by decide +kernel
theorem dX8_copy_113 : decode cX8_copy 113 = .ok (.aload_n 0, 1) := by decide +kernel
theorem dX8_copy_114 : decode cX8_copy 114 = .ok (.ldc 59, 2) := by decide +kernel
theorem dX8_copy_116 : decode cX8_copy 116 = .ok (.invokevirtual 60, 3) := by decide +kernel
theorem dX8_copy_119 : decode cX8_copy 119 = .ok (.ireturn, 1) := by decide +kernel
theorem dX8_copy_120 : decode cX8_copy 120 = .ok (.aload_n 0, 1) := by decide +kernel
theorem dX8_copy_121 : decode cX8_copy 121 = .ok (.getfield 46, 3) := by decide +kernel
theorem dX8_copy_124 : decode cX8_copy 124 = .ok (.iload_n 1, 1) := by decide +kernel
theorem dX8_copy_125 : decode cX8_copy 125 = .ok (.aaload, 1) := by decide +kernel
theorem dX8_copy_126 : decode cX8_copy 126 = .ok (.getfield 262, 3) := by decide +kernel
theorem dX8_copy_129 : decode cX8_copy 129 = .ok (.iload_n 2, 1) := by decide +kernel
theorem dX8_copy_130 : decode cX8_copy 130 = .ok (.aload_n 0, 1) := by decide +kernel
theorem dX8_copy_131 : decode cX8_copy 131 = .ok (.getfield 46, 3) := by decide +kernel
theorem dX8_copy_134 : decode cX8_copy 134 = .ok (.iload_n 3, 1) := by decide +kernel
theorem dX8_copy_135 : decode cX8_copy 135 = .ok (.aaload, 1) := by decide +kernel
theorem dX8_copy_136 : decode cX8_copy 136 = .ok (.getfield 262, 3) := by decide +kernel
theorem dX8_copy_139 : decode cX8_copy 139 = .ok (.iload 4, 2) := by decide +kernel
theorem dX8_copy_141 : decode cX8_copy 141 = .ok (.iload 5, 2) := by decide +kernel
theorem dX8_copy_143 : decode cX8_copy 143 = .ok (.invokestatic 265, 3) := by decide +kernel
theorem dX8_copy_146 : decode cX8_copy 146 = .ok (.iload 5, 2) := by decide +kernel
theorem dX8_copy_148 : decode cX8_copy 148 = .ok (.ireturn, 1) := by decide +kernel
theorem dX8_lay_0 : decode cX8_lay 0 = .ok (.aload_n 0, 1) := by decide +kernel
theorem dX8_lay_1 : decode cX8_lay 1 = .ok (.getfield 10, 3) := by decide +kernel
theorem dX8_lay_4 : decode cX8_lay 4 = .ok (.iload_n 1, 1) := by decide +kernel
theorem dX8_lay_5 : decode cX8_lay 5 = .ok (.invokevirtual 76, 3) := by decide +kernel
theorem dX8_lay_8 : decode cX8_lay 8 = .ok (.ifCond .eq 11, 3) := by decide +kernel
theorem dX8_lay_11 : decode cX8_lay 11 = .ok (.iload_n 2, 1) := by decide +kernel
theorem dX8_lay_12 : decode cX8_lay 12 = .ok (.iconst 4, 1) := by decide +kernel
theorem dX8_lay_13 : decode cX8_lay 13 = .ok (.invokestatic 55, 3) := by decide +kernel
theorem dX8_lay_16 : decode cX8_lay 16 = .ok (.ifCond .ne 10, 3) := by decide +kernel
theorem dX8_lay_19 : decode cX8_lay 19 = .ok (.aload_n 0, 1) := by decide +kernel
theorem dX8_lay_20 : decode cX8_lay 20 = .ok (.ldc 59, 2) := by decide +kernel
theorem dX8_lay_22 : decode cX8_lay 22 = .ok (.invokevirtual 60, 3) := by decide +kernel
theorem dX8_lay_25 : decode cX8_lay 25 = .ok (.ireturn, 1) := by decide +kernel
theorem dX8_lay_26 : decode cX8_lay 26 = .ok (.aload_n 0, 1) := by decide +kernel
theorem dX8_lay_27 : decode cX8_lay 27 = .ok (.getfield 46, 3) := by decide +kernel
theorem dX8_lay_30 : decode cX8_lay 30 = .ok (.iload_n 2, 1) := by decide +kernel
theorem dX8_lay_31 : decode cX8_lay 31 = .ok (.aaload, 1) := by decide +kernel
theorem dX8_lay_32 : decode cX8_lay 32 = .ok (.invokevirtual 248, 3) := by decide +kernel
theorem dX8_lay_35 : decode cX8_lay 35 = .ok (.ifCond .eq 10, 3) := by decide +kernel
theorem dX8_lay_38 : decode cX8_lay 38 = .ok (.aload_n 0, 1) := by decide +kernel
theorem dX8_lay_39 : decode cX8_lay 39 = .ok (.ldc 252, 2) := by decide +kernel
theorem dX8_lay_41 : decode cX8_lay 41 = .ok (.invokevirtual 60, 3) := by decide +kernel
theorem dX8_lay_44 : decode cX8_lay 44 = .ok (.ireturn, 1) := by decide +kernel
theorem dX8_lay_45 : decode cX8_lay 45 = .ok (.aload_n 0, 1) := by decide +kernel
theorem dX8_lay_46 : decode cX8_lay 46 = .ok (.getfield 46, 3) := by decide +kernel
theorem dX8_lay_49 : decode cX8_lay 49 = .ok (.iload_n 2, 1) := by decide +kernel
theorem dX8_lay_50 : decode cX8_lay 50 = .ok (.aaload, 1) := by decide +kernel
theorem dX8_lay_51 : decode cX8_lay 51 = .ok (.invokevirtual 271, 3) := by decide +kernel
theorem dX8_lay_54 : decode cX8_lay 54 = .ok (.ifCond .ne 10, 3) := by decide +kernel
theorem dX8_lay_57 : decode cX8_lay 57 = .ok (.aload_n 0, 1) := by decide +kernel
theorem dX8_lay_58 : decode cX8_lay 58 = .ok (.ldc 59, 2) := by decide +kernel
theorem dX8_lay_60 : decode cX8_lay 60 = .ok (.invokevirtual 60, 3) := by decide +kernel
theorem dX8_lay_63 : decode cX8_lay 63 = .ok (.ireturn, 1) := by decide +kernel
theorem dX8_lay_64 : decode cX8_lay 64 = .ok (.aload_n 0, 1) := by decide +kernel
theorem dX8_lay_65 : decode cX8_lay 65 = .ok (.getfield 19, 3) := by decide +kernel
theorem dX8_lay_68 : decode cX8_lay 68 = .ok (.aload_n 0, 1) := by decide +kernel
theorem dX8_lay_69 : decode cX8_lay 69 = .ok (.getfield 10, 3) := by decide +kernel
theorem dX8_lay_72 : decode cX8_lay 72 = .ok (.invokevirtual 68, 3) := by decide +kernel
theorem dX8_lay_75 : decode cX8_lay 75 = .ok (.aload_n 0, 1) := by decide +kernel
theorem dX8_lay_76 : decode cX8_lay 76 = .ok (.getfield 26, 3) := by decide +kernel
theorem dX8_lay_79 : decode cX8_lay 79 = .ok (.iload_n 1, 1) := by decide +kernel
theorem dX8_lay_80 : decode cX8_lay 80 = .ok (.invokevirtual 102, 3) := by decide +kernel
theorem dX8_lay_83 : decode cX8_lay 83 = .ok (.aload_n 0, 1) := by decide +kernel
theorem dX8_lay_84 : decode cX8_lay 84 = .ok (.getfield 10, 3) := by decide +kernel
theorem dX8_lay_87 : decode cX8_lay 87 = .ok (.getfield 92, 3) := by decide +kernel
theorem dX8_lay_90 : decode cX8_lay 90 = .ok (.iload_n 1, 1) := by decide +kernel
theorem dX8_lay_91 : decode cX8_lay 91 = .ok (.iconst 0, 1) := by decide +kernel
theorem dX8_lay_92 : decode cX8_lay 92 = .ok (.iastore, 1) := by decide +kernel
theorem dX8_lay_93 : decode cX8_lay 93 = .ok (.iconst 0, 1) := by decide +kernel
theorem dX8_lay_94 : decode cX8_lay 94 = .ok (.istore_n 3, 1) := by decide +kernel
theorem dX8_lay_95 : decode cX8_lay 95 = .ok (.iload_n 3, 1) := by decide +kernel
theorem dX8_lay_96 : decode cX8_lay 96 = .ok (.aload_n 0, 1) := by decide +kernel
theorem dX8_lay_97 : decode cX8_lay 97 = .ok (.getfield 46, 3) := by decide +kernel
theorem dX8_lay_100 : decode cX8_lay 100 = .ok (.iload_n 2, 1) := by decide +kernel
theorem dX8_lay_101 : decode cX8_lay 101 = .ok (.aaload, 1) := by decide +kernel
theorem dX8_lay_102 : decode cX8_lay 102 = .ok (.invokevirtual 274, 3) := by decide +kernel
theorem dX8_lay_105 : decode cX8_lay 105 = .ok (.if_icmp .ge 27, 3) := by decide +kernel
theorem dX8_lay_108 : decode cX8_lay 108 = .ok (.aload_n 0, 1) := by decide +kernel
theorem dX8_lay_109 : decode cX8_lay 109 = .ok (.getfield 10, 3) := by decide +kernel
theorem dX8_lay_112 : decode cX8_lay 112 = .ok (.iload_n 1, 1) := by decide +kernel
theorem dX8_lay_113 : decode cX8_lay 113 = .ok (.aload_n 0, 1) := by decide +kernel
theorem dX8_lay_114 : decode cX8_lay 114 = .ok (.getfield 46, 3) := by decide +kernel
theorem dX8_lay_117 : decode cX8_lay 117 = .ok (.iload_n 2, 1) := by decide +kernel
theorem dX8_lay_118 : decode cX8_lay 118 = .ok (.aaload, 1) := by decide +kernel
theorem dX8_lay_119 : decode cX8_lay 119 = .ok (.iload_n 3, 1) := by decide +kernel
theorem dX8_lay_120 : decode cX8_lay 120 = .ok (.invokevirtual 278, 3) := by decide +kernel
theorem dX8_lay_123 : decode cX8_lay 123 = .ok (.invokevirtual 98, 3) := by decide +kernel
theorem dX8_lay_126 : decode cX8_lay 126 = .ok (.iinc 3 1, 3) := by decide +kernel
theorem dX8_lay_129 : decode cX8_lay 129 = .ok (.goto (-34), 3) := by decide +kernel
theorem dX8_lay_132 : decode cX8_lay 132 = .ok (.aload_n 0, 1) := by decide +kernel
theorem dX8_lay_133 : decode cX8_lay 133 = .ok (.getfield 10, 3) := by decide +kernel
theorem dX8_lay_136 : decode cX8_lay 136 = .ok (.getfield 92, 3) := by decide +kernel
theorem dX8_lay_139 : decode cX8_lay 139 = .ok (.iload_n 1, 1) := by decide +kernel
theorem dX8_lay_140 : decode cX8_lay 140 = .ok (.iaload, 1) := by decide +kernel
theorem dX8_lay_141 : decode cX8_lay 141 = .ok (.ireturn, 1) := by decide +kernel
theorem dX8_undo_0 : decode cX8_undo 0 = .ok (.aload_n 0, 1) := by decide +kernel
theorem dX8_undo_1 : decode cX8_undo 1 = .ok (.getfield 19, 3) := by decide +kernel
theorem dX8_undo_4 : decode cX8_undo 4 = .ok (.getfield 280, 3) := by decide +kernel
theorem dX8_undo_7 : decode cX8_undo 7 = .ok (.ifCond .gt 10, 3) := by decide +kernel
theorem dX8_undo_10 : decode cX8_undo 10 = .ok (.aload_n 0, 1) := by decide +kernel
theorem dX8_undo_11 : decode cX8_undo 11 = .ok (.ldc 106, 2) := by decide +kernel
theorem dX8_undo_13 : decode cX8_undo 13 = .ok (.invokevirtual 60, 3) := by decide +kernel
theorem dX8_undo_16 : decode cX8_undo 16 = .ok (.ireturn, 1) := by decide +kernel
theorem dX8_undo_17 : decode cX8_undo 17 = .ok (.aload_n 0, 1) := by decide +kernel
theorem dX8_undo_18 : decode cX8_undo 18 = .ok (.getfield 19, 3) := by decide +kernel
theorem dX8_undo_21 : decode cX8_undo 21 = .ok (.aload_n 0, 1) := by decide +kernel
theorem dX8_undo_22 : decode cX8_undo 22 = .ok (.getfield 10, 3) := by decide +kernel
theorem dX8_undo_25 : decode cX8_undo 25 = .ok (.invokevirtual 283, 3) := by decide +kernel
theorem dX8_undo_28 : decode cX8_undo 28 = .ok (.aload_n 0, 1) := by decide +kernel
theorem dX8_undo_29 : decode cX8_undo 29 = .ok (.getfield 26, 3) := by decide +kernel
theorem dX8_undo_32 : decode cX8_undo 32 = .ok (.invokevirtual 139, 3) := by decide +kernel
theorem dX8_undo_35 : decode cX8_undo 35 = .ok (.aload_n 0, 1) := by decide +kernel
theorem dX8_undo_36 : decode cX8_undo 36 = .ok (.getfield 19, 3) := by decide +kernel
theorem dX8_undo_39 : decode cX8_undo 39 = .ok (.getfield 280, 3) := by decide +kernel
theorem dX8_undo_42 : decode cX8_undo 42 = .ok (.ireturn, 1) := by decide +kernel
theorem dX8_all_0 : decode cX8_all 0 = .ok (.iload_n 1, 1) := by decide +kernel
theorem dX8_all_1 : decode cX8_all 1 = .ok (.tableswitch 48 0 2 #[27, 35, 43], 27) := by decide +kernel
theorem dX8_all_28 : decode cX8_all 28 = .ok (.aload_n 0, 1) := by decide +kernel
theorem dX8_all_29 : decode cX8_all 29 = .ok (.getfield 10, 3) := by decide +kernel
theorem dX8_all_32 : decode cX8_all 32 = .ok (.getfield 64, 3) := by decide +kernel
theorem dX8_all_35 : decode cX8_all 35 = .ok (.ireturn, 1) := by decide +kernel
theorem dX8_all_36 : decode cX8_all 36 = .ok (.aload_n 0, 1) := by decide +kernel
theorem dX8_all_37 : decode cX8_all 37 = .ok (.getfield 10, 3) := by decide +kernel
theorem dX8_all_40 : decode cX8_all 40 = .ok (.invokevirtual 286, 3) := by decide +kernel
theorem dX8_all_43 : decode cX8_all 43 = .ok (.ireturn, 1) := by decide +kernel
theorem dX8_all_44 : decode cX8_all 44 = .ok (.aload_n 0, 1) := by decide +kernel
theorem dX8_all_45 : decode cX8_all 45 = .ok (.getfield 51, 3) := by decide +kernel
theorem dX8_all_48 : decode cX8_all 48 = .ok (.ireturn, 1) := by decide +kernel
theorem dX8_all_49 : decode cX8_all 49 = .ok (.aload_n 0, 1) := by decide +kernel
theorem dX8_all_50 : decode cX8_all 50 = .ok (.ldc 59, 2) := by decide +kernel
theorem dX8_all_52 : decode cX8_all 52 = .ok (.invokevirtual 60, 3) := by decide +kernel
theorem dX8_all_55 : decode cX8_all 55 = .ok (.ireturn, 1) := by decide +kernel
theorem dX8_finding_0 : decode cX8_finding 0 = .ok (.aload_n 0, 1) := by decide +kernel
theorem dX8_finding_1 : decode cX8_finding 1 = .ok (.dup, 1) := by decide +kernel
theorem dX8_finding_2 : decode cX8_finding 2 = .ok (.getfield 51, 3) := by decide +kernel
theorem dX8_finding_5 : decode cX8_finding 5 = .ok (.iconst 1, 1) := by decide +kernel
theorem dX8_finding_6 : decode cX8_finding 6 = .ok (.iadd, 1) := by decide +kernel
theorem dX8_finding_7 : decode cX8_finding 7 = .ok (.putfield 51, 3) := by decide +kernel
theorem dX8_finding_10 : decode cX8_finding 10 = .ok (.iload_n 1, 1) := by decide +kernel
theorem dX8_finding_11 : decode cX8_finding 11 = .ok (.ireturn, 1) := by decide +kernel
theorem dX8_heapRefusal_0 : decode cX8_heapRefusal 0 = .ok (.iload_n 1, 1) := by decide +kernel
theorem dX8_heapRefusal_1 : decode cX8_heapRefusal 1 = .ok (.aload_n 0, 1) := by decide +kernel
theorem dX8_heapRefusal_2 : decode cX8_heapRefusal 2 = .ok (.getfield 10, 3) := by decide +kernel
theorem dX8_heapRefusal_5 : decode cX8_heapRefusal 5 = .ok (.getfield 64, 3) := by decide +kernel
theorem dX8_heapRefusal_8 : decode cX8_heapRefusal 8 = .ok (.iushr, 1) := by decide +kernel
theorem dX8_heapRefusal_9 : decode cX8_heapRefusal 9 = .ok (.ifCond .eq 6, 3) := by decide +kernel
theorem dX8_heapRefusal_12 : decode cX8_heapRefusal 12 = .ok (.ldc 59, 2) := by decide +kernel
theorem dX8_heapRefusal_14 : decode cX8_heapRefusal 14 = .ok (.ireturn, 1) := by decide +kernel
theorem dX8_heapRefusal_15 : decode cX8_heapRefusal 15 = .ok (.iload_n 1, 1) := by decide +kernel
theorem dX8_heapRefusal_16 : decode cX8_heapRefusal 16 = .ok (.ifCond .ne 8, 3) := by decide +kernel
theorem dX8_heapRefusal_19 : decode cX8_heapRefusal 19 = .ok (.ldc 106, 2) := by decide +kernel
theorem dX8_heapRefusal_21 : decode cX8_heapRefusal 21 = .ok (.goto 4, 3) := by decide +kernel
theorem dX8_heapRefusal_24 : decode cX8_heapRefusal 24 = .ok (.iconst 0, 1) := by decide +kernel
theorem dX8_heapRefusal_25 : decode cX8_heapRefusal 25 = .ok (.ireturn, 1) := by decide +kernel
theorem dX8_mouldOf_0 : decode cX8_mouldOf 0 = .ok (.iconst (-1), 1) := by decide +kernel
theorem dX8_mouldOf_1 : decode cX8_mouldOf 1 = .ok (.istore_n 2, 1) := by decide +kernel
theorem dX8_mouldOf_2 : decode cX8_mouldOf 2 = .ok (.iconst 0, 1) := by decide +kernel
theorem dX8_mouldOf_3 : decode cX8_mouldOf 3 = .ok (.istore_n 3, 1) := by decide +kernel
theorem dX8_mouldOf_4 : decode cX8_mouldOf 4 = .ok (.iconst 0, 1) := by decide +kernel
theorem dX8_mouldOf_5 : decode cX8_mouldOf 5 = .ok (.istore 4, 2) := by decide +kernel
theorem dX8_mouldOf_7 : decode cX8_mouldOf 7 = .ok (.iload 4, 2) := by decide +kernel
theorem dX8_mouldOf_9 : decode cX8_mouldOf 9 = .ok (.aload_n 0, 1) := by decide +kernel
theorem dX8_mouldOf_10 : decode cX8_mouldOf 10 = .ok (.getfield 10, 3) := by decide +kernel
theorem dX8_mouldOf_13 : decode cX8_mouldOf 13 = .ok (.getfield 64, 3) := by decide +kernel
theorem dX8_mouldOf_16 : decode cX8_mouldOf 16 = .ok (.if_icmp .ge 43, 3) := by decide +kernel
theorem dX8_mouldOf_19 : decode cX8_mouldOf 19 = .ok (.iload_n 1, 1) := by decide +kernel
theorem dX8_mouldOf_20 : decode cX8_mouldOf 20 = .ok (.iload 4, 2) := by decide +kernel
theorem dX8_mouldOf_22 : decode cX8_mouldOf 22 = .ok (.invokestatic 287, 3) := by decide +kernel
theorem dX8_mouldOf_25 : decode cX8_mouldOf 25 = .ok (.ifCond .eq 28, 3) := by decide +kernel
theorem dX8_mouldOf_28 : decode cX8_mouldOf 28 = .ok (.aload_n 0, 1) := by decide +kernel
theorem dX8_mouldOf_29 : decode cX8_mouldOf 29 = .ok (.iload 4, 2) := by decide +kernel
theorem dX8_mouldOf_31 : decode cX8_mouldOf 31 = .ok (.iload_n 1, 1) := by decide +kernel
theorem dX8_mouldOf_32 : decode cX8_mouldOf 32 = .ok (.invokevirtual 195, 3) := by decide +kernel
theorem dX8_mouldOf_35 : decode cX8_mouldOf 35 = .ok (.istore 5, 2) := by decide +kernel
theorem dX8_mouldOf_37 : decode cX8_mouldOf 37 = .ok (.iload_n 2, 1) := by decide +kernel
theorem dX8_mouldOf_38 : decode cX8_mouldOf 38 = .ok (.ifCond .lt 9, 3) := by decide +kernel
theorem dX8_mouldOf_41 : decode cX8_mouldOf 41 = .ok (.iload 5, 2) := by decide +kernel
theorem dX8_mouldOf_43 : decode cX8_mouldOf 43 = .ok (.iload_n 3, 1) := by decide +kernel
theorem dX8_mouldOf_44 : decode cX8_mouldOf 44 = .ok (.if_icmp .ge 9, 3) := by decide +kernel
theorem dX8_mouldOf_47 : decode cX8_mouldOf 47 = .ok (.iload 4, 2) := by decide +kernel
theorem dX8_mouldOf_49 : decode cX8_mouldOf 49 = .ok (.istore_n 2, 1) := by decide +kernel
theorem dX8_mouldOf_50 : decode cX8_mouldOf 50 = .ok (.iload 5, 2) := by decide +kernel
theorem dX8_mouldOf_52 : decode cX8_mouldOf 52 = .ok (.istore_n 3, 1) := by decide +kernel
theorem dX8_mouldOf_53 : decode cX8_mouldOf 53 = .ok (.iinc 4 1, 3) := by decide +kernel
theorem dX8_mouldOf_56 : decode cX8_mouldOf 56 = .ok (.goto (-49), 3) := by decide +kernel
theorem dX8_mouldOf_59 : decode cX8_mouldOf 59 = .ok (.iload_n 2, 1) := by decide +kernel
theorem dX8_mouldOf_60 : decode cX8_mouldOf 60 = .ok (.ireturn, 1) := by decide +kernel
theorem dX8_sumOfCosts_0 : decode cX8_sumOfCosts 0 = .ok (.iconst 0, 1) := by decide +kernel
theorem dX8_sumOfCosts_1 : decode cX8_sumOfCosts 1 = .ok (.istore_n 3, 1) := by decide +kernel
theorem dX8_sumOfCosts_2 : decode cX8_sumOfCosts 2 = .ok (.iconst 0, 1) := by decide +kernel
theorem dX8_sumOfCosts_3 : decode cX8_sumOfCosts 3 = .ok (.istore 4, 2) := by decide +kernel
theorem dX8_sumOfCosts_5 : decode cX8_sumOfCosts 5 = .ok (.iload 4, 2) := by decide +kernel
theorem dX8_sumOfCosts_7 : decode cX8_sumOfCosts 7 = .ok (.aload_n 0, 1) := by decide +kernel
theorem dX8_sumOfCosts_8 : decode cX8_sumOfCosts 8 = .ok (.getfield 10, 3) := by decide +kernel
theorem dX8_sumOfCosts_11 : decode cX8_sumOfCosts 11 = .ok (.getfield 64, 3) := by decide +kernel
theorem dX8_sumOfCosts_14 : decode cX8_sumOfCosts 14 = .ok (.if_icmp .ge 36, 3) := by decide +kernel
theorem dX8_sumOfCosts_17 : decode cX8_sumOfCosts 17 = .ok (.iload_n 2, 1) := by decide +kernel
theorem dX8_sumOfCosts_18 : decode cX8_sumOfCosts 18 = .ok (.iload 4, 2) := by decide +kernel
theorem dX8_sumOfCosts_20 : decode cX8_sumOfCosts 20 = .ok (.invokestatic 287, 3) := by decide +kernel
theorem dX8_sumOfCosts_23 : decode cX8_sumOfCosts 23 = .ok (.ifCond .eq 21, 3) := by decide +kernel
theorem dX8_sumOfCosts_26 : decode cX8_sumOfCosts 26 = .ok (.iload_n 3, 1) := by decide +kernel
theorem dX8_sumOfCosts_27 : decode cX8_sumOfCosts 27 = .ok (.aload_n 0, 1) := by decide +kernel
theorem dX8_sumOfCosts_28 : decode cX8_sumOfCosts 28 = .ok (.getfield 26, 3) := by decide +kernel
theorem dX8_sumOfCosts_31 : decode cX8_sumOfCosts 31 = .ok (.getfield 198, 3) := by decide +kernel
theorem dX8_sumOfCosts_34 : decode cX8_sumOfCosts 34 = .ok (.iload_n 1, 1) := by decide +kernel
theorem dX8_sumOfCosts_35 : decode cX8_sumOfCosts 35 = .ok (.bipush 10, 2) := by decide +kernel
theorem dX8_sumOfCosts_37 : decode cX8_sumOfCosts 37 = .ok (.imul, 1) := by decide +kernel
theorem dX8_sumOfCosts_38 : decode cX8_sumOfCosts 38 = .ok (.iload 4, 2) := by decide +kernel
theorem dX8_sumOfCosts_40 : decode cX8_sumOfCosts 40 = .ok (.iadd, 1) := by decide +kernel
theorem dX8_sumOfCosts_41 : decode cX8_sumOfCosts 41 = .ok (.iaload, 1) := by decide +kernel
theorem dX8_sumOfCosts_42 : decode cX8_sumOfCosts 42 = .ok (.iadd, 1) := by decide +kernel
theorem dX8_sumOfCosts_43 : decode cX8_sumOfCosts 43 = .ok (.istore_n 3, 1) := by decide +kernel
theorem dX8_sumOfCosts_44 : decode cX8_sumOfCosts 44 = .ok (.iinc 4 1, 3) := by decide +kernel
theorem dX8_sumOfCosts_47 : decode cX8_sumOfCosts 47 = .ok (.goto (-42), 3) := by decide +kernel
theorem dX8_sumOfCosts_50 : decode cX8_sumOfCosts 50 = .ok (.iload_n 3, 1) := by decide +kernel
theorem dX8_sumOfCosts_51 : decode cX8_sumOfCosts 51 = .ok (.ireturn, 1) := by decide +kernel
theorem dX8_sourceOf_0 : decode cX8_sourceOf 0 = .ok (.aload_n 0, 1) := by decide +kernel
theorem dX8_sourceOf_1 : decode cX8_sourceOf 1 = .ok (.getfield 10, 3) := by decide +kernel
theorem dX8_sourceOf_4 : decode cX8_sourceOf 4 = .ok (.getfield 132, 3) := by decide +kernel
theorem dX8_sourceOf_7 : decode cX8_sourceOf 7 = .ok (.iload_n 1, 1) := by decide +kernel
theorem dX8_sourceOf_8 : decode cX8_sourceOf 8 = .ok (.iaload, 1) := by decide +kernel
theorem dX8_sourceOf_9 : decode cX8_sourceOf 9 = .ok (.ifCond .lt 15, 3) := by decide +kernel
theorem dX8_sourceOf_12 : decode cX8_sourceOf 12 = .ok (.aload_n 0, 1) := by decide +kernel
theorem dX8_sourceOf_13 : decode cX8_sourceOf 13 = .ok (.getfield 10, 3) := by decide +kernel
theorem dX8_sourceOf_16 : decode cX8_sourceOf 16 = .ok (.getfield 132, 3) := by decide +kernel
theorem dX8_sourceOf_19 : decode cX8_sourceOf 19 = .ok (.iload_n 1, 1) := by decide +kernel
theorem dX8_sourceOf_20 : decode cX8_sourceOf 20 = .ok (.iaload, 1) := by decide +kernel
theorem dX8_sourceOf_21 : decode cX8_sourceOf 21 = .ok (.goto 9, 3) := by decide +kernel
theorem dX8_sourceOf_24 : decode cX8_sourceOf 24 = .ok (.aload_n 0, 1) := by decide +kernel
theorem dX8_sourceOf_25 : decode cX8_sourceOf 25 = .ok (.iload_n 1, 1) := by decide +kernel
theorem dX8_sourceOf_26 : decode cX8_sourceOf 26 = .ok (.iconst 1, 1) := by decide +kernel
theorem dX8_sourceOf_27 : decode cX8_sourceOf 27 = .ok (.invokevirtual 214, 3) := by decide +kernel
theorem dX8_sourceOf_30 : decode cX8_sourceOf 30 = .ok (.ireturn, 1) := by decide +kernel
theorem dX8_cheapestBeside_0 : decode cX8_cheapestBeside 0 = .ok (.iconst (-1), 1) := by decide +kernel
theorem dX8_cheapestBeside_1 : decode cX8_cheapestBeside 1 = .ok (.istore_n 3, 1) := by decide +kernel
theorem dX8_cheapestBeside_2 : decode cX8_cheapestBeside 2 = .ok (.iconst 0, 1) := by decide +kernel
theorem dX8_cheapestBeside_3 : decode cX8_cheapestBeside 3 = .ok (.istore 4, 2) := by decide +kernel
theorem dX8_cheapestBeside_5 : decode cX8_cheapestBeside 5 = .ok (.iconst 0, 1) := by decide +kernel
theorem dX8_cheapestBeside_6 : decode cX8_cheapestBeside 6 = .ok (.istore 5, 2) := by decide +kernel
theorem dX8_cheapestBeside_8 : decode cX8_cheapestBeside 8 = .ok (.iload 5, 2) := by decide +kernel
theorem dX8_cheapestBeside_10 : decode cX8_cheapestBeside 10 = .ok (.aload_n 0, 1) := by decide +kernel
theorem dX8_cheapestBeside_11 : decode cX8_cheapestBeside 11 = .ok (.getfield 10, 3) := by decide +kernel
theorem dX8_cheapestBeside_14 : decode cX8_cheapestBeside 14 = .ok (.getfield 64, 3) := by decide +kernel
theorem dX8_cheapestBeside_17 : decode cX8_cheapestBeside 17 = .ok (.if_icmp .ge 66, 3) := by decide +kernel
theorem dX8_cheapestBeside_20 : decode cX8_cheapestBeside 20 = .ok (.iload 5, 2) := by decide +kernel
theorem dX8_cheapestBeside_22 : decode cX8_cheapestBeside 22 = .ok (.iload_n 1, 1) := by decide +kernel
theorem dX8_cheapestBeside_23 : decode cX8_cheapestBeside 23 = .ok (.if_icmp .eq 54, 3) := by decide +kernel
theorem dX8_cheapestBeside_26 : decode cX8_cheapestBeside 26 = .ok (.iload_n 2, 1) := by decide +kernel
theorem dX8_cheapestBeside_27 : decode cX8_cheapestBeside 27 = .ok (.ifCond .eq 16, 3) := by decide +kernel
theorem dX8_cheapestBeside_30 : decode cX8_cheapestBeside 30 = .ok (.aload_n 0, 1) := by decide +kernel
theorem dX8_cheapestBeside_31 : decode cX8_cheapestBeside 31 = .ok (.getfield 10, 3) := by decide +kernel
theorem dX8_cheapestBeside_34 : decode cX8_cheapestBeside 34 = .ok (.iload 5, 2) := by decide +kernel
theorem dX8_cheapestBeside_36 : decode cX8_cheapestBeside 36 = .ok (.iload_n 1, 1) := by decide +kernel
theorem dX8_cheapestBeside_37 : decode cX8_cheapestBeside 37 = .ok (.invokevirtual 290, 3) := by decide +kernel
theorem dX8_cheapestBeside_40 : decode cX8_cheapestBeside 40 = .ok (.ifCond .eq 37, 3) := by decide +kernel
theorem dX8_cheapestBeside_43 : decode cX8_cheapestBeside 43 = .ok (.aload_n 0, 1) := by decide +kernel
theorem dX8_cheapestBeside_44 : decode cX8_cheapestBeside 44 = .ok (.getfield 26, 3) := by decide +kernel
theorem dX8_cheapestBeside_47 : decode cX8_cheapestBeside 47 = .ok (.aload_n 0, 1) := by decide +kernel
theorem dX8_cheapestBeside_48 : decode cX8_cheapestBeside 48 = .ok (.getfield 10, 3) := by decide +kernel
theorem dX8_cheapestBeside_51 : decode cX8_cheapestBeside 51 = .ok (.iload 5, 2) := by decide +kernel
theorem dX8_cheapestBeside_53 : decode cX8_cheapestBeside 53 = .ok (.iload_n 1, 1) := by decide +kernel
theorem dX8_cheapestBeside_54 : decode cX8_cheapestBeside 54 = .ok (.invokevirtual 156, 3) := by decide +kernel
theorem dX8_cheapestBeside_57 : decode cX8_cheapestBeside 57 = .ok (.istore 6, 2) := by decide +kernel
theorem dX8_cheapestBeside_59 : decode cX8_cheapestBeside 59 = .ok (.iload_n 3, 1) := by decide +kernel
theorem dX8_cheapestBeside_60 : decode cX8_cheapestBeside 60 = .ok (.ifCond .lt 10, 3) := by decide +kernel
theorem dX8_cheapestBeside_63 : decode cX8_cheapestBeside 63 = .ok (.iload 6, 2) := by decide +kernel
theorem dX8_cheapestBeside_65 : decode cX8_cheapestBeside 65 = .ok (.iload 4, 2) := by decide +kernel
theorem dX8_cheapestBeside_67 : decode cX8_cheapestBeside 67 = .ok (.if_icmp .ge 10, 3) := by decide +kernel
theorem dX8_cheapestBeside_70 : decode cX8_cheapestBeside 70 = .ok (.iload 5, 2) := by decide +kernel
theorem dX8_cheapestBeside_72 : decode cX8_cheapestBeside 72 = .ok (.istore_n 3, 1) := by decide +kernel
theorem dX8_cheapestBeside_73 : decode cX8_cheapestBeside 73 = .ok (.iload 6, 2) := by decide +kernel
theorem dX8_cheapestBeside_75 : decode cX8_cheapestBeside 75 = .ok (.istore 4, 2) := by decide +kernel
theorem dX8_cheapestBeside_77 : decode cX8_cheapestBeside 77 = .ok (.iinc 5 1, 3) := by decide +kernel
theorem dX8_cheapestBeside_80 : decode cX8_cheapestBeside 80 = .ok (.goto (-72), 3) := by decide +kernel
theorem dX8_cheapestBeside_83 : decode cX8_cheapestBeside 83 = .ok (.iload_n 3, 1) := by decide +kernel
theorem dX8_cheapestBeside_84 : decode cX8_cheapestBeside 84 = .ok (.ireturn, 1) := by decide +kernel
theorem dX8_isWithin_0 : decode cX8_isWithin 0 = .ok (.iload_n 0, 1) := by decide +kernel
theorem dX8_isWithin_1 : decode cX8_isWithin 1 = .ok (.ifCond .lt 12, 3) := by decide +kernel
theorem dX8_isWithin_4 : decode cX8_isWithin 4 = .ok (.iload_n 0, 1) := by decide +kernel
theorem dX8_isWithin_5 : decode cX8_isWithin 5 = .ok (.iload_n 1, 1) := by decide +kernel
theorem dX8_isWithin_6 : decode cX8_isWithin 6 = .ok (.if_icmp .ge 7, 3) := by decide +kernel
theorem dX8_isWithin_9 : decode cX8_isWithin 9 = .ok (.iconst 1, 1) := by decide +kernel
theorem dX8_isWithin_10 : decode cX8_isWithin 10 = .ok (.goto 4, 3) := by decide +kernel
theorem dX8_isWithin_13 : decode cX8_isWithin 13 = .ok (.iconst 0, 1) := by decide +kernel
theorem dX8_isWithin_14 : decode cX8_isWithin 14 = .ok (.ireturn, 1) := by decide +kernel
theorem dX8_isInHeap_0 : decode cX8_isInHeap 0 = .ok (.iload_n 0, 1) := by decide +kernel
theorem dX8_isInHeap_1 : decode cX8_isInHeap 1 = .ok (.iload_n 1, 1) := by decide +kernel
theorem dX8_isInHeap_2 : decode cX8_isInHeap 2 = .ok (.ishr, 1) := by decide +kernel
theorem dX8_isInHeap_3 : decode cX8_isInHeap 3 = .ok (.iconst 1, 1) := by decide +kernel
theorem dX8_isInHeap_4 : decode cX8_isInHeap 4 = .ok (.iand, 1) := by decide +kernel
theorem dX8_isInHeap_5 : decode cX8_isInHeap 5 = .ok (.iconst 1, 1) := by decide +kernel
theorem dX8_isInHeap_6 : decode cX8_isInHeap 6 = .ok (.if_icmp .ne 7, 3) := by decide +kernel
theorem dX8_isInHeap_9 : decode cX8_isInHeap 9 = .ok (.iconst 1, 1) := by decide +kernel
theorem dX8_isInHeap_10 : decode cX8_isInHeap 10 = .ok (.goto 4, 3) := by decide +kernel
theorem dX8_isInHeap_13 : decode cX8_isInHeap 13 = .ok (.iconst 0, 1) := by decide +kernel
theorem dX8_isInHeap_14 : decode cX8_isInHeap 14 = .ok (.ireturn, 1) := by decide +kernel
theorem dX8_isUnder_0 : decode cX8_isUnder 0 = .ok (.iload_n 0, 1) := by decide +kernel
theorem dX8_isUnder_1 : decode cX8_isUnder 1 = .ok (.iload_n 1, 1) := by decide +kernel
theorem dX8_isUnder_2 : decode cX8_isUnder 2 = .ok (.if_icmp .eq 17, 3) := by decide +kernel
theorem dX8_isUnder_5 : decode cX8_isUnder 5 = .ok (.iload_n 1, 1) := by decide +kernel
theorem dX8_isUnder_6 : decode cX8_isUnder 6 = .ok (.ifCond .eq 13, 3) := by decide +kernel
theorem dX8_isUnder_9 : decode cX8_isUnder 9 = .ok (.iload_n 0, 1) := by decide +kernel
theorem dX8_isUnder_10 : decode cX8_isUnder 10 = .ok (.iconst 3, 1) := by decide +kernel
theorem dX8_isUnder_11 : decode cX8_isUnder 11 = .ok (.if_icmp .ne 12, 3) := by decide +kernel
theorem dX8_isUnder_14 : decode cX8_isUnder 14 = .ok (.iload_n 1, 1) := by decide +kernel
theorem dX8_isUnder_15 : decode cX8_isUnder 15 = .ok (.iconst 1, 1) := by decide +kernel
theorem dX8_isUnder_16 : decode cX8_isUnder 16 = .ok (.if_icmp .ne 7, 3) := by decide +kernel
theorem dX8_isUnder_19 : decode cX8_isUnder 19 = .ok (.iconst 1, 1) := by decide +kernel
theorem dX8_isUnder_20 : decode cX8_isUnder 20 = .ok (.goto 4, 3) := by decide +kernel
theorem dX8_isUnder_23 : decode cX8_isUnder 23 = .ok (.iconst 0, 1) := by decide +kernel
theorem dX8_isUnder_24 : decode cX8_isUnder 24 = .ok (.ireturn, 1) := by decide +kernel
theorem dX8_isStep_0 : decode cX8_isStep 0 = .ok (.iload_n 0, 1) := by decide +kernel
theorem dX8_isStep_1 : decode cX8_isStep 1 = .ok (.bipush 16, 2) := by decide +kernel
theorem dX8_isStep_3 : decode cX8_isStep 3 = .ok (.invokestatic 55, 3) := by decide +kernel
theorem dX8_isStep_6 : decode cX8_isStep 6 = .ok (.ifCond .eq 23, 3) := by decide +kernel
theorem dX8_isStep_9 : decode cX8_isStep 9 = .ok (.iload_n 1, 1) := by decide +kernel
theorem dX8_isStep_10 : decode cX8_isStep 10 = .ok (.iconst 4, 1) := by decide +kernel
theorem dX8_isStep_11 : decode cX8_isStep 11 = .ok (.invokestatic 55, 3) := by decide +kernel
theorem dX8_isStep_14 : decode cX8_isStep 14 = .ok (.ifCond .eq 15, 3) := by decide +kernel
theorem dX8_isStep_17 : decode cX8_isStep 17 = .ok (.iload_n 2, 1) := by decide +kernel
theorem dX8_isStep_18 : decode cX8_isStep 18 = .ok (.iconst 4, 1) := by decide +kernel
theorem dX8_isStep_19 : decode cX8_isStep 19 = .ok (.invokestatic 55, 3) := by decide +kernel
theorem dX8_isStep_22 : decode cX8_isStep 22 = .ok (.ifCond .eq 7, 3) := by decide +kernel
theorem dX8_isStep_25 : decode cX8_isStep 25 = .ok (.iconst 1, 1) := by decide +kernel
theorem dX8_isStep_26 : decode cX8_isStep 26 = .ok (.goto 4, 3) := by decide +kernel
theorem dX8_isStep_29 : decode cX8_isStep 29 = .ok (.iconst 0, 1) := by decide +kernel
theorem dX8_isStep_30 : decode cX8_isStep 30 = .ok (.ireturn, 1) := by decide +kernel
theorem dX8_packed_0 : decode cX8_packed 0 = .ok (.iload_n 0, 1) := by decide +kernel
theorem dX8_packed_1 : decode cX8_packed 1 = .ok (.iconst 4, 1) := by decide +kernel
theorem dX8_packed_2 : decode cX8_packed 2 = .ok (.ishl, 1) := by decide +kernel
theorem dX8_packed_3 : decode cX8_packed 3 = .ok (.iload_n 1, 1) := by decide +kernel
theorem dX8_packed_4 : decode cX8_packed 4 = .ok (.iconst 2, 1) := by decide +kernel
theorem dX8_packed_5 : decode cX8_packed 5 = .ok (.ishl, 1) := by decide +kernel
theorem dX8_packed_6 : decode cX8_packed 6 = .ok (.ior, 1) := by decide +kernel
theorem dX8_packed_7 : decode cX8_packed 7 = .ok (.iload_n 2, 1) := by decide +kernel
theorem dX8_packed_8 : decode cX8_packed 8 = .ok (.ior, 1) := by decide +kernel
theorem dX8_packed_9 : decode cX8_packed 9 = .ok (.ireturn, 1) := by decide +kernel
theorem dX8_motifOf_0 : decode cX8_motifOf 0 = .ok (.iload_n 0, 1) := by decide +kernel
theorem dX8_motifOf_1 : decode cX8_motifOf 1 = .ok (.iconst 4, 1) := by decide +kernel
theorem dX8_motifOf_2 : decode cX8_motifOf 2 = .ok (.ishr, 1) := by decide +kernel
theorem dX8_motifOf_3 : decode cX8_motifOf 3 = .ok (.ireturn, 1) := by decide +kernel
theorem dX8_whoOf_0 : decode cX8_whoOf 0 = .ok (.iload_n 0, 1) := by decide +kernel
theorem dX8_whoOf_1 : decode cX8_whoOf 1 = .ok (.bipush 12, 2) := by decide +kernel
theorem dX8_whoOf_3 : decode cX8_whoOf 3 = .ok (.iand, 1) := by decide +kernel
theorem dX8_whoOf_4 : decode cX8_whoOf 4 = .ok (.iconst 2, 1) := by decide +kernel
theorem dX8_whoOf_5 : decode cX8_whoOf 5 = .ok (.ishr, 1) := by decide +kernel
theorem dX8_whoOf_6 : decode cX8_whoOf 6 = .ok (.ireturn, 1) := by decide +kernel
theorem dX8_whomOf_0 : decode cX8_whomOf 0 = .ok (.iload_n 0, 1) := by decide +kernel
theorem dX8_whomOf_1 : decode cX8_whomOf 1 = .ok (.iconst 3, 1) := by decide +kernel
theorem dX8_whomOf_2 : decode cX8_whomOf 2 = .ok (.iand, 1) := by decide +kernel
theorem dX8_whomOf_3 : decode cX8_whomOf 3 = .ok (.ireturn, 1) := by decide +kernel
theorem dX8_goal_0 : decode cX8_goal 0 = .ok (.iload_n 0, 1) := by decide +kernel
theorem dX8_goal_1 : decode cX8_goal 1 = .ok (.bipush 12, 2) := by decide +kernel
theorem dX8_goal_3 : decode cX8_goal 3 = .ok (.iconst 4, 1) := by decide +kernel
theorem dX8_goal_4 : decode cX8_goal 4 = .ok (.iload_n 1, 1) := by decide +kernel
theorem dX8_goal_5 : decode cX8_goal 5 = .ok (.imul, 1) := by decide +kernel
theorem dX8_goal_6 : decode cX8_goal 6 = .ok (.isub, 1) := by decide +kernel
theorem dX8_goal_7 : decode cX8_goal 7 = .ok (.ishr, 1) := by decide +kernel
theorem dX8_goal_8 : decode cX8_goal 8 = .ok (.iconst 3, 1) := by decide +kernel
theorem dX8_goal_9 : decode cX8_goal 9 = .ok (.iand, 1) := by decide +kernel
theorem dX8_goal_10 : decode cX8_goal 10 = .ok (.ireturn, 1) := by decide +kernel
theorem dX9_init_0 : decode cX9_init 0 = .ok (.aload_n 0, 1) := by decide +kernel
theorem dX9_init_1 : decode cX9_init 1 = .ok (.invokespecial 1, 3) := by decide +kernel
theorem dX9_init_4 : decode cX9_init 4 = .ok (.aload_n 0, 1) := by decide +kernel
theorem dX9_init_5 : decode cX9_init 5 = .ok (.sipush 390, 3) := by decide +kernel
theorem dX9_init_8 : decode cX9_init 8 = .ok (.newarray .int, 2) := by decide +kernel
theorem dX9_init_10 : decode cX9_init 10 = .ok (.putfield 9, 3) := by decide +kernel
theorem dX9_init_13 : decode cX9_init 13 = .ok (.aload_n 0, 1) := by decide +kernel
theorem dX9_init_14 : decode cX9_init 14 = .ok (.sipush 7800, 3) := by decide +kernel
theorem dX9_init_17 : decode cX9_init 17 = .ok (.newarray .int, 2) := by decide +kernel
theorem dX9_init_19 : decode cX9_init 19 = .ok (.putfield 13, 3) := by decide +kernel
theorem dX9_init_22 : decode cX9_init 22 = .ok (.aload_n 0, 1) := by decide +kernel
theorem dX9_init_23 : decode cX9_init 23 = .ok (.iconst 4, 1) := by decide +kernel
theorem dX9_init_24 : decode cX9_init 24 = .ok (.newarray .int, 2) := by decide +kernel
theorem dX9_init_26 : decode cX9_init 26 = .ok (.putfield 16, 3) := by decide +kernel
theorem dX9_init_29 : decode cX9_init 29 = .ok (.aload_n 0, 1) := by decide +kernel
theorem dX9_init_30 : decode cX9_init 30 = .ok (.iconst 4, 1) := by decide +kernel
theorem dX9_init_31 : decode cX9_init 31 = .ok (.newarray .int, 2) := by decide +kernel
theorem dX9_init_33 : decode cX9_init 33 = .ok (.putfield 19, 3) := by decide +kernel
theorem dX9_init_36 : decode cX9_init 36 = .ok (.aload_n 0, 1) := by decide +kernel
theorem dX9_init_37 : decode cX9_init 37 = .ok (.bipush 120, 2) := by decide +kernel
theorem dX9_init_39 : decode cX9_init 39 = .ok (.newarray .int, 2) := by decide +kernel
theorem dX9_init_41 : decode cX9_init 41 = .ok (.putfield 22, 3) := by decide +kernel
theorem dX9_init_44 : decode cX9_init 44 = .ok (.aload_n 0, 1) := by decide +kernel
theorem dX9_init_45 : decode cX9_init 45 = .ok (.iconst 4, 1) := by decide +kernel
theorem dX9_init_46 : decode cX9_init 46 = .ok (.newarray .int, 2) := by decide +kernel
theorem dX9_init_48 : decode cX9_init 48 = .ok (.putfield 25, 3) := by decide +kernel
theorem dX9_init_51 : decode cX9_init 51 = .ok (.aload_n 0, 1) := by decide +kernel
theorem dX9_init_52 : decode cX9_init 52 = .ok (.bipush 121, 2) := by decide +kernel
theorem dX9_init_54 : decode cX9_init 54 = .ok (.newarray .int, 2) := by decide +kernel
theorem dX9_init_56 : decode cX9_init 56 = .ok (.putfield 28, 3) := by decide +kernel
theorem dX9_init_59 : decode cX9_init 59 = .ok (.aload_n 0, 1) := by decide +kernel
theorem dX9_init_60 : decode cX9_init 60 = .ok (.bipush 10, 2) := by decide +kernel
theorem dX9_init_62 : decode cX9_init 62 = .ok (.newarray .int, 2) := by decide +kernel
theorem dX9_init_64 : decode cX9_init 64 = .ok (.putfield 31, 3) := by decide +kernel
theorem dX9_init_67 : decode cX9_init 67 = .ok (.aload_n 0, 1) := by decide +kernel
theorem dX9_init_68 : decode cX9_init 68 = .ok (.bipush 100, 2) := by decide +kernel
theorem dX9_init_70 : decode cX9_init 70 = .ok (.newarray .int, 2) := by decide +kernel
theorem dX9_init_72 : decode cX9_init 72 = .ok (.putfield 34, 3) := by decide +kernel
theorem dX9_init_75 : decode cX9_init 75 = .ok (.aload_n 0, 1) := by decide +kernel
theorem dX9_init_76 : decode cX9_init 76 = .ok (.bipush 10, 2) := by decide +kernel
theorem dX9_init_78 : decode cX9_init 78 = .ok (.newarray .int, 2) := by decide +kernel
theorem dX9_init_80 : decode cX9_init 80 = .ok (.putfield 37, 3) := by decide +kernel
theorem dX9_init_83 : decode cX9_init 83 = .ok (.aload_n 0, 1) := by decide +kernel
theorem dX9_init_84 : decode cX9_init 84 = .ok (.bipush 10, 2) := by decide +kernel
theorem dX9_init_86 : decode cX9_init 86 = .ok (.newarray .int, 2) := by decide +kernel
theorem dX9_init_88 : decode cX9_init 88 = .ok (.putfield 40, 3) := by decide +kernel
theorem dX9_init_91 : decode cX9_init 91 = .ok (.aload_n 0, 1) := by decide +kernel
theorem dX9_init_92 : decode cX9_init 92 = .ok (.bipush 30, 2) := by decide +kernel
theorem dX9_init_94 : decode cX9_init 94 = .ok (.newarray .int, 2) := by decide +kernel
theorem dX9_init_96 : decode cX9_init 96 = .ok (.putfield 43, 3) := by decide +kernel
theorem dX9_init_99 : decode cX9_init 99 = .ok (.aload_n 0, 1) := by decide +kernel
theorem dX9_init_100 : decode cX9_init 100 = .ok (.getfield 9, 3) := by decide +kernel
theorem dX9_init_103 : decode cX9_init 103 = .ok (.iconst 1, 1) := by decide +kernel
theorem dX9_init_104 : decode cX9_init 104 = .ok (.iconst 4, 1) := by decide +kernel
theorem dX9_init_105 : decode cX9_init 105 = .ok (.iastore, 1) := by decide +kernel
theorem dX9_init_106 : decode cX9_init 106 = .ok (.aload_n 0, 1) := by decide +kernel
theorem dX9_init_107 : decode cX9_init 107 = .ok (.getfield 9, 3) := by decide +kernel
theorem dX9_init_110 : decode cX9_init 110 = .ok (.iconst 2, 1) := by decide +kernel
theorem dX9_init_111 : decode cX9_init 111 = .ok (.iconst 1, 1) := by decide +kernel
theorem dX9_init_112 : decode cX9_init 112 = .ok (.iastore, 1) := by decide +kernel
theorem dX9_init_113 : decode cX9_init 113 = .ok (.aload_n 0, 1) := by decide +kernel
theorem dX9_init_114 : decode cX9_init 114 = .ok (.getfield 9, 3) := by decide +kernel
theorem dX9_init_117 : decode cX9_init 117 = .ok (.iconst 3, 1) := by decide +kernel
theorem dX9_init_118 : decode cX9_init 118 = .ok (.iconst 3, 1) := by decide +kernel
theorem dX9_init_119 : decode cX9_init 119 = .ok (.iastore, 1) := by decide +kernel
theorem dX9_init_120 : decode cX9_init 120 = .ok (.return_, 1) := by decide +kernel
theorem dX9_finding_0 : decode cX9_finding 0 = .ok (.aload_n 0, 1) := by decide +kernel
theorem dX9_finding_1 : decode cX9_finding 1 = .ok (.dup, 1) := by decide +kernel
theorem dX9_finding_2 : decode cX9_finding 2 = .ok (.getfield 46, 3) := by decide +kernel
theorem dX9_finding_5 : decode cX9_finding 5 = .ok (.iconst 1, 1) := by decide +kernel
theorem dX9_finding_6 : decode cX9_finding 6 = .ok (.iadd, 1) := by decide +kernel
theorem dX9_finding_7 : decode cX9_finding 7 = .ok (.putfield 46, 3) := by decide +kernel
theorem dX9_finding_10 : decode cX9_finding 10 = .ok (.iload_n 1, 1) := by decide +kernel
theorem dX9_finding_11 : decode cX9_finding 11 = .ok (.ireturn, 1) := by decide +kernel
theorem dX9_within_0 : decode cX9_within 0 = .ok (.iload_n 0, 1) := by decide +kernel
theorem dX9_within_1 : decode cX9_within 1 = .ok (.iload_n 1, 1) := by decide +kernel
theorem dX9_within_2 : decode cX9_within 2 = .ok (.if_icmp .lt 12, 3) := by decide +kernel
theorem dX9_within_5 : decode cX9_within 5 = .ok (.iload_n 0, 1) := by decide +kernel
theorem dX9_within_6 : decode cX9_within 6 = .ok (.iload_n 2, 1) := by decide +kernel
theorem dX9_within_7 : decode cX9_within 7 = .ok (.if_icmp .gt 7, 3) := by decide +kernel
theorem dX9_within_10 : decode cX9_within 10 = .ok (.iconst 1, 1) := by decide +kernel
theorem dX9_within_11 : decode cX9_within 11 = .ok (.goto 4, 3) := by decide +kernel
theorem dX9_within_14 : decode cX9_within 14 = .ok (.iconst 0, 1) := by decide +kernel
theorem dX9_within_15 : decode cX9_within 15 = .ok (.ireturn, 1) := by decide +kernel
theorem dX9_isTale_0 : decode cX9_isTale 0 = .ok (.iload_n 1, 1) := by decide +kernel
theorem dX9_isTale_1 : decode cX9_isTale 1 = .ok (.iconst 0, 1) := by decide +kernel
theorem dX9_isTale_2 : decode cX9_isTale 2 = .ok (.aload_n 0, 1) := by decide +kernel
theorem dX9_isTale_3 : decode cX9_isTale 3 = .ok (.getfield 9, 3) := by decide +kernel
theorem dX9_isTale_6 : decode cX9_isTale 6 = .ok (.iconst 0, 1) := by decide +kernel
theorem dX9_isTale_7 : decode cX9_isTale 7 = .ok (.iaload, 1) := by decide +kernel
theorem dX9_isTale_8 : decode cX9_isTale 8 = .ok (.iconst 1, 1) := by decide +kernel
theorem dX9_isTale_9 : decode cX9_isTale 9 = .ok (.isub, 1) := by decide +kernel
theorem dX9_isTale_10 : decode cX9_isTale 10 = .ok (.invokestatic 50, 3) := by decide +kernel
theorem dX9_isTale_13 : decode cX9_isTale 13 = .ok (.ireturn, 1) := by decide +kernel
theorem dX9_isMotif_0 : decode cX9_isMotif 0 = .ok (.iload_n 0, 1) := by decide +kernel
theorem dX9_isMotif_1 : decode cX9_isMotif 1 = .ok (.iconst 0, 1) := by decide +kernel
theorem dX9_isMotif_2 : decode cX9_isMotif 2 = .ok (.bipush 15, 2) := by decide +kernel
theorem dX9_isMotif_4 : decode cX9_isMotif 4 = .ok (.invokestatic 50, 3) := by decide +kernel
theorem dX9_isMotif_7 : decode cX9_isMotif 7 = .ok (.ireturn, 1) := by decide +kernel
theorem dX9_isRole_0 : decode cX9_isRole 0 = .ok (.iload_n 0, 1) := by decide +kernel
theorem dX9_isRole_1 : decode cX9_isRole 1 = .ok (.iconst 0, 1) := by decide +kernel
theorem dX9_isRole_2 : decode cX9_isRole 2 = .ok (.iconst 3, 1) := by decide +kernel
theorem dX9_isRole_3 : decode cX9_isRole 3 = .ok (.invokestatic 50, 3) := by decide +kernel
theorem dX9_isRole_6 : decode cX9_isRole 6 = .ok (.ireturn, 1) := by decide +kernel
theorem dX9_isPlace_0 : decode cX9_isPlace 0 = .ok (.iload_n 0, 1) := by decide +kernel
theorem dX9_isPlace_1 : decode cX9_isPlace 1 = .ok (.iconst 0, 1) := by decide +kernel
theorem dX9_isPlace_2 : decode cX9_isPlace 2 = .ok (.iconst 5, 1) := by decide +kernel
theorem dX9_isPlace_3 : decode cX9_isPlace 3 = .ok (.invokestatic 50, 3) := by decide +kernel
theorem dX9_isPlace_6 : decode cX9_isPlace 6 = .ok (.ireturn, 1) := by decide +kernel
theorem dX9_keep_0 : decode cX9_keep 0 = .ok (.aload_n 0, 1) := by decide +kernel
theorem dX9_keep_1 : decode cX9_keep 1 = .ok (.getfield 54, 3) := by decide +kernel
theorem dX9_keep_4 : decode cX9_keep 4 = .ok (.bipush 20, 2) := by decide +kernel
theorem dX9_keep_6 : decode cX9_keep 6 = .ok (.if_icmp .ne 44, 3) := by decide +kernel
theorem dX9_keep_9 : decode cX9_keep 9 = .ok (.iconst 0, 1) := by decide +kernel
theorem dX9_keep_10 : decode cX9_keep 10 = .ok (.istore_n 1, 1) := by decide +kernel
theorem dX9_keep_11 : decode cX9_keep 11 = .ok (.iload_n 1, 1) := by decide +kernel
theorem dX9_keep_12 : decode cX9_keep 12 = .ok (.sipush 7410, 3) := by decide +kernel
theorem dX9_keep_15 : decode cX9_keep 15 = .ok (.if_icmp .ge 25, 3) := by decide +kernel
theorem dX9_keep_18 : decode cX9_keep 18 = .ok (.aload_n 0, 1) := by decide +kernel
theorem dX9_keep_19 : decode cX9_keep 19 = .ok (.getfield 13, 3) := by decide +kernel
theorem dX9_keep_22 : decode cX9_keep 22 = .ok (.iload_n 1, 1) := by decide +kernel
theorem dX9_keep_23 : decode cX9_keep 23 = .ok (.aload_n 0, 1) := by decide +kernel
theorem dX9_keep_24 : decode cX9_keep 24 = .ok (.getfield 13, 3) := by decide +kernel
theorem dX9_keep_27 : decode cX9_keep 27 = .ok (.iload_n 1, 1) := by decide +kernel
theorem dX9_keep_28 : decode cX9_keep 28 = .ok (.sipush 390, 3) := by decide +kernel
theorem dX9_keep_31 : decode cX9_keep 31 = .ok (.iadd, 1) := by decide +kernel
theorem dX9_keep_32 : decode cX9_keep 32 = .ok (.iaload, 1) := by decide +kernel
theorem dX9_keep_33 : decode cX9_keep 33 = .ok (.iastore, 1) := by decide +kernel
theorem dX9_keep_34 : decode cX9_keep 34 = .ok (.iinc 1 1, 3) := by decide +kernel
theorem dX9_keep_37 : decode cX9_keep 37 = .ok (.goto (-26), 3) := by decide +kernel
theorem dX9_keep_40 : decode cX9_keep 40 = .ok (.aload_n 0, 1) := by decide +kernel
theorem dX9_keep_41 : decode cX9_keep 41 = .ok (.dup, 1) := by decide +kernel
theorem dX9_keep_42 : decode cX9_keep 42 = .ok (.getfield 54, 3) := by decide +kernel
theorem dX9_keep_45 : decode cX9_keep 45 = .ok (.iconst 1, 1) := by decide +kernel
theorem dX9_keep_46 : decode cX9_keep 46 = .ok (.isub, 1) := by decide +kernel
theorem dX9_keep_47 : decode cX9_keep 47 = .ok (.putfield 54, 3) := by decide +kernel
theorem dX9_keep_50 : decode cX9_keep 50 = .ok (.iconst 0, 1) := by decide +kernel
theorem dX9_keep_51 : decode cX9_keep 51 = .ok (.istore_n 1, 1) := by decide +kernel
theorem dX9_keep_52 : decode cX9_keep 52 = .ok (.iload_n 1, 1) := by decide +kernel
theorem dX9_keep_53 : decode cX9_keep 53 = .ok (.sipush 390, 3) := by decide +kernel
theorem dX9_keep_56 : decode cX9_keep 56 = .ok (.if_icmp .ge 30, 3) := by decide +kernel
theorem dX9_keep_59 : decode cX9_keep 59 = .ok (.aload_n 0, 1) := by decide +kernel
theorem dX9_keep_60 : decode cX9_keep 60 = .ok (.getfield 13, 3) := by decide +kernel
theorem dX9_keep_63 : decode cX9_keep 63 = .ok (.aload_n 0, 1) := by decide +kernel
theorem dX9_keep_64 : decode cX9_keep 64 = .ok (.getfield 54, 3) := by decide +kernel
theorem dX9_keep_67 : decode cX9_keep 67 = .ok (.sipush 390, 3) := by decide +kernel
theorem dX9_keep_70 : decode cX9_keep 70 = .ok (.imul, 1) := by decide +kernel
theorem dX9_keep_71 : decode cX9_keep 71 = .ok (.iload_n 1, 1) := by decide +kernel
theorem dX9_keep_72 : decode cX9_keep 72 = .ok (.iadd, 1) := by decide +kernel
theorem dX9_keep_73 : decode cX9_keep 73 = .ok (.aload_n 0, 1) := by decide +kernel
theorem dX9_keep_74 : decode cX9_keep 74 = .ok (.getfield 9, 3) := by decide +kernel
theorem dX9_keep_77 : decode cX9_keep 77 = .ok (.iload_n 1, 1) := by decide +kernel
theorem dX9_keep_78 : decode cX9_keep 78 = .ok (.iaload, 1) := by decide +kernel
theorem dX9_keep_79 : decode cX9_keep 79 = .ok (.iastore, 1) := by decide +kernel
theorem dX9_keep_80 : decode cX9_keep 80 = .ok (.iinc 1 1, 3) := by decide +kernel
theorem dX9_keep_83 : decode cX9_keep 83 = .ok (.goto (-31), 3) := by decide +kernel
theorem dX9_keep_86 : decode cX9_keep 86 = .ok (.aload_n 0, 1) := by decide +kernel
theorem dX9_keep_87 : decode cX9_keep 87 = .ok (.dup, 1) := by decide +kernel
theorem dX9_keep_88 : decode cX9_keep 88 = .ok (.getfield 54, 3) := by decide +kernel
theorem dX9_keep_91 : decode cX9_keep 91 = .ok (.iconst 1, 1) := by decide +kernel
theorem dX9_keep_92 : decode cX9_keep 92 = .ok (.iadd, 1) := by decide +kernel
theorem dX9_keep_93 : decode cX9_keep 93 = .ok (.putfield 54, 3) := by decide +kernel
theorem dX9_keep_96 : decode cX9_keep 96 = .ok (.return_, 1) := by decide +kernel
theorem dX9_undo_0 : decode cX9_undo 0 = .ok (.aload_n 0, 1) := by decide +kernel
theorem dX9_undo_1 : decode cX9_undo 1 = .ok (.getfield 54, 3) := by decide +kernel
theorem dX9_undo_4 : decode cX9_undo 4 = .ok (.ifCond .ne 10, 3) := by decide +kernel
theorem dX9_undo_7 : decode cX9_undo 7 = .ok (.aload_n 0, 1) := by decide +kernel
theorem dX9_undo_8 : decode cX9_undo 8 = .ok (.ldc 57, 2) := by decide +kernel
theorem dX9_undo_10 : decode cX9_undo 10 = .ok (.invokevirtual 58, 3) := by decide +kernel
theorem dX9_undo_13 : decode cX9_undo 13 = .ok (.ireturn, 1) := by decide +kernel
theorem dX9_undo_14 : decode cX9_undo 14 = .ok (.aload_n 0, 1) := by decide +kernel
theorem dX9_undo_15 : decode cX9_undo 15 = .ok (.dup, 1) := by decide +kernel
theorem dX9_undo_16 : decode cX9_undo 16 = .ok (.getfield 54, 3) := by decide +kernel
theorem dX9_undo_19 : decode cX9_undo 19 = .ok (.iconst 1, 1) := by decide +kernel
theorem dX9_undo_20 : decode cX9_undo 20 = .ok (.isub, 1) := by decide +kernel
theorem dX9_undo_21 : decode cX9_undo 21 = .ok (.putfield 54, 3) := by decide +kernel
theorem dX9_undo_24 : decode cX9_undo 24 = .ok (.iconst 0, 1) := by decide +kernel
theorem dX9_undo_25 : decode cX9_undo 25 = .ok (.istore_n 1, 1) := by decide +kernel
theorem dX9_undo_26 : decode cX9_undo 26 = .ok (.iload_n 1, 1) := by decide +kernel
theorem dX9_undo_27 : decode cX9_undo 27 = .ok (.sipush 390, 3) := by decide +kernel
theorem dX9_undo_30 : decode cX9_undo 30 = .ok (.if_icmp .ge 30, 3) := by decide +kernel
theorem dX9_undo_33 : decode cX9_undo 33 = .ok (.aload_n 0, 1) := by decide +kernel
theorem dX9_undo_34 : decode cX9_undo 34 = .ok (.getfield 9, 3) := by decide +kernel
theorem dX9_undo_37 : decode cX9_undo 37 = .ok (.iload_n 1, 1) := by decide +kernel
theorem dX9_undo_38 : decode cX9_undo 38 = .ok (.aload_n 0, 1) := by decide +kernel
theorem dX9_undo_39 : decode cX9_undo 39 = .ok (.getfield 13, 3) := by decide +kernel
theorem dX9_undo_42 : decode cX9_undo 42 = .ok (.aload_n 0, 1) := by decide +kernel
theorem dX9_undo_43 : decode cX9_undo 43 = .ok (.getfield 54, 3) := by decide +kernel
theorem dX9_undo_46 : decode cX9_undo 46 = .ok (.sipush 390, 3) := by decide +kernel
theorem dX9_undo_49 : decode cX9_undo 49 = .ok (.imul, 1) := by decide +kernel
theorem dX9_undo_50 : decode cX9_undo 50 = .ok (.iload_n 1, 1) := by decide +kernel
theorem dX9_undo_51 : decode cX9_undo 51 = .ok (.iadd, 1) := by decide +kernel
theorem dX9_undo_52 : decode cX9_undo 52 = .ok (.iaload, 1) := by decide +kernel
theorem dX9_undo_53 : decode cX9_undo 53 = .ok (.iastore, 1) := by decide +kernel
theorem dX9_undo_54 : decode cX9_undo 54 = .ok (.iinc 1 1, 3) := by decide +kernel
theorem dX9_undo_57 : decode cX9_undo 57 = .ok (.goto (-31), 3) := by decide +kernel
theorem dX9_undo_60 : decode cX9_undo 60 = .ok (.aload_n 0, 1) := by decide +kernel
theorem dX9_undo_61 : decode cX9_undo 61 = .ok (.getfield 54, 3) := by decide +kernel
theorem dX9_undo_64 : decode cX9_undo 64 = .ok (.ireturn, 1) := by decide +kernel
theorem dX9_tale_0 : decode cX9_tale 0 = .ok (.iload_n 1, 1) := by decide +kernel
theorem dX9_tale_1 : decode cX9_tale 1 = .ok (.iconst 0, 1) := by decide +kernel
theorem dX9_tale_2 : decode cX9_tale 2 = .ok (.iconst 3, 1) := by decide +kernel
theorem dX9_tale_3 : decode cX9_tale 3 = .ok (.invokestatic 50, 3) := by decide +kernel
theorem dX9_tale_6 : decode cX9_tale 6 = .ok (.ifCond .eq 21, 3) := by decide +kernel
theorem dX9_tale_9 : decode cX9_tale 9 = .ok (.iload_n 2, 1) := by decide +kernel
theorem dX9_tale_10 : decode cX9_tale 10 = .ok (.invokestatic 62, 3) := by decide +kernel
theorem dX9_tale_13 : decode cX9_tale 13 = .ok (.ifCond .eq 14, 3) := by decide +kernel
theorem dX9_tale_16 : decode cX9_tale 16 = .ok (.iload_n 3, 1) := by decide +kernel
theorem dX9_tale_17 : decode cX9_tale 17 = .ok (.iconst 0, 1) := by decide +kernel
theorem dX9_tale_18 : decode cX9_tale 18 = .ok (.sipush 999, 3) := by decide +kernel
theorem dX9_tale_21 : decode cX9_tale 21 = .ok (.invokestatic 50, 3) := by decide +kernel
theorem dX9_tale_24 : decode cX9_tale 24 = .ok (.ifCond .ne 10, 3) := by decide +kernel
theorem dX9_tale_27 : decode cX9_tale 27 = .ok (.aload_n 0, 1) := by decide +kernel
theorem dX9_tale_28 : decode cX9_tale 28 = .ok (.ldc 66, 2) := by decide +kernel
theorem dX9_tale_30 : decode cX9_tale 30 = .ok (.invokevirtual 58, 3) := by decide +kernel
theorem dX9_tale_33 : decode cX9_tale 33 = .ok (.ireturn, 1) := by decide +kernel
theorem dX9_tale_34 : decode cX9_tale 34 = .ok (.aload_n 0, 1) := by decide +kernel
theorem dX9_tale_35 : decode cX9_tale 35 = .ok (.getfield 9, 3) := by decide +kernel
theorem dX9_tale_38 : decode cX9_tale 38 = .ok (.iconst 0, 1) := by decide +kernel
theorem dX9_tale_39 : decode cX9_tale 39 = .ok (.iaload, 1) := by decide +kernel
theorem dX9_tale_40 : decode cX9_tale 40 = .ok (.istore 4, 2) := by decide +kernel
theorem dX9_tale_42 : decode cX9_tale 42 = .ok (.iload 4, 2) := by decide +kernel
theorem dX9_tale_44 : decode cX9_tale 44 = .ok (.bipush 10, 2) := by decide +kernel
theorem dX9_tale_46 : decode cX9_tale 46 = .ok (.if_icmp .ne 10, 3) := by decide +kernel
theorem dX9_tale_49 : decode cX9_tale 49 = .ok (.aload_n 0, 1) := by decide +kernel
theorem dX9_tale_50 : decode cX9_tale 50 = .ok (.ldc 67, 2) := by decide +kernel
theorem dX9_tale_52 : decode cX9_tale 52 = .ok (.invokevirtual 58, 3) := by decide +kernel
theorem dX9_tale_55 : decode cX9_tale 55 = .ok (.ireturn, 1) := by decide +kernel
theorem dX9_tale_56 : decode cX9_tale 56 = .ok (.aload_n 0, 1) := by decide +kernel
theorem dX9_tale_57 : decode cX9_tale 57 = .ok (.invokevirtual 68, 3) := by decide +kernel
theorem dX9_tale_60 : decode cX9_tale 60 = .ok (.aload_n 0, 1) := by decide +kernel
theorem dX9_tale_61 : decode cX9_tale 61 = .ok (.getfield 9, 3) := by decide +kernel
theorem dX9_tale_64 : decode cX9_tale 64 = .ok (.bipush 40, 2) := by decide +kernel
theorem dX9_tale_66 : decode cX9_tale 66 = .ok (.iload 4, 2) := by decide +kernel
theorem dX9_tale_68 : decode cX9_tale 68 = .ok (.iadd, 1) := by decide +kernel
theorem dX9_tale_69 : decode cX9_tale 69 = .ok (.iload_n 1, 1) := by decide +kernel
theorem dX9_tale_70 : decode cX9_tale 70 = .ok (.iastore, 1) := by decide +kernel
theorem dX9_tale_71 : decode cX9_tale 71 = .ok (.aload_n 0, 1) := by decide +kernel
theorem dX9_tale_72 : decode cX9_tale 72 = .ok (.getfield 9, 3) := by decide +kernel
theorem dX9_tale_75 : decode cX9_tale 75 = .ok (.bipush 50, 2) := by decide +kernel
theorem dX9_tale_77 : decode cX9_tale 77 = .ok (.iload 4, 2) := by decide +kernel
theorem dX9_tale_79 : decode cX9_tale 79 = .ok (.iadd, 1) := by decide +kernel
theorem dX9_tale_80 : decode cX9_tale 80 = .ok (.iload_n 2, 1) := by decide +kernel
theorem dX9_tale_81 : decode cX9_tale 81 = .ok (.iastore, 1) := by decide +kernel
theorem dX9_tale_82 : decode cX9_tale 82 = .ok (.aload_n 0, 1) := by decide +kernel
theorem dX9_tale_83 : decode cX9_tale 83 = .ok (.getfield 9, 3) := by decide +kernel
theorem dX9_tale_86 : decode cX9_tale 86 = .ok (.bipush 60, 2) := by decide +kernel
theorem dX9_tale_88 : decode cX9_tale 88 = .ok (.iload 4, 2) := by decide +kernel
theorem dX9_tale_90 : decode cX9_tale 90 = .ok (.iadd, 1) := by decide +kernel
theorem dX9_tale_91 : decode cX9_tale 91 = .ok (.iload_n 3, 1) := by decide +kernel
theorem dX9_tale_92 : decode cX9_tale 92 = .ok (.iastore, 1) := by decide +kernel
theorem dX9_tale_93 : decode cX9_tale 93 = .ok (.aload_n 0, 1) := by decide +kernel
theorem dX9_tale_94 : decode cX9_tale 94 = .ok (.getfield 9, 3) := by decide +kernel
theorem dX9_tale_97 : decode cX9_tale 97 = .ok (.bipush 70, 2) := by decide +kernel
theorem dX9_tale_99 : decode cX9_tale 99 = .ok (.iload 4, 2) := by decide +kernel
theorem dX9_tale_101 : decode cX9_tale 101 = .ok (.iadd, 1) := by decide +kernel
theorem dX9_tale_102 : decode cX9_tale 102 = .ok (.iconst 0, 1) := by decide +kernel
theorem dX9_tale_103 : decode cX9_tale 103 = .ok (.iastore, 1) := by decide +kernel
theorem dX9_tale_104 : decode cX9_tale 104 = .ok (.aload_n 0, 1) := by decide +kernel
theorem dX9_tale_105 : decode cX9_tale 105 = .ok (.getfield 9, 3) := by decide +kernel
theorem dX9_tale_108 : decode cX9_tale 108 = .ok (.bipush 80, 2) := by decide +kernel
theorem dX9_tale_110 : decode cX9_tale 110 = .ok (.iload 4, 2) := by decide +kernel
theorem dX9_tale_112 : decode cX9_tale 112 = .ok (.iadd, 1) := by decide +kernel
theorem dX9_tale_113 : decode cX9_tale 113 = .ok (.iconst (-1), 1) := by decide +kernel
theorem dX9_tale_114 : decode cX9_tale 114 = .ok (.iastore, 1) := by decide +kernel
theorem dX9_tale_115 : decode cX9_tale 115 = .ok (.aload_n 0, 1) := by decide +kernel
theorem dX9_tale_116 : decode cX9_tale 116 = .ok (.getfield 9, 3) := by decide +kernel
theorem dX9_tale_119 : decode cX9_tale 119 = .ok (.iconst 0, 1) := by decide +kernel
theorem dX9_tale_120 : decode cX9_tale 120 = .ok (.dup2, 1) := by decide +kernel
theorem dX9_tale_121 : decode cX9_tale 121 = .ok (.iaload, 1) := by decide +kernel
theorem dX9_tale_122 : decode cX9_tale 122 = .ok (.iconst 1, 1) := by decide +kernel
theorem dX9_tale_123 : decode cX9_tale 123 = .ok (.iadd, 1) := by decide +kernel
theorem dX9_tale_124 : decode cX9_tale 124 = .ok (.iastore, 1) := by decide +kernel
theorem dX9_tale_125 : decode cX9_tale 125 = .ok (.iload 4, 2) := by decide +kernel
theorem dX9_tale_127 : decode cX9_tale 127 = .ok (.ireturn, 1) := by decide +kernel
theorem dX9_as_0 : decode cX9_as 0 = .ok (.aload_n 0, 1) := by decide +kernel
theorem dX9_as_1 : decode cX9_as 1 = .ok (.iload_n 1, 1) := by decide +kernel
theorem dX9_as_2 : decode cX9_as 2 = .ok (.invokevirtual 71, 3) := by decide +kernel
theorem dX9_as_5 : decode cX9_as 5 = .ok (.ifCond .eq 12, 3) := by decide +kernel
theorem dX9_as_8 : decode cX9_as 8 = .ok (.iload_n 2, 1) := by decide +kernel
theorem dX9_as_9 : decode cX9_as 9 = .ok (.iconst 0, 1) := by decide +kernel
theorem dX9_as_10 : decode cX9_as 10 = .ok (.iconst 3, 1) := by decide +kernel
theorem dX9_as_11 : decode cX9_as 11 = .ok (.invokestatic 50, 3) := by decide +kernel
theorem dX9_as_14 : decode cX9_as 14 = .ok (.ifCond .ne 10, 3) := by decide +kernel
theorem dX9_as_17 : decode cX9_as 17 = .ok (.aload_n 0, 1) := by decide +kernel
theorem dX9_as_18 : decode cX9_as 18 = .ok (.ldc 66, 2) := by decide +kernel
theorem dX9_as_20 : decode cX9_as 20 = .ok (.invokevirtual 58, 3) := by decide +kernel
theorem dX9_as_23 : decode cX9_as 23 = .ok (.ireturn, 1) := by decide +kernel
theorem dX9_as_24 : decode cX9_as 24 = .ok (.aload_n 0, 1) := by decide +kernel
theorem dX9_as_25 : decode cX9_as 25 = .ok (.getfield 9, 3) := by decide +kernel
theorem dX9_as_28 : decode cX9_as 28 = .ok (.bipush 40, 2) := by decide +kernel
theorem dX9_as_30 : decode cX9_as 30 = .ok (.iload_n 1, 1) := by decide +kernel
theorem dX9_as_31 : decode cX9_as 31 = .ok (.iadd, 1) := by decide +kernel
theorem dX9_as_32 : decode cX9_as 32 = .ok (.iaload, 1) := by decide +kernel
theorem dX9_as_33 : decode cX9_as 33 = .ok (.istore_n 3, 1) := by decide +kernel
theorem dX9_as_34 : decode cX9_as 34 = .ok (.iload_n 2, 1) := by decide +kernel
theorem dX9_as_35 : decode cX9_as 35 = .ok (.ifCond .eq 18, 3) := by decide +kernel
theorem dX9_as_38 : decode cX9_as 38 = .ok (.iload_n 3, 1) := by decide +kernel
theorem dX9_as_39 : decode cX9_as 39 = .ok (.iload_n 2, 1) := by decide +kernel
theorem dX9_as_40 : decode cX9_as 40 = .ok (.if_icmp .eq 13, 3) := by decide +kernel
theorem dX9_as_43 : decode cX9_as 43 = .ok (.iload_n 2, 1) := by decide +kernel
theorem dX9_as_44 : decode cX9_as 44 = .ok (.iconst 1, 1) := by decide +kernel
theorem dX9_as_45 : decode cX9_as 45 = .ok (.if_icmp .ne 12, 3) := by decide +kernel
theorem dX9_as_48 : decode cX9_as 48 = .ok (.iload_n 3, 1) := by decide +kernel
theorem dX9_as_49 : decode cX9_as 49 = .ok (.iconst 3, 1) := by decide +kernel
theorem dX9_as_50 : decode cX9_as 50 = .ok (.if_icmp .ne 7, 3) := by decide +kernel
theorem dX9_as_53 : decode cX9_as 53 = .ok (.iload_n 1, 1) := by decide +kernel
theorem dX9_as_54 : decode cX9_as 54 = .ok (.goto 9, 3) := by decide +kernel
theorem dX9_as_57 : decode cX9_as 57 = .ok (.aload_n 0, 1) := by decide +kernel
theorem dX9_as_58 : decode cX9_as 58 = .ok (.ldc 74, 2) := by decide +kernel
theorem dX9_as_60 : decode cX9_as 60 = .ok (.invokevirtual 58, 3) := by decide +kernel
theorem dX9_as_63 : decode cX9_as 63 = .ok (.ireturn, 1) := by decide +kernel
theorem dX9_stepOf_0 : decode cX9_stepOf 0 = .ok (.aload_n 0, 1) := by decide +kernel
theorem dX9_stepOf_1 : decode cX9_stepOf 1 = .ok (.getfield 9, 3) := by decide +kernel
theorem dX9_stepOf_4 : decode cX9_stepOf 4 = .ok (.bipush 90, 2) := by decide +kernel
theorem dX9_stepOf_6 : decode cX9_stepOf 6 = .ok (.iconst 3, 1) := by decide +kernel
theorem dX9_stepOf_7 : decode cX9_stepOf 7 = .ok (.bipush 10, 2) := by decide +kernel
theorem dX9_stepOf_9 : decode cX9_stepOf 9 = .ok (.iload_n 1, 1) := by decide +kernel
theorem dX9_stepOf_10 : decode cX9_stepOf 10 = .ok (.imul, 1) := by decide +kernel
theorem dX9_stepOf_11 : decode cX9_stepOf 11 = .ok (.iload_n 2, 1) := by decide +kernel
theorem dX9_stepOf_12 : decode cX9_stepOf 12 = .ok (.iadd, 1) := by decide +kernel
theorem dX9_stepOf_13 : decode cX9_stepOf 13 = .ok (.imul, 1) := by decide +kernel
theorem dX9_stepOf_14 : decode cX9_stepOf 14 = .ok (.iadd, 1) := by decide +kernel
theorem dX9_stepOf_15 : decode cX9_stepOf 15 = .ok (.iload_n 3, 1) := by decide +kernel
theorem dX9_stepOf_16 : decode cX9_stepOf 16 = .ok (.iadd, 1) := by decide +kernel
theorem dX9_stepOf_17 : decode cX9_stepOf 17 = .ok (.iaload, 1) := by decide +kernel
theorem dX9_stepOf_18 : decode cX9_stepOf 18 = .ok (.ireturn, 1) := by decide +kernel
theorem dX9_setStep_0 : decode cX9_setStep 0 = .ok (.bipush 90, 2) := by decide +kernel
theorem dX9_setStep_2 : decode cX9_setStep 2 = .ok (.iconst 3, 1) := by decide +kernel
theorem dX9_setStep_3 : decode cX9_setStep 3 = .ok (.bipush 10, 2) := by decide +kernel
theorem dX9_setStep_5 : decode cX9_setStep 5 = .ok (.iload_n 1, 1) := by decide +kernel
theorem dX9_setStep_6 : decode cX9_setStep 6 = .ok (.imul, 1) := by decide +kernel
theorem dX9_setStep_7 : decode cX9_setStep 7 = .ok (.iload_n 2, 1) := by decide +kernel
theorem dX9_setStep_8 : decode cX9_setStep 8 = .ok (.iadd, 1) := by decide +kernel
theorem dX9_setStep_9 : decode cX9_setStep 9 = .ok (.imul, 1) := by decide +kernel
theorem dX9_setStep_10 : decode cX9_setStep 10 = .ok (.iadd, 1) := by decide +kernel
theorem dX9_setStep_11 : decode cX9_setStep 11 = .ok (.istore 6, 2) := by decide +kernel
theorem dX9_setStep_13 : decode cX9_setStep 13 = .ok (.aload_n 0, 1) := by decide +kernel
theorem dX9_setStep_14 : decode cX9_setStep 14 = .ok (.getfield 9, 3) := by decide +kernel
theorem dX9_setStep_17 : decode cX9_setStep 17 = .ok (.iload 6, 2) := by decide +kernel
theorem dX9_setStep_19 : decode cX9_setStep 19 = .ok (.iload_n 3, 1) := by decide +kernel
theorem dX9_setStep_20 : decode cX9_setStep 20 = .ok (.iastore, 1) := by decide +kernel
theorem dX9_setStep_21 : decode cX9_setStep 21 = .ok (.aload_n 0, 1) := by decide +kernel
theorem dX9_setStep_22 : decode cX9_setStep 22 = .ok (.getfield 9, 3) := by decide +kernel
theorem dX9_setStep_25 : decode cX9_setStep 25 = .ok (.iload 6, 2) := by decide +kernel
theorem dX9_setStep_27 : decode cX9_setStep 27 = .ok (.iconst 1, 1) := by decide +kernel
theorem dX9_setStep_28 : decode cX9_setStep 28 = .ok (.iadd, 1) := by decide +kernel
theorem dX9_setStep_29 : decode cX9_setStep 29 = .ok (.iload 4, 2) := by decide +kernel
theorem dX9_setStep_31 : decode cX9_setStep 31 = .ok (.iastore, 1) := by decide +kernel
theorem dX9_setStep_32 : decode cX9_setStep 32 = .ok (.aload_n 0, 1) := by decide +kernel
theorem dX9_setStep_33 : decode cX9_setStep 33 = .ok (.getfield 9, 3) := by decide +kernel
theorem dX9_setStep_36 : decode cX9_setStep 36 = .ok (.iload 6, 2) := by decide +kernel
theorem dX9_setStep_38 : decode cX9_setStep 38 = .ok (.iconst 2, 1) := by decide +kernel
theorem dX9_setStep_39 : decode cX9_setStep 39 = .ok (.iadd, 1) := by decide +kernel
theorem dX9_setStep_40 : decode cX9_setStep 40 = .ok (.iload 5, 2) := by decide +kernel
theorem dX9_setStep_42 : decode cX9_setStep 42 = .ok (.iastore, 1) := by decide +kernel
theorem dX9_setStep_43 : decode cX9_setStep 43 = .ok (.return_, 1) := by decide +kernel
theorem dX9_step_0 : decode cX9_step 0 = .ok (.aload_n 0, 1) := by decide +kernel
theorem dX9_step_1 : decode cX9_step 1 = .ok (.iload_n 1, 1) := by decide +kernel
theorem dX9_step_2 : decode cX9_step 2 = .ok (.invokevirtual 71, 3) := by decide +kernel
theorem dX9_step_5 : decode cX9_step 5 = .ok (.ifCond .eq 25, 3) := by decide +kernel
theorem dX9_step_8 : decode cX9_step 8 = .ok (.iload_n 2, 1) := by decide +kernel
theorem dX9_step_9 : decode cX9_step 9 = .ok (.invokestatic 75, 3) := by decide +kernel
theorem dX9_step_12 : decode cX9_step 12 = .ok (.ifCond .eq 18, 3) := by decide +kernel
theorem dX9_step_15 : decode cX9_step 15 = .ok (.iload_n 3, 1) := by decide +kernel
theorem dX9_step_16 : decode cX9_step 16 = .ok (.invokestatic 78, 3) := by decide +kernel
theorem dX9_step_19 : decode cX9_step 19 = .ok (.ifCond .eq 11, 3) := by decide +kernel
theorem dX9_step_22 : decode cX9_step 22 = .ok (.iload 4, 2) := by decide +kernel
theorem dX9_step_24 : decode cX9_step 24 = .ok (.invokestatic 78, 3) := by decide +kernel
theorem dX9_step_27 : decode cX9_step 27 = .ok (.ifCond .ne 10, 3) := by decide +kernel
theorem dX9_step_30 : decode cX9_step 30 = .ok (.aload_n 0, 1) := by decide +kernel
theorem dX9_step_31 : decode cX9_step 31 = .ok (.ldc 66, 2) := by decide +kernel
theorem dX9_step_33 : decode cX9_step 33 = .ok (.invokevirtual 58, 3) := by decide +kernel
theorem dX9_step_36 : decode cX9_step 36 = .ok (.ireturn, 1) := by decide +kernel
theorem dX9_step_37 : decode cX9_step 37 = .ok (.aload_n 0, 1) := by decide +kernel
theorem dX9_step_38 : decode cX9_step 38 = .ok (.getfield 9, 3) := by decide +kernel
theorem dX9_step_41 : decode cX9_step 41 = .ok (.bipush 70, 2) := by decide +kernel
theorem dX9_step_43 : decode cX9_step 43 = .ok (.iload_n 1, 1) := by decide +kernel
theorem dX9_step_44 : decode cX9_step 44 = .ok (.iadd, 1) := by decide +kernel
theorem dX9_step_45 : decode cX9_step 45 = .ok (.iaload, 1) := by decide +kernel
theorem dX9_step_46 : decode cX9_step 46 = .ok (.bipush 10, 2) := by decide +kernel
theorem dX9_step_48 : decode cX9_step 48 = .ok (.if_icmp .ne 10, 3) := by decide +kernel
theorem dX9_step_51 : decode cX9_step 51 = .ok (.aload_n 0, 1) := by decide +kernel
theorem dX9_step_52 : decode cX9_step 52 = .ok (.ldc 67, 2) := by decide +kernel
theorem dX9_step_54 : decode cX9_step 54 = .ok (.invokevirtual 58, 3) := by decide +kernel
theorem dX9_step_57 : decode cX9_step 57 = .ok (.ireturn, 1) := by decide +kernel
theorem dX9_step_58 : decode cX9_step 58 = .ok (.aload_n 0, 1) := by decide +kernel
theorem dX9_step_59 : decode cX9_step 59 = .ok (.invokevirtual 68, 3) := by decide +kernel
theorem dX9_step_62 : decode cX9_step 62 = .ok (.aload_n 0, 1) := by decide +kernel
theorem dX9_step_63 : decode cX9_step 63 = .ok (.iload_n 1, 1) := by decide +kernel
theorem dX9_step_64 : decode cX9_step 64 = .ok (.aload_n 0, 1) := by decide +kernel
theorem dX9_step_65 : decode cX9_step 65 = .ok (.getfield 9, 3) := by decide +kernel
theorem dX9_step_68 : decode cX9_step 68 = .ok (.bipush 70, 2) := by decide +kernel
theorem dX9_step_70 : decode cX9_step 70 = .ok (.iload_n 1, 1) := by decide +kernel
theorem dX9_step_71 : decode cX9_step 71 = .ok (.iadd, 1) := by decide +kernel
theorem dX9_step_72 : decode cX9_step 72 = .ok (.iaload, 1) := by decide +kernel
theorem dX9_step_73 : decode cX9_step 73 = .ok (.iload_n 2, 1) := by decide +kernel
theorem dX9_step_74 : decode cX9_step 74 = .ok (.iload_n 3, 1) := by decide +kernel
theorem dX9_step_75 : decode cX9_step 75 = .ok (.iload 4, 2) := by decide +kernel
theorem dX9_step_77 : decode cX9_step 77 = .ok (.invokevirtual 81, 3) := by decide +kernel
theorem dX9_step_80 : decode cX9_step 80 = .ok (.aload_n 0, 1) := by decide +kernel
theorem dX9_step_81 : decode cX9_step 81 = .ok (.getfield 9, 3) := by decide +kernel
theorem dX9_step_84 : decode cX9_step 84 = .ok (.bipush 70, 2) := by decide +kernel
theorem dX9_step_86 : decode cX9_step 86 = .ok (.iload_n 1, 1) := by decide +kernel
theorem dX9_step_87 : decode cX9_step 87 = .ok (.iadd, 1) := by decide +kernel
theorem dX9_step_88 : decode cX9_step 88 = .ok (.dup2, 1) := by decide +kernel
theorem dX9_step_89 : decode cX9_step 89 = .ok (.iaload, 1) := by decide +kernel
theorem dX9_step_90 : decode cX9_step 90 = .ok (.iconst 1, 1) := by decide +kernel
theorem dX9_step_91 : decode cX9_step 91 = .ok (.iadd, 1) := by decide +kernel
theorem dX9_step_92 : decode cX9_step 92 = .ok (.iastore, 1) := by decide +kernel
theorem dX9_step_93 : decode cX9_step 93 = .ok (.aload_n 0, 1) := by decide +kernel
theorem dX9_step_94 : decode cX9_step 94 = .ok (.getfield 9, 3) := by decide +kernel
theorem dX9_step_97 : decode cX9_step 97 = .ok (.bipush 70, 2) := by decide +kernel
theorem dX9_step_99 : decode cX9_step 99 = .ok (.iload_n 1, 1) := by decide +kernel
theorem dX9_step_100 : decode cX9_step 100 = .ok (.iadd, 1) := by decide +kernel
theorem dX9_step_101 : decode cX9_step 101 = .ok (.iaload, 1) := by decide +kernel
theorem dX9_step_102 : decode cX9_step 102 = .ok (.ireturn, 1) := by decide +kernel
theorem dX9_unstep_0 : decode cX9_unstep 0 = .ok (.aload_n 0, 1) := by decide +kernel
theorem dX9_unstep_1 : decode cX9_unstep 1 = .ok (.iload_n 1, 1) := by decide +kernel
theorem dX9_unstep_2 : decode cX9_unstep 2 = .ok (.invokevirtual 71, 3) := by decide +kernel
theorem dX9_unstep_5 : decode cX9_unstep 5 = .ok (.ifCond .ne 10, 3) := by decide +kernel
theorem dX9_unstep_8 : decode cX9_unstep 8 = .ok (.aload_n 0, 1) := by decide +kernel
theorem dX9_unstep_9 : decode cX9_unstep 9 = .ok (.ldc 66, 2) := by decide +kernel
theorem dX9_unstep_11 : decode cX9_unstep 11 = .ok (.invokevirtual 58, 3) := by decide +kernel
theorem dX9_unstep_14 : decode cX9_unstep 14 = .ok (.ireturn, 1) := by decide +kernel
theorem dX9_unstep_15 : decode cX9_unstep 15 = .ok (.aload_n 0, 1) := by decide +kernel
theorem dX9_unstep_16 : decode cX9_unstep 16 = .ok (.getfield 9, 3) := by decide +kernel
theorem dX9_unstep_19 : decode cX9_unstep 19 = .ok (.bipush 70, 2) := by decide +kernel
theorem dX9_unstep_21 : decode cX9_unstep 21 = .ok (.iload_n 1, 1) := by decide +kernel
theorem dX9_unstep_22 : decode cX9_unstep 22 = .ok (.iadd, 1) := by decide +kernel
theorem dX9_unstep_23 : decode cX9_unstep 23 = .ok (.iaload, 1) := by decide +kernel
theorem dX9_unstep_24 : decode cX9_unstep 24 = .ok (.ifCond .ne 10, 3) := by decide +kernel
theorem dX9_unstep_27 : decode cX9_unstep 27 = .ok (.aload_n 0, 1) := by decide +kernel
theorem dX9_unstep_28 : decode cX9_unstep 28 = .ok (.ldc 57, 2) := by decide +kernel
theorem dX9_unstep_30 : decode cX9_unstep 30 = .ok (.invokevirtual 58, 3) := by decide +kernel
theorem dX9_unstep_33 : decode cX9_unstep 33 = .ok (.ireturn, 1) := by decide +kernel
theorem dX9_unstep_34 : decode cX9_unstep 34 = .ok (.aload_n 0, 1) := by decide +kernel
theorem dX9_unstep_35 : decode cX9_unstep 35 = .ok (.invokevirtual 68, 3) := by decide +kernel
theorem dX9_unstep_38 : decode cX9_unstep 38 = .ok (.aload_n 0, 1) := by decide +kernel
theorem dX9_unstep_39 : decode cX9_unstep 39 = .ok (.getfield 9, 3) := by decide +kernel
theorem dX9_unstep_42 : decode cX9_unstep 42 = .ok (.bipush 70, 2) := by decide +kernel
theorem dX9_unstep_44 : decode cX9_unstep 44 = .ok (.iload_n 1, 1) := by decide +kernel
theorem dX9_unstep_45 : decode cX9_unstep 45 = .ok (.iadd, 1) := by decide +kernel
theorem dX9_unstep_46 : decode cX9_unstep 46 = .ok (.dup2, 1) := by decide +kernel
theorem dX9_unstep_47 : decode cX9_unstep 47 = .ok (.iaload, 1) := by decide +kernel
theorem dX9_unstep_48 : decode cX9_unstep 48 = .ok (.iconst 1, 1) := by decide +kernel
theorem dX9_unstep_49 : decode cX9_unstep 49 = .ok (.isub, 1) := by decide +kernel
theorem dX9_unstep_50 : decode cX9_unstep 50 = .ok (.iastore, 1) := by decide +kernel
theorem dX9_unstep_51 : decode cX9_unstep 51 = .ok (.aload_n 0, 1) := by decide +kernel
theorem dX9_unstep_52 : decode cX9_unstep 52 = .ok (.getfield 9, 3) := by decide +kernel
theorem dX9_unstep_55 : decode cX9_unstep 55 = .ok (.bipush 70, 2) := by decide +kernel
theorem dX9_unstep_57 : decode cX9_unstep 57 = .ok (.iload_n 1, 1) := by decide +kernel
theorem dX9_unstep_58 : decode cX9_unstep 58 = .ok (.iadd, 1) := by decide +kernel
theorem dX9_unstep_59 : decode cX9_unstep 59 = .ok (.iaload, 1) := by decide +kernel
theorem dX9_unstep_60 : decode cX9_unstep 60 = .ok (.ireturn, 1) := by decide +kernel
theorem dX9_isStep_0 : decode cX9_isStep 0 = .ok (.aload_n 0, 1) := by decide +kernel
theorem dX9_isStep_1 : decode cX9_isStep 1 = .ok (.iload_n 1, 1) := by decide +kernel
theorem dX9_isStep_2 : decode cX9_isStep 2 = .ok (.invokevirtual 71, 3) := by decide +kernel
theorem dX9_isStep_5 : decode cX9_isStep 5 = .ok (.ifCond .eq 26, 3) := by decide +kernel
theorem dX9_isStep_8 : decode cX9_isStep 8 = .ok (.iload_n 2, 1) := by decide +kernel
theorem dX9_isStep_9 : decode cX9_isStep 9 = .ok (.iconst 0, 1) := by decide +kernel
theorem dX9_isStep_10 : decode cX9_isStep 10 = .ok (.aload_n 0, 1) := by decide +kernel
theorem dX9_isStep_11 : decode cX9_isStep 11 = .ok (.getfield 9, 3) := by decide +kernel
theorem dX9_isStep_14 : decode cX9_isStep 14 = .ok (.bipush 70, 2) := by decide +kernel
theorem dX9_isStep_16 : decode cX9_isStep 16 = .ok (.iload_n 1, 1) := by decide +kernel
theorem dX9_isStep_17 : decode cX9_isStep 17 = .ok (.iadd, 1) := by decide +kernel
theorem dX9_isStep_18 : decode cX9_isStep 18 = .ok (.iaload, 1) := by decide +kernel
theorem dX9_isStep_19 : decode cX9_isStep 19 = .ok (.iconst 1, 1) := by decide +kernel
theorem dX9_isStep_20 : decode cX9_isStep 20 = .ok (.isub, 1) := by decide +kernel
theorem dX9_isStep_21 : decode cX9_isStep 21 = .ok (.invokestatic 50, 3) := by decide +kernel
theorem dX9_isStep_24 : decode cX9_isStep 24 = .ok (.ifCond .eq 7, 3) := by decide +kernel
theorem dX9_isStep_27 : decode cX9_isStep 27 = .ok (.iconst 1, 1) := by decide +kernel
theorem dX9_isStep_28 : decode cX9_isStep 28 = .ok (.goto 4, 3) := by decide +kernel
theorem dX9_isStep_31 : decode cX9_isStep 31 = .ok (.iconst 0, 1) := by decide +kernel
theorem dX9_isStep_32 : decode cX9_isStep 32 = .ok (.ireturn, 1) := by decide +kernel
theorem dX9_of_0 : decode cX9_of 0 = .ok (.aload_n 0, 1) := by decide +kernel
theorem dX9_of_1 : decode cX9_of 1 = .ok (.iload_n 1, 1) := by decide +kernel
theorem dX9_of_2 : decode cX9_of 2 = .ok (.iload_n 2, 1) := by decide +kernel
theorem dX9_of_3 : decode cX9_of 3 = .ok (.invokevirtual 85, 3) := by decide +kernel
theorem dX9_of_6 : decode cX9_of 6 = .ok (.ifCond .eq 22, 3) := by decide +kernel
theorem dX9_of_9 : decode cX9_of 9 = .ok (.iload_n 3, 1) := by decide +kernel
theorem dX9_of_10 : decode cX9_of 10 = .ok (.iconst 0, 1) := by decide +kernel
theorem dX9_of_11 : decode cX9_of 11 = .ok (.iconst 2, 1) := by decide +kernel
theorem dX9_of_12 : decode cX9_of 12 = .ok (.invokestatic 50, 3) := by decide +kernel
theorem dX9_of_15 : decode cX9_of 15 = .ok (.ifCond .eq 13, 3) := by decide +kernel
theorem dX9_of_18 : decode cX9_of 18 = .ok (.aload_n 0, 1) := by decide +kernel
theorem dX9_of_19 : decode cX9_of 19 = .ok (.iload_n 1, 1) := by decide +kernel
theorem dX9_of_20 : decode cX9_of 20 = .ok (.iload_n 2, 1) := by decide +kernel
theorem dX9_of_21 : decode cX9_of 21 = .ok (.iload_n 3, 1) := by decide +kernel
theorem dX9_of_22 : decode cX9_of 22 = .ok (.invokevirtual 89, 3) := by decide +kernel
theorem dX9_of_25 : decode cX9_of 25 = .ok (.goto 9, 3) := by decide +kernel
theorem dX9_of_28 : decode cX9_of 28 = .ok (.aload_n 0, 1) := by decide +kernel
theorem dX9_of_29 : decode cX9_of 29 = .ok (.ldc 66, 2) := by decide +kernel
theorem dX9_of_31 : decode cX9_of 31 = .ok (.invokevirtual 58, 3) := by decide +kernel
theorem dX9_of_34 : decode cX9_of 34 = .ok (.ireturn, 1) := by decide +kernel
theorem dX9_isCut_0 : decode cX9_isCut 0 = .ok (.aload_n 0, 1) := by decide +kernel
theorem dX9_isCut_1 : decode cX9_isCut 1 = .ok (.getfield 9, 3) := by decide +kernel
theorem dX9_isCut_4 : decode cX9_isCut 4 = .ok (.bipush 40, 2) := by decide +kernel
theorem dX9_isCut_6 : decode cX9_isCut 6 = .ok (.iload_n 1, 1) := by decide +kernel
theorem dX9_isCut_7 : decode cX9_isCut 7 = .ok (.iadd, 1) := by decide +kernel
theorem dX9_isCut_8 : decode cX9_isCut 8 = .ok (.iaload, 1) := by decide +kernel
theorem dX9_isCut_9 : decode cX9_isCut 9 = .ok (.iconst 2, 1) := by decide +kernel
theorem dX9_isCut_10 : decode cX9_isCut 10 = .ok (.if_icmp .ne 20, 3) := by decide +kernel
theorem dX9_isCut_13 : decode cX9_isCut 13 = .ok (.aload_n 0, 1) := by decide +kernel
theorem dX9_isCut_14 : decode cX9_isCut 14 = .ok (.getfield 9, 3) := by decide +kernel
theorem dX9_isCut_17 : decode cX9_isCut 17 = .ok (.bipush 70, 2) := by decide +kernel
theorem dX9_isCut_19 : decode cX9_isCut 19 = .ok (.iload_n 1, 1) := by decide +kernel
theorem dX9_isCut_20 : decode cX9_isCut 20 = .ok (.iadd, 1) := by decide +kernel
theorem dX9_isCut_21 : decode cX9_isCut 21 = .ok (.iaload, 1) := by decide +kernel
theorem dX9_isCut_22 : decode cX9_isCut 22 = .ok (.iconst 1, 1) := by decide +kernel
theorem dX9_isCut_23 : decode cX9_isCut 23 = .ok (.if_icmp .le 7, 3) := by decide +kernel
theorem dX9_isCut_26 : decode cX9_isCut 26 = .ok (.iconst 1, 1) := by decide +kernel
theorem dX9_isCut_27 : decode cX9_isCut 27 = .ok (.goto 4, 3) := by decide +kernel
theorem dX9_isCut_30 : decode cX9_isCut 30 = .ok (.iconst 0, 1) := by decide +kernel
theorem dX9_isCut_31 : decode cX9_isCut 31 = .ok (.ireturn, 1) := by decide +kernel
theorem dX9_laidFrom_0 : decode cX9_laidFrom 0 = .ok (.aload_n 0, 1) := by decide +kernel
theorem dX9_laidFrom_1 : decode cX9_laidFrom 1 = .ok (.iload_n 1, 1) := by decide +kernel
theorem dX9_laidFrom_2 : decode cX9_laidFrom 2 = .ok (.invokevirtual 93, 3) := by decide +kernel
theorem dX9_laidFrom_5 : decode cX9_laidFrom 5 = .ok (.ifCond .eq 7, 3) := by decide +kernel
theorem dX9_laidFrom_8 : decode cX9_laidFrom 8 = .ok (.iconst 1, 1) := by decide +kernel
theorem dX9_laidFrom_9 : decode cX9_laidFrom 9 = .ok (.goto 4, 3) := by decide +kernel
theorem dX9_laidFrom_12 : decode cX9_laidFrom 12 = .ok (.iconst 0, 1) := by decide +kernel
theorem dX9_laidFrom_13 : decode cX9_laidFrom 13 = .ok (.ireturn, 1) := by decide +kernel
theorem dX9_laidTo_0 : decode cX9_laidTo 0 = .ok (.aload_n 0, 1) := by decide +kernel
theorem dX9_laidTo_1 : decode cX9_laidTo 1 = .ok (.getfield 9, 3) := by decide +kernel
theorem dX9_laidTo_4 : decode cX9_laidTo 4 = .ok (.bipush 70, 2) := by decide +kernel
theorem dX9_laidTo_6 : decode cX9_laidTo 6 = .ok (.iload_n 1, 1) := by decide +kernel
theorem dX9_laidTo_7 : decode cX9_laidTo 7 = .ok (.iadd, 1) := by decide +kernel
theorem dX9_laidTo_8 : decode cX9_laidTo 8 = .ok (.iaload, 1) := by decide +kernel
theorem dX9_laidTo_9 : decode cX9_laidTo 9 = .ok (.aload_n 0, 1) := by decide +kernel
theorem dX9_laidTo_10 : decode cX9_laidTo 10 = .ok (.iload_n 1, 1) := by decide +kernel
theorem dX9_laidTo_11 : decode cX9_laidTo 11 = .ok (.invokevirtual 96, 3) := by decide +kernel
theorem dX9_laidTo_14 : decode cX9_laidTo 14 = .ok (.isub, 1) := by decide +kernel
theorem dX9_laidTo_15 : decode cX9_laidTo 15 = .ok (.ireturn, 1) := by decide +kernel
theorem dX9_told_0 : decode cX9_told 0 = .ok (.aload_n 0, 1) := by decide +kernel
theorem dX9_told_1 : decode cX9_told 1 = .ok (.iload_n 1, 1) := by decide +kernel
theorem dX9_told_2 : decode cX9_told 2 = .ok (.invokevirtual 71, 3) := by decide +kernel
theorem dX9_told_5 : decode cX9_told 5 = .ok (.ifCond .eq 12, 3) := by decide +kernel
theorem dX9_told_8 : decode cX9_told 8 = .ok (.iload_n 2, 1) := by decide +kernel
theorem dX9_told_9 : decode cX9_told 9 = .ok (.iconst 0, 1) := by decide +kernel
theorem dX9_told_10 : decode cX9_told 10 = .ok (.iconst 5, 1) := by decide +kernel
theorem dX9_told_11 : decode cX9_told 11 = .ok (.invokestatic 50, 3) := by decide +kernel
theorem dX9_told_14 : decode cX9_told 14 = .ok (.ifCond .ne 10, 3) := by decide +kernel
theorem dX9_told_17 : decode cX9_told 17 = .ok (.aload_n 0, 1) := by decide +kernel
theorem dX9_told_18 : decode cX9_told 18 = .ok (.ldc 66, 2) := by decide +kernel
theorem dX9_told_20 : decode cX9_told 20 = .ok (.invokevirtual 58, 3) := by decide +kernel
theorem dX9_told_23 : decode cX9_told 23 = .ok (.ireturn, 1) := by decide +kernel
theorem dX9_told_24 : decode cX9_told 24 = .ok (.iload_n 2, 1) := by decide +kernel
theorem dX9_told_25 : decode cX9_told 25 = .ok (.iconst 4, 1) := by decide +kernel
theorem dX9_told_26 : decode cX9_told 26 = .ok (.if_icmp .ne 17, 3) := by decide +kernel
theorem dX9_told_29 : decode cX9_told 29 = .ok (.aload_n 0, 1) := by decide +kernel
theorem dX9_told_30 : decode cX9_told 30 = .ok (.iload_n 1, 1) := by decide +kernel
theorem dX9_told_31 : decode cX9_told 31 = .ok (.invokevirtual 99, 3) := by decide +kernel
theorem dX9_told_34 : decode cX9_told 34 = .ok (.aload_n 0, 1) := by decide +kernel
theorem dX9_told_35 : decode cX9_told 35 = .ok (.iload_n 1, 1) := by decide +kernel
theorem dX9_told_36 : decode cX9_told 36 = .ok (.invokevirtual 96, 3) := by decide +kernel
theorem dX9_told_39 : decode cX9_told 39 = .ok (.isub, 1) := by decide +kernel
theorem dX9_told_40 : decode cX9_told 40 = .ok (.goto 34, 3) := by decide +kernel
theorem dX9_told_43 : decode cX9_told 43 = .ok (.iload_n 2, 1) := by decide +kernel
theorem dX9_told_44 : decode cX9_told 44 = .ok (.iconst 5, 1) := by decide +kernel
theorem dX9_told_45 : decode cX9_told 45 = .ok (.if_icmp .ne 15, 3) := by decide +kernel
theorem dX9_told_48 : decode cX9_told 48 = .ok (.aload_n 0, 1) := by decide +kernel
theorem dX9_told_49 : decode cX9_told 49 = .ok (.getfield 9, 3) := by decide +kernel
theorem dX9_told_52 : decode cX9_told 52 = .ok (.bipush 80, 2) := by decide +kernel
theorem dX9_told_54 : decode cX9_told 54 = .ok (.iload_n 1, 1) := by decide +kernel
theorem dX9_told_55 : decode cX9_told 55 = .ok (.iadd, 1) := by decide +kernel
theorem dX9_told_56 : decode cX9_told 56 = .ok (.iaload, 1) := by decide +kernel
theorem dX9_told_57 : decode cX9_told 57 = .ok (.goto 17, 3) := by decide +kernel
theorem dX9_told_60 : decode cX9_told 60 = .ok (.aload_n 0, 1) := by decide +kernel
theorem dX9_told_61 : decode cX9_told 61 = .ok (.getfield 9, 3) := by decide +kernel
theorem dX9_told_64 : decode cX9_told 64 = .ok (.bipush 40, 2) := by decide +kernel
theorem dX9_told_66 : decode cX9_told 66 = .ok (.bipush 10, 2) := by decide +kernel
theorem dX9_told_68 : decode cX9_told 68 = .ok (.iload_n 2, 1) := by decide +kernel
theorem dX9_told_69 : decode cX9_told 69 = .ok (.imul, 1) := by decide +kernel
theorem dX9_told_70 : decode cX9_told 70 = .ok (.iadd, 1) := by decide +kernel
theorem dX9_told_71 : decode cX9_told 71 = .ok (.iload_n 1, 1) := by decide +kernel
theorem dX9_told_72 : decode cX9_told 72 = .ok (.iadd, 1) := by decide +kernel
theorem dX9_told_73 : decode cX9_told 73 = .ok (.iaload, 1) := by decide +kernel
theorem dX9_told_74 : decode cX9_told 74 = .ok (.ireturn, 1) := by decide +kernel
theorem dX9_print_0 : decode cX9_print 0 = .ok (.aload_n 0, 1) := by decide +kernel
theorem dX9_print_1 : decode cX9_print 1 = .ok (.iload_n 1, 1) := by decide +kernel
theorem dX9_print_2 : decode cX9_print 2 = .ok (.invokevirtual 71, 3) := by decide +kernel
theorem dX9_print_5 : decode cX9_print 5 = .ok (.ifCond .eq 16, 3) := by decide +kernel
theorem dX9_print_8 : decode cX9_print 8 = .ok (.iload_n 2, 1) := by decide +kernel
theorem dX9_print_9 : decode cX9_print 9 = .ok (.iconst (-1), 1) := by decide +kernel
theorem dX9_print_10 : decode cX9_print 10 = .ok (.if_icmp .eq 18, 3) := by decide +kernel
theorem dX9_print_13 : decode cX9_print 13 = .ok (.aload_n 0, 1) := by decide +kernel
theorem dX9_print_14 : decode cX9_print 14 = .ok (.iload_n 2, 1) := by decide +kernel
theorem dX9_print_15 : decode cX9_print 15 = .ok (.invokevirtual 71, 3) := by decide +kernel
theorem dX9_print_18 : decode cX9_print 18 = .ok (.ifCond .ne 10, 3) := by decide +kernel
theorem dX9_print_21 : decode cX9_print 21 = .ok (.aload_n 0, 1) := by decide +kernel
theorem dX9_print_22 : decode cX9_print 22 = .ok (.ldc 66, 2) := by decide +kernel
theorem dX9_print_24 : decode cX9_print 24 = .ok (.invokevirtual 58, 3) := by decide +kernel
theorem dX9_print_27 : decode cX9_print 27 = .ok (.ireturn, 1) := by decide +kernel
theorem dX9_print_28 : decode cX9_print 28 = .ok (.aload_n 0, 1) := by decide +kernel
theorem dX9_print_29 : decode cX9_print 29 = .ok (.getfield 9, 3) := by decide +kernel
theorem dX9_print_32 : decode cX9_print 32 = .ok (.bipush 40, 2) := by decide +kernel
theorem dX9_print_34 : decode cX9_print 34 = .ok (.iload_n 1, 1) := by decide +kernel
theorem dX9_print_35 : decode cX9_print 35 = .ok (.iadd, 1) := by decide +kernel
theorem dX9_print_36 : decode cX9_print 36 = .ok (.iaload, 1) := by decide +kernel
theorem dX9_print_37 : decode cX9_print 37 = .ok (.iconst 3, 1) := by decide +kernel
theorem dX9_print_38 : decode cX9_print 38 = .ok (.if_icmp .eq 10, 3) := by decide +kernel
theorem dX9_print_41 : decode cX9_print 41 = .ok (.aload_n 0, 1) := by decide +kernel
theorem dX9_print_42 : decode cX9_print 42 = .ok (.ldc 74, 2) := by decide +kernel
theorem dX9_print_44 : decode cX9_print 44 = .ok (.invokevirtual 58, 3) := by decide +kernel
theorem dX9_print_47 : decode cX9_print 47 = .ok (.ireturn, 1) := by decide +kernel
theorem dX9_print_48 : decode cX9_print 48 = .ok (.iload_n 2, 1) := by decide +kernel
theorem dX9_print_49 : decode cX9_print 49 = .ok (.istore_n 3, 1) := by decide +kernel
theorem dX9_print_50 : decode cX9_print 50 = .ok (.iload_n 3, 1) := by decide +kernel
theorem dX9_print_51 : decode cX9_print 51 = .ok (.ifCond .lt 28, 3) := by decide +kernel
theorem dX9_print_54 : decode cX9_print 54 = .ok (.iload_n 3, 1) := by decide +kernel
theorem dX9_print_55 : decode cX9_print 55 = .ok (.iload_n 1, 1) := by decide +kernel
theorem dX9_print_56 : decode cX9_print 56 = .ok (.if_icmp .ne 10, 3) := by decide +kernel
theorem dX9_print_59 : decode cX9_print 59 = .ok (.aload_n 0, 1) := by decide +kernel
theorem dX9_print_60 : decode cX9_print 60 = .ok (.ldc 102, 2) := by decide +kernel
theorem dX9_print_62 : decode cX9_print 62 = .ok (.invokevirtual 58, 3) := by decide +kernel
theorem dX9_print_65 : decode cX9_print 65 = .ok (.ireturn, 1) := by decide +kernel
theorem dX9_print_66 : decode cX9_print 66 = .ok (.aload_n 0, 1) := by decide +kernel
theorem dX9_print_67 : decode cX9_print 67 = .ok (.getfield 9, 3) := by decide +kernel
theorem dX9_print_70 : decode cX9_print 70 = .ok (.bipush 80, 2) := by decide +kernel
theorem dX9_print_72 : decode cX9_print 72 = .ok (.iload_n 3, 1) := by decide +kernel
theorem dX9_print_73 : decode cX9_print 73 = .ok (.iadd, 1) := by decide +kernel
theorem dX9_print_74 : decode cX9_print 74 = .ok (.iaload, 1) := by decide +kernel
theorem dX9_print_75 : decode cX9_print 75 = .ok (.istore_n 3, 1) := by decide +kernel
theorem dX9_print_76 : decode cX9_print 76 = .ok (.goto (-26), 3) := by decide +kernel
theorem dX9_print_79 : decode cX9_print 79 = .ok (.aload_n 0, 1) := by decide +kernel
theorem dX9_print_80 : decode cX9_print 80 = .ok (.invokevirtual 68, 3) := by decide +kernel
theorem dX9_print_83 : decode cX9_print 83 = .ok (.aload_n 0, 1) := by decide +kernel
theorem dX9_print_84 : decode cX9_print 84 = .ok (.getfield 9, 3) := by decide +kernel
theorem dX9_print_87 : decode cX9_print 87 = .ok (.bipush 80, 2) := by decide +kernel
theorem dX9_print_89 : decode cX9_print 89 = .ok (.iload_n 1, 1) := by decide +kernel
theorem dX9_print_90 : decode cX9_print 90 = .ok (.iadd, 1) := by decide +kernel
theorem dX9_print_91 : decode cX9_print 91 = .ok (.iaload, 1) := by decide +kernel
theorem dX9_print_92 : decode cX9_print 92 = .ok (.istore_n 3, 1) := by decide +kernel
theorem dX9_print_93 : decode cX9_print 93 = .ok (.aload_n 0, 1) := by decide +kernel
theorem dX9_print_94 : decode cX9_print 94 = .ok (.getfield 9, 3) := by decide +kernel
theorem dX9_print_97 : decode cX9_print 97 = .ok (.bipush 80, 2) := by decide +kernel
theorem dX9_print_99 : decode cX9_print 99 = .ok (.iload_n 1, 1) := by decide +kernel
theorem dX9_print_100 : decode cX9_print 100 = .ok (.iadd, 1) := by decide +kernel
theorem dX9_print_101 : decode cX9_print 101 = .ok (.iload_n 2, 1) := by decide +kernel
theorem dX9_print_102 : decode cX9_print 102 = .ok (.iastore, 1) := by decide +kernel
theorem dX9_print_103 : decode cX9_print 103 = .ok (.iload_n 3, 1) := by decide +kernel
theorem dX9_print_104 : decode cX9_print 104 = .ok (.ireturn, 1) := by decide +kernel
theorem dX9_recode_0 : decode cX9_recode 0 = .ok (.iload_n 1, 1) := by decide +kernel
theorem dX9_recode_1 : decode cX9_recode 1 = .ok (.invokestatic 75, 3) := by decide +kernel
theorem dX9_recode_4 : decode cX9_recode 4 = .ok (.ifCond .eq 10, 3) := by decide +kernel
theorem dX9_recode_7 : decode cX9_recode 7 = .ok (.iload_n 2, 1) := by decide +kernel
theorem dX9_recode_8 : decode cX9_recode 8 = .ok (.invokestatic 75, 3) := by decide +kernel
theorem dX9_recode_11 : decode cX9_recode 11 = .ok (.ifCond .ne 10, 3) := by decide +kernel
theorem dX9_recode_14 : decode cX9_recode 14 = .ok (.aload_n 0, 1) := by decide +kernel
theorem dX9_recode_15 : decode cX9_recode 15 = .ok (.ldc 66, 2) := by decide +kernel
theorem dX9_recode_17 : decode cX9_recode 17 = .ok (.invokevirtual 58, 3) := by decide +kernel
theorem dX9_recode_20 : decode cX9_recode 20 = .ok (.ireturn, 1) := by decide +kernel
theorem dX9_recode_21 : decode cX9_recode 21 = .ok (.aload_n 0, 1) := by decide +kernel
theorem dX9_recode_22 : decode cX9_recode 22 = .ok (.invokevirtual 68, 3) := by decide +kernel
theorem dX9_recode_25 : decode cX9_recode 25 = .ok (.iconst 0, 1) := by decide +kernel
theorem dX9_recode_26 : decode cX9_recode 26 = .ok (.istore_n 3, 1) := by decide +kernel
theorem dX9_recode_27 : decode cX9_recode 27 = .ok (.iconst 0, 1) := by decide +kernel
theorem dX9_recode_28 : decode cX9_recode 28 = .ok (.istore 4, 2) := by decide +kernel
theorem dX9_recode_30 : decode cX9_recode 30 = .ok (.iload 4, 2) := by decide +kernel
theorem dX9_recode_32 : decode cX9_recode 32 = .ok (.aload_n 0, 1) := by decide +kernel
theorem dX9_recode_33 : decode cX9_recode 33 = .ok (.getfield 9, 3) := by decide +kernel
theorem dX9_recode_36 : decode cX9_recode 36 = .ok (.iconst 0, 1) := by decide +kernel
theorem dX9_recode_37 : decode cX9_recode 37 = .ok (.iaload, 1) := by decide +kernel
theorem dX9_recode_38 : decode cX9_recode 38 = .ok (.if_icmp .ge 76, 3) := by decide +kernel
theorem dX9_recode_41 : decode cX9_recode 41 = .ok (.iconst 0, 1) := by decide +kernel
theorem dX9_recode_42 : decode cX9_recode 42 = .ok (.istore 5, 2) := by decide +kernel
theorem dX9_recode_44 : decode cX9_recode 44 = .ok (.iload 5, 2) := by decide +kernel
theorem dX9_recode_46 : decode cX9_recode 46 = .ok (.aload_n 0, 1) := by decide +kernel
theorem dX9_recode_47 : decode cX9_recode 47 = .ok (.getfield 9, 3) := by decide +kernel
theorem dX9_recode_50 : decode cX9_recode 50 = .ok (.bipush 70, 2) := by decide +kernel
theorem dX9_recode_52 : decode cX9_recode 52 = .ok (.iload 4, 2) := by decide +kernel
theorem dX9_recode_54 : decode cX9_recode 54 = .ok (.iadd, 1) := by decide +kernel
theorem dX9_recode_55 : decode cX9_recode 55 = .ok (.iaload, 1) := by decide +kernel
theorem dX9_recode_56 : decode cX9_recode 56 = .ok (.if_icmp .ge 52, 3) := by decide +kernel
theorem dX9_recode_59 : decode cX9_recode 59 = .ok (.aload_n 0, 1) := by decide +kernel
theorem dX9_recode_60 : decode cX9_recode 60 = .ok (.iload 4, 2) := by decide +kernel
theorem dX9_recode_62 : decode cX9_recode 62 = .ok (.iload 5, 2) := by decide +kernel
theorem dX9_recode_64 : decode cX9_recode 64 = .ok (.iconst 0, 1) := by decide +kernel
theorem dX9_recode_65 : decode cX9_recode 65 = .ok (.invokevirtual 89, 3) := by decide +kernel
theorem dX9_recode_68 : decode cX9_recode 68 = .ok (.iload_n 1, 1) := by decide +kernel
theorem dX9_recode_69 : decode cX9_recode 69 = .ok (.if_icmp .ne 33, 3) := by decide +kernel
theorem dX9_recode_72 : decode cX9_recode 72 = .ok (.aload_n 0, 1) := by decide +kernel
theorem dX9_recode_73 : decode cX9_recode 73 = .ok (.iload 4, 2) := by decide +kernel
theorem dX9_recode_75 : decode cX9_recode 75 = .ok (.iload 5, 2) := by decide +kernel
theorem dX9_recode_77 : decode cX9_recode 77 = .ok (.iload_n 2, 1) := by decide +kernel
theorem dX9_recode_78 : decode cX9_recode 78 = .ok (.aload_n 0, 1) := by decide +kernel
theorem dX9_recode_79 : decode cX9_recode 79 = .ok (.iload 4, 2) := by decide +kernel
theorem dX9_recode_81 : decode cX9_recode 81 = .ok (.iload 5, 2) := by decide +kernel
theorem dX9_recode_83 : decode cX9_recode 83 = .ok (.iconst 1, 1) := by decide +kernel
theorem dX9_recode_84 : decode cX9_recode 84 = .ok (.invokevirtual 89, 3) := by decide +kernel
theorem dX9_recode_87 : decode cX9_recode 87 = .ok (.aload_n 0, 1) := by decide +kernel
theorem dX9_recode_88 : decode cX9_recode 88 = .ok (.iload 4, 2) := by decide +kernel
theorem dX9_recode_90 : decode cX9_recode 90 = .ok (.iload 5, 2) := by decide +kernel
theorem dX9_recode_92 : decode cX9_recode 92 = .ok (.iconst 2, 1) := by decide +kernel
theorem dX9_recode_93 : decode cX9_recode 93 = .ok (.invokevirtual 89, 3) := by decide +kernel
theorem dX9_recode_96 : decode cX9_recode 96 = .ok (.invokevirtual 81, 3) := by decide +kernel
theorem dX9_recode_99 : decode cX9_recode 99 = .ok (.iinc 3 1, 3) := by decide +kernel
theorem dX9_recode_102 : decode cX9_recode 102 = .ok (.iinc 5 1, 3) := by decide +kernel
theorem dX9_recode_105 : decode cX9_recode 105 = .ok (.goto (-61), 3) := by decide +kernel
theorem dX9_recode_108 : decode cX9_recode 108 = .ok (.iinc 4 1, 3) := by decide +kernel
theorem dX9_recode_111 : decode cX9_recode 111 = .ok (.goto (-81), 3) := by decide +kernel
theorem dX9_recode_114 : decode cX9_recode 114 = .ok (.iload_n 3, 1) := by decide +kernel
theorem dX9_recode_115 : decode cX9_recode 115 = .ok (.ireturn, 1) := by decide +kernel
theorem dX9_price_0 : decode cX9_price 0 = .ok (.iload_n 1, 1) := by decide +kernel
theorem dX9_price_1 : decode cX9_price 1 = .ok (.iconst 0, 1) := by decide +kernel
theorem dX9_price_2 : decode cX9_price 2 = .ok (.iconst 2, 1) := by decide +kernel
theorem dX9_price_3 : decode cX9_price 3 = .ok (.invokestatic 50, 3) := by decide +kernel
theorem dX9_price_6 : decode cX9_price 6 = .ok (.ifCond .eq 13, 3) := by decide +kernel
theorem dX9_price_9 : decode cX9_price 9 = .ok (.iload_n 2, 1) := by decide +kernel
theorem dX9_price_10 : decode cX9_price 10 = .ok (.iconst 0, 1) := by decide +kernel
theorem dX9_price_11 : decode cX9_price 11 = .ok (.bipush 9, 2) := by decide +kernel
theorem dX9_price_13 : decode cX9_price 13 = .ok (.invokestatic 50, 3) := by decide +kernel
theorem dX9_price_16 : decode cX9_price 16 = .ok (.ifCond .ne 10, 3) := by decide +kernel
theorem dX9_price_19 : decode cX9_price 19 = .ok (.aload_n 0, 1) := by decide +kernel
theorem dX9_price_20 : decode cX9_price 20 = .ok (.ldc 66, 2) := by decide +kernel
theorem dX9_price_22 : decode cX9_price 22 = .ok (.invokevirtual 58, 3) := by decide +kernel
theorem dX9_price_25 : decode cX9_price 25 = .ok (.ireturn, 1) := by decide +kernel
theorem dX9_price_26 : decode cX9_price 26 = .ok (.aload_n 0, 1) := by decide +kernel
theorem dX9_price_27 : decode cX9_price 27 = .ok (.invokevirtual 68, 3) := by decide +kernel
theorem dX9_price_30 : decode cX9_price 30 = .ok (.aload_n 0, 1) := by decide +kernel
theorem dX9_price_31 : decode cX9_price 31 = .ok (.getfield 9, 3) := by decide +kernel
theorem dX9_price_34 : decode cX9_price 34 = .ok (.iconst 1, 1) := by decide +kernel
theorem dX9_price_35 : decode cX9_price 35 = .ok (.iload_n 1, 1) := by decide +kernel
theorem dX9_price_36 : decode cX9_price 36 = .ok (.iadd, 1) := by decide +kernel
theorem dX9_price_37 : decode cX9_price 37 = .ok (.iaload, 1) := by decide +kernel
theorem dX9_price_38 : decode cX9_price 38 = .ok (.istore_n 3, 1) := by decide +kernel
theorem dX9_price_39 : decode cX9_price 39 = .ok (.aload_n 0, 1) := by decide +kernel
theorem dX9_price_40 : decode cX9_price 40 = .ok (.getfield 9, 3) := by decide +kernel
theorem dX9_price_43 : decode cX9_price 43 = .ok (.iconst 1, 1) := by decide +kernel
theorem dX9_price_44 : decode cX9_price 44 = .ok (.iload_n 1, 1) := by decide +kernel
theorem dX9_price_45 : decode cX9_price 45 = .ok (.iadd, 1) := by decide +kernel
theorem dX9_price_46 : decode cX9_price 46 = .ok (.iload_n 2, 1) := by decide +kernel
theorem dX9_price_47 : decode cX9_price 47 = .ok (.iastore, 1) := by decide +kernel
theorem dX9_price_48 : decode cX9_price 48 = .ok (.iload_n 3, 1) := by decide +kernel
theorem dX9_price_49 : decode cX9_price 49 = .ok (.ireturn, 1) := by decide +kernel
theorem dX9_way_0 : decode cX9_way 0 = .ok (.iload_n 1, 1) := by decide +kernel
theorem dX9_way_1 : decode cX9_way 1 = .ok (.invokestatic 62, 3) := by decide +kernel
theorem dX9_way_4 : decode cX9_way 4 = .ok (.ifCond .eq 21, 3) := by decide +kernel
theorem dX9_way_7 : decode cX9_way 7 = .ok (.iload_n 2, 1) := by decide +kernel
theorem dX9_way_8 : decode cX9_way 8 = .ok (.invokestatic 62, 3) := by decide +kernel
theorem dX9_way_11 : decode cX9_way 11 = .ok (.ifCond .eq 14, 3) := by decide +kernel
theorem dX9_way_14 : decode cX9_way 14 = .ok (.iload_n 3, 1) := by decide +kernel
theorem dX9_way_15 : decode cX9_way 15 = .ok (.iconst 0, 1) := by decide +kernel
theorem dX9_way_16 : decode cX9_way 16 = .ok (.sipush 999, 3) := by decide +kernel
theorem dX9_way_19 : decode cX9_way 19 = .ok (.invokestatic 50, 3) := by decide +kernel
theorem dX9_way_22 : decode cX9_way 22 = .ok (.ifCond .ne 10, 3) := by decide +kernel
theorem dX9_way_25 : decode cX9_way 25 = .ok (.aload_n 0, 1) := by decide +kernel
theorem dX9_way_26 : decode cX9_way 26 = .ok (.ldc 66, 2) := by decide +kernel
theorem dX9_way_28 : decode cX9_way 28 = .ok (.invokevirtual 58, 3) := by decide +kernel
theorem dX9_way_31 : decode cX9_way 31 = .ok (.ireturn, 1) := by decide +kernel
theorem dX9_way_32 : decode cX9_way 32 = .ok (.iload_n 1, 1) := by decide +kernel
theorem dX9_way_33 : decode cX9_way 33 = .ok (.iload_n 2, 1) := by decide +kernel
theorem dX9_way_34 : decode cX9_way 34 = .ok (.if_icmp .ne 10, 3) := by decide +kernel
theorem dX9_way_37 : decode cX9_way 37 = .ok (.aload_n 0, 1) := by decide +kernel
theorem dX9_way_38 : decode cX9_way 38 = .ok (.ldc 103, 2) := by decide +kernel
theorem dX9_way_40 : decode cX9_way 40 = .ok (.invokevirtual 58, 3) := by decide +kernel
theorem dX9_way_43 : decode cX9_way 43 = .ok (.ireturn, 1) := by decide +kernel
theorem dX9_way_44 : decode cX9_way 44 = .ok (.aload_n 0, 1) := by decide +kernel
theorem dX9_way_45 : decode cX9_way 45 = .ok (.invokevirtual 68, 3) := by decide +kernel
theorem dX9_way_48 : decode cX9_way 48 = .ok (.aload_n 0, 1) := by decide +kernel
theorem dX9_way_49 : decode cX9_way 49 = .ok (.getfield 9, 3) := by decide +kernel
theorem dX9_way_52 : decode cX9_way 52 = .ok (.iconst 4, 1) := by decide +kernel
theorem dX9_way_53 : decode cX9_way 53 = .ok (.bipush 6, 2) := by decide +kernel
theorem dX9_way_55 : decode cX9_way 55 = .ok (.iload_n 1, 1) := by decide +kernel
theorem dX9_way_56 : decode cX9_way 56 = .ok (.imul, 1) := by decide +kernel
theorem dX9_way_57 : decode cX9_way 57 = .ok (.iadd, 1) := by decide +kernel
theorem dX9_way_58 : decode cX9_way 58 = .ok (.iload_n 2, 1) := by decide +kernel
theorem dX9_way_59 : decode cX9_way 59 = .ok (.iadd, 1) := by decide +kernel
theorem dX9_way_60 : decode cX9_way 60 = .ok (.iaload, 1) := by decide +kernel
theorem dX9_way_61 : decode cX9_way 61 = .ok (.istore 4, 2) := by decide +kernel
theorem dX9_way_63 : decode cX9_way 63 = .ok (.aload_n 0, 1) := by decide +kernel
theorem dX9_way_64 : decode cX9_way 64 = .ok (.getfield 9, 3) := by decide +kernel
theorem dX9_way_67 : decode cX9_way 67 = .ok (.iconst 4, 1) := by decide +kernel
theorem dX9_way_68 : decode cX9_way 68 = .ok (.bipush 6, 2) := by decide +kernel
theorem dX9_way_70 : decode cX9_way 70 = .ok (.iload_n 1, 1) := by decide +kernel
theorem dX9_way_71 : decode cX9_way 71 = .ok (.imul, 1) := by decide +kernel
theorem dX9_way_72 : decode cX9_way 72 = .ok (.iadd, 1) := by decide +kernel
theorem dX9_way_73 : decode cX9_way 73 = .ok (.iload_n 2, 1) := by decide +kernel
theorem dX9_way_74 : decode cX9_way 74 = .ok (.iadd, 1) := by decide +kernel
theorem dX9_way_75 : decode cX9_way 75 = .ok (.iload_n 3, 1) := by decide +kernel
theorem dX9_way_76 : decode cX9_way 76 = .ok (.iastore, 1) := by decide +kernel
theorem dX9_way_77 : decode cX9_way 77 = .ok (.aload_n 0, 1) := by decide +kernel
theorem dX9_way_78 : decode cX9_way 78 = .ok (.getfield 9, 3) := by decide +kernel
theorem dX9_way_81 : decode cX9_way 81 = .ok (.iconst 4, 1) := by decide +kernel
theorem dX9_way_82 : decode cX9_way 82 = .ok (.bipush 6, 2) := by decide +kernel
theorem dX9_way_84 : decode cX9_way 84 = .ok (.iload_n 2, 1) := by decide +kernel
theorem dX9_way_85 : decode cX9_way 85 = .ok (.imul, 1) := by decide +kernel
theorem dX9_way_86 : decode cX9_way 86 = .ok (.iadd, 1) := by decide +kernel
theorem dX9_way_87 : decode cX9_way 87 = .ok (.iload_n 1, 1) := by decide +kernel
theorem dX9_way_88 : decode cX9_way 88 = .ok (.iadd, 1) := by decide +kernel
theorem dX9_way_89 : decode cX9_way 89 = .ok (.iload_n 3, 1) := by decide +kernel
theorem dX9_way_90 : decode cX9_way 90 = .ok (.iastore, 1) := by decide +kernel
theorem dX9_way_91 : decode cX9_way 91 = .ok (.iload 4, 2) := by decide +kernel
theorem dX9_way_93 : decode cX9_way 93 = .ok (.ireturn, 1) := by decide +kernel
theorem dX9_carry_0 : decode cX9_carry 0 = .ok (.aload_n 0, 1) := by decide +kernel
theorem dX9_carry_1 : decode cX9_carry 1 = .ok (.getfield 25, 3) := by decide +kernel
theorem dX9_carry_4 : decode cX9_carry 4 = .ok (.astore_n 2, 1) := by decide +kernel
theorem dX9_carry_5 : decode cX9_carry 5 = .ok (.iload_n 1, 1) := by decide +kernel
theorem dX9_carry_6 : decode cX9_carry 6 = .ok (.istore_n 3, 1) := by decide +kernel
theorem dX9_carry_7 : decode cX9_carry 7 = .ok (.bipush 6, 2) := by decide +kernel
theorem dX9_carry_9 : decode cX9_carry 9 = .ok (.istore 4, 2) := by decide +kernel
theorem dX9_carry_11 : decode cX9_carry 11 = .ok (.iconst 0, 1) := by decide +kernel
theorem dX9_carry_12 : decode cX9_carry 12 = .ok (.istore 5, 2) := by decide +kernel
theorem dX9_carry_14 : decode cX9_carry 14 = .ok (.iconst 0, 1) := by decide +kernel
theorem dX9_carry_15 : decode cX9_carry 15 = .ok (.istore 6, 2) := by decide +kernel
theorem dX9_carry_17 : decode cX9_carry 17 = .ok (.iload 6, 2) := by decide +kernel
theorem dX9_carry_19 : decode cX9_carry 19 = .ok (.iconst 4, 1) := by decide +kernel
theorem dX9_carry_20 : decode cX9_carry 20 = .ok (.if_icmp .ge 100, 3) := by decide +kernel
theorem dX9_carry_23 : decode cX9_carry 23 = .ok (.iload_n 3, 1) := by decide +kernel
theorem dX9_carry_24 : decode cX9_carry 24 = .ok (.iload 4, 2) := by decide +kernel
theorem dX9_carry_26 : decode cX9_carry 26 = .ok (.idiv, 1) := by decide +kernel
theorem dX9_carry_27 : decode cX9_carry 27 = .ok (.istore 7, 2) := by decide +kernel
theorem dX9_carry_29 : decode cX9_carry 29 = .ok (.iload_n 3, 1) := by decide +kernel
theorem dX9_carry_30 : decode cX9_carry 30 = .ok (.iload 4, 2) := by decide +kernel
theorem dX9_carry_32 : decode cX9_carry 32 = .ok (.irem, 1) := by decide +kernel
theorem dX9_carry_33 : decode cX9_carry 33 = .ok (.istore_n 3, 1) := by decide +kernel
theorem dX9_carry_34 : decode cX9_carry 34 = .ok (.iload 6, 2) := by decide +kernel
theorem dX9_carry_36 : decode cX9_carry 36 = .ok (.iconst 2, 1) := by decide +kernel
theorem dX9_carry_37 : decode cX9_carry 37 = .ok (.if_icmp .ge 13, 3) := by decide +kernel
theorem dX9_carry_40 : decode cX9_carry 40 = .ok (.iload 4, 2) := by decide +kernel
theorem dX9_carry_42 : decode cX9_carry 42 = .ok (.iconst 3, 1) := by decide +kernel
theorem dX9_carry_43 : decode cX9_carry 43 = .ok (.iload 6, 2) := by decide +kernel
theorem dX9_carry_45 : decode cX9_carry 45 = .ok (.isub, 1) := by decide +kernel
theorem dX9_carry_46 : decode cX9_carry 46 = .ok (.idiv, 1) := by decide +kernel
theorem dX9_carry_47 : decode cX9_carry 47 = .ok (.goto 4, 3) := by decide +kernel
theorem dX9_carry_50 : decode cX9_carry 50 = .ok (.iconst 1, 1) := by decide +kernel
theorem dX9_carry_51 : decode cX9_carry 51 = .ok (.istore 4, 2) := by decide +kernel
theorem dX9_carry_53 : decode cX9_carry 53 = .ok (.iconst 0, 1) := by decide +kernel
theorem dX9_carry_54 : decode cX9_carry 54 = .ok (.istore 8, 2) := by decide +kernel
theorem dX9_carry_56 : decode cX9_carry 56 = .ok (.iload 5, 2) := by decide +kernel
theorem dX9_carry_58 : decode cX9_carry 58 = .ok (.iload 8, 2) := by decide +kernel
theorem dX9_carry_60 : decode cX9_carry 60 = .ok (.ishr, 1) := by decide +kernel
theorem dX9_carry_61 : decode cX9_carry 61 = .ok (.iconst 1, 1) := by decide +kernel
theorem dX9_carry_62 : decode cX9_carry 62 = .ok (.iand, 1) := by decide +kernel
theorem dX9_carry_63 : decode cX9_carry 63 = .ok (.iconst 1, 1) := by decide +kernel
theorem dX9_carry_64 : decode cX9_carry 64 = .ok (.if_icmp .eq 8, 3) := by decide +kernel
theorem dX9_carry_67 : decode cX9_carry 67 = .ok (.iload 7, 2) := by decide +kernel
theorem dX9_carry_69 : decode cX9_carry 69 = .ok (.ifCond .le 30, 3) := by decide +kernel
theorem dX9_carry_72 : decode cX9_carry 72 = .ok (.iload 7, 2) := by decide +kernel
theorem dX9_carry_74 : decode cX9_carry 74 = .ok (.iload 5, 2) := by decide +kernel
theorem dX9_carry_76 : decode cX9_carry 76 = .ok (.iload 8, 2) := by decide +kernel
theorem dX9_carry_78 : decode cX9_carry 78 = .ok (.ishr, 1) := by decide +kernel
theorem dX9_carry_79 : decode cX9_carry 79 = .ok (.iconst 1, 1) := by decide +kernel
theorem dX9_carry_80 : decode cX9_carry 80 = .ok (.iand, 1) := by decide +kernel
theorem dX9_carry_81 : decode cX9_carry 81 = .ok (.iconst 1, 1) := by decide +kernel
theorem dX9_carry_82 : decode cX9_carry 82 = .ok (.if_icmp .ne 7, 3) := by decide +kernel
theorem dX9_carry_85 : decode cX9_carry 85 = .ok (.iconst 0, 1) := by decide +kernel
theorem dX9_carry_86 : decode cX9_carry 86 = .ok (.goto 4, 3) := by decide +kernel
theorem dX9_carry_89 : decode cX9_carry 89 = .ok (.iconst 1, 1) := by decide +kernel
theorem dX9_carry_90 : decode cX9_carry 90 = .ok (.isub, 1) := by decide +kernel
theorem dX9_carry_91 : decode cX9_carry 91 = .ok (.istore 7, 2) := by decide +kernel
theorem dX9_carry_93 : decode cX9_carry 93 = .ok (.iinc 8 1, 3) := by decide +kernel
theorem dX9_carry_96 : decode cX9_carry 96 = .ok (.goto (-40), 3) := by decide +kernel
theorem dX9_carry_99 : decode cX9_carry 99 = .ok (.iload 5, 2) := by decide +kernel
theorem dX9_carry_101 : decode cX9_carry 101 = .ok (.iconst 1, 1) := by decide +kernel
theorem dX9_carry_102 : decode cX9_carry 102 = .ok (.iload 8, 2) := by decide +kernel
theorem dX9_carry_104 : decode cX9_carry 104 = .ok (.ishl, 1) := by decide +kernel
theorem dX9_carry_105 : decode cX9_carry 105 = .ok (.ior, 1) := by decide +kernel
theorem dX9_carry_106 : decode cX9_carry 106 = .ok (.istore 5, 2) := by decide +kernel
theorem dX9_carry_108 : decode cX9_carry 108 = .ok (.aload_n 2, 1) := by decide +kernel
theorem dX9_carry_109 : decode cX9_carry 109 = .ok (.iload 6, 2) := by decide +kernel
theorem dX9_carry_111 : decode cX9_carry 111 = .ok (.iload 8, 2) := by decide +kernel
theorem dX9_carry_113 : decode cX9_carry 113 = .ok (.iastore, 1) := by decide +kernel
theorem dX9_carry_114 : decode cX9_carry 114 = .ok (.iinc 6 1, 3) := by decide +kernel
theorem dX9_carry_117 : decode cX9_carry 117 = .ok (.goto (-100), 3) := by decide +kernel
theorem dX9_carry_120 : decode cX9_carry 120 = .ok (.return_, 1) := by decide +kernel
theorem dX9_isTorn_0 : decode cX9_isTorn 0 = .ok (.aload_n 0, 1) := by decide +kernel
theorem dX9_isTorn_1 : decode cX9_isTorn 1 = .ok (.getfield 9, 3) := by decide +kernel
theorem dX9_isTorn_4 : decode cX9_isTorn 4 = .ok (.bipush 40, 2) := by decide +kernel
theorem dX9_isTorn_6 : decode cX9_isTorn 6 = .ok (.iload_n 1, 1) := by decide +kernel
theorem dX9_isTorn_7 : decode cX9_isTorn 7 = .ok (.iadd, 1) := by decide +kernel
theorem dX9_isTorn_8 : decode cX9_isTorn 8 = .ok (.iaload, 1) := by decide +kernel
theorem dX9_isTorn_9 : decode cX9_isTorn 9 = .ok (.iconst 1, 1) := by decide +kernel
theorem dX9_isTorn_10 : decode cX9_isTorn 10 = .ok (.if_icmp .eq 16, 3) := by decide +kernel
theorem dX9_isTorn_13 : decode cX9_isTorn 13 = .ok (.aload_n 0, 1) := by decide +kernel
theorem dX9_isTorn_14 : decode cX9_isTorn 14 = .ok (.getfield 9, 3) := by decide +kernel
theorem dX9_isTorn_17 : decode cX9_isTorn 17 = .ok (.bipush 40, 2) := by decide +kernel
theorem dX9_isTorn_19 : decode cX9_isTorn 19 = .ok (.iload_n 1, 1) := by decide +kernel
theorem dX9_isTorn_20 : decode cX9_isTorn 20 = .ok (.iadd, 1) := by decide +kernel
theorem dX9_isTorn_21 : decode cX9_isTorn 21 = .ok (.iaload, 1) := by decide +kernel
theorem dX9_isTorn_22 : decode cX9_isTorn 22 = .ok (.iconst 3, 1) := by decide +kernel
theorem dX9_isTorn_23 : decode cX9_isTorn 23 = .ok (.if_icmp .ne 7, 3) := by decide +kernel
theorem dX9_isTorn_26 : decode cX9_isTorn 26 = .ok (.iconst 1, 1) := by decide +kernel
theorem dX9_isTorn_27 : decode cX9_isTorn 27 = .ok (.goto 4, 3) := by decide +kernel
theorem dX9_isTorn_30 : decode cX9_isTorn 30 = .ok (.iconst 0, 1) := by decide +kernel
theorem dX9_isTorn_31 : decode cX9_isTorn 31 = .ok (.ireturn, 1) := by decide +kernel
theorem dX9_takeTwo_0 : decode cX9_takeTwo 0 = .ok (.aload_n 0, 1) := by decide +kernel
theorem dX9_takeTwo_1 : decode cX9_takeTwo 1 = .ok (.iload_n 1, 1) := by decide +kernel
theorem dX9_takeTwo_2 : decode cX9_takeTwo 2 = .ok (.putfield 104, 3) := by decide +kernel
theorem dX9_takeTwo_5 : decode cX9_takeTwo 5 = .ok (.aload_n 0, 1) := by decide +kernel
theorem dX9_takeTwo_6 : decode cX9_takeTwo 6 = .ok (.aload_n 0, 1) := by decide +kernel
theorem dX9_takeTwo_7 : decode cX9_takeTwo 7 = .ok (.iload_n 1, 1) := by decide +kernel
theorem dX9_takeTwo_8 : decode cX9_takeTwo 8 = .ok (.invokevirtual 96, 3) := by decide +kernel
theorem dX9_takeTwo_11 : decode cX9_takeTwo 11 = .ok (.putfield 107, 3) := by decide +kernel
theorem dX9_takeTwo_14 : decode cX9_takeTwo 14 = .ok (.aload_n 0, 1) := by decide +kernel
theorem dX9_takeTwo_15 : decode cX9_takeTwo 15 = .ok (.aload_n 0, 1) := by decide +kernel
theorem dX9_takeTwo_16 : decode cX9_takeTwo 16 = .ok (.iload_n 1, 1) := by decide +kernel
theorem dX9_takeTwo_17 : decode cX9_takeTwo 17 = .ok (.invokevirtual 99, 3) := by decide +kernel
theorem dX9_takeTwo_20 : decode cX9_takeTwo 20 = .ok (.putfield 110, 3) := by decide +kernel
theorem dX9_takeTwo_23 : decode cX9_takeTwo 23 = .ok (.aload_n 0, 1) := by decide +kernel
theorem dX9_takeTwo_24 : decode cX9_takeTwo 24 = .ok (.aload_n 0, 1) := by decide +kernel
theorem dX9_takeTwo_25 : decode cX9_takeTwo 25 = .ok (.iload_n 1, 1) := by decide +kernel
theorem dX9_takeTwo_26 : decode cX9_takeTwo 26 = .ok (.invokevirtual 113, 3) := by decide +kernel
theorem dX9_takeTwo_29 : decode cX9_takeTwo 29 = .ok (.putfield 116, 3) := by decide +kernel
theorem dX9_takeTwo_32 : decode cX9_takeTwo 32 = .ok (.aload_n 0, 1) := by decide +kernel
theorem dX9_takeTwo_33 : decode cX9_takeTwo 33 = .ok (.iload_n 2, 1) := by decide +kernel
theorem dX9_takeTwo_34 : decode cX9_takeTwo 34 = .ok (.invokevirtual 120, 3) := by decide +kernel
theorem dX9_takeTwo_37 : decode cX9_takeTwo 37 = .ok (.return_, 1) := by decide +kernel
theorem dX9_takeOther_0 : decode cX9_takeOther 0 = .ok (.aload_n 0, 1) := by decide +kernel
theorem dX9_takeOther_1 : decode cX9_takeOther 1 = .ok (.iload_n 1, 1) := by decide +kernel
theorem dX9_takeOther_2 : decode cX9_takeOther 2 = .ok (.putfield 124, 3) := by decide +kernel
theorem dX9_takeOther_5 : decode cX9_takeOther 5 = .ok (.aload_n 0, 1) := by decide +kernel
theorem dX9_takeOther_6 : decode cX9_takeOther 6 = .ok (.aload_n 0, 1) := by decide +kernel
theorem dX9_takeOther_7 : decode cX9_takeOther 7 = .ok (.iload_n 1, 1) := by decide +kernel
theorem dX9_takeOther_8 : decode cX9_takeOther 8 = .ok (.invokevirtual 96, 3) := by decide +kernel
theorem dX9_takeOther_11 : decode cX9_takeOther 11 = .ok (.putfield 127, 3) := by decide +kernel
theorem dX9_takeOther_14 : decode cX9_takeOther 14 = .ok (.aload_n 0, 1) := by decide +kernel
theorem dX9_takeOther_15 : decode cX9_takeOther 15 = .ok (.aload_n 0, 1) := by decide +kernel
theorem dX9_takeOther_16 : decode cX9_takeOther 16 = .ok (.iload_n 1, 1) := by decide +kernel
theorem dX9_takeOther_17 : decode cX9_takeOther 17 = .ok (.invokevirtual 99, 3) := by decide +kernel
theorem dX9_takeOther_20 : decode cX9_takeOther 20 = .ok (.putfield 130, 3) := by decide +kernel
theorem dX9_takeOther_23 : decode cX9_takeOther 23 = .ok (.aload_n 0, 1) := by decide +kernel
theorem dX9_takeOther_24 : decode cX9_takeOther 24 = .ok (.aload_n 0, 1) := by decide +kernel
theorem dX9_takeOther_25 : decode cX9_takeOther 25 = .ok (.iload_n 1, 1) := by decide +kernel
theorem dX9_takeOther_26 : decode cX9_takeOther 26 = .ok (.invokevirtual 113, 3) := by decide +kernel
theorem dX9_takeOther_29 : decode cX9_takeOther 29 = .ok (.putfield 133, 3) := by decide +kernel
theorem dX9_takeOther_32 : decode cX9_takeOther 32 = .ok (.return_, 1) := by decide +kernel
theorem dX9_pairCost_0 : decode cX9_pairCost 0 = .ok (.aload_n 0, 1) := by decide +kernel
theorem dX9_pairCost_1 : decode cX9_pairCost 1 = .ok (.aload_n 0, 1) := by decide +kernel
theorem dX9_pairCost_2 : decode cX9_pairCost 2 = .ok (.getfield 104, 3) := by decide +kernel
theorem dX9_pairCost_5 : decode cX9_pairCost 5 = .ok (.iload_n 1, 1) := by decide +kernel
theorem dX9_pairCost_6 : decode cX9_pairCost 6 = .ok (.iconst 0, 1) := by decide +kernel
theorem dX9_pairCost_7 : decode cX9_pairCost 7 = .ok (.invokevirtual 89, 3) := by decide +kernel
theorem dX9_pairCost_10 : decode cX9_pairCost 10 = .ok (.aload_n 0, 1) := by decide +kernel
theorem dX9_pairCost_11 : decode cX9_pairCost 11 = .ok (.aload_n 0, 1) := by decide +kernel
theorem dX9_pairCost_12 : decode cX9_pairCost 12 = .ok (.getfield 124, 3) := by decide +kernel
theorem dX9_pairCost_15 : decode cX9_pairCost 15 = .ok (.iload_n 2, 1) := by decide +kernel
theorem dX9_pairCost_16 : decode cX9_pairCost 16 = .ok (.iconst 0, 1) := by decide +kernel
theorem dX9_pairCost_17 : decode cX9_pairCost 17 = .ok (.invokevirtual 89, 3) := by decide +kernel
theorem dX9_pairCost_20 : decode cX9_pairCost 20 = .ok (.if_icmp .ne 7, 3) := by decide +kernel
theorem dX9_pairCost_23 : decode cX9_pairCost 23 = .ok (.iconst 0, 1) := by decide +kernel
theorem dX9_pairCost_24 : decode cX9_pairCost 24 = .ok (.goto 9, 3) := by decide +kernel
theorem dX9_pairCost_27 : decode cX9_pairCost 27 = .ok (.aload_n 0, 1) := by decide +kernel
theorem dX9_pairCost_28 : decode cX9_pairCost 28 = .ok (.getfield 9, 3) := by decide +kernel
theorem dX9_pairCost_31 : decode cX9_pairCost 31 = .ok (.iconst 1, 1) := by decide +kernel
theorem dX9_pairCost_32 : decode cX9_pairCost 32 = .ok (.iaload, 1) := by decide +kernel
theorem dX9_pairCost_33 : decode cX9_pairCost 33 = .ok (.istore_n 3, 1) := by decide +kernel
theorem dX9_pairCost_34 : decode cX9_pairCost 34 = .ok (.iconst 1, 1) := by decide +kernel
theorem dX9_pairCost_35 : decode cX9_pairCost 35 = .ok (.istore 4, 2) := by decide +kernel
theorem dX9_pairCost_37 : decode cX9_pairCost 37 = .ok (.iload 4, 2) := by decide +kernel
theorem dX9_pairCost_39 : decode cX9_pairCost 39 = .ok (.iconst 3, 1) := by decide +kernel
theorem dX9_pairCost_40 : decode cX9_pairCost 40 = .ok (.if_icmp .ge 52, 3) := by decide +kernel
theorem dX9_pairCost_43 : decode cX9_pairCost 43 = .ok (.iload_n 3, 1) := by decide +kernel
theorem dX9_pairCost_44 : decode cX9_pairCost 44 = .ok (.aload_n 0, 1) := by decide +kernel
theorem dX9_pairCost_45 : decode cX9_pairCost 45 = .ok (.getfield 25, 3) := by decide +kernel
theorem dX9_pairCost_48 : decode cX9_pairCost 48 = .ok (.aload_n 0, 1) := by decide +kernel
theorem dX9_pairCost_49 : decode cX9_pairCost 49 = .ok (.aload_n 0, 1) := by decide +kernel
theorem dX9_pairCost_50 : decode cX9_pairCost 50 = .ok (.getfield 104, 3) := by decide +kernel
theorem dX9_pairCost_53 : decode cX9_pairCost 53 = .ok (.iload_n 1, 1) := by decide +kernel
theorem dX9_pairCost_54 : decode cX9_pairCost 54 = .ok (.iload 4, 2) := by decide +kernel
theorem dX9_pairCost_56 : decode cX9_pairCost 56 = .ok (.invokevirtual 89, 3) := by decide +kernel
theorem dX9_pairCost_59 : decode cX9_pairCost 59 = .ok (.iaload, 1) := by decide +kernel
theorem dX9_pairCost_60 : decode cX9_pairCost 60 = .ok (.aload_n 0, 1) := by decide +kernel
theorem dX9_pairCost_61 : decode cX9_pairCost 61 = .ok (.aload_n 0, 1) := by decide +kernel
theorem dX9_pairCost_62 : decode cX9_pairCost 62 = .ok (.getfield 124, 3) := by decide +kernel
theorem dX9_pairCost_65 : decode cX9_pairCost 65 = .ok (.iload_n 2, 1) := by decide +kernel
theorem dX9_pairCost_66 : decode cX9_pairCost 66 = .ok (.iload 4, 2) := by decide +kernel
theorem dX9_pairCost_68 : decode cX9_pairCost 68 = .ok (.invokevirtual 89, 3) := by decide +kernel
theorem dX9_pairCost_71 : decode cX9_pairCost 71 = .ok (.if_icmp .ne 7, 3) := by decide +kernel
theorem dX9_pairCost_74 : decode cX9_pairCost 74 = .ok (.iconst 0, 1) := by decide +kernel
theorem dX9_pairCost_75 : decode cX9_pairCost 75 = .ok (.goto 9, 3) := by decide +kernel
theorem dX9_pairCost_78 : decode cX9_pairCost 78 = .ok (.aload_n 0, 1) := by decide +kernel
theorem dX9_pairCost_79 : decode cX9_pairCost 79 = .ok (.getfield 9, 3) := by decide +kernel
theorem dX9_pairCost_82 : decode cX9_pairCost 82 = .ok (.iconst 2, 1) := by decide +kernel
theorem dX9_pairCost_83 : decode cX9_pairCost 83 = .ok (.iaload, 1) := by decide +kernel
theorem dX9_pairCost_84 : decode cX9_pairCost 84 = .ok (.iadd, 1) := by decide +kernel
theorem dX9_pairCost_85 : decode cX9_pairCost 85 = .ok (.istore_n 3, 1) := by decide +kernel
theorem dX9_pairCost_86 : decode cX9_pairCost 86 = .ok (.iinc 4 1, 3) := by decide +kernel
theorem dX9_pairCost_89 : decode cX9_pairCost 89 = .ok (.goto (-52), 3) := by decide +kernel
theorem dX9_pairCost_92 : decode cX9_pairCost 92 = .ok (.iload_n 3, 1) := by decide +kernel
theorem dX9_pairCost_93 : decode cX9_pairCost 93 = .ok (.ireturn, 1) := by decide +kernel
theorem dX9_endCost_0 : decode cX9_endCost 0 = .ok (.aload_n 0, 1) := by decide +kernel
theorem dX9_endCost_1 : decode cX9_endCost 1 = .ok (.getfield 9, 3) := by decide +kernel
theorem dX9_endCost_4 : decode cX9_endCost 4 = .ok (.iconst 3, 1) := by decide +kernel
theorem dX9_endCost_5 : decode cX9_endCost 5 = .ok (.iaload, 1) := by decide +kernel
theorem dX9_endCost_6 : decode cX9_endCost 6 = .ok (.aload_n 0, 1) := by decide +kernel
theorem dX9_endCost_7 : decode cX9_endCost 7 = .ok (.getfield 133, 3) := by decide +kernel
theorem dX9_endCost_10 : decode cX9_endCost 10 = .ok (.ifCond .eq 7, 3) := by decide +kernel
theorem dX9_endCost_13 : decode cX9_endCost 13 = .ok (.iconst 0, 1) := by decide +kernel
theorem dX9_endCost_14 : decode cX9_endCost 14 = .ok (.goto 9, 3) := by decide +kernel
theorem dX9_endCost_17 : decode cX9_endCost 17 = .ok (.aload_n 0, 1) := by decide +kernel
theorem dX9_endCost_18 : decode cX9_endCost 18 = .ok (.getfield 110, 3) := by decide +kernel
theorem dX9_endCost_21 : decode cX9_endCost 21 = .ok (.iload_n 1, 1) := by decide +kernel
theorem dX9_endCost_22 : decode cX9_endCost 22 = .ok (.isub, 1) := by decide +kernel
theorem dX9_endCost_23 : decode cX9_endCost 23 = .ok (.aload_n 0, 1) := by decide +kernel
theorem dX9_endCost_24 : decode cX9_endCost 24 = .ok (.getfield 116, 3) := by decide +kernel
theorem dX9_endCost_27 : decode cX9_endCost 27 = .ok (.ifCond .eq 7, 3) := by decide +kernel
theorem dX9_endCost_30 : decode cX9_endCost 30 = .ok (.iconst 0, 1) := by decide +kernel
theorem dX9_endCost_31 : decode cX9_endCost 31 = .ok (.goto 9, 3) := by decide +kernel
theorem dX9_endCost_34 : decode cX9_endCost 34 = .ok (.aload_n 0, 1) := by decide +kernel
theorem dX9_endCost_35 : decode cX9_endCost 35 = .ok (.getfield 130, 3) := by decide +kernel
theorem dX9_endCost_38 : decode cX9_endCost 38 = .ok (.iload_n 2, 1) := by decide +kernel
theorem dX9_endCost_39 : decode cX9_endCost 39 = .ok (.isub, 1) := by decide +kernel
theorem dX9_endCost_40 : decode cX9_endCost 40 = .ok (.iadd, 1) := by decide +kernel
theorem dX9_endCost_41 : decode cX9_endCost 41 = .ok (.imul, 1) := by decide +kernel
theorem dX9_endCost_42 : decode cX9_endCost 42 = .ok (.ireturn, 1) := by decide +kernel
theorem dX9_pairsLeft_0 : decode cX9_pairsLeft 0 = .ok (.aload_n 0, 1) := by decide +kernel
theorem dX9_pairsLeft_1 : decode cX9_pairsLeft 1 = .ok (.getfield 28, 3) := by decide +kernel
theorem dX9_pairsLeft_4 : decode cX9_pairsLeft 4 = .ok (.bipush 11, 2) := by decide +kernel
theorem dX9_pairsLeft_6 : decode cX9_pairsLeft 6 = .ok (.iload_n 1, 1) := by decide +kernel
theorem dX9_pairsLeft_7 : decode cX9_pairsLeft 7 = .ok (.imul, 1) := by decide +kernel
theorem dX9_pairsLeft_8 : decode cX9_pairsLeft 8 = .ok (.iload_n 2, 1) := by decide +kernel
theorem dX9_pairsLeft_9 : decode cX9_pairsLeft 9 = .ok (.iadd, 1) := by decide +kernel
theorem dX9_pairsLeft_10 : decode cX9_pairsLeft 10 = .ok (.iaload, 1) := by decide +kernel
theorem dX9_pairsLeft_11 : decode cX9_pairsLeft 11 = .ok (.ireturn, 1) := by decide +kernel
theorem dX9_leastFrom_0 : decode cX9_leastFrom 0 = .ok (.aload_n 0, 1) := by decide +kernel
theorem dX9_leastFrom_1 : decode cX9_leastFrom 1 = .ok (.iload_n 1, 1) := by decide +kernel
theorem dX9_leastFrom_2 : decode cX9_leastFrom 2 = .ok (.iload_n 2, 1) := by decide +kernel
theorem dX9_leastFrom_3 : decode cX9_leastFrom 3 = .ok (.invokevirtual 136, 3) := by decide +kernel
theorem dX9_leastFrom_6 : decode cX9_leastFrom 6 = .ok (.aload_n 0, 1) := by decide +kernel
theorem dX9_leastFrom_7 : decode cX9_leastFrom 7 = .ok (.iload_n 1, 1) := by decide +kernel
theorem dX9_leastFrom_8 : decode cX9_leastFrom 8 = .ok (.iload_n 2, 1) := by decide +kernel
theorem dX9_leastFrom_9 : decode cX9_leastFrom 9 = .ok (.invokevirtual 140, 3) := by decide +kernel
theorem dX9_leastFrom_12 : decode cX9_leastFrom 12 = .ok (.invokestatic 143, 3) := by decide +kernel
theorem dX9_leastFrom_15 : decode cX9_leastFrom 15 = .ok (.ireturn, 1) := by decide +kernel
theorem dX9_layBy_0 : decode cX9_layBy 0 = .ok (.aload_n 0, 1) := by decide +kernel
theorem dX9_layBy_1 : decode cX9_layBy 1 = .ok (.iload_n 1, 1) := by decide +kernel
theorem dX9_layBy_2 : decode cX9_layBy 2 = .ok (.invokevirtual 148, 3) := by decide +kernel
theorem dX9_layBy_5 : decode cX9_layBy 5 = .ok (.aload_n 0, 1) := by decide +kernel
theorem dX9_layBy_6 : decode cX9_layBy 6 = .ok (.getfield 110, 3) := by decide +kernel
theorem dX9_layBy_9 : decode cX9_layBy 9 = .ok (.istore_n 2, 1) := by decide +kernel
theorem dX9_layBy_10 : decode cX9_layBy 10 = .ok (.iload_n 2, 1) := by decide +kernel
theorem dX9_layBy_11 : decode cX9_layBy 11 = .ok (.aload_n 0, 1) := by decide +kernel
theorem dX9_layBy_12 : decode cX9_layBy 12 = .ok (.getfield 107, 3) := by decide +kernel
theorem dX9_layBy_15 : decode cX9_layBy 15 = .ok (.if_icmp .lt 145, 3) := by decide +kernel
theorem dX9_layBy_18 : decode cX9_layBy 18 = .ok (.aload_n 0, 1) := by decide +kernel
theorem dX9_layBy_19 : decode cX9_layBy 19 = .ok (.getfield 130, 3) := by decide +kernel
theorem dX9_layBy_22 : decode cX9_layBy 22 = .ok (.istore_n 3, 1) := by decide +kernel
theorem dX9_layBy_23 : decode cX9_layBy 23 = .ok (.iload_n 3, 1) := by decide +kernel
theorem dX9_layBy_24 : decode cX9_layBy 24 = .ok (.aload_n 0, 1) := by decide +kernel
theorem dX9_layBy_25 : decode cX9_layBy 25 = .ok (.getfield 127, 3) := by decide +kernel
theorem dX9_layBy_28 : decode cX9_layBy 28 = .ok (.if_icmp .lt 126, 3) := by decide +kernel
theorem dX9_layBy_31 : decode cX9_layBy 31 = .ok (.ldc 151, 2) := by decide +kernel
theorem dX9_layBy_33 : decode cX9_layBy 33 = .ok (.istore 4, 2) := by decide +kernel
theorem dX9_layBy_35 : decode cX9_layBy 35 = .ok (.iload_n 2, 1) := by decide +kernel
theorem dX9_layBy_36 : decode cX9_layBy 36 = .ok (.aload_n 0, 1) := by decide +kernel
theorem dX9_layBy_37 : decode cX9_layBy 37 = .ok (.getfield 110, 3) := by decide +kernel
theorem dX9_layBy_40 : decode cX9_layBy 40 = .ok (.if_icmp .ge 30, 3) := by decide +kernel
theorem dX9_layBy_43 : decode cX9_layBy 43 = .ok (.iload_n 3, 1) := by decide +kernel
theorem dX9_layBy_44 : decode cX9_layBy 44 = .ok (.aload_n 0, 1) := by decide +kernel
theorem dX9_layBy_45 : decode cX9_layBy 45 = .ok (.getfield 130, 3) := by decide +kernel
theorem dX9_layBy_48 : decode cX9_layBy 48 = .ok (.if_icmp .ge 22, 3) := by decide +kernel
theorem dX9_layBy_51 : decode cX9_layBy 51 = .ok (.aload_n 0, 1) := by decide +kernel
theorem dX9_layBy_52 : decode cX9_layBy 52 = .ok (.iload_n 2, 1) := by decide +kernel
theorem dX9_layBy_53 : decode cX9_layBy 53 = .ok (.iload_n 3, 1) := by decide +kernel
theorem dX9_layBy_54 : decode cX9_layBy 54 = .ok (.invokevirtual 152, 3) := by decide +kernel
theorem dX9_layBy_57 : decode cX9_layBy 57 = .ok (.aload_n 0, 1) := by decide +kernel
theorem dX9_layBy_58 : decode cX9_layBy 58 = .ok (.iload_n 2, 1) := by decide +kernel
theorem dX9_layBy_59 : decode cX9_layBy 59 = .ok (.iconst 1, 1) := by decide +kernel
theorem dX9_layBy_60 : decode cX9_layBy 60 = .ok (.iadd, 1) := by decide +kernel
theorem dX9_layBy_61 : decode cX9_layBy 61 = .ok (.iload_n 3, 1) := by decide +kernel
theorem dX9_layBy_62 : decode cX9_layBy 62 = .ok (.iconst 1, 1) := by decide +kernel
theorem dX9_layBy_63 : decode cX9_layBy 63 = .ok (.iadd, 1) := by decide +kernel
theorem dX9_layBy_64 : decode cX9_layBy 64 = .ok (.invokevirtual 155, 3) := by decide +kernel
theorem dX9_layBy_67 : decode cX9_layBy 67 = .ok (.iadd, 1) := by decide +kernel
theorem dX9_layBy_68 : decode cX9_layBy 68 = .ok (.istore 4, 2) := by decide +kernel
theorem dX9_layBy_70 : decode cX9_layBy 70 = .ok (.iload_n 2, 1) := by decide +kernel
theorem dX9_layBy_71 : decode cX9_layBy 71 = .ok (.aload_n 0, 1) := by decide +kernel
theorem dX9_layBy_72 : decode cX9_layBy 72 = .ok (.getfield 110, 3) := by decide +kernel
theorem dX9_layBy_75 : decode cX9_layBy 75 = .ok (.if_icmp .ge 25, 3) := by decide +kernel
theorem dX9_layBy_78 : decode cX9_layBy 78 = .ok (.iload 4, 2) := by decide +kernel
theorem dX9_layBy_80 : decode cX9_layBy 80 = .ok (.aload_n 0, 1) := by decide +kernel
theorem dX9_layBy_81 : decode cX9_layBy 81 = .ok (.getfield 9, 3) := by decide +kernel
theorem dX9_layBy_84 : decode cX9_layBy 84 = .ok (.iconst 3, 1) := by decide +kernel
theorem dX9_layBy_85 : decode cX9_layBy 85 = .ok (.iaload, 1) := by decide +kernel
theorem dX9_layBy_86 : decode cX9_layBy 86 = .ok (.aload_n 0, 1) := by decide +kernel
theorem dX9_layBy_87 : decode cX9_layBy 87 = .ok (.iload_n 2, 1) := by decide +kernel
theorem dX9_layBy_88 : decode cX9_layBy 88 = .ok (.iconst 1, 1) := by decide +kernel
theorem dX9_layBy_89 : decode cX9_layBy 89 = .ok (.iadd, 1) := by decide +kernel
theorem dX9_layBy_90 : decode cX9_layBy 90 = .ok (.iload_n 3, 1) := by decide +kernel
theorem dX9_layBy_91 : decode cX9_layBy 91 = .ok (.invokevirtual 136, 3) := by decide +kernel
theorem dX9_layBy_94 : decode cX9_layBy 94 = .ok (.iadd, 1) := by decide +kernel
theorem dX9_layBy_95 : decode cX9_layBy 95 = .ok (.invokestatic 143, 3) := by decide +kernel
theorem dX9_layBy_98 : decode cX9_layBy 98 = .ok (.istore 4, 2) := by decide +kernel
theorem dX9_layBy_100 : decode cX9_layBy 100 = .ok (.iload_n 3, 1) := by decide +kernel
theorem dX9_layBy_101 : decode cX9_layBy 101 = .ok (.aload_n 0, 1) := by decide +kernel
theorem dX9_layBy_102 : decode cX9_layBy 102 = .ok (.getfield 130, 3) := by decide +kernel
theorem dX9_layBy_105 : decode cX9_layBy 105 = .ok (.if_icmp .ge 25, 3) := by decide +kernel
theorem dX9_layBy_108 : decode cX9_layBy 108 = .ok (.iload 4, 2) := by decide +kernel
theorem dX9_layBy_110 : decode cX9_layBy 110 = .ok (.aload_n 0, 1) := by decide +kernel
theorem dX9_layBy_111 : decode cX9_layBy 111 = .ok (.getfield 9, 3) := by decide +kernel
theorem dX9_layBy_114 : decode cX9_layBy 114 = .ok (.iconst 3, 1) := by decide +kernel
theorem dX9_layBy_115 : decode cX9_layBy 115 = .ok (.iaload, 1) := by decide +kernel
theorem dX9_layBy_116 : decode cX9_layBy 116 = .ok (.aload_n 0, 1) := by decide +kernel
theorem dX9_layBy_117 : decode cX9_layBy 117 = .ok (.iload_n 2, 1) := by decide +kernel
theorem dX9_layBy_118 : decode cX9_layBy 118 = .ok (.iload_n 3, 1) := by decide +kernel
theorem dX9_layBy_119 : decode cX9_layBy 119 = .ok (.iconst 1, 1) := by decide +kernel
theorem dX9_layBy_120 : decode cX9_layBy 120 = .ok (.iadd, 1) := by decide +kernel
theorem dX9_layBy_121 : decode cX9_layBy 121 = .ok (.invokevirtual 136, 3) := by decide +kernel
theorem dX9_layBy_124 : decode cX9_layBy 124 = .ok (.iadd, 1) := by decide +kernel
theorem dX9_layBy_125 : decode cX9_layBy 125 = .ok (.invokestatic 143, 3) := by decide +kernel
theorem dX9_layBy_128 : decode cX9_layBy 128 = .ok (.istore 4, 2) := by decide +kernel
theorem dX9_layBy_130 : decode cX9_layBy 130 = .ok (.aload_n 0, 1) := by decide +kernel
theorem dX9_layBy_131 : decode cX9_layBy 131 = .ok (.getfield 28, 3) := by decide +kernel
theorem dX9_layBy_134 : decode cX9_layBy 134 = .ok (.bipush 11, 2) := by decide +kernel
theorem dX9_layBy_136 : decode cX9_layBy 136 = .ok (.iload_n 2, 1) := by decide +kernel
theorem dX9_layBy_137 : decode cX9_layBy 137 = .ok (.imul, 1) := by decide +kernel
theorem dX9_layBy_138 : decode cX9_layBy 138 = .ok (.iload_n 3, 1) := by decide +kernel
theorem dX9_layBy_139 : decode cX9_layBy 139 = .ok (.iadd, 1) := by decide +kernel
theorem dX9_layBy_140 : decode cX9_layBy 140 = .ok (.iload 4, 2) := by decide +kernel
theorem dX9_layBy_142 : decode cX9_layBy 142 = .ok (.ldc 151, 2) := by decide +kernel
theorem dX9_layBy_144 : decode cX9_layBy 144 = .ok (.invokestatic 143, 3) := by decide +kernel
theorem dX9_layBy_147 : decode cX9_layBy 147 = .ok (.iastore, 1) := by decide +kernel
theorem dX9_layBy_148 : decode cX9_layBy 148 = .ok (.iinc 3 (-1), 3) := by decide +kernel
theorem dX9_layBy_151 : decode cX9_layBy 151 = .ok (.goto (-128), 3) := by decide +kernel
theorem dX9_layBy_154 : decode cX9_layBy 154 = .ok (.iinc 2 (-1), 3) := by decide +kernel
theorem dX9_layBy_157 : decode cX9_layBy 157 = .ok (.goto (-147), 3) := by decide +kernel
theorem dX9_layBy_160 : decode cX9_layBy 160 = .ok (.aload_n 0, 1) := by decide +kernel
theorem dX9_layBy_161 : decode cX9_layBy 161 = .ok (.aload_n 0, 1) := by decide +kernel
theorem dX9_layBy_162 : decode cX9_layBy 162 = .ok (.getfield 107, 3) := by decide +kernel
theorem dX9_layBy_165 : decode cX9_layBy 165 = .ok (.aload_n 0, 1) := by decide +kernel
theorem dX9_layBy_166 : decode cX9_layBy 166 = .ok (.getfield 127, 3) := by decide +kernel
theorem dX9_layBy_169 : decode cX9_layBy 169 = .ok (.invokevirtual 155, 3) := by decide +kernel
theorem dX9_layBy_172 : decode cX9_layBy 172 = .ok (.ireturn, 1) := by decide +kernel
theorem dX9_leastCost_0 : decode cX9_leastCost 0 = .ok (.ldc 151, 2) := by decide +kernel
theorem dX9_leastCost_2 : decode cX9_leastCost 2 = .ok (.istore_n 1, 1) := by decide +kernel
theorem dX9_leastCost_3 : decode cX9_leastCost 3 = .ok (.iconst 0, 1) := by decide +kernel
theorem dX9_leastCost_4 : decode cX9_leastCost 4 = .ok (.istore_n 2, 1) := by decide +kernel
theorem dX9_leastCost_5 : decode cX9_leastCost 5 = .ok (.iload_n 2, 1) := by decide +kernel
theorem dX9_leastCost_6 : decode cX9_leastCost 6 = .ok (.bipush 24, 2) := by decide +kernel
theorem dX9_leastCost_8 : decode cX9_leastCost 8 = .ok (.if_icmp .ge 27, 3) := by decide +kernel
theorem dX9_leastCost_11 : decode cX9_leastCost 11 = .ok (.aload_n 0, 1) := by decide +kernel
theorem dX9_leastCost_12 : decode cX9_leastCost 12 = .ok (.iload_n 2, 1) := by decide +kernel
theorem dX9_leastCost_13 : decode cX9_leastCost 13 = .ok (.invokevirtual 158, 3) := by decide +kernel
theorem dX9_leastCost_16 : decode cX9_leastCost 16 = .ok (.istore_n 3, 1) := by decide +kernel
theorem dX9_leastCost_17 : decode cX9_leastCost 17 = .ok (.iload_n 3, 1) := by decide +kernel
theorem dX9_leastCost_18 : decode cX9_leastCost 18 = .ok (.iload_n 1, 1) := by decide +kernel
theorem dX9_leastCost_19 : decode cX9_leastCost 19 = .ok (.if_icmp .ge 10, 3) := by decide +kernel
theorem dX9_leastCost_22 : decode cX9_leastCost 22 = .ok (.iload_n 3, 1) := by decide +kernel
theorem dX9_leastCost_23 : decode cX9_leastCost 23 = .ok (.istore_n 1, 1) := by decide +kernel
theorem dX9_leastCost_24 : decode cX9_leastCost 24 = .ok (.aload_n 0, 1) := by decide +kernel
theorem dX9_leastCost_25 : decode cX9_leastCost 25 = .ok (.iload_n 2, 1) := by decide +kernel
theorem dX9_leastCost_26 : decode cX9_leastCost 26 = .ok (.putfield 161, 3) := by decide +kernel
theorem dX9_leastCost_29 : decode cX9_leastCost 29 = .ok (.iinc 2 1, 3) := by decide +kernel
theorem dX9_leastCost_32 : decode cX9_leastCost 32 = .ok (.goto (-27), 3) := by decide +kernel
theorem dX9_leastCost_35 : decode cX9_leastCost 35 = .ok (.iload_n 1, 1) := by decide +kernel
theorem dX9_leastCost_36 : decode cX9_leastCost 36 = .ok (.ireturn, 1) := by decide +kernel
theorem dX9_costOf_0 : decode cX9_costOf 0 = .ok (.aload_n 0, 1) := by decide +kernel
theorem dX9_costOf_1 : decode cX9_costOf 1 = .ok (.iload_n 1, 1) := by decide +kernel
theorem dX9_costOf_2 : decode cX9_costOf 2 = .ok (.iload_n 2, 1) := by decide +kernel
theorem dX9_costOf_3 : decode cX9_costOf 3 = .ok (.invokevirtual 164, 3) := by decide +kernel
theorem dX9_costOf_6 : decode cX9_costOf 6 = .ok (.aload_n 0, 1) := by decide +kernel
theorem dX9_costOf_7 : decode cX9_costOf 7 = .ok (.invokevirtual 168, 3) := by decide +kernel
theorem dX9_costOf_10 : decode cX9_costOf 10 = .ok (.ireturn, 1) := by decide +kernel
theorem dX9_cost_0 : decode cX9_cost 0 = .ok (.aload_n 0, 1) := by decide +kernel
theorem dX9_cost_1 : decode cX9_cost 1 = .ok (.iload_n 1, 1) := by decide +kernel
theorem dX9_cost_2 : decode cX9_cost 2 = .ok (.invokevirtual 71, 3) := by decide +kernel
theorem dX9_cost_5 : decode cX9_cost 5 = .ok (.ifCond .eq 20, 3) := by decide +kernel
theorem dX9_cost_8 : decode cX9_cost 8 = .ok (.aload_n 0, 1) := by decide +kernel
theorem dX9_cost_9 : decode cX9_cost 9 = .ok (.iload_n 2, 1) := by decide +kernel
theorem dX9_cost_10 : decode cX9_cost 10 = .ok (.invokevirtual 71, 3) := by decide +kernel
theorem dX9_cost_13 : decode cX9_cost 13 = .ok (.ifCond .eq 12, 3) := by decide +kernel
theorem dX9_cost_16 : decode cX9_cost 16 = .ok (.aload_n 0, 1) := by decide +kernel
theorem dX9_cost_17 : decode cX9_cost 17 = .ok (.iload_n 1, 1) := by decide +kernel
theorem dX9_cost_18 : decode cX9_cost 18 = .ok (.iload_n 2, 1) := by decide +kernel
theorem dX9_cost_19 : decode cX9_cost 19 = .ok (.invokevirtual 172, 3) := by decide +kernel
theorem dX9_cost_22 : decode cX9_cost 22 = .ok (.goto 9, 3) := by decide +kernel
theorem dX9_cost_25 : decode cX9_cost 25 = .ok (.aload_n 0, 1) := by decide +kernel
theorem dX9_cost_26 : decode cX9_cost 26 = .ok (.ldc 66, 2) := by decide +kernel
theorem dX9_cost_28 : decode cX9_cost 28 = .ok (.invokevirtual 58, 3) := by decide +kernel
theorem dX9_cost_31 : decode cX9_cost 31 = .ok (.ireturn, 1) := by decide +kernel
theorem dX9_carried_0 : decode cX9_carried 0 = .ok (.aload_n 0, 1) := by decide +kernel
theorem dX9_carried_1 : decode cX9_carried 1 = .ok (.iload_n 1, 1) := by decide +kernel
theorem dX9_carried_2 : decode cX9_carried 2 = .ok (.invokevirtual 71, 3) := by decide +kernel
theorem dX9_carried_5 : decode cX9_carried 5 = .ok (.ifCond .eq 18, 3) := by decide +kernel
theorem dX9_carried_8 : decode cX9_carried 8 = .ok (.aload_n 0, 1) := by decide +kernel
theorem dX9_carried_9 : decode cX9_carried 9 = .ok (.iload_n 2, 1) := by decide +kernel
theorem dX9_carried_10 : decode cX9_carried 10 = .ok (.invokevirtual 71, 3) := by decide +kernel
theorem dX9_carried_13 : decode cX9_carried 13 = .ok (.ifCond .eq 10, 3) := by decide +kernel
theorem dX9_carried_16 : decode cX9_carried 16 = .ok (.iload_n 3, 1) := by decide +kernel
theorem dX9_carried_17 : decode cX9_carried 17 = .ok (.invokestatic 78, 3) := by decide +kernel
theorem dX9_carried_20 : decode cX9_carried 20 = .ok (.ifCond .ne 10, 3) := by decide +kernel
theorem dX9_carried_23 : decode cX9_carried 23 = .ok (.aload_n 0, 1) := by decide +kernel
theorem dX9_carried_24 : decode cX9_carried 24 = .ok (.ldc 66, 2) := by decide +kernel
theorem dX9_carried_26 : decode cX9_carried 26 = .ok (.invokevirtual 58, 3) := by decide +kernel
theorem dX9_carried_29 : decode cX9_carried 29 = .ok (.ireturn, 1) := by decide +kernel
theorem dX9_carried_30 : decode cX9_carried 30 = .ok (.aload_n 0, 1) := by decide +kernel
theorem dX9_carried_31 : decode cX9_carried 31 = .ok (.iload_n 1, 1) := by decide +kernel
theorem dX9_carried_32 : decode cX9_carried 32 = .ok (.iload_n 2, 1) := by decide +kernel
theorem dX9_carried_33 : decode cX9_carried 33 = .ok (.invokevirtual 172, 3) := by decide +kernel
theorem dX9_carried_36 : decode cX9_carried 36 = .ok (.istore 4, 2) := by decide +kernel
theorem dX9_carried_38 : decode cX9_carried 38 = .ok (.aload_n 0, 1) := by decide +kernel
theorem dX9_carried_39 : decode cX9_carried 39 = .ok (.aload_n 0, 1) := by decide +kernel
theorem dX9_carried_40 : decode cX9_carried 40 = .ok (.getfield 161, 3) := by decide +kernel
theorem dX9_carried_43 : decode cX9_carried 43 = .ok (.invokevirtual 148, 3) := by decide +kernel
theorem dX9_carried_46 : decode cX9_carried 46 = .ok (.aload_n 0, 1) := by decide +kernel
theorem dX9_carried_47 : decode cX9_carried 47 = .ok (.getfield 25, 3) := by decide +kernel
theorem dX9_carried_50 : decode cX9_carried 50 = .ok (.iload_n 3, 1) := by decide +kernel
theorem dX9_carried_51 : decode cX9_carried 51 = .ok (.iaload, 1) := by decide +kernel
theorem dX9_carried_52 : decode cX9_carried 52 = .ok (.ireturn, 1) := by decide +kernel
theorem dX9_findPairs_0 : decode cX9_findPairs 0 = .ok (.aload_n 0, 1) := by decide +kernel
theorem dX9_findPairs_1 : decode cX9_findPairs 1 = .ok (.iload_n 1, 1) := by decide +kernel
theorem dX9_findPairs_2 : decode cX9_findPairs 2 = .ok (.iload_n 2, 1) := by decide +kernel
theorem dX9_findPairs_3 : decode cX9_findPairs 3 = .ok (.invokevirtual 172, 3) := by decide +kernel
theorem dX9_findPairs_6 : decode cX9_findPairs 6 = .ok (.istore_n 3, 1) := by decide +kernel
theorem dX9_findPairs_7 : decode cX9_findPairs 7 = .ok (.aload_n 0, 1) := by decide +kernel
theorem dX9_findPairs_8 : decode cX9_findPairs 8 = .ok (.aload_n 0, 1) := by decide +kernel
theorem dX9_findPairs_9 : decode cX9_findPairs 9 = .ok (.getfield 161, 3) := by decide +kernel
theorem dX9_findPairs_12 : decode cX9_findPairs 12 = .ok (.invokevirtual 158, 3) := by decide +kernel
theorem dX9_findPairs_15 : decode cX9_findPairs 15 = .ok (.istore_n 3, 1) := by decide +kernel
theorem dX9_findPairs_16 : decode cX9_findPairs 16 = .ok (.iconst 0, 1) := by decide +kernel
theorem dX9_findPairs_17 : decode cX9_findPairs 17 = .ok (.istore 4, 2) := by decide +kernel
theorem dX9_findPairs_19 : decode cX9_findPairs 19 = .ok (.iload 4, 2) := by decide +kernel
theorem dX9_findPairs_21 : decode cX9_findPairs 21 = .ok (.bipush 10, 2) := by decide +kernel
theorem dX9_findPairs_23 : decode cX9_findPairs 23 = .ok (.if_icmp .ge 17, 3) := by decide +kernel
theorem dX9_findPairs_26 : decode cX9_findPairs 26 = .ok (.aload_n 0, 1) := by decide +kernel
theorem dX9_findPairs_27 : decode cX9_findPairs 27 = .ok (.getfield 31, 3) := by decide +kernel
theorem dX9_findPairs_30 : decode cX9_findPairs 30 = .ok (.iload 4, 2) := by decide +kernel
theorem dX9_findPairs_32 : decode cX9_findPairs 32 = .ok (.iconst (-1), 1) := by decide +kernel
theorem dX9_findPairs_33 : decode cX9_findPairs 33 = .ok (.iastore, 1) := by decide +kernel
theorem dX9_findPairs_34 : decode cX9_findPairs 34 = .ok (.iinc 4 1, 3) := by decide +kernel
theorem dX9_findPairs_37 : decode cX9_findPairs 37 = .ok (.goto (-18), 3) := by decide +kernel
theorem dX9_findPairs_40 : decode cX9_findPairs 40 = .ok (.aload_n 0, 1) := by decide +kernel
theorem dX9_findPairs_41 : decode cX9_findPairs 41 = .ok (.getfield 107, 3) := by decide +kernel
theorem dX9_findPairs_44 : decode cX9_findPairs 44 = .ok (.istore 4, 2) := by decide +kernel
theorem dX9_findPairs_46 : decode cX9_findPairs 46 = .ok (.aload_n 0, 1) := by decide +kernel
theorem dX9_findPairs_47 : decode cX9_findPairs 47 = .ok (.getfield 127, 3) := by decide +kernel
theorem dX9_findPairs_50 : decode cX9_findPairs 50 = .ok (.istore 5, 2) := by decide +kernel
theorem dX9_findPairs_52 : decode cX9_findPairs 52 = .ok (.aload_n 0, 1) := by decide +kernel
theorem dX9_findPairs_53 : decode cX9_findPairs 53 = .ok (.iload 4, 2) := by decide +kernel
theorem dX9_findPairs_55 : decode cX9_findPairs 55 = .ok (.iload 5, 2) := by decide +kernel
theorem dX9_findPairs_57 : decode cX9_findPairs 57 = .ok (.invokevirtual 136, 3) := by decide +kernel
theorem dX9_findPairs_60 : decode cX9_findPairs 60 = .ok (.iload_n 3, 1) := by decide +kernel
theorem dX9_findPairs_61 : decode cX9_findPairs 61 = .ok (.if_icmp .ne 7, 3) := by decide +kernel
theorem dX9_findPairs_64 : decode cX9_findPairs 64 = .ok (.iconst 1, 1) := by decide +kernel
theorem dX9_findPairs_65 : decode cX9_findPairs 65 = .ok (.goto 4, 3) := by decide +kernel
theorem dX9_findPairs_68 : decode cX9_findPairs 68 = .ok (.iconst 0, 1) := by decide +kernel
theorem dX9_findPairs_69 : decode cX9_findPairs 69 = .ok (.istore 6, 2) := by decide +kernel
theorem dX9_findPairs_71 : decode cX9_findPairs 71 = .ok (.aload_n 0, 1) := by decide +kernel
theorem dX9_findPairs_72 : decode cX9_findPairs 72 = .ok (.iload 4, 2) := by decide +kernel
theorem dX9_findPairs_74 : decode cX9_findPairs 74 = .ok (.iload 5, 2) := by decide +kernel
theorem dX9_findPairs_76 : decode cX9_findPairs 76 = .ok (.invokevirtual 140, 3) := by decide +kernel
theorem dX9_findPairs_79 : decode cX9_findPairs 79 = .ok (.iload_n 3, 1) := by decide +kernel
theorem dX9_findPairs_80 : decode cX9_findPairs 80 = .ok (.if_icmp .ne 7, 3) := by decide +kernel
theorem dX9_findPairs_83 : decode cX9_findPairs 83 = .ok (.iconst 1, 1) := by decide +kernel
theorem dX9_findPairs_84 : decode cX9_findPairs 84 = .ok (.goto 4, 3) := by decide +kernel
theorem dX9_findPairs_87 : decode cX9_findPairs 87 = .ok (.iconst 0, 1) := by decide +kernel
theorem dX9_findPairs_88 : decode cX9_findPairs 88 = .ok (.istore 7, 2) := by decide +kernel
theorem dX9_findPairs_90 : decode cX9_findPairs 90 = .ok (.iload 6, 2) := by decide +kernel
theorem dX9_findPairs_92 : decode cX9_findPairs 92 = .ok (.ifCond .eq 193, 3) := by decide +kernel
theorem dX9_findPairs_95 : decode cX9_findPairs 95 = .ok (.iload 4, 2) := by decide +kernel
theorem dX9_findPairs_97 : decode cX9_findPairs 97 = .ok (.aload_n 0, 1) := by decide +kernel
theorem dX9_findPairs_98 : decode cX9_findPairs 98 = .ok (.getfield 110, 3) := by decide +kernel
theorem dX9_findPairs_101 : decode cX9_findPairs 101 = .ok (.if_icmp .ge 104, 3) := by decide +kernel
theorem dX9_findPairs_104 : decode cX9_findPairs 104 = .ok (.iload 5, 2) := by decide +kernel
theorem dX9_findPairs_106 : decode cX9_findPairs 106 = .ok (.aload_n 0, 1) := by decide +kernel
theorem dX9_findPairs_107 : decode cX9_findPairs 107 = .ok (.getfield 130, 3) := by decide +kernel
theorem dX9_findPairs_110 : decode cX9_findPairs 110 = .ok (.if_icmp .ge 95, 3) := by decide +kernel
theorem dX9_findPairs_113 : decode cX9_findPairs 113 = .ok (.aload_n 0, 1) := by decide +kernel
theorem dX9_findPairs_114 : decode cX9_findPairs 114 = .ok (.iload 4, 2) := by decide +kernel
theorem dX9_findPairs_116 : decode cX9_findPairs 116 = .ok (.iload 5, 2) := by decide +kernel
theorem dX9_findPairs_118 : decode cX9_findPairs 118 = .ok (.invokevirtual 152, 3) := by decide +kernel
theorem dX9_findPairs_121 : decode cX9_findPairs 121 = .ok (.aload_n 0, 1) := by decide +kernel
theorem dX9_findPairs_122 : decode cX9_findPairs 122 = .ok (.iload 4, 2) := by decide +kernel
theorem dX9_findPairs_124 : decode cX9_findPairs 124 = .ok (.iconst 1, 1) := by decide +kernel
theorem dX9_findPairs_125 : decode cX9_findPairs 125 = .ok (.iadd, 1) := by decide +kernel
theorem dX9_findPairs_126 : decode cX9_findPairs 126 = .ok (.iload 5, 2) := by decide +kernel
theorem dX9_findPairs_128 : decode cX9_findPairs 128 = .ok (.iconst 1, 1) := by decide +kernel
theorem dX9_findPairs_129 : decode cX9_findPairs 129 = .ok (.iadd, 1) := by decide +kernel
theorem dX9_findPairs_130 : decode cX9_findPairs 130 = .ok (.invokevirtual 155, 3) := by decide +kernel
theorem dX9_findPairs_133 : decode cX9_findPairs 133 = .ok (.iadd, 1) := by decide +kernel
theorem dX9_findPairs_134 : decode cX9_findPairs 134 = .ok (.iload_n 3, 1) := by decide +kernel
theorem dX9_findPairs_135 : decode cX9_findPairs 135 = .ok (.if_icmp .ne 70, 3) := by decide +kernel
theorem dX9_findPairs_138 : decode cX9_findPairs 138 = .ok (.iload_n 3, 1) := by decide +kernel
theorem dX9_findPairs_139 : decode cX9_findPairs 139 = .ok (.aload_n 0, 1) := by decide +kernel
theorem dX9_findPairs_140 : decode cX9_findPairs 140 = .ok (.iload 4, 2) := by decide +kernel
theorem dX9_findPairs_142 : decode cX9_findPairs 142 = .ok (.iload 5, 2) := by decide +kernel
theorem dX9_findPairs_144 : decode cX9_findPairs 144 = .ok (.invokevirtual 152, 3) := by decide +kernel
theorem dX9_findPairs_147 : decode cX9_findPairs 147 = .ok (.isub, 1) := by decide +kernel
theorem dX9_findPairs_148 : decode cX9_findPairs 148 = .ok (.istore_n 3, 1) := by decide +kernel
theorem dX9_findPairs_149 : decode cX9_findPairs 149 = .ok (.aload_n 0, 1) := by decide +kernel
theorem dX9_findPairs_150 : decode cX9_findPairs 150 = .ok (.getfield 31, 3) := by decide +kernel
theorem dX9_findPairs_153 : decode cX9_findPairs 153 = .ok (.iload 4, 2) := by decide +kernel
theorem dX9_findPairs_155 : decode cX9_findPairs 155 = .ok (.iload 5, 2) := by decide +kernel
theorem dX9_findPairs_157 : decode cX9_findPairs 157 = .ok (.iastore, 1) := by decide +kernel
theorem dX9_findPairs_158 : decode cX9_findPairs 158 = .ok (.iinc 4 1, 3) := by decide +kernel
theorem dX9_findPairs_161 : decode cX9_findPairs 161 = .ok (.iinc 5 1, 3) := by decide +kernel
theorem dX9_findPairs_164 : decode cX9_findPairs 164 = .ok (.aload_n 0, 1) := by decide +kernel
theorem dX9_findPairs_165 : decode cX9_findPairs 165 = .ok (.iload 4, 2) := by decide +kernel
theorem dX9_findPairs_167 : decode cX9_findPairs 167 = .ok (.iload 5, 2) := by decide +kernel
theorem dX9_findPairs_169 : decode cX9_findPairs 169 = .ok (.invokevirtual 136, 3) := by decide +kernel
theorem dX9_findPairs_172 : decode cX9_findPairs 172 = .ok (.iload_n 3, 1) := by decide +kernel
theorem dX9_findPairs_173 : decode cX9_findPairs 173 = .ok (.if_icmp .ne 7, 3) := by decide +kernel
theorem dX9_findPairs_176 : decode cX9_findPairs 176 = .ok (.iconst 1, 1) := by decide +kernel
theorem dX9_findPairs_177 : decode cX9_findPairs 177 = .ok (.goto 4, 3) := by decide +kernel
theorem dX9_findPairs_180 : decode cX9_findPairs 180 = .ok (.iconst 0, 1) := by decide +kernel
theorem dX9_findPairs_181 : decode cX9_findPairs 181 = .ok (.istore 6, 2) := by decide +kernel
theorem dX9_findPairs_183 : decode cX9_findPairs 183 = .ok (.aload_n 0, 1) := by decide +kernel
theorem dX9_findPairs_184 : decode cX9_findPairs 184 = .ok (.iload 4, 2) := by decide +kernel
theorem dX9_findPairs_186 : decode cX9_findPairs 186 = .ok (.iload 5, 2) := by decide +kernel
theorem dX9_findPairs_188 : decode cX9_findPairs 188 = .ok (.invokevirtual 140, 3) := by decide +kernel
theorem dX9_findPairs_191 : decode cX9_findPairs 191 = .ok (.iload_n 3, 1) := by decide +kernel
theorem dX9_findPairs_192 : decode cX9_findPairs 192 = .ok (.if_icmp .ne 7, 3) := by decide +kernel
theorem dX9_findPairs_195 : decode cX9_findPairs 195 = .ok (.iconst 1, 1) := by decide +kernel
theorem dX9_findPairs_196 : decode cX9_findPairs 196 = .ok (.goto 4, 3) := by decide +kernel
theorem dX9_findPairs_199 : decode cX9_findPairs 199 = .ok (.iconst 0, 1) := by decide +kernel
theorem dX9_findPairs_200 : decode cX9_findPairs 200 = .ok (.istore 7, 2) := by decide +kernel
theorem dX9_findPairs_202 : decode cX9_findPairs 202 = .ok (.goto (-112), 3) := by decide +kernel
theorem dX9_findPairs_205 : decode cX9_findPairs 205 = .ok (.iload 4, 2) := by decide +kernel
theorem dX9_findPairs_207 : decode cX9_findPairs 207 = .ok (.aload_n 0, 1) := by decide +kernel
theorem dX9_findPairs_208 : decode cX9_findPairs 208 = .ok (.getfield 110, 3) := by decide +kernel
theorem dX9_findPairs_211 : decode cX9_findPairs 211 = .ok (.if_icmp .ge 39, 3) := by decide +kernel
theorem dX9_findPairs_214 : decode cX9_findPairs 214 = .ok (.aload_n 0, 1) := by decide +kernel
theorem dX9_findPairs_215 : decode cX9_findPairs 215 = .ok (.getfield 9, 3) := by decide +kernel
theorem dX9_findPairs_218 : decode cX9_findPairs 218 = .ok (.iconst 3, 1) := by decide +kernel
theorem dX9_findPairs_219 : decode cX9_findPairs 219 = .ok (.iaload, 1) := by decide +kernel
theorem dX9_findPairs_220 : decode cX9_findPairs 220 = .ok (.aload_n 0, 1) := by decide +kernel
theorem dX9_findPairs_221 : decode cX9_findPairs 221 = .ok (.iload 4, 2) := by decide +kernel
theorem dX9_findPairs_223 : decode cX9_findPairs 223 = .ok (.iconst 1, 1) := by decide +kernel
theorem dX9_findPairs_224 : decode cX9_findPairs 224 = .ok (.iadd, 1) := by decide +kernel
theorem dX9_findPairs_225 : decode cX9_findPairs 225 = .ok (.iload 5, 2) := by decide +kernel
theorem dX9_findPairs_227 : decode cX9_findPairs 227 = .ok (.invokevirtual 136, 3) := by decide +kernel
theorem dX9_findPairs_230 : decode cX9_findPairs 230 = .ok (.iadd, 1) := by decide +kernel
theorem dX9_findPairs_231 : decode cX9_findPairs 231 = .ok (.iload_n 3, 1) := by decide +kernel
theorem dX9_findPairs_232 : decode cX9_findPairs 232 = .ok (.if_icmp .ne 18, 3) := by decide +kernel
theorem dX9_findPairs_235 : decode cX9_findPairs 235 = .ok (.iload_n 3, 1) := by decide +kernel
theorem dX9_findPairs_236 : decode cX9_findPairs 236 = .ok (.aload_n 0, 1) := by decide +kernel
theorem dX9_findPairs_237 : decode cX9_findPairs 237 = .ok (.getfield 9, 3) := by decide +kernel
theorem dX9_findPairs_240 : decode cX9_findPairs 240 = .ok (.iconst 3, 1) := by decide +kernel
theorem dX9_findPairs_241 : decode cX9_findPairs 241 = .ok (.iaload, 1) := by decide +kernel
theorem dX9_findPairs_242 : decode cX9_findPairs 242 = .ok (.isub, 1) := by decide +kernel
theorem dX9_findPairs_243 : decode cX9_findPairs 243 = .ok (.istore_n 3, 1) := by decide +kernel
theorem dX9_findPairs_244 : decode cX9_findPairs 244 = .ok (.iinc 4 1, 3) := by decide +kernel
theorem dX9_findPairs_247 : decode cX9_findPairs 247 = .ok (.goto (-157), 3) := by decide +kernel
theorem dX9_findPairs_250 : decode cX9_findPairs 250 = .ok (.iload 7, 2) := by decide +kernel
theorem dX9_findPairs_252 : decode cX9_findPairs 252 = .ok (.ifCond .eq 18, 3) := by decide +kernel
theorem dX9_findPairs_255 : decode cX9_findPairs 255 = .ok (.iload 4, 2) := by decide +kernel
theorem dX9_findPairs_257 : decode cX9_findPairs 257 = .ok (.aload_n 0, 1) := by decide +kernel
theorem dX9_findPairs_258 : decode cX9_findPairs 258 = .ok (.getfield 110, 3) := by decide +kernel
theorem dX9_findPairs_261 : decode cX9_findPairs 261 = .ok (.if_icmp .ge 9, 3) := by decide +kernel
theorem dX9_findPairs_264 : decode cX9_findPairs 264 = .ok (.iconst 0, 1) := by decide +kernel
theorem dX9_findPairs_265 : decode cX9_findPairs 265 = .ok (.istore 6, 2) := by decide +kernel
theorem dX9_findPairs_267 : decode cX9_findPairs 267 = .ok (.goto (-177), 3) := by decide +kernel
theorem dX9_findPairs_270 : decode cX9_findPairs 270 = .ok (.iload_n 3, 1) := by decide +kernel
theorem dX9_findPairs_271 : decode cX9_findPairs 271 = .ok (.aload_n 0, 1) := by decide +kernel
theorem dX9_findPairs_272 : decode cX9_findPairs 272 = .ok (.getfield 9, 3) := by decide +kernel
theorem dX9_findPairs_275 : decode cX9_findPairs 275 = .ok (.iconst 3, 1) := by decide +kernel
theorem dX9_findPairs_276 : decode cX9_findPairs 276 = .ok (.iaload, 1) := by decide +kernel
theorem dX9_findPairs_277 : decode cX9_findPairs 277 = .ok (.isub, 1) := by decide +kernel
theorem dX9_findPairs_278 : decode cX9_findPairs 278 = .ok (.istore_n 3, 1) := by decide +kernel
theorem dX9_findPairs_279 : decode cX9_findPairs 279 = .ok (.iinc 5 1, 3) := by decide +kernel
theorem dX9_findPairs_282 : decode cX9_findPairs 282 = .ok (.goto (-192), 3) := by decide +kernel
theorem dX9_findPairs_285 : decode cX9_findPairs 285 = .ok (.return_, 1) := by decide +kernel
theorem dX9_pair_0 : decode cX9_pair 0 = .ok (.aload_n 0, 1) := by decide +kernel
theorem dX9_pair_1 : decode cX9_pair 1 = .ok (.iload_n 1, 1) := by decide +kernel
theorem dX9_pair_2 : decode cX9_pair 2 = .ok (.invokevirtual 71, 3) := by decide +kernel
theorem dX9_pair_5 : decode cX9_pair 5 = .ok (.ifCond .eq 20, 3) := by decide +kernel
theorem dX9_pair_8 : decode cX9_pair 8 = .ok (.aload_n 0, 1) := by decide +kernel
theorem dX9_pair_9 : decode cX9_pair 9 = .ok (.iload_n 2, 1) := by decide +kernel
theorem dX9_pair_10 : decode cX9_pair 10 = .ok (.invokevirtual 71, 3) := by decide +kernel
theorem dX9_pair_13 : decode cX9_pair 13 = .ok (.ifCond .eq 12, 3) := by decide +kernel
theorem dX9_pair_16 : decode cX9_pair 16 = .ok (.aload_n 0, 1) := by decide +kernel
theorem dX9_pair_17 : decode cX9_pair 17 = .ok (.iload_n 1, 1) := by decide +kernel
theorem dX9_pair_18 : decode cX9_pair 18 = .ok (.iload_n 3, 1) := by decide +kernel
theorem dX9_pair_19 : decode cX9_pair 19 = .ok (.invokevirtual 85, 3) := by decide +kernel
theorem dX9_pair_22 : decode cX9_pair 22 = .ok (.ifCond .ne 10, 3) := by decide +kernel
theorem dX9_pair_25 : decode cX9_pair 25 = .ok (.aload_n 0, 1) := by decide +kernel
theorem dX9_pair_26 : decode cX9_pair 26 = .ok (.ldc 66, 2) := by decide +kernel
theorem dX9_pair_28 : decode cX9_pair 28 = .ok (.invokevirtual 58, 3) := by decide +kernel
theorem dX9_pair_31 : decode cX9_pair 31 = .ok (.ireturn, 1) := by decide +kernel
theorem dX9_pair_32 : decode cX9_pair 32 = .ok (.iload_n 3, 1) := by decide +kernel
theorem dX9_pair_33 : decode cX9_pair 33 = .ok (.aload_n 0, 1) := by decide +kernel
theorem dX9_pair_34 : decode cX9_pair 34 = .ok (.iload_n 1, 1) := by decide +kernel
theorem dX9_pair_35 : decode cX9_pair 35 = .ok (.invokevirtual 96, 3) := by decide +kernel
theorem dX9_pair_38 : decode cX9_pair 38 = .ok (.aload_n 0, 1) := by decide +kernel
theorem dX9_pair_39 : decode cX9_pair 39 = .ok (.iload_n 1, 1) := by decide +kernel
theorem dX9_pair_40 : decode cX9_pair 40 = .ok (.invokevirtual 99, 3) := by decide +kernel
theorem dX9_pair_43 : decode cX9_pair 43 = .ok (.iconst 1, 1) := by decide +kernel
theorem dX9_pair_44 : decode cX9_pair 44 = .ok (.isub, 1) := by decide +kernel
theorem dX9_pair_45 : decode cX9_pair 45 = .ok (.invokestatic 50, 3) := by decide +kernel
theorem dX9_pair_48 : decode cX9_pair 48 = .ok (.ifCond .ne 10, 3) := by decide +kernel
theorem dX9_pair_51 : decode cX9_pair 51 = .ok (.aload_n 0, 1) := by decide +kernel
theorem dX9_pair_52 : decode cX9_pair 52 = .ok (.ldc 74, 2) := by decide +kernel
theorem dX9_pair_54 : decode cX9_pair 54 = .ok (.invokevirtual 58, 3) := by decide +kernel
theorem dX9_pair_57 : decode cX9_pair 57 = .ok (.ireturn, 1) := by decide +kernel
theorem dX9_pair_58 : decode cX9_pair 58 = .ok (.aload_n 0, 1) := by decide +kernel
theorem dX9_pair_59 : decode cX9_pair 59 = .ok (.iload_n 1, 1) := by decide +kernel
theorem dX9_pair_60 : decode cX9_pair 60 = .ok (.iload_n 2, 1) := by decide +kernel
theorem dX9_pair_61 : decode cX9_pair 61 = .ok (.invokevirtual 175, 3) := by decide +kernel
theorem dX9_pair_64 : decode cX9_pair 64 = .ok (.aload_n 0, 1) := by decide +kernel
theorem dX9_pair_65 : decode cX9_pair 65 = .ok (.getfield 31, 3) := by decide +kernel
theorem dX9_pair_68 : decode cX9_pair 68 = .ok (.iload_n 3, 1) := by decide +kernel
theorem dX9_pair_69 : decode cX9_pair 69 = .ok (.iaload, 1) := by decide +kernel
theorem dX9_pair_70 : decode cX9_pair 70 = .ok (.ireturn, 1) := by decide +kernel
theorem dX9_pairs_0 : decode cX9_pairs 0 = .ok (.aload_n 0, 1) := by decide +kernel
theorem dX9_pairs_1 : decode cX9_pairs 1 = .ok (.iload_n 1, 1) := by decide +kernel
theorem dX9_pairs_2 : decode cX9_pairs 2 = .ok (.invokevirtual 71, 3) := by decide +kernel
theorem dX9_pairs_5 : decode cX9_pairs 5 = .ok (.ifCond .eq 11, 3) := by decide +kernel
theorem dX9_pairs_8 : decode cX9_pairs 8 = .ok (.aload_n 0, 1) := by decide +kernel
theorem dX9_pairs_9 : decode cX9_pairs 9 = .ok (.iload_n 2, 1) := by decide +kernel
theorem dX9_pairs_10 : decode cX9_pairs 10 = .ok (.invokevirtual 71, 3) := by decide +kernel
theorem dX9_pairs_13 : decode cX9_pairs 13 = .ok (.ifCond .ne 10, 3) := by decide +kernel
theorem dX9_pairs_16 : decode cX9_pairs 16 = .ok (.aload_n 0, 1) := by decide +kernel
theorem dX9_pairs_17 : decode cX9_pairs 17 = .ok (.ldc 66, 2) := by decide +kernel
theorem dX9_pairs_19 : decode cX9_pairs 19 = .ok (.invokevirtual 58, 3) := by decide +kernel
theorem dX9_pairs_22 : decode cX9_pairs 22 = .ok (.ireturn, 1) := by decide +kernel
theorem dX9_pairs_23 : decode cX9_pairs 23 = .ok (.aload_n 0, 1) := by decide +kernel
theorem dX9_pairs_24 : decode cX9_pairs 24 = .ok (.iload_n 1, 1) := by decide +kernel
theorem dX9_pairs_25 : decode cX9_pairs 25 = .ok (.iload_n 2, 1) := by decide +kernel
theorem dX9_pairs_26 : decode cX9_pairs 26 = .ok (.invokevirtual 175, 3) := by decide +kernel
theorem dX9_pairs_29 : decode cX9_pairs 29 = .ok (.iconst 0, 1) := by decide +kernel
theorem dX9_pairs_30 : decode cX9_pairs 30 = .ok (.istore 4, 2) := by decide +kernel
theorem dX9_pairs_32 : decode cX9_pairs 32 = .ok (.iconst 0, 1) := by decide +kernel
theorem dX9_pairs_33 : decode cX9_pairs 33 = .ok (.istore 5, 2) := by decide +kernel
theorem dX9_pairs_35 : decode cX9_pairs 35 = .ok (.iload 5, 2) := by decide +kernel
theorem dX9_pairs_37 : decode cX9_pairs 37 = .ok (.bipush 10, 2) := by decide +kernel
theorem dX9_pairs_39 : decode cX9_pairs 39 = .ok (.if_icmp .ge 57, 3) := by decide +kernel
theorem dX9_pairs_42 : decode cX9_pairs 42 = .ok (.iload 4, 2) := by decide +kernel
theorem dX9_pairs_44 : decode cX9_pairs 44 = .ok (.aload_n 0, 1) := by decide +kernel
theorem dX9_pairs_45 : decode cX9_pairs 45 = .ok (.getfield 31, 3) := by decide +kernel
theorem dX9_pairs_48 : decode cX9_pairs 48 = .ok (.iload 5, 2) := by decide +kernel
theorem dX9_pairs_50 : decode cX9_pairs 50 = .ok (.iaload, 1) := by decide +kernel
theorem dX9_pairs_51 : decode cX9_pairs 51 = .ok (.ifCond .lt 35, 3) := by decide +kernel
theorem dX9_pairs_54 : decode cX9_pairs 54 = .ok (.iload_n 3, 1) := by decide +kernel
theorem dX9_pairs_55 : decode cX9_pairs 55 = .ok (.ifCond .eq 27, 3) := by decide +kernel
theorem dX9_pairs_58 : decode cX9_pairs 58 = .ok (.aload_n 0, 1) := by decide +kernel
theorem dX9_pairs_59 : decode cX9_pairs 59 = .ok (.iload_n 1, 1) := by decide +kernel
theorem dX9_pairs_60 : decode cX9_pairs 60 = .ok (.iload 5, 2) := by decide +kernel
theorem dX9_pairs_62 : decode cX9_pairs 62 = .ok (.iconst 0, 1) := by decide +kernel
theorem dX9_pairs_63 : decode cX9_pairs 63 = .ok (.invokevirtual 89, 3) := by decide +kernel
theorem dX9_pairs_66 : decode cX9_pairs 66 = .ok (.aload_n 0, 1) := by decide +kernel
theorem dX9_pairs_67 : decode cX9_pairs 67 = .ok (.iload_n 2, 1) := by decide +kernel
theorem dX9_pairs_68 : decode cX9_pairs 68 = .ok (.aload_n 0, 1) := by decide +kernel
theorem dX9_pairs_69 : decode cX9_pairs 69 = .ok (.getfield 31, 3) := by decide +kernel
theorem dX9_pairs_72 : decode cX9_pairs 72 = .ok (.iload 5, 2) := by decide +kernel
theorem dX9_pairs_74 : decode cX9_pairs 74 = .ok (.iaload, 1) := by decide +kernel
theorem dX9_pairs_75 : decode cX9_pairs 75 = .ok (.iconst 0, 1) := by decide +kernel
theorem dX9_pairs_76 : decode cX9_pairs 76 = .ok (.invokevirtual 89, 3) := by decide +kernel
theorem dX9_pairs_79 : decode cX9_pairs 79 = .ok (.if_icmp .ne 7, 3) := by decide +kernel
theorem dX9_pairs_82 : decode cX9_pairs 82 = .ok (.iconst 1, 1) := by decide +kernel
theorem dX9_pairs_83 : decode cX9_pairs 83 = .ok (.goto 4, 3) := by decide +kernel
theorem dX9_pairs_86 : decode cX9_pairs 86 = .ok (.iconst 0, 1) := by decide +kernel
theorem dX9_pairs_87 : decode cX9_pairs 87 = .ok (.iadd, 1) := by decide +kernel
theorem dX9_pairs_88 : decode cX9_pairs 88 = .ok (.istore 4, 2) := by decide +kernel
theorem dX9_pairs_90 : decode cX9_pairs 90 = .ok (.iinc 5 1, 3) := by decide +kernel
theorem dX9_pairs_93 : decode cX9_pairs 93 = .ok (.goto (-58), 3) := by decide +kernel
theorem dX9_pairs_96 : decode cX9_pairs 96 = .ok (.iload 4, 2) := by decide +kernel
theorem dX9_pairs_98 : decode cX9_pairs 98 = .ok (.ireturn, 1) := by decide +kernel
theorem dX9_noHeap_0 : decode cX9_noHeap 0 = .ok (.iload_n 1, 1) := by decide +kernel
theorem dX9_noHeap_1 : decode cX9_noHeap 1 = .ok (.iconst 0, 1) := by decide +kernel
theorem dX9_noHeap_2 : decode cX9_noHeap 2 = .ok (.iconst 1, 1) := by decide +kernel
theorem dX9_noHeap_3 : decode cX9_noHeap 3 = .ok (.aload_n 0, 1) := by decide +kernel
theorem dX9_noHeap_4 : decode cX9_noHeap 4 = .ok (.getfield 9, 3) := by decide +kernel
theorem dX9_noHeap_7 : decode cX9_noHeap 7 = .ok (.iconst 0, 1) := by decide +kernel
theorem dX9_noHeap_8 : decode cX9_noHeap 8 = .ok (.iaload, 1) := by decide +kernel
theorem dX9_noHeap_9 : decode cX9_noHeap 9 = .ok (.ishl, 1) := by decide +kernel
theorem dX9_noHeap_10 : decode cX9_noHeap 10 = .ok (.iconst 1, 1) := by decide +kernel
theorem dX9_noHeap_11 : decode cX9_noHeap 11 = .ok (.isub, 1) := by decide +kernel
theorem dX9_noHeap_12 : decode cX9_noHeap 12 = .ok (.invokestatic 50, 3) := by decide +kernel
theorem dX9_noHeap_15 : decode cX9_noHeap 15 = .ok (.ifCond .ne 8, 3) := by decide +kernel
theorem dX9_noHeap_18 : decode cX9_noHeap 18 = .ok (.ldc 66, 2) := by decide +kernel
theorem dX9_noHeap_20 : decode cX9_noHeap 20 = .ok (.goto 13, 3) := by decide +kernel
theorem dX9_noHeap_23 : decode cX9_noHeap 23 = .ok (.iload_n 1, 1) := by decide +kernel
theorem dX9_noHeap_24 : decode cX9_noHeap 24 = .ok (.ifCond .ne 8, 3) := by decide +kernel
theorem dX9_noHeap_27 : decode cX9_noHeap 27 = .ok (.ldc 57, 2) := by decide +kernel
theorem dX9_noHeap_29 : decode cX9_noHeap 29 = .ok (.goto 4, 3) := by decide +kernel
theorem dX9_noHeap_32 : decode cX9_noHeap 32 = .ok (.iconst 0, 1) := by decide +kernel
theorem dX9_noHeap_33 : decode cX9_noHeap 33 = .ok (.ireturn, 1) := by decide +kernel
theorem dX9_sumOf_0 : decode cX9_sumOf 0 = .ok (.iconst 0, 1) := by decide +kernel
theorem dX9_sumOf_1 : decode cX9_sumOf 1 = .ok (.istore_n 3, 1) := by decide +kernel
theorem dX9_sumOf_2 : decode cX9_sumOf 2 = .ok (.iconst 0, 1) := by decide +kernel
theorem dX9_sumOf_3 : decode cX9_sumOf 3 = .ok (.istore 4, 2) := by decide +kernel
theorem dX9_sumOf_5 : decode cX9_sumOf 5 = .ok (.iload 4, 2) := by decide +kernel
theorem dX9_sumOf_7 : decode cX9_sumOf 7 = .ok (.aload_n 0, 1) := by decide +kernel
theorem dX9_sumOf_8 : decode cX9_sumOf 8 = .ok (.getfield 9, 3) := by decide +kernel
theorem dX9_sumOf_11 : decode cX9_sumOf 11 = .ok (.iconst 0, 1) := by decide +kernel
theorem dX9_sumOf_12 : decode cX9_sumOf 12 = .ok (.iaload, 1) := by decide +kernel
theorem dX9_sumOf_13 : decode cX9_sumOf 13 = .ok (.if_icmp .ge 33, 3) := by decide +kernel
theorem dX9_sumOf_16 : decode cX9_sumOf 16 = .ok (.iload_n 3, 1) := by decide +kernel
theorem dX9_sumOf_17 : decode cX9_sumOf 17 = .ok (.iload_n 2, 1) := by decide +kernel
theorem dX9_sumOf_18 : decode cX9_sumOf 18 = .ok (.iload 4, 2) := by decide +kernel
theorem dX9_sumOf_20 : decode cX9_sumOf 20 = .ok (.ishr, 1) := by decide +kernel
theorem dX9_sumOf_21 : decode cX9_sumOf 21 = .ok (.iconst 1, 1) := by decide +kernel
theorem dX9_sumOf_22 : decode cX9_sumOf 22 = .ok (.iand, 1) := by decide +kernel
theorem dX9_sumOf_23 : decode cX9_sumOf 23 = .ok (.iconst 1, 1) := by decide +kernel
theorem dX9_sumOf_24 : decode cX9_sumOf 24 = .ok (.if_icmp .ne 13, 3) := by decide +kernel
theorem dX9_sumOf_27 : decode cX9_sumOf 27 = .ok (.aload_n 0, 1) := by decide +kernel
theorem dX9_sumOf_28 : decode cX9_sumOf 28 = .ok (.iload_n 1, 1) := by decide +kernel
theorem dX9_sumOf_29 : decode cX9_sumOf 29 = .ok (.iload 4, 2) := by decide +kernel
theorem dX9_sumOf_31 : decode cX9_sumOf 31 = .ok (.invokevirtual 172, 3) := by decide +kernel
theorem dX9_sumOf_34 : decode cX9_sumOf 34 = .ok (.goto 4, 3) := by decide +kernel
theorem dX9_sumOf_37 : decode cX9_sumOf 37 = .ok (.iconst 0, 1) := by decide +kernel
theorem dX9_sumOf_38 : decode cX9_sumOf 38 = .ok (.iadd, 1) := by decide +kernel
theorem dX9_sumOf_39 : decode cX9_sumOf 39 = .ok (.istore_n 3, 1) := by decide +kernel
theorem dX9_sumOf_40 : decode cX9_sumOf 40 = .ok (.iinc 4 1, 3) := by decide +kernel
theorem dX9_sumOf_43 : decode cX9_sumOf 43 = .ok (.goto (-38), 3) := by decide +kernel
theorem dX9_sumOf_46 : decode cX9_sumOf 46 = .ok (.iload_n 3, 1) := by decide +kernel
theorem dX9_sumOf_47 : decode cX9_sumOf 47 = .ok (.ireturn, 1) := by decide +kernel
theorem dX9_mouldOf_0 : decode cX9_mouldOf 0 = .ok (.iconst (-1), 1) := by decide +kernel
theorem dX9_mouldOf_1 : decode cX9_mouldOf 1 = .ok (.istore_n 2, 1) := by decide +kernel
theorem dX9_mouldOf_2 : decode cX9_mouldOf 2 = .ok (.aload_n 0, 1) := by decide +kernel
theorem dX9_mouldOf_3 : decode cX9_mouldOf 3 = .ok (.iconst 0, 1) := by decide +kernel
theorem dX9_mouldOf_4 : decode cX9_mouldOf 4 = .ok (.putfield 178, 3) := by decide +kernel
theorem dX9_mouldOf_7 : decode cX9_mouldOf 7 = .ok (.iconst 0, 1) := by decide +kernel
theorem dX9_mouldOf_8 : decode cX9_mouldOf 8 = .ok (.istore_n 3, 1) := by decide +kernel
theorem dX9_mouldOf_9 : decode cX9_mouldOf 9 = .ok (.iload_n 3, 1) := by decide +kernel
theorem dX9_mouldOf_10 : decode cX9_mouldOf 10 = .ok (.aload_n 0, 1) := by decide +kernel
theorem dX9_mouldOf_11 : decode cX9_mouldOf 11 = .ok (.getfield 9, 3) := by decide +kernel
theorem dX9_mouldOf_14 : decode cX9_mouldOf 14 = .ok (.iconst 0, 1) := by decide +kernel
theorem dX9_mouldOf_15 : decode cX9_mouldOf 15 = .ok (.iaload, 1) := by decide +kernel
theorem dX9_mouldOf_16 : decode cX9_mouldOf 16 = .ok (.if_icmp .ge 49, 3) := by decide +kernel
theorem dX9_mouldOf_19 : decode cX9_mouldOf 19 = .ok (.iload_n 1, 1) := by decide +kernel
theorem dX9_mouldOf_20 : decode cX9_mouldOf 20 = .ok (.iload_n 3, 1) := by decide +kernel
theorem dX9_mouldOf_21 : decode cX9_mouldOf 21 = .ok (.ishr, 1) := by decide +kernel
theorem dX9_mouldOf_22 : decode cX9_mouldOf 22 = .ok (.iconst 1, 1) := by decide +kernel
theorem dX9_mouldOf_23 : decode cX9_mouldOf 23 = .ok (.iand, 1) := by decide +kernel
theorem dX9_mouldOf_24 : decode cX9_mouldOf 24 = .ok (.ifCond .ne 6, 3) := by decide +kernel
theorem dX9_mouldOf_27 : decode cX9_mouldOf 27 = .ok (.goto 32, 3) := by decide +kernel
theorem dX9_mouldOf_30 : decode cX9_mouldOf 30 = .ok (.aload_n 0, 1) := by decide +kernel
theorem dX9_mouldOf_31 : decode cX9_mouldOf 31 = .ok (.iload_n 3, 1) := by decide +kernel
theorem dX9_mouldOf_32 : decode cX9_mouldOf 32 = .ok (.iload_n 1, 1) := by decide +kernel
theorem dX9_mouldOf_33 : decode cX9_mouldOf 33 = .ok (.invokevirtual 181, 3) := by decide +kernel
theorem dX9_mouldOf_36 : decode cX9_mouldOf 36 = .ok (.istore 4, 2) := by decide +kernel
theorem dX9_mouldOf_38 : decode cX9_mouldOf 38 = .ok (.iload_n 2, 1) := by decide +kernel
theorem dX9_mouldOf_39 : decode cX9_mouldOf 39 = .ok (.ifCond .lt 12, 3) := by decide +kernel
theorem dX9_mouldOf_42 : decode cX9_mouldOf 42 = .ok (.iload 4, 2) := by decide +kernel
theorem dX9_mouldOf_44 : decode cX9_mouldOf 44 = .ok (.aload_n 0, 1) := by decide +kernel
theorem dX9_mouldOf_45 : decode cX9_mouldOf 45 = .ok (.getfield 178, 3) := by decide +kernel
theorem dX9_mouldOf_48 : decode cX9_mouldOf 48 = .ok (.if_icmp .ge 11, 3) := by decide +kernel
theorem dX9_mouldOf_51 : decode cX9_mouldOf 51 = .ok (.iload_n 3, 1) := by decide +kernel
theorem dX9_mouldOf_52 : decode cX9_mouldOf 52 = .ok (.istore_n 2, 1) := by decide +kernel
theorem dX9_mouldOf_53 : decode cX9_mouldOf 53 = .ok (.aload_n 0, 1) := by decide +kernel
theorem dX9_mouldOf_54 : decode cX9_mouldOf 54 = .ok (.iload 4, 2) := by decide +kernel
theorem dX9_mouldOf_56 : decode cX9_mouldOf 56 = .ok (.putfield 178, 3) := by decide +kernel
theorem dX9_mouldOf_59 : decode cX9_mouldOf 59 = .ok (.iinc 3 1, 3) := by decide +kernel
theorem dX9_mouldOf_62 : decode cX9_mouldOf 62 = .ok (.goto (-53), 3) := by decide +kernel
theorem dX9_mouldOf_65 : decode cX9_mouldOf 65 = .ok (.iload_n 2, 1) := by decide +kernel
theorem dX9_mouldOf_66 : decode cX9_mouldOf 66 = .ok (.ireturn, 1) := by decide +kernel
theorem dX9_mould_0 : decode cX9_mould 0 = .ok (.aload_n 0, 1) := by decide +kernel
theorem dX9_mould_1 : decode cX9_mould 1 = .ok (.iload_n 1, 1) := by decide +kernel
theorem dX9_mould_2 : decode cX9_mould 2 = .ok (.invokevirtual 184, 3) := by decide +kernel
theorem dX9_mould_5 : decode cX9_mould 5 = .ok (.ifCond .eq 15, 3) := by decide +kernel
theorem dX9_mould_8 : decode cX9_mould 8 = .ok (.aload_n 0, 1) := by decide +kernel
theorem dX9_mould_9 : decode cX9_mould 9 = .ok (.aload_n 0, 1) := by decide +kernel
theorem dX9_mould_10 : decode cX9_mould 10 = .ok (.iload_n 1, 1) := by decide +kernel
theorem dX9_mould_11 : decode cX9_mould 11 = .ok (.invokevirtual 184, 3) := by decide +kernel
theorem dX9_mould_14 : decode cX9_mould 14 = .ok (.invokevirtual 58, 3) := by decide +kernel
theorem dX9_mould_17 : decode cX9_mould 17 = .ok (.goto 8, 3) := by decide +kernel
theorem dX9_mould_20 : decode cX9_mould 20 = .ok (.aload_n 0, 1) := by decide +kernel
theorem dX9_mould_21 : decode cX9_mould 21 = .ok (.iload_n 1, 1) := by decide +kernel
theorem dX9_mould_22 : decode cX9_mould 22 = .ok (.invokevirtual 187, 3) := by decide +kernel
theorem dX9_mould_25 : decode cX9_mould 25 = .ok (.ireturn, 1) := by decide +kernel
theorem dX9_spread_0 : decode cX9_spread 0 = .ok (.aload_n 0, 1) := by decide +kernel
theorem dX9_spread_1 : decode cX9_spread 1 = .ok (.iload_n 1, 1) := by decide +kernel
theorem dX9_spread_2 : decode cX9_spread 2 = .ok (.invokevirtual 184, 3) := by decide +kernel
theorem dX9_spread_5 : decode cX9_spread 5 = .ok (.ifCond .eq 13, 3) := by decide +kernel
theorem dX9_spread_8 : decode cX9_spread 8 = .ok (.aload_n 0, 1) := by decide +kernel
theorem dX9_spread_9 : decode cX9_spread 9 = .ok (.aload_n 0, 1) := by decide +kernel
theorem dX9_spread_10 : decode cX9_spread 10 = .ok (.iload_n 1, 1) := by decide +kernel
theorem dX9_spread_11 : decode cX9_spread 11 = .ok (.invokevirtual 184, 3) := by decide +kernel
theorem dX9_spread_14 : decode cX9_spread 14 = .ok (.invokevirtual 58, 3) := by decide +kernel
theorem dX9_spread_17 : decode cX9_spread 17 = .ok (.ireturn, 1) := by decide +kernel
theorem dX9_spread_18 : decode cX9_spread 18 = .ok (.aload_n 0, 1) := by decide +kernel
theorem dX9_spread_19 : decode cX9_spread 19 = .ok (.iload_n 1, 1) := by decide +kernel
theorem dX9_spread_20 : decode cX9_spread 20 = .ok (.invokevirtual 187, 3) := by decide +kernel
theorem dX9_spread_23 : decode cX9_spread 23 = .ok (.istore_n 2, 1) := by decide +kernel
theorem dX9_spread_24 : decode cX9_spread 24 = .ok (.aload_n 0, 1) := by decide +kernel
theorem dX9_spread_25 : decode cX9_spread 25 = .ok (.getfield 178, 3) := by decide +kernel
theorem dX9_spread_28 : decode cX9_spread 28 = .ok (.ireturn, 1) := by decide +kernel
theorem dX9_findTree_0 : decode cX9_findTree 0 = .ok (.iconst 0, 1) := by decide +kernel
theorem dX9_findTree_1 : decode cX9_findTree 1 = .ok (.istore_n 2, 1) := by decide +kernel
theorem dX9_findTree_2 : decode cX9_findTree 2 = .ok (.iload_n 2, 1) := by decide +kernel
theorem dX9_findTree_3 : decode cX9_findTree 3 = .ok (.aload_n 0, 1) := by decide +kernel
theorem dX9_findTree_4 : decode cX9_findTree 4 = .ok (.getfield 9, 3) := by decide +kernel
theorem dX9_findTree_7 : decode cX9_findTree 7 = .ok (.iconst 0, 1) := by decide +kernel
theorem dX9_findTree_8 : decode cX9_findTree 8 = .ok (.iaload, 1) := by decide +kernel
theorem dX9_findTree_9 : decode cX9_findTree 9 = .ok (.if_icmp .ge 79, 3) := by decide +kernel
theorem dX9_findTree_12 : decode cX9_findTree 12 = .ok (.aload_n 0, 1) := by decide +kernel
theorem dX9_findTree_13 : decode cX9_findTree 13 = .ok (.getfield 37, 3) := by decide +kernel
theorem dX9_findTree_16 : decode cX9_findTree 16 = .ok (.iload_n 2, 1) := by decide +kernel
theorem dX9_findTree_17 : decode cX9_findTree 17 = .ok (.iload_n 2, 1) := by decide +kernel
theorem dX9_findTree_18 : decode cX9_findTree 18 = .ok (.iastore, 1) := by decide +kernel
theorem dX9_findTree_19 : decode cX9_findTree 19 = .ok (.iload_n 2, 1) := by decide +kernel
theorem dX9_findTree_20 : decode cX9_findTree 20 = .ok (.iconst 1, 1) := by decide +kernel
theorem dX9_findTree_21 : decode cX9_findTree 21 = .ok (.iadd, 1) := by decide +kernel
theorem dX9_findTree_22 : decode cX9_findTree 22 = .ok (.istore_n 3, 1) := by decide +kernel
theorem dX9_findTree_23 : decode cX9_findTree 23 = .ok (.iload_n 3, 1) := by decide +kernel
theorem dX9_findTree_24 : decode cX9_findTree 24 = .ok (.aload_n 0, 1) := by decide +kernel
theorem dX9_findTree_25 : decode cX9_findTree 25 = .ok (.getfield 9, 3) := by decide +kernel
theorem dX9_findTree_28 : decode cX9_findTree 28 = .ok (.iconst 0, 1) := by decide +kernel
theorem dX9_findTree_29 : decode cX9_findTree 29 = .ok (.iaload, 1) := by decide +kernel
theorem dX9_findTree_30 : decode cX9_findTree 30 = .ok (.if_icmp .ge 52, 3) := by decide +kernel
theorem dX9_findTree_33 : decode cX9_findTree 33 = .ok (.aload_n 0, 1) := by decide +kernel
theorem dX9_findTree_34 : decode cX9_findTree 34 = .ok (.getfield 34, 3) := by decide +kernel
theorem dX9_findTree_37 : decode cX9_findTree 37 = .ok (.bipush 10, 2) := by decide +kernel
theorem dX9_findTree_39 : decode cX9_findTree 39 = .ok (.iload_n 2, 1) := by decide +kernel
theorem dX9_findTree_40 : decode cX9_findTree 40 = .ok (.imul, 1) := by decide +kernel
theorem dX9_findTree_41 : decode cX9_findTree 41 = .ok (.iload_n 3, 1) := by decide +kernel
theorem dX9_findTree_42 : decode cX9_findTree 42 = .ok (.iadd, 1) := by decide +kernel
theorem dX9_findTree_43 : decode cX9_findTree 43 = .ok (.iload_n 1, 1) := by decide +kernel
theorem dX9_findTree_44 : decode cX9_findTree 44 = .ok (.iload_n 2, 1) := by decide +kernel
theorem dX9_findTree_45 : decode cX9_findTree 45 = .ok (.ishr, 1) := by decide +kernel
theorem dX9_findTree_46 : decode cX9_findTree 46 = .ok (.iload_n 1, 1) := by decide +kernel
theorem dX9_findTree_47 : decode cX9_findTree 47 = .ok (.iload_n 3, 1) := by decide +kernel
theorem dX9_findTree_48 : decode cX9_findTree 48 = .ok (.ishr, 1) := by decide +kernel
theorem dX9_findTree_49 : decode cX9_findTree 49 = .ok (.iand, 1) := by decide +kernel
theorem dX9_findTree_50 : decode cX9_findTree 50 = .ok (.iconst 1, 1) := by decide +kernel
theorem dX9_findTree_51 : decode cX9_findTree 51 = .ok (.iand, 1) := by decide +kernel
theorem dX9_findTree_52 : decode cX9_findTree 52 = .ok (.iconst 1, 1) := by decide +kernel
theorem dX9_findTree_53 : decode cX9_findTree 53 = .ok (.if_icmp .ne 21, 3) := by decide +kernel
theorem dX9_findTree_56 : decode cX9_findTree 56 = .ok (.aload_n 0, 1) := by decide +kernel
theorem dX9_findTree_57 : decode cX9_findTree 57 = .ok (.iload_n 2, 1) := by decide +kernel
theorem dX9_findTree_58 : decode cX9_findTree 58 = .ok (.iload_n 3, 1) := by decide +kernel
theorem dX9_findTree_59 : decode cX9_findTree 59 = .ok (.invokevirtual 172, 3) := by decide +kernel
theorem dX9_findTree_62 : decode cX9_findTree 62 = .ok (.aload_n 0, 1) := by decide +kernel
theorem dX9_findTree_63 : decode cX9_findTree 63 = .ok (.iload_n 3, 1) := by decide +kernel
theorem dX9_findTree_64 : decode cX9_findTree 64 = .ok (.iload_n 2, 1) := by decide +kernel
theorem dX9_findTree_65 : decode cX9_findTree 65 = .ok (.invokevirtual 172, 3) := by decide +kernel
theorem dX9_findTree_68 : decode cX9_findTree 68 = .ok (.invokestatic 143, 3) := by decide +kernel
theorem dX9_findTree_71 : decode cX9_findTree 71 = .ok (.goto 4, 3) := by decide +kernel
theorem dX9_findTree_74 : decode cX9_findTree 74 = .ok (.iconst (-1), 1) := by decide +kernel
theorem dX9_findTree_75 : decode cX9_findTree 75 = .ok (.iastore, 1) := by decide +kernel
theorem dX9_findTree_76 : decode cX9_findTree 76 = .ok (.iinc 3 1, 3) := by decide +kernel
theorem dX9_findTree_79 : decode cX9_findTree 79 = .ok (.goto (-56), 3) := by decide +kernel
theorem dX9_findTree_82 : decode cX9_findTree 82 = .ok (.iinc 2 1, 3) := by decide +kernel
theorem dX9_findTree_85 : decode cX9_findTree 85 = .ok (.goto (-83), 3) := by decide +kernel
theorem dX9_findTree_88 : decode cX9_findTree 88 = .ok (.aload_n 0, 1) := by decide +kernel
theorem dX9_findTree_89 : decode cX9_findTree 89 = .ok (.iconst 0, 1) := by decide +kernel
theorem dX9_findTree_90 : decode cX9_findTree 90 = .ok (.putfield 190, 3) := by decide +kernel
theorem dX9_findTree_93 : decode cX9_findTree 93 = .ok (.aload_n 0, 1) := by decide +kernel
theorem dX9_findTree_94 : decode cX9_findTree 94 = .ok (.iconst 0, 1) := by decide +kernel
theorem dX9_findTree_95 : decode cX9_findTree 95 = .ok (.putfield 193, 3) := by decide +kernel
theorem dX9_findTree_98 : decode cX9_findTree 98 = .ok (.aload_n 0, 1) := by decide +kernel
theorem dX9_findTree_99 : decode cX9_findTree 99 = .ok (.invokevirtual 196, 3) := by decide +kernel
theorem dX9_findTree_102 : decode cX9_findTree 102 = .ok (.istore_n 2, 1) := by decide +kernel
theorem dX9_findTree_103 : decode cX9_findTree 103 = .ok (.iload_n 2, 1) := by decide +kernel
theorem dX9_findTree_104 : decode cX9_findTree 104 = .ok (.ifCond .lt 128, 3) := by decide +kernel
theorem dX9_findTree_107 : decode cX9_findTree 107 = .ok (.aload_n 0, 1) := by decide +kernel
theorem dX9_findTree_108 : decode cX9_findTree 108 = .ok (.getfield 37, 3) := by decide +kernel
theorem dX9_findTree_111 : decode cX9_findTree 111 = .ok (.iload_n 2, 1) := by decide +kernel
theorem dX9_findTree_112 : decode cX9_findTree 112 = .ok (.bipush 10, 2) := by decide +kernel
theorem dX9_findTree_114 : decode cX9_findTree 114 = .ok (.idiv, 1) := by decide +kernel
theorem dX9_findTree_115 : decode cX9_findTree 115 = .ok (.iaload, 1) := by decide +kernel
theorem dX9_findTree_116 : decode cX9_findTree 116 = .ok (.istore_n 3, 1) := by decide +kernel
theorem dX9_findTree_117 : decode cX9_findTree 117 = .ok (.aload_n 0, 1) := by decide +kernel
theorem dX9_findTree_118 : decode cX9_findTree 118 = .ok (.getfield 37, 3) := by decide +kernel
theorem dX9_findTree_121 : decode cX9_findTree 121 = .ok (.iload_n 2, 1) := by decide +kernel
theorem dX9_findTree_122 : decode cX9_findTree 122 = .ok (.bipush 10, 2) := by decide +kernel
theorem dX9_findTree_124 : decode cX9_findTree 124 = .ok (.irem, 1) := by decide +kernel
theorem dX9_findTree_125 : decode cX9_findTree 125 = .ok (.iaload, 1) := by decide +kernel
theorem dX9_findTree_126 : decode cX9_findTree 126 = .ok (.istore 4, 2) := by decide +kernel
theorem dX9_findTree_128 : decode cX9_findTree 128 = .ok (.iconst 0, 1) := by decide +kernel
theorem dX9_findTree_129 : decode cX9_findTree 129 = .ok (.istore 5, 2) := by decide +kernel
theorem dX9_findTree_131 : decode cX9_findTree 131 = .ok (.iload 5, 2) := by decide +kernel
theorem dX9_findTree_133 : decode cX9_findTree 133 = .ok (.aload_n 0, 1) := by decide +kernel
theorem dX9_findTree_134 : decode cX9_findTree 134 = .ok (.getfield 9, 3) := by decide +kernel
theorem dX9_findTree_137 : decode cX9_findTree 137 = .ok (.iconst 0, 1) := by decide +kernel
theorem dX9_findTree_138 : decode cX9_findTree 138 = .ok (.iaload, 1) := by decide +kernel
theorem dX9_findTree_139 : decode cX9_findTree 139 = .ok (.if_icmp .ge 39, 3) := by decide +kernel
theorem dX9_findTree_142 : decode cX9_findTree 142 = .ok (.aload_n 0, 1) := by decide +kernel
theorem dX9_findTree_143 : decode cX9_findTree 143 = .ok (.getfield 37, 3) := by decide +kernel
theorem dX9_findTree_146 : decode cX9_findTree 146 = .ok (.iload 5, 2) := by decide +kernel
theorem dX9_findTree_148 : decode cX9_findTree 148 = .ok (.aload_n 0, 1) := by decide +kernel
theorem dX9_findTree_149 : decode cX9_findTree 149 = .ok (.getfield 37, 3) := by decide +kernel
theorem dX9_findTree_152 : decode cX9_findTree 152 = .ok (.iload 5, 2) := by decide +kernel
theorem dX9_findTree_154 : decode cX9_findTree 154 = .ok (.iaload, 1) := by decide +kernel
theorem dX9_findTree_155 : decode cX9_findTree 155 = .ok (.iload 4, 2) := by decide +kernel
theorem dX9_findTree_157 : decode cX9_findTree 157 = .ok (.if_icmp .ne 7, 3) := by decide +kernel
theorem dX9_findTree_160 : decode cX9_findTree 160 = .ok (.iload_n 3, 1) := by decide +kernel
theorem dX9_findTree_161 : decode cX9_findTree 161 = .ok (.goto 10, 3) := by decide +kernel
theorem dX9_findTree_164 : decode cX9_findTree 164 = .ok (.aload_n 0, 1) := by decide +kernel
theorem dX9_findTree_165 : decode cX9_findTree 165 = .ok (.getfield 37, 3) := by decide +kernel
theorem dX9_findTree_168 : decode cX9_findTree 168 = .ok (.iload 5, 2) := by decide +kernel
theorem dX9_findTree_170 : decode cX9_findTree 170 = .ok (.iaload, 1) := by decide +kernel
theorem dX9_findTree_171 : decode cX9_findTree 171 = .ok (.iastore, 1) := by decide +kernel
theorem dX9_findTree_172 : decode cX9_findTree 172 = .ok (.iinc 5 1, 3) := by decide +kernel
theorem dX9_findTree_175 : decode cX9_findTree 175 = .ok (.goto (-44), 3) := by decide +kernel
theorem dX9_findTree_178 : decode cX9_findTree 178 = .ok (.aload_n 0, 1) := by decide +kernel
theorem dX9_findTree_179 : decode cX9_findTree 179 = .ok (.getfield 40, 3) := by decide +kernel
theorem dX9_findTree_182 : decode cX9_findTree 182 = .ok (.aload_n 0, 1) := by decide +kernel
theorem dX9_findTree_183 : decode cX9_findTree 183 = .ok (.getfield 190, 3) := by decide +kernel
theorem dX9_findTree_186 : decode cX9_findTree 186 = .ok (.bipush 16, 2) := by decide +kernel
theorem dX9_findTree_188 : decode cX9_findTree 188 = .ok (.iload_n 2, 1) := by decide +kernel
theorem dX9_findTree_189 : decode cX9_findTree 189 = .ok (.bipush 10, 2) := by decide +kernel
theorem dX9_findTree_191 : decode cX9_findTree 191 = .ok (.idiv, 1) := by decide +kernel
theorem dX9_findTree_192 : decode cX9_findTree 192 = .ok (.imul, 1) := by decide +kernel
theorem dX9_findTree_193 : decode cX9_findTree 193 = .ok (.iload_n 2, 1) := by decide +kernel
theorem dX9_findTree_194 : decode cX9_findTree 194 = .ok (.bipush 10, 2) := by decide +kernel
theorem dX9_findTree_196 : decode cX9_findTree 196 = .ok (.irem, 1) := by decide +kernel
theorem dX9_findTree_197 : decode cX9_findTree 197 = .ok (.iadd, 1) := by decide +kernel
theorem dX9_findTree_198 : decode cX9_findTree 198 = .ok (.iastore, 1) := by decide +kernel
theorem dX9_findTree_199 : decode cX9_findTree 199 = .ok (.aload_n 0, 1) := by decide +kernel
theorem dX9_findTree_200 : decode cX9_findTree 200 = .ok (.dup, 1) := by decide +kernel
theorem dX9_findTree_201 : decode cX9_findTree 201 = .ok (.getfield 190, 3) := by decide +kernel
theorem dX9_findTree_204 : decode cX9_findTree 204 = .ok (.iconst 1, 1) := by decide +kernel
theorem dX9_findTree_205 : decode cX9_findTree 205 = .ok (.iadd, 1) := by decide +kernel
theorem dX9_findTree_206 : decode cX9_findTree 206 = .ok (.putfield 190, 3) := by decide +kernel
theorem dX9_findTree_209 : decode cX9_findTree 209 = .ok (.aload_n 0, 1) := by decide +kernel
theorem dX9_findTree_210 : decode cX9_findTree 210 = .ok (.dup, 1) := by decide +kernel
theorem dX9_findTree_211 : decode cX9_findTree 211 = .ok (.getfield 193, 3) := by decide +kernel
theorem dX9_findTree_214 : decode cX9_findTree 214 = .ok (.aload_n 0, 1) := by decide +kernel
theorem dX9_findTree_215 : decode cX9_findTree 215 = .ok (.getfield 34, 3) := by decide +kernel
theorem dX9_findTree_218 : decode cX9_findTree 218 = .ok (.iload_n 2, 1) := by decide +kernel
theorem dX9_findTree_219 : decode cX9_findTree 219 = .ok (.iaload, 1) := by decide +kernel
theorem dX9_findTree_220 : decode cX9_findTree 220 = .ok (.iadd, 1) := by decide +kernel
theorem dX9_findTree_221 : decode cX9_findTree 221 = .ok (.putfield 193, 3) := by decide +kernel
theorem dX9_findTree_224 : decode cX9_findTree 224 = .ok (.aload_n 0, 1) := by decide +kernel
theorem dX9_findTree_225 : decode cX9_findTree 225 = .ok (.invokevirtual 196, 3) := by decide +kernel
theorem dX9_findTree_228 : decode cX9_findTree 228 = .ok (.istore_n 2, 1) := by decide +kernel
theorem dX9_findTree_229 : decode cX9_findTree 229 = .ok (.goto (-126), 3) := by decide +kernel
theorem dX9_findTree_232 : decode cX9_findTree 232 = .ok (.return_, 1) := by decide +kernel
theorem dX9_nextBranch_0 : decode cX9_nextBranch 0 = .ok (.iconst (-1), 1) := by decide +kernel
theorem dX9_nextBranch_1 : decode cX9_nextBranch 1 = .ok (.istore_n 1, 1) := by decide +kernel
theorem dX9_nextBranch_2 : decode cX9_nextBranch 2 = .ok (.iconst 0, 1) := by decide +kernel
theorem dX9_nextBranch_3 : decode cX9_nextBranch 3 = .ok (.istore_n 2, 1) := by decide +kernel
theorem dX9_nextBranch_4 : decode cX9_nextBranch 4 = .ok (.iload_n 2, 1) := by decide +kernel
theorem dX9_nextBranch_5 : decode cX9_nextBranch 5 = .ok (.aload_n 0, 1) := by decide +kernel
theorem dX9_nextBranch_6 : decode cX9_nextBranch 6 = .ok (.getfield 9, 3) := by decide +kernel
theorem dX9_nextBranch_9 : decode cX9_nextBranch 9 = .ok (.iconst 0, 1) := by decide +kernel
theorem dX9_nextBranch_10 : decode cX9_nextBranch 10 = .ok (.iaload, 1) := by decide +kernel
theorem dX9_nextBranch_11 : decode cX9_nextBranch 11 = .ok (.if_icmp .ge 89, 3) := by decide +kernel
theorem dX9_nextBranch_14 : decode cX9_nextBranch 14 = .ok (.iload_n 2, 1) := by decide +kernel
theorem dX9_nextBranch_15 : decode cX9_nextBranch 15 = .ok (.iconst 1, 1) := by decide +kernel
theorem dX9_nextBranch_16 : decode cX9_nextBranch 16 = .ok (.iadd, 1) := by decide +kernel
theorem dX9_nextBranch_17 : decode cX9_nextBranch 17 = .ok (.istore_n 3, 1) := by decide +kernel
theorem dX9_nextBranch_18 : decode cX9_nextBranch 18 = .ok (.iload_n 3, 1) := by decide +kernel
theorem dX9_nextBranch_19 : decode cX9_nextBranch 19 = .ok (.aload_n 0, 1) := by decide +kernel
theorem dX9_nextBranch_20 : decode cX9_nextBranch 20 = .ok (.getfield 9, 3) := by decide +kernel
theorem dX9_nextBranch_23 : decode cX9_nextBranch 23 = .ok (.iconst 0, 1) := by decide +kernel
theorem dX9_nextBranch_24 : decode cX9_nextBranch 24 = .ok (.iaload, 1) := by decide +kernel
theorem dX9_nextBranch_25 : decode cX9_nextBranch 25 = .ok (.if_icmp .ge 69, 3) := by decide +kernel
theorem dX9_nextBranch_28 : decode cX9_nextBranch 28 = .ok (.bipush 10, 2) := by decide +kernel
theorem dX9_nextBranch_30 : decode cX9_nextBranch 30 = .ok (.iload_n 2, 1) := by decide +kernel
theorem dX9_nextBranch_31 : decode cX9_nextBranch 31 = .ok (.imul, 1) := by decide +kernel
theorem dX9_nextBranch_32 : decode cX9_nextBranch 32 = .ok (.iload_n 3, 1) := by decide +kernel
theorem dX9_nextBranch_33 : decode cX9_nextBranch 33 = .ok (.iadd, 1) := by decide +kernel
theorem dX9_nextBranch_34 : decode cX9_nextBranch 34 = .ok (.istore 4, 2) := by decide +kernel
theorem dX9_nextBranch_36 : decode cX9_nextBranch 36 = .ok (.aload_n 0, 1) := by decide +kernel
theorem dX9_nextBranch_37 : decode cX9_nextBranch 37 = .ok (.getfield 34, 3) := by decide +kernel
theorem dX9_nextBranch_40 : decode cX9_nextBranch 40 = .ok (.iload 4, 2) := by decide +kernel
theorem dX9_nextBranch_42 : decode cX9_nextBranch 42 = .ok (.iaload, 1) := by decide +kernel
theorem dX9_nextBranch_43 : decode cX9_nextBranch 43 = .ok (.ifCond .lt 43, 3) := by decide +kernel
theorem dX9_nextBranch_46 : decode cX9_nextBranch 46 = .ok (.aload_n 0, 1) := by decide +kernel
theorem dX9_nextBranch_47 : decode cX9_nextBranch 47 = .ok (.getfield 37, 3) := by decide +kernel
theorem dX9_nextBranch_50 : decode cX9_nextBranch 50 = .ok (.iload_n 2, 1) := by decide +kernel
theorem dX9_nextBranch_51 : decode cX9_nextBranch 51 = .ok (.iaload, 1) := by decide +kernel
theorem dX9_nextBranch_52 : decode cX9_nextBranch 52 = .ok (.aload_n 0, 1) := by decide +kernel
theorem dX9_nextBranch_53 : decode cX9_nextBranch 53 = .ok (.getfield 37, 3) := by decide +kernel
theorem dX9_nextBranch_56 : decode cX9_nextBranch 56 = .ok (.iload_n 3, 1) := by decide +kernel
theorem dX9_nextBranch_57 : decode cX9_nextBranch 57 = .ok (.iaload, 1) := by decide +kernel
theorem dX9_nextBranch_58 : decode cX9_nextBranch 58 = .ok (.if_icmp .eq 28, 3) := by decide +kernel
theorem dX9_nextBranch_61 : decode cX9_nextBranch 61 = .ok (.iload_n 1, 1) := by decide +kernel
theorem dX9_nextBranch_62 : decode cX9_nextBranch 62 = .ok (.ifCond .lt 19, 3) := by decide +kernel
theorem dX9_nextBranch_65 : decode cX9_nextBranch 65 = .ok (.aload_n 0, 1) := by decide +kernel
theorem dX9_nextBranch_66 : decode cX9_nextBranch 66 = .ok (.getfield 34, 3) := by decide +kernel
theorem dX9_nextBranch_69 : decode cX9_nextBranch 69 = .ok (.iload 4, 2) := by decide +kernel
theorem dX9_nextBranch_71 : decode cX9_nextBranch 71 = .ok (.iaload, 1) := by decide +kernel
theorem dX9_nextBranch_72 : decode cX9_nextBranch 72 = .ok (.aload_n 0, 1) := by decide +kernel
theorem dX9_nextBranch_73 : decode cX9_nextBranch 73 = .ok (.getfield 34, 3) := by decide +kernel
theorem dX9_nextBranch_76 : decode cX9_nextBranch 76 = .ok (.iload_n 1, 1) := by decide +kernel
theorem dX9_nextBranch_77 : decode cX9_nextBranch 77 = .ok (.iaload, 1) := by decide +kernel
theorem dX9_nextBranch_78 : decode cX9_nextBranch 78 = .ok (.if_icmp .ge 8, 3) := by decide +kernel
theorem dX9_nextBranch_81 : decode cX9_nextBranch 81 = .ok (.iload 4, 2) := by decide +kernel
theorem dX9_nextBranch_83 : decode cX9_nextBranch 83 = .ok (.goto 4, 3) := by decide +kernel
theorem dX9_nextBranch_86 : decode cX9_nextBranch 86 = .ok (.iload_n 1, 1) := by decide +kernel
theorem dX9_nextBranch_87 : decode cX9_nextBranch 87 = .ok (.istore_n 1, 1) := by decide +kernel
theorem dX9_nextBranch_88 : decode cX9_nextBranch 88 = .ok (.iinc 3 1, 3) := by decide +kernel
theorem dX9_nextBranch_91 : decode cX9_nextBranch 91 = .ok (.goto (-73), 3) := by decide +kernel
theorem dX9_nextBranch_94 : decode cX9_nextBranch 94 = .ok (.iinc 2 1, 3) := by decide +kernel
theorem dX9_nextBranch_97 : decode cX9_nextBranch 97 = .ok (.goto (-93), 3) := by decide +kernel
theorem dX9_nextBranch_100 : decode cX9_nextBranch 100 = .ok (.iload_n 1, 1) := by decide +kernel
theorem dX9_nextBranch_101 : decode cX9_nextBranch 101 = .ok (.ireturn, 1) := by decide +kernel
theorem dX9_tree_0 : decode cX9_tree 0 = .ok (.aload_n 0, 1) := by decide +kernel
theorem dX9_tree_1 : decode cX9_tree 1 = .ok (.iload_n 1, 1) := by decide +kernel
theorem dX9_tree_2 : decode cX9_tree 2 = .ok (.invokevirtual 184, 3) := by decide +kernel
theorem dX9_tree_5 : decode cX9_tree 5 = .ok (.ifCond .eq 13, 3) := by decide +kernel
theorem dX9_tree_8 : decode cX9_tree 8 = .ok (.aload_n 0, 1) := by decide +kernel
theorem dX9_tree_9 : decode cX9_tree 9 = .ok (.aload_n 0, 1) := by decide +kernel
theorem dX9_tree_10 : decode cX9_tree 10 = .ok (.iload_n 1, 1) := by decide +kernel
theorem dX9_tree_11 : decode cX9_tree 11 = .ok (.invokevirtual 184, 3) := by decide +kernel
theorem dX9_tree_14 : decode cX9_tree 14 = .ok (.invokevirtual 58, 3) := by decide +kernel
theorem dX9_tree_17 : decode cX9_tree 17 = .ok (.ireturn, 1) := by decide +kernel
theorem dX9_tree_18 : decode cX9_tree 18 = .ok (.aload_n 0, 1) := by decide +kernel
theorem dX9_tree_19 : decode cX9_tree 19 = .ok (.iload_n 1, 1) := by decide +kernel
theorem dX9_tree_20 : decode cX9_tree 20 = .ok (.invokevirtual 199, 3) := by decide +kernel
theorem dX9_tree_23 : decode cX9_tree 23 = .ok (.aload_n 0, 1) := by decide +kernel
theorem dX9_tree_24 : decode cX9_tree 24 = .ok (.getfield 193, 3) := by decide +kernel
theorem dX9_tree_27 : decode cX9_tree 27 = .ok (.ireturn, 1) := by decide +kernel
theorem dX9_branch_0 : decode cX9_branch 0 = .ok (.aload_n 0, 1) := by decide +kernel
theorem dX9_branch_1 : decode cX9_branch 1 = .ok (.iload_n 1, 1) := by decide +kernel
theorem dX9_branch_2 : decode cX9_branch 2 = .ok (.invokevirtual 184, 3) := by decide +kernel
theorem dX9_branch_5 : decode cX9_branch 5 = .ok (.ifCond .eq 13, 3) := by decide +kernel
theorem dX9_branch_8 : decode cX9_branch 8 = .ok (.aload_n 0, 1) := by decide +kernel
theorem dX9_branch_9 : decode cX9_branch 9 = .ok (.aload_n 0, 1) := by decide +kernel
theorem dX9_branch_10 : decode cX9_branch 10 = .ok (.iload_n 1, 1) := by decide +kernel
theorem dX9_branch_11 : decode cX9_branch 11 = .ok (.invokevirtual 184, 3) := by decide +kernel
theorem dX9_branch_14 : decode cX9_branch 14 = .ok (.invokevirtual 58, 3) := by decide +kernel
theorem dX9_branch_17 : decode cX9_branch 17 = .ok (.ireturn, 1) := by decide +kernel
theorem dX9_branch_18 : decode cX9_branch 18 = .ok (.aload_n 0, 1) := by decide +kernel
theorem dX9_branch_19 : decode cX9_branch 19 = .ok (.iload_n 1, 1) := by decide +kernel
theorem dX9_branch_20 : decode cX9_branch 20 = .ok (.invokevirtual 199, 3) := by decide +kernel
theorem dX9_branch_23 : decode cX9_branch 23 = .ok (.iload_n 2, 1) := by decide +kernel
theorem dX9_branch_24 : decode cX9_branch 24 = .ok (.iconst 0, 1) := by decide +kernel
theorem dX9_branch_25 : decode cX9_branch 25 = .ok (.aload_n 0, 1) := by decide +kernel
theorem dX9_branch_26 : decode cX9_branch 26 = .ok (.getfield 190, 3) := by decide +kernel
theorem dX9_branch_29 : decode cX9_branch 29 = .ok (.iconst 1, 1) := by decide +kernel
theorem dX9_branch_30 : decode cX9_branch 30 = .ok (.isub, 1) := by decide +kernel
theorem dX9_branch_31 : decode cX9_branch 31 = .ok (.invokestatic 50, 3) := by decide +kernel
theorem dX9_branch_34 : decode cX9_branch 34 = .ok (.ifCond .eq 12, 3) := by decide +kernel
theorem dX9_branch_37 : decode cX9_branch 37 = .ok (.aload_n 0, 1) := by decide +kernel
theorem dX9_branch_38 : decode cX9_branch 38 = .ok (.getfield 40, 3) := by decide +kernel
theorem dX9_branch_41 : decode cX9_branch 41 = .ok (.iload_n 2, 1) := by decide +kernel
theorem dX9_branch_42 : decode cX9_branch 42 = .ok (.iaload, 1) := by decide +kernel
theorem dX9_branch_43 : decode cX9_branch 43 = .ok (.goto 9, 3) := by decide +kernel
theorem dX9_branch_46 : decode cX9_branch 46 = .ok (.aload_n 0, 1) := by decide +kernel
theorem dX9_branch_47 : decode cX9_branch 47 = .ok (.ldc 57, 2) := by decide +kernel
theorem dX9_branch_49 : decode cX9_branch 49 = .ok (.invokevirtual 58, 3) := by decide +kernel
theorem dX9_branch_52 : decode cX9_branch 52 = .ok (.ireturn, 1) := by decide +kernel
theorem dX9_nearest_0 : decode cX9_nearest 0 = .ok (.aload_n 0, 1) := by decide +kernel
theorem dX9_nearest_1 : decode cX9_nearest 1 = .ok (.iload_n 1, 1) := by decide +kernel
theorem dX9_nearest_2 : decode cX9_nearest 2 = .ok (.invokevirtual 71, 3) := by decide +kernel
theorem dX9_nearest_5 : decode cX9_nearest 5 = .ok (.ifCond .ne 10, 3) := by decide +kernel
theorem dX9_nearest_8 : decode cX9_nearest 8 = .ok (.aload_n 0, 1) := by decide +kernel
theorem dX9_nearest_9 : decode cX9_nearest 9 = .ok (.ldc 66, 2) := by decide +kernel
theorem dX9_nearest_11 : decode cX9_nearest 11 = .ok (.invokevirtual 58, 3) := by decide +kernel
theorem dX9_nearest_14 : decode cX9_nearest 14 = .ok (.ireturn, 1) := by decide +kernel
theorem dX9_nearest_15 : decode cX9_nearest 15 = .ok (.iconst (-1), 1) := by decide +kernel
theorem dX9_nearest_16 : decode cX9_nearest 16 = .ok (.istore_n 2, 1) := by decide +kernel
theorem dX9_nearest_17 : decode cX9_nearest 17 = .ok (.iconst 0, 1) := by decide +kernel
theorem dX9_nearest_18 : decode cX9_nearest 18 = .ok (.istore_n 3, 1) := by decide +kernel
theorem dX9_nearest_19 : decode cX9_nearest 19 = .ok (.iconst 0, 1) := by decide +kernel
theorem dX9_nearest_20 : decode cX9_nearest 20 = .ok (.istore 4, 2) := by decide +kernel
theorem dX9_nearest_22 : decode cX9_nearest 22 = .ok (.iload 4, 2) := by decide +kernel
theorem dX9_nearest_24 : decode cX9_nearest 24 = .ok (.aload_n 0, 1) := by decide +kernel
theorem dX9_nearest_25 : decode cX9_nearest 25 = .ok (.getfield 9, 3) := by decide +kernel
theorem dX9_nearest_28 : decode cX9_nearest 28 = .ok (.iconst 0, 1) := by decide +kernel
theorem dX9_nearest_29 : decode cX9_nearest 29 = .ok (.iaload, 1) := by decide +kernel
theorem dX9_nearest_30 : decode cX9_nearest 30 = .ok (.if_icmp .ge 51, 3) := by decide +kernel
theorem dX9_nearest_33 : decode cX9_nearest 33 = .ok (.iload 4, 2) := by decide +kernel
theorem dX9_nearest_35 : decode cX9_nearest 35 = .ok (.iload_n 1, 1) := by decide +kernel
theorem dX9_nearest_36 : decode cX9_nearest 36 = .ok (.if_icmp .ne 8, 3) := by decide +kernel
theorem dX9_nearest_39 : decode cX9_nearest 39 = .ok (.ldc 151, 2) := by decide +kernel
theorem dX9_nearest_41 : decode cX9_nearest 41 = .ok (.goto 10, 3) := by decide +kernel
theorem dX9_nearest_44 : decode cX9_nearest 44 = .ok (.aload_n 0, 1) := by decide +kernel
theorem dX9_nearest_45 : decode cX9_nearest 45 = .ok (.iload 4, 2) := by decide +kernel
theorem dX9_nearest_47 : decode cX9_nearest 47 = .ok (.iload_n 1, 1) := by decide +kernel
theorem dX9_nearest_48 : decode cX9_nearest 48 = .ok (.invokevirtual 172, 3) := by decide +kernel
