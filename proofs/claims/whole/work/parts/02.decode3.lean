theorem dX9_nearest_51 : decode cX9_nearest 51 = .ok (.istore 5, 2) := by decide +kernel
theorem dX9_nearest_53 : decode cX9_nearest 53 = .ok (.iload 4, 2) := by decide +kernel
theorem dX9_nearest_55 : decode cX9_nearest 55 = .ok (.iload_n 1, 1) := by decide +kernel
theorem dX9_nearest_56 : decode cX9_nearest 56 = .ok (.if_icmp .eq 19, 3) := by decide +kernel
theorem dX9_nearest_59 : decode cX9_nearest 59 = .ok (.iload_n 2, 1) := by decide +kernel
theorem dX9_nearest_60 : decode cX9_nearest 60 = .ok (.ifCond .lt 9, 3) := by decide +kernel
theorem dX9_nearest_63 : decode cX9_nearest 63 = .ok (.iload 5, 2) := by decide +kernel
theorem dX9_nearest_65 : decode cX9_nearest 65 = .ok (.iload_n 3, 1) := by decide +kernel
theorem dX9_nearest_66 : decode cX9_nearest 66 = .ok (.if_icmp .ge 9, 3) := by decide +kernel
theorem dX9_nearest_69 : decode cX9_nearest 69 = .ok (.iload 4, 2) := by decide +kernel
theorem dX9_nearest_71 : decode cX9_nearest 71 = .ok (.istore_n 2, 1) := by decide +kernel
theorem dX9_nearest_72 : decode cX9_nearest 72 = .ok (.iload 5, 2) := by decide +kernel
theorem dX9_nearest_74 : decode cX9_nearest 74 = .ok (.istore_n 3, 1) := by decide +kernel
theorem dX9_nearest_75 : decode cX9_nearest 75 = .ok (.iinc 4 1, 3) := by decide +kernel
theorem dX9_nearest_78 : decode cX9_nearest 78 = .ok (.goto (-56), 3) := by decide +kernel
theorem dX9_nearest_81 : decode cX9_nearest 81 = .ok (.iload_n 2, 1) := by decide +kernel
theorem dX9_nearest_82 : decode cX9_nearest 82 = .ok (.ifCond .ge 12, 3) := by decide +kernel
theorem dX9_nearest_85 : decode cX9_nearest 85 = .ok (.aload_n 0, 1) := by decide +kernel
theorem dX9_nearest_86 : decode cX9_nearest 86 = .ok (.ldc 57, 2) := by decide +kernel
theorem dX9_nearest_88 : decode cX9_nearest 88 = .ok (.invokevirtual 58, 3) := by decide +kernel
theorem dX9_nearest_91 : decode cX9_nearest 91 = .ok (.goto 4, 3) := by decide +kernel
theorem dX9_nearest_94 : decode cX9_nearest 94 = .ok (.iload_n 2, 1) := by decide +kernel
theorem dX9_nearest_95 : decode cX9_nearest 95 = .ok (.ireturn, 1) := by decide +kernel
theorem dX9_sourceOf_0 : decode cX9_sourceOf 0 = .ok (.aload_n 0, 1) := by decide +kernel
theorem dX9_sourceOf_1 : decode cX9_sourceOf 1 = .ok (.getfield 9, 3) := by decide +kernel
theorem dX9_sourceOf_4 : decode cX9_sourceOf 4 = .ok (.bipush 80, 2) := by decide +kernel
theorem dX9_sourceOf_6 : decode cX9_sourceOf 6 = .ok (.iload_n 1, 1) := by decide +kernel
theorem dX9_sourceOf_7 : decode cX9_sourceOf 7 = .ok (.iadd, 1) := by decide +kernel
theorem dX9_sourceOf_8 : decode cX9_sourceOf 8 = .ok (.iaload, 1) := by decide +kernel
theorem dX9_sourceOf_9 : decode cX9_sourceOf 9 = .ok (.ifCond .lt 13, 3) := by decide +kernel
theorem dX9_sourceOf_12 : decode cX9_sourceOf 12 = .ok (.aload_n 0, 1) := by decide +kernel
theorem dX9_sourceOf_13 : decode cX9_sourceOf 13 = .ok (.getfield 9, 3) := by decide +kernel
theorem dX9_sourceOf_16 : decode cX9_sourceOf 16 = .ok (.bipush 80, 2) := by decide +kernel
theorem dX9_sourceOf_18 : decode cX9_sourceOf 18 = .ok (.iload_n 1, 1) := by decide +kernel
theorem dX9_sourceOf_19 : decode cX9_sourceOf 19 = .ok (.iadd, 1) := by decide +kernel
theorem dX9_sourceOf_20 : decode cX9_sourceOf 20 = .ok (.iaload, 1) := by decide +kernel
theorem dX9_sourceOf_21 : decode cX9_sourceOf 21 = .ok (.ireturn, 1) := by decide +kernel
theorem dX9_sourceOf_22 : decode cX9_sourceOf 22 = .ok (.iconst (-1), 1) := by decide +kernel
theorem dX9_sourceOf_23 : decode cX9_sourceOf 23 = .ok (.istore_n 2, 1) := by decide +kernel
theorem dX9_sourceOf_24 : decode cX9_sourceOf 24 = .ok (.iconst 0, 1) := by decide +kernel
theorem dX9_sourceOf_25 : decode cX9_sourceOf 25 = .ok (.istore_n 3, 1) := by decide +kernel
theorem dX9_sourceOf_26 : decode cX9_sourceOf 26 = .ok (.iconst 0, 1) := by decide +kernel
theorem dX9_sourceOf_27 : decode cX9_sourceOf 27 = .ok (.istore 4, 2) := by decide +kernel
theorem dX9_sourceOf_29 : decode cX9_sourceOf 29 = .ok (.iload 4, 2) := by decide +kernel
theorem dX9_sourceOf_31 : decode cX9_sourceOf 31 = .ok (.aload_n 0, 1) := by decide +kernel
theorem dX9_sourceOf_32 : decode cX9_sourceOf 32 = .ok (.getfield 9, 3) := by decide +kernel
theorem dX9_sourceOf_35 : decode cX9_sourceOf 35 = .ok (.iconst 0, 1) := by decide +kernel
theorem dX9_sourceOf_36 : decode cX9_sourceOf 36 = .ok (.iaload, 1) := by decide +kernel
theorem dX9_sourceOf_37 : decode cX9_sourceOf 37 = .ok (.if_icmp .ge 118, 3) := by decide +kernel
theorem dX9_sourceOf_40 : decode cX9_sourceOf 40 = .ok (.aload_n 0, 1) := by decide +kernel
theorem dX9_sourceOf_41 : decode cX9_sourceOf 41 = .ok (.getfield 9, 3) := by decide +kernel
theorem dX9_sourceOf_44 : decode cX9_sourceOf 44 = .ok (.bipush 60, 2) := by decide +kernel
theorem dX9_sourceOf_46 : decode cX9_sourceOf 46 = .ok (.iload 4, 2) := by decide +kernel
theorem dX9_sourceOf_48 : decode cX9_sourceOf 48 = .ok (.iadd, 1) := by decide +kernel
theorem dX9_sourceOf_49 : decode cX9_sourceOf 49 = .ok (.iaload, 1) := by decide +kernel
theorem dX9_sourceOf_50 : decode cX9_sourceOf 50 = .ok (.istore 5, 2) := by decide +kernel
theorem dX9_sourceOf_52 : decode cX9_sourceOf 52 = .ok (.iload 5, 2) := by decide +kernel
theorem dX9_sourceOf_54 : decode cX9_sourceOf 54 = .ok (.aload_n 0, 1) := by decide +kernel
theorem dX9_sourceOf_55 : decode cX9_sourceOf 55 = .ok (.getfield 9, 3) := by decide +kernel
theorem dX9_sourceOf_58 : decode cX9_sourceOf 58 = .ok (.iconst 4, 1) := by decide +kernel
theorem dX9_sourceOf_59 : decode cX9_sourceOf 59 = .ok (.bipush 6, 2) := by decide +kernel
theorem dX9_sourceOf_61 : decode cX9_sourceOf 61 = .ok (.aload_n 0, 1) := by decide +kernel
theorem dX9_sourceOf_62 : decode cX9_sourceOf 62 = .ok (.getfield 9, 3) := by decide +kernel
theorem dX9_sourceOf_65 : decode cX9_sourceOf 65 = .ok (.bipush 50, 2) := by decide +kernel
theorem dX9_sourceOf_67 : decode cX9_sourceOf 67 = .ok (.iload 4, 2) := by decide +kernel
theorem dX9_sourceOf_69 : decode cX9_sourceOf 69 = .ok (.iadd, 1) := by decide +kernel
theorem dX9_sourceOf_70 : decode cX9_sourceOf 70 = .ok (.iaload, 1) := by decide +kernel
theorem dX9_sourceOf_71 : decode cX9_sourceOf 71 = .ok (.imul, 1) := by decide +kernel
theorem dX9_sourceOf_72 : decode cX9_sourceOf 72 = .ok (.iadd, 1) := by decide +kernel
theorem dX9_sourceOf_73 : decode cX9_sourceOf 73 = .ok (.aload_n 0, 1) := by decide +kernel
theorem dX9_sourceOf_74 : decode cX9_sourceOf 74 = .ok (.getfield 9, 3) := by decide +kernel
theorem dX9_sourceOf_77 : decode cX9_sourceOf 77 = .ok (.bipush 50, 2) := by decide +kernel
theorem dX9_sourceOf_79 : decode cX9_sourceOf 79 = .ok (.iload_n 1, 1) := by decide +kernel
theorem dX9_sourceOf_80 : decode cX9_sourceOf 80 = .ok (.iadd, 1) := by decide +kernel
theorem dX9_sourceOf_81 : decode cX9_sourceOf 81 = .ok (.iaload, 1) := by decide +kernel
theorem dX9_sourceOf_82 : decode cX9_sourceOf 82 = .ok (.iadd, 1) := by decide +kernel
theorem dX9_sourceOf_83 : decode cX9_sourceOf 83 = .ok (.iaload, 1) := by decide +kernel
theorem dX9_sourceOf_84 : decode cX9_sourceOf 84 = .ok (.iadd, 1) := by decide +kernel
theorem dX9_sourceOf_85 : decode cX9_sourceOf 85 = .ok (.istore 6, 2) := by decide +kernel
theorem dX9_sourceOf_87 : decode cX9_sourceOf 87 = .ok (.iload 4, 2) := by decide +kernel
theorem dX9_sourceOf_89 : decode cX9_sourceOf 89 = .ok (.iload_n 1, 1) := by decide +kernel
theorem dX9_sourceOf_90 : decode cX9_sourceOf 90 = .ok (.if_icmp .eq 59, 3) := by decide +kernel
theorem dX9_sourceOf_93 : decode cX9_sourceOf 93 = .ok (.iload 5, 2) := by decide +kernel
theorem dX9_sourceOf_95 : decode cX9_sourceOf 95 = .ok (.aload_n 0, 1) := by decide +kernel
theorem dX9_sourceOf_96 : decode cX9_sourceOf 96 = .ok (.getfield 9, 3) := by decide +kernel
theorem dX9_sourceOf_99 : decode cX9_sourceOf 99 = .ok (.bipush 60, 2) := by decide +kernel
theorem dX9_sourceOf_101 : decode cX9_sourceOf 101 = .ok (.iload_n 1, 1) := by decide +kernel
theorem dX9_sourceOf_102 : decode cX9_sourceOf 102 = .ok (.iadd, 1) := by decide +kernel
theorem dX9_sourceOf_103 : decode cX9_sourceOf 103 = .ok (.iaload, 1) := by decide +kernel
theorem dX9_sourceOf_104 : decode cX9_sourceOf 104 = .ok (.if_icmp .ge 45, 3) := by decide +kernel
theorem dX9_sourceOf_107 : decode cX9_sourceOf 107 = .ok (.iload 6, 2) := by decide +kernel
theorem dX9_sourceOf_109 : decode cX9_sourceOf 109 = .ok (.aload_n 0, 1) := by decide +kernel
theorem dX9_sourceOf_110 : decode cX9_sourceOf 110 = .ok (.getfield 9, 3) := by decide +kernel
theorem dX9_sourceOf_113 : decode cX9_sourceOf 113 = .ok (.bipush 60, 2) := by decide +kernel
theorem dX9_sourceOf_115 : decode cX9_sourceOf 115 = .ok (.iload_n 1, 1) := by decide +kernel
theorem dX9_sourceOf_116 : decode cX9_sourceOf 116 = .ok (.iadd, 1) := by decide +kernel
theorem dX9_sourceOf_117 : decode cX9_sourceOf 117 = .ok (.iaload, 1) := by decide +kernel
theorem dX9_sourceOf_118 : decode cX9_sourceOf 118 = .ok (.if_icmp .le 6, 3) := by decide +kernel
theorem dX9_sourceOf_121 : decode cX9_sourceOf 121 = .ok (.goto 28, 3) := by decide +kernel
theorem dX9_sourceOf_124 : decode cX9_sourceOf 124 = .ok (.aload_n 0, 1) := by decide +kernel
theorem dX9_sourceOf_125 : decode cX9_sourceOf 125 = .ok (.iload 4, 2) := by decide +kernel
theorem dX9_sourceOf_127 : decode cX9_sourceOf 127 = .ok (.iload_n 1, 1) := by decide +kernel
theorem dX9_sourceOf_128 : decode cX9_sourceOf 128 = .ok (.invokevirtual 172, 3) := by decide +kernel
theorem dX9_sourceOf_131 : decode cX9_sourceOf 131 = .ok (.istore 7, 2) := by decide +kernel
theorem dX9_sourceOf_133 : decode cX9_sourceOf 133 = .ok (.iload_n 2, 1) := by decide +kernel
theorem dX9_sourceOf_134 : decode cX9_sourceOf 134 = .ok (.ifCond .lt 9, 3) := by decide +kernel
theorem dX9_sourceOf_137 : decode cX9_sourceOf 137 = .ok (.iload 7, 2) := by decide +kernel
theorem dX9_sourceOf_139 : decode cX9_sourceOf 139 = .ok (.iload_n 3, 1) := by decide +kernel
theorem dX9_sourceOf_140 : decode cX9_sourceOf 140 = .ok (.if_icmp .ge 9, 3) := by decide +kernel
theorem dX9_sourceOf_143 : decode cX9_sourceOf 143 = .ok (.iload 4, 2) := by decide +kernel
theorem dX9_sourceOf_145 : decode cX9_sourceOf 145 = .ok (.istore_n 2, 1) := by decide +kernel
theorem dX9_sourceOf_146 : decode cX9_sourceOf 146 = .ok (.iload 7, 2) := by decide +kernel
theorem dX9_sourceOf_148 : decode cX9_sourceOf 148 = .ok (.istore_n 3, 1) := by decide +kernel
theorem dX9_sourceOf_149 : decode cX9_sourceOf 149 = .ok (.iinc 4 1, 3) := by decide +kernel
theorem dX9_sourceOf_152 : decode cX9_sourceOf 152 = .ok (.goto (-123), 3) := by decide +kernel
theorem dX9_sourceOf_155 : decode cX9_sourceOf 155 = .ok (.iload_n 2, 1) := by decide +kernel
theorem dX9_sourceOf_156 : decode cX9_sourceOf 156 = .ok (.ireturn, 1) := by decide +kernel
theorem dX9_source_0 : decode cX9_source 0 = .ok (.aload_n 0, 1) := by decide +kernel
theorem dX9_source_1 : decode cX9_source 1 = .ok (.iload_n 1, 1) := by decide +kernel
theorem dX9_source_2 : decode cX9_source 2 = .ok (.invokevirtual 71, 3) := by decide +kernel
theorem dX9_source_5 : decode cX9_source 5 = .ok (.ifCond .ne 10, 3) := by decide +kernel
theorem dX9_source_8 : decode cX9_source 8 = .ok (.aload_n 0, 1) := by decide +kernel
theorem dX9_source_9 : decode cX9_source 9 = .ok (.ldc 66, 2) := by decide +kernel
theorem dX9_source_11 : decode cX9_source 11 = .ok (.invokevirtual 58, 3) := by decide +kernel
theorem dX9_source_14 : decode cX9_source 14 = .ok (.ireturn, 1) := by decide +kernel
theorem dX9_source_15 : decode cX9_source 15 = .ok (.aload_n 0, 1) := by decide +kernel
theorem dX9_source_16 : decode cX9_source 16 = .ok (.iload_n 1, 1) := by decide +kernel
theorem dX9_source_17 : decode cX9_source 17 = .ok (.invokevirtual 202, 3) := by decide +kernel
theorem dX9_source_20 : decode cX9_source 20 = .ok (.istore_n 2, 1) := by decide +kernel
theorem dX9_source_21 : decode cX9_source 21 = .ok (.iload_n 2, 1) := by decide +kernel
theorem dX9_source_22 : decode cX9_source 22 = .ok (.ifCond .ge 12, 3) := by decide +kernel
theorem dX9_source_25 : decode cX9_source 25 = .ok (.aload_n 0, 1) := by decide +kernel
theorem dX9_source_26 : decode cX9_source 26 = .ok (.ldc 57, 2) := by decide +kernel
theorem dX9_source_28 : decode cX9_source 28 = .ok (.invokevirtual 58, 3) := by decide +kernel
theorem dX9_source_31 : decode cX9_source 31 = .ok (.goto 4, 3) := by decide +kernel
theorem dX9_source_34 : decode cX9_source 34 = .ok (.iload_n 2, 1) := by decide +kernel
theorem dX9_source_35 : decode cX9_source 35 = .ok (.ireturn, 1) := by decide +kernel
theorem dX9_first_0 : decode cX9_first 0 = .ok (.aload_n 0, 1) := by decide +kernel
theorem dX9_first_1 : decode cX9_first 1 = .ok (.iload_n 1, 1) := by decide +kernel
theorem dX9_first_2 : decode cX9_first 2 = .ok (.invokevirtual 71, 3) := by decide +kernel
theorem dX9_first_5 : decode cX9_first 5 = .ok (.ifCond .ne 10, 3) := by decide +kernel
theorem dX9_first_8 : decode cX9_first 8 = .ok (.aload_n 0, 1) := by decide +kernel
theorem dX9_first_9 : decode cX9_first 9 = .ok (.ldc 66, 2) := by decide +kernel
theorem dX9_first_11 : decode cX9_first 11 = .ok (.invokevirtual 58, 3) := by decide +kernel
theorem dX9_first_14 : decode cX9_first 14 = .ok (.ireturn, 1) := by decide +kernel
theorem dX9_first_15 : decode cX9_first 15 = .ok (.iload_n 1, 1) := by decide +kernel
theorem dX9_first_16 : decode cX9_first 16 = .ok (.istore_n 2, 1) := by decide +kernel
theorem dX9_first_17 : decode cX9_first 17 = .ok (.iconst 0, 1) := by decide +kernel
theorem dX9_first_18 : decode cX9_first 18 = .ok (.istore_n 3, 1) := by decide +kernel
theorem dX9_first_19 : decode cX9_first 19 = .ok (.iload_n 3, 1) := by decide +kernel
theorem dX9_first_20 : decode cX9_first 20 = .ok (.bipush 10, 2) := by decide +kernel
theorem dX9_first_22 : decode cX9_first 22 = .ok (.if_icmp .gt 26, 3) := by decide +kernel
theorem dX9_first_25 : decode cX9_first 25 = .ok (.aload_n 0, 1) := by decide +kernel
theorem dX9_first_26 : decode cX9_first 26 = .ok (.iload_n 2, 1) := by decide +kernel
theorem dX9_first_27 : decode cX9_first 27 = .ok (.invokevirtual 202, 3) := by decide +kernel
theorem dX9_first_30 : decode cX9_first 30 = .ok (.istore 4, 2) := by decide +kernel
theorem dX9_first_32 : decode cX9_first 32 = .ok (.iload 4, 2) := by decide +kernel
theorem dX9_first_34 : decode cX9_first 34 = .ok (.ifCond .ge 5, 3) := by decide +kernel
theorem dX9_first_37 : decode cX9_first 37 = .ok (.iload_n 2, 1) := by decide +kernel
theorem dX9_first_38 : decode cX9_first 38 = .ok (.ireturn, 1) := by decide +kernel
theorem dX9_first_39 : decode cX9_first 39 = .ok (.iload 4, 2) := by decide +kernel
theorem dX9_first_41 : decode cX9_first 41 = .ok (.istore_n 2, 1) := by decide +kernel
theorem dX9_first_42 : decode cX9_first 42 = .ok (.iinc 3 1, 3) := by decide +kernel
theorem dX9_first_45 : decode cX9_first 45 = .ok (.goto (-26), 3) := by decide +kernel
theorem dX9_first_48 : decode cX9_first 48 = .ok (.aload_n 0, 1) := by decide +kernel
theorem dX9_first_49 : decode cX9_first 49 = .ok (.ldc 102, 2) := by decide +kernel
theorem dX9_first_51 : decode cX9_first 51 = .ok (.invokevirtual 58, 3) := by decide +kernel
theorem dX9_first_54 : decode cX9_first 54 = .ok (.ireturn, 1) := by decide +kernel
theorem dX9_same_0 : decode cX9_same 0 = .ok (.iconst 0, 1) := by decide +kernel
theorem dX9_same_1 : decode cX9_same 1 = .ok (.istore 5, 2) := by decide +kernel
theorem dX9_same_3 : decode cX9_same 3 = .ok (.iload_n 2, 1) := by decide +kernel
theorem dX9_same_4 : decode cX9_same 4 = .ok (.iload 5, 2) := by decide +kernel
theorem dX9_same_6 : decode cX9_same 6 = .ok (.iadd, 1) := by decide +kernel
theorem dX9_same_7 : decode cX9_same 7 = .ok (.aload_n 0, 1) := by decide +kernel
theorem dX9_same_8 : decode cX9_same 8 = .ok (.getfield 9, 3) := by decide +kernel
theorem dX9_same_11 : decode cX9_same 11 = .ok (.bipush 70, 2) := by decide +kernel
theorem dX9_same_13 : decode cX9_same 13 = .ok (.iload_n 1, 1) := by decide +kernel
theorem dX9_same_14 : decode cX9_same 14 = .ok (.iadd, 1) := by decide +kernel
theorem dX9_same_15 : decode cX9_same 15 = .ok (.iaload, 1) := by decide +kernel
theorem dX9_same_16 : decode cX9_same 16 = .ok (.if_icmp .ge 44, 3) := by decide +kernel
theorem dX9_same_19 : decode cX9_same 19 = .ok (.iload 4, 2) := by decide +kernel
theorem dX9_same_21 : decode cX9_same 21 = .ok (.iload 5, 2) := by decide +kernel
theorem dX9_same_23 : decode cX9_same 23 = .ok (.iadd, 1) := by decide +kernel
theorem dX9_same_24 : decode cX9_same 24 = .ok (.aload_n 0, 1) := by decide +kernel
theorem dX9_same_25 : decode cX9_same 25 = .ok (.getfield 9, 3) := by decide +kernel
theorem dX9_same_28 : decode cX9_same 28 = .ok (.bipush 70, 2) := by decide +kernel
theorem dX9_same_30 : decode cX9_same 30 = .ok (.iload_n 3, 1) := by decide +kernel
theorem dX9_same_31 : decode cX9_same 31 = .ok (.iadd, 1) := by decide +kernel
theorem dX9_same_32 : decode cX9_same 32 = .ok (.iaload, 1) := by decide +kernel
theorem dX9_same_33 : decode cX9_same 33 = .ok (.if_icmp .ge 27, 3) := by decide +kernel
theorem dX9_same_36 : decode cX9_same 36 = .ok (.aload_n 0, 1) := by decide +kernel
theorem dX9_same_37 : decode cX9_same 37 = .ok (.iload_n 1, 1) := by decide +kernel
theorem dX9_same_38 : decode cX9_same 38 = .ok (.iload_n 2, 1) := by decide +kernel
theorem dX9_same_39 : decode cX9_same 39 = .ok (.iload 5, 2) := by decide +kernel
theorem dX9_same_41 : decode cX9_same 41 = .ok (.iadd, 1) := by decide +kernel
theorem dX9_same_42 : decode cX9_same 42 = .ok (.iload_n 3, 1) := by decide +kernel
theorem dX9_same_43 : decode cX9_same 43 = .ok (.iload 4, 2) := by decide +kernel
theorem dX9_same_45 : decode cX9_same 45 = .ok (.iload 5, 2) := by decide +kernel
theorem dX9_same_47 : decode cX9_same 47 = .ok (.iadd, 1) := by decide +kernel
theorem dX9_same_48 : decode cX9_same 48 = .ok (.invokevirtual 205, 3) := by decide +kernel
theorem dX9_same_51 : decode cX9_same 51 = .ok (.ifCond .eq 9, 3) := by decide +kernel
theorem dX9_same_54 : decode cX9_same 54 = .ok (.iinc 5 1, 3) := by decide +kernel
theorem dX9_same_57 : decode cX9_same 57 = .ok (.goto (-54), 3) := by decide +kernel
theorem dX9_same_60 : decode cX9_same 60 = .ok (.iload 5, 2) := by decide +kernel
theorem dX9_same_62 : decode cX9_same 62 = .ok (.ireturn, 1) := by decide +kernel
theorem dX9_isSame_0 : decode cX9_isSame 0 = .ok (.aload_n 0, 1) := by decide +kernel
theorem dX9_isSame_1 : decode cX9_isSame 1 = .ok (.iload_n 1, 1) := by decide +kernel
theorem dX9_isSame_2 : decode cX9_isSame 2 = .ok (.iload_n 2, 1) := by decide +kernel
theorem dX9_isSame_3 : decode cX9_isSame 3 = .ok (.iconst 0, 1) := by decide +kernel
theorem dX9_isSame_4 : decode cX9_isSame 4 = .ok (.invokevirtual 89, 3) := by decide +kernel
theorem dX9_isSame_7 : decode cX9_isSame 7 = .ok (.aload_n 0, 1) := by decide +kernel
theorem dX9_isSame_8 : decode cX9_isSame 8 = .ok (.iload_n 3, 1) := by decide +kernel
theorem dX9_isSame_9 : decode cX9_isSame 9 = .ok (.iload 4, 2) := by decide +kernel
theorem dX9_isSame_11 : decode cX9_isSame 11 = .ok (.iconst 0, 1) := by decide +kernel
theorem dX9_isSame_12 : decode cX9_isSame 12 = .ok (.invokevirtual 89, 3) := by decide +kernel
theorem dX9_isSame_15 : decode cX9_isSame 15 = .ok (.if_icmp .ne 53, 3) := by decide +kernel
theorem dX9_isSame_18 : decode cX9_isSame 18 = .ok (.aload_n 0, 1) := by decide +kernel
theorem dX9_isSame_19 : decode cX9_isSame 19 = .ok (.getfield 25, 3) := by decide +kernel
theorem dX9_isSame_22 : decode cX9_isSame 22 = .ok (.aload_n 0, 1) := by decide +kernel
theorem dX9_isSame_23 : decode cX9_isSame 23 = .ok (.iload_n 1, 1) := by decide +kernel
theorem dX9_isSame_24 : decode cX9_isSame 24 = .ok (.iload_n 2, 1) := by decide +kernel
theorem dX9_isSame_25 : decode cX9_isSame 25 = .ok (.iconst 1, 1) := by decide +kernel
theorem dX9_isSame_26 : decode cX9_isSame 26 = .ok (.invokevirtual 89, 3) := by decide +kernel
theorem dX9_isSame_29 : decode cX9_isSame 29 = .ok (.iaload, 1) := by decide +kernel
theorem dX9_isSame_30 : decode cX9_isSame 30 = .ok (.aload_n 0, 1) := by decide +kernel
theorem dX9_isSame_31 : decode cX9_isSame 31 = .ok (.iload_n 3, 1) := by decide +kernel
theorem dX9_isSame_32 : decode cX9_isSame 32 = .ok (.iload 4, 2) := by decide +kernel
theorem dX9_isSame_34 : decode cX9_isSame 34 = .ok (.iconst 1, 1) := by decide +kernel
theorem dX9_isSame_35 : decode cX9_isSame 35 = .ok (.invokevirtual 89, 3) := by decide +kernel
theorem dX9_isSame_38 : decode cX9_isSame 38 = .ok (.if_icmp .ne 30, 3) := by decide +kernel
theorem dX9_isSame_41 : decode cX9_isSame 41 = .ok (.aload_n 0, 1) := by decide +kernel
theorem dX9_isSame_42 : decode cX9_isSame 42 = .ok (.getfield 25, 3) := by decide +kernel
theorem dX9_isSame_45 : decode cX9_isSame 45 = .ok (.aload_n 0, 1) := by decide +kernel
theorem dX9_isSame_46 : decode cX9_isSame 46 = .ok (.iload_n 1, 1) := by decide +kernel
theorem dX9_isSame_47 : decode cX9_isSame 47 = .ok (.iload_n 2, 1) := by decide +kernel
theorem dX9_isSame_48 : decode cX9_isSame 48 = .ok (.iconst 2, 1) := by decide +kernel
theorem dX9_isSame_49 : decode cX9_isSame 49 = .ok (.invokevirtual 89, 3) := by decide +kernel
theorem dX9_isSame_52 : decode cX9_isSame 52 = .ok (.iaload, 1) := by decide +kernel
theorem dX9_isSame_53 : decode cX9_isSame 53 = .ok (.aload_n 0, 1) := by decide +kernel
theorem dX9_isSame_54 : decode cX9_isSame 54 = .ok (.iload_n 3, 1) := by decide +kernel
theorem dX9_isSame_55 : decode cX9_isSame 55 = .ok (.iload 4, 2) := by decide +kernel
theorem dX9_isSame_57 : decode cX9_isSame 57 = .ok (.iconst 2, 1) := by decide +kernel
theorem dX9_isSame_58 : decode cX9_isSame 58 = .ok (.invokevirtual 89, 3) := by decide +kernel
theorem dX9_isSame_61 : decode cX9_isSame 61 = .ok (.if_icmp .ne 7, 3) := by decide +kernel
theorem dX9_isSame_64 : decode cX9_isSame 64 = .ok (.iconst 1, 1) := by decide +kernel
theorem dX9_isSame_65 : decode cX9_isSame 65 = .ok (.goto 4, 3) := by decide +kernel
theorem dX9_isSame_68 : decode cX9_isSame 68 = .ok (.iconst 0, 1) := by decide +kernel
theorem dX9_isSame_69 : decode cX9_isSame 69 = .ok (.ireturn, 1) := by decide +kernel
theorem dX9_findPiece_0 : decode cX9_findPiece 0 = .ok (.aload_n 0, 1) := by decide +kernel
theorem dX9_findPiece_1 : decode cX9_findPiece 1 = .ok (.iconst 0, 1) := by decide +kernel
theorem dX9_findPiece_2 : decode cX9_findPiece 2 = .ok (.putfield 209, 3) := by decide +kernel
theorem dX9_findPiece_5 : decode cX9_findPiece 5 = .ok (.iconst 0, 1) := by decide +kernel
theorem dX9_findPiece_6 : decode cX9_findPiece 6 = .ok (.istore_n 3, 1) := by decide +kernel
theorem dX9_findPiece_7 : decode cX9_findPiece 7 = .ok (.iload_n 3, 1) := by decide +kernel
theorem dX9_findPiece_8 : decode cX9_findPiece 8 = .ok (.aload_n 0, 1) := by decide +kernel
theorem dX9_findPiece_9 : decode cX9_findPiece 9 = .ok (.getfield 9, 3) := by decide +kernel
theorem dX9_findPiece_12 : decode cX9_findPiece 12 = .ok (.bipush 70, 2) := by decide +kernel
theorem dX9_findPiece_14 : decode cX9_findPiece 14 = .ok (.iload_n 1, 1) := by decide +kernel
theorem dX9_findPiece_15 : decode cX9_findPiece 15 = .ok (.iadd, 1) := by decide +kernel
theorem dX9_findPiece_16 : decode cX9_findPiece 16 = .ok (.iaload, 1) := by decide +kernel
theorem dX9_findPiece_17 : decode cX9_findPiece 17 = .ok (.if_icmp .ge 91, 3) := by decide +kernel
theorem dX9_findPiece_20 : decode cX9_findPiece 20 = .ok (.iconst 0, 1) := by decide +kernel
theorem dX9_findPiece_21 : decode cX9_findPiece 21 = .ok (.istore 4, 2) := by decide +kernel
theorem dX9_findPiece_23 : decode cX9_findPiece 23 = .ok (.iload 4, 2) := by decide +kernel
theorem dX9_findPiece_25 : decode cX9_findPiece 25 = .ok (.aload_n 0, 1) := by decide +kernel
theorem dX9_findPiece_26 : decode cX9_findPiece 26 = .ok (.getfield 9, 3) := by decide +kernel
theorem dX9_findPiece_29 : decode cX9_findPiece 29 = .ok (.bipush 70, 2) := by decide +kernel
theorem dX9_findPiece_31 : decode cX9_findPiece 31 = .ok (.iload_n 2, 1) := by decide +kernel
theorem dX9_findPiece_32 : decode cX9_findPiece 32 = .ok (.iadd, 1) := by decide +kernel
theorem dX9_findPiece_33 : decode cX9_findPiece 33 = .ok (.iaload, 1) := by decide +kernel
theorem dX9_findPiece_34 : decode cX9_findPiece 34 = .ok (.if_icmp .ge 68, 3) := by decide +kernel
theorem dX9_findPiece_37 : decode cX9_findPiece 37 = .ok (.iconst 0, 1) := by decide +kernel
theorem dX9_findPiece_38 : decode cX9_findPiece 38 = .ok (.istore 5, 2) := by decide +kernel
theorem dX9_findPiece_40 : decode cX9_findPiece 40 = .ok (.iload 5, 2) := by decide +kernel
theorem dX9_findPiece_42 : decode cX9_findPiece 42 = .ok (.bipush 24, 2) := by decide +kernel
theorem dX9_findPiece_44 : decode cX9_findPiece 44 = .ok (.if_icmp .ge 52, 3) := by decide +kernel
theorem dX9_findPiece_47 : decode cX9_findPiece 47 = .ok (.aload_n 0, 1) := by decide +kernel
theorem dX9_findPiece_48 : decode cX9_findPiece 48 = .ok (.iload 5, 2) := by decide +kernel
theorem dX9_findPiece_50 : decode cX9_findPiece 50 = .ok (.invokevirtual 148, 3) := by decide +kernel
theorem dX9_findPiece_53 : decode cX9_findPiece 53 = .ok (.aload_n 0, 1) := by decide +kernel
theorem dX9_findPiece_54 : decode cX9_findPiece 54 = .ok (.iload_n 1, 1) := by decide +kernel
theorem dX9_findPiece_55 : decode cX9_findPiece 55 = .ok (.iload_n 3, 1) := by decide +kernel
theorem dX9_findPiece_56 : decode cX9_findPiece 56 = .ok (.iload_n 2, 1) := by decide +kernel
theorem dX9_findPiece_57 : decode cX9_findPiece 57 = .ok (.iload 4, 2) := by decide +kernel
theorem dX9_findPiece_59 : decode cX9_findPiece 59 = .ok (.invokevirtual 212, 3) := by decide +kernel
theorem dX9_findPiece_62 : decode cX9_findPiece 62 = .ok (.istore 6, 2) := by decide +kernel
theorem dX9_findPiece_64 : decode cX9_findPiece 64 = .ok (.iload 6, 2) := by decide +kernel
theorem dX9_findPiece_66 : decode cX9_findPiece 66 = .ok (.aload_n 0, 1) := by decide +kernel
theorem dX9_findPiece_67 : decode cX9_findPiece 67 = .ok (.getfield 209, 3) := by decide +kernel
theorem dX9_findPiece_70 : decode cX9_findPiece 70 = .ok (.if_icmp .le 20, 3) := by decide +kernel
theorem dX9_findPiece_73 : decode cX9_findPiece 73 = .ok (.aload_n 0, 1) := by decide +kernel
theorem dX9_findPiece_74 : decode cX9_findPiece 74 = .ok (.iload 6, 2) := by decide +kernel
theorem dX9_findPiece_76 : decode cX9_findPiece 76 = .ok (.putfield 209, 3) := by decide +kernel
theorem dX9_findPiece_79 : decode cX9_findPiece 79 = .ok (.aload_n 0, 1) := by decide +kernel
theorem dX9_findPiece_80 : decode cX9_findPiece 80 = .ok (.iload_n 3, 1) := by decide +kernel
theorem dX9_findPiece_81 : decode cX9_findPiece 81 = .ok (.putfield 216, 3) := by decide +kernel
theorem dX9_findPiece_84 : decode cX9_findPiece 84 = .ok (.aload_n 0, 1) := by decide +kernel
theorem dX9_findPiece_85 : decode cX9_findPiece 85 = .ok (.iload 4, 2) := by decide +kernel
theorem dX9_findPiece_87 : decode cX9_findPiece 87 = .ok (.putfield 219, 3) := by decide +kernel
theorem dX9_findPiece_90 : decode cX9_findPiece 90 = .ok (.iinc 5 1, 3) := by decide +kernel
theorem dX9_findPiece_93 : decode cX9_findPiece 93 = .ok (.goto (-53), 3) := by decide +kernel
theorem dX9_findPiece_96 : decode cX9_findPiece 96 = .ok (.iinc 4 1, 3) := by decide +kernel
theorem dX9_findPiece_99 : decode cX9_findPiece 99 = .ok (.goto (-76), 3) := by decide +kernel
theorem dX9_findPiece_102 : decode cX9_findPiece 102 = .ok (.iinc 3 1, 3) := by decide +kernel
theorem dX9_findPiece_105 : decode cX9_findPiece 105 = .ok (.goto (-98), 3) := by decide +kernel
theorem dX9_findPiece_108 : decode cX9_findPiece 108 = .ok (.return_, 1) := by decide +kernel
theorem dX9_borrowed_0 : decode cX9_borrowed 0 = .ok (.aload_n 0, 1) := by decide +kernel
theorem dX9_borrowed_1 : decode cX9_borrowed 1 = .ok (.iload_n 1, 1) := by decide +kernel
theorem dX9_borrowed_2 : decode cX9_borrowed 2 = .ok (.invokevirtual 71, 3) := by decide +kernel
theorem dX9_borrowed_5 : decode cX9_borrowed 5 = .ok (.ifCond .eq 20, 3) := by decide +kernel
theorem dX9_borrowed_8 : decode cX9_borrowed 8 = .ok (.aload_n 0, 1) := by decide +kernel
theorem dX9_borrowed_9 : decode cX9_borrowed 9 = .ok (.iload_n 2, 1) := by decide +kernel
theorem dX9_borrowed_10 : decode cX9_borrowed 10 = .ok (.invokevirtual 71, 3) := by decide +kernel
theorem dX9_borrowed_13 : decode cX9_borrowed 13 = .ok (.ifCond .eq 12, 3) := by decide +kernel
theorem dX9_borrowed_16 : decode cX9_borrowed 16 = .ok (.iload_n 3, 1) := by decide +kernel
theorem dX9_borrowed_17 : decode cX9_borrowed 17 = .ok (.iconst 0, 1) := by decide +kernel
theorem dX9_borrowed_18 : decode cX9_borrowed 18 = .ok (.iconst 2, 1) := by decide +kernel
theorem dX9_borrowed_19 : decode cX9_borrowed 19 = .ok (.invokestatic 50, 3) := by decide +kernel
theorem dX9_borrowed_22 : decode cX9_borrowed 22 = .ok (.ifCond .ne 10, 3) := by decide +kernel
theorem dX9_borrowed_25 : decode cX9_borrowed 25 = .ok (.aload_n 0, 1) := by decide +kernel
theorem dX9_borrowed_26 : decode cX9_borrowed 26 = .ok (.ldc 66, 2) := by decide +kernel
theorem dX9_borrowed_28 : decode cX9_borrowed 28 = .ok (.invokevirtual 58, 3) := by decide +kernel
theorem dX9_borrowed_31 : decode cX9_borrowed 31 = .ok (.ireturn, 1) := by decide +kernel
theorem dX9_borrowed_32 : decode cX9_borrowed 32 = .ok (.aload_n 0, 1) := by decide +kernel
theorem dX9_borrowed_33 : decode cX9_borrowed 33 = .ok (.iload_n 1, 1) := by decide +kernel
theorem dX9_borrowed_34 : decode cX9_borrowed 34 = .ok (.iload_n 2, 1) := by decide +kernel
theorem dX9_borrowed_35 : decode cX9_borrowed 35 = .ok (.invokevirtual 222, 3) := by decide +kernel
theorem dX9_borrowed_38 : decode cX9_borrowed 38 = .ok (.iload_n 3, 1) := by decide +kernel
theorem dX9_borrowed_39 : decode cX9_borrowed 39 = .ok (.ifCond .ne 8, 3) := by decide +kernel
theorem dX9_borrowed_42 : decode cX9_borrowed 42 = .ok (.aload_n 0, 1) := by decide +kernel
theorem dX9_borrowed_43 : decode cX9_borrowed 43 = .ok (.getfield 209, 3) := by decide +kernel
theorem dX9_borrowed_46 : decode cX9_borrowed 46 = .ok (.ireturn, 1) := by decide +kernel
theorem dX9_borrowed_47 : decode cX9_borrowed 47 = .ok (.aload_n 0, 1) := by decide +kernel
theorem dX9_borrowed_48 : decode cX9_borrowed 48 = .ok (.getfield 209, 3) := by decide +kernel
theorem dX9_borrowed_51 : decode cX9_borrowed 51 = .ok (.ifCond .ne 12, 3) := by decide +kernel
theorem dX9_borrowed_54 : decode cX9_borrowed 54 = .ok (.aload_n 0, 1) := by decide +kernel
theorem dX9_borrowed_55 : decode cX9_borrowed 55 = .ok (.ldc 57, 2) := by decide +kernel
theorem dX9_borrowed_57 : decode cX9_borrowed 57 = .ok (.invokevirtual 58, 3) := by decide +kernel
theorem dX9_borrowed_60 : decode cX9_borrowed 60 = .ok (.goto 19, 3) := by decide +kernel
theorem dX9_borrowed_63 : decode cX9_borrowed 63 = .ok (.iload_n 3, 1) := by decide +kernel
theorem dX9_borrowed_64 : decode cX9_borrowed 64 = .ok (.iconst 1, 1) := by decide +kernel
theorem dX9_borrowed_65 : decode cX9_borrowed 65 = .ok (.if_icmp .ne 10, 3) := by decide +kernel
theorem dX9_borrowed_68 : decode cX9_borrowed 68 = .ok (.aload_n 0, 1) := by decide +kernel
theorem dX9_borrowed_69 : decode cX9_borrowed 69 = .ok (.getfield 216, 3) := by decide +kernel
theorem dX9_borrowed_72 : decode cX9_borrowed 72 = .ok (.goto 7, 3) := by decide +kernel
theorem dX9_borrowed_75 : decode cX9_borrowed 75 = .ok (.aload_n 0, 1) := by decide +kernel
theorem dX9_borrowed_76 : decode cX9_borrowed 76 = .ok (.getfield 219, 3) := by decide +kernel
theorem dX9_borrowed_79 : decode cX9_borrowed 79 = .ok (.ireturn, 1) := by decide +kernel
theorem dX9_partCost_0 : decode cX9_partCost 0 = .ok (.aload_n 0, 1) := by decide +kernel
theorem dX9_partCost_1 : decode cX9_partCost 1 = .ok (.iload_n 1, 1) := by decide +kernel
theorem dX9_partCost_2 : decode cX9_partCost 2 = .ok (.putfield 104, 3) := by decide +kernel
theorem dX9_partCost_5 : decode cX9_partCost 5 = .ok (.aload_n 0, 1) := by decide +kernel
theorem dX9_partCost_6 : decode cX9_partCost 6 = .ok (.iload_n 2, 1) := by decide +kernel
theorem dX9_partCost_7 : decode cX9_partCost 7 = .ok (.putfield 107, 3) := by decide +kernel
theorem dX9_partCost_10 : decode cX9_partCost 10 = .ok (.aload_n 0, 1) := by decide +kernel
theorem dX9_partCost_11 : decode cX9_partCost 11 = .ok (.iload_n 3, 1) := by decide +kernel
theorem dX9_partCost_12 : decode cX9_partCost 12 = .ok (.putfield 110, 3) := by decide +kernel
theorem dX9_partCost_15 : decode cX9_partCost 15 = .ok (.aload_n 0, 1) := by decide +kernel
theorem dX9_partCost_16 : decode cX9_partCost 16 = .ok (.iconst 0, 1) := by decide +kernel
theorem dX9_partCost_17 : decode cX9_partCost 17 = .ok (.putfield 116, 3) := by decide +kernel
theorem dX9_partCost_20 : decode cX9_partCost 20 = .ok (.aload_n 0, 1) := by decide +kernel
theorem dX9_partCost_21 : decode cX9_partCost 21 = .ok (.iload 4, 2) := by decide +kernel
theorem dX9_partCost_23 : decode cX9_partCost 23 = .ok (.invokevirtual 120, 3) := by decide +kernel
theorem dX9_partCost_26 : decode cX9_partCost 26 = .ok (.aload_n 0, 1) := by decide +kernel
theorem dX9_partCost_27 : decode cX9_partCost 27 = .ok (.invokevirtual 168, 3) := by decide +kernel
theorem dX9_partCost_30 : decode cX9_partCost 30 = .ok (.ireturn, 1) := by decide +kernel
theorem dX9_joined_0 : decode cX9_joined 0 = .ok (.aload_n 0, 1) := by decide +kernel
theorem dX9_joined_1 : decode cX9_joined 1 = .ok (.iload_n 1, 1) := by decide +kernel
theorem dX9_joined_2 : decode cX9_joined 2 = .ok (.invokevirtual 71, 3) := by decide +kernel
theorem dX9_joined_5 : decode cX9_joined 5 = .ok (.ifCond .eq 19, 3) := by decide +kernel
theorem dX9_joined_8 : decode cX9_joined 8 = .ok (.aload_n 0, 1) := by decide +kernel
theorem dX9_joined_9 : decode cX9_joined 9 = .ok (.iload_n 2, 1) := by decide +kernel
theorem dX9_joined_10 : decode cX9_joined 10 = .ok (.invokevirtual 71, 3) := by decide +kernel
theorem dX9_joined_13 : decode cX9_joined 13 = .ok (.ifCond .eq 11, 3) := by decide +kernel
theorem dX9_joined_16 : decode cX9_joined 16 = .ok (.aload_n 0, 1) := by decide +kernel
theorem dX9_joined_17 : decode cX9_joined 17 = .ok (.iload_n 3, 1) := by decide +kernel
theorem dX9_joined_18 : decode cX9_joined 18 = .ok (.invokevirtual 71, 3) := by decide +kernel
theorem dX9_joined_21 : decode cX9_joined 21 = .ok (.ifCond .ne 10, 3) := by decide +kernel
theorem dX9_joined_24 : decode cX9_joined 24 = .ok (.aload_n 0, 1) := by decide +kernel
theorem dX9_joined_25 : decode cX9_joined 25 = .ok (.ldc 66, 2) := by decide +kernel
theorem dX9_joined_27 : decode cX9_joined 27 = .ok (.invokevirtual 58, 3) := by decide +kernel
theorem dX9_joined_30 : decode cX9_joined 30 = .ok (.ireturn, 1) := by decide +kernel
theorem dX9_joined_31 : decode cX9_joined 31 = .ok (.iconst 0, 1) := by decide +kernel
theorem dX9_joined_32 : decode cX9_joined 32 = .ok (.istore 5, 2) := by decide +kernel
theorem dX9_joined_34 : decode cX9_joined 34 = .ok (.ldc 151, 2) := by decide +kernel
theorem dX9_joined_36 : decode cX9_joined 36 = .ok (.istore 6, 2) := by decide +kernel
theorem dX9_joined_38 : decode cX9_joined 38 = .ok (.iconst 0, 1) := by decide +kernel
theorem dX9_joined_39 : decode cX9_joined 39 = .ok (.istore 7, 2) := by decide +kernel
theorem dX9_joined_41 : decode cX9_joined 41 = .ok (.iload 7, 2) := by decide +kernel
theorem dX9_joined_43 : decode cX9_joined 43 = .ok (.aload_n 0, 1) := by decide +kernel
theorem dX9_joined_44 : decode cX9_joined 44 = .ok (.getfield 9, 3) := by decide +kernel
theorem dX9_joined_47 : decode cX9_joined 47 = .ok (.bipush 70, 2) := by decide +kernel
theorem dX9_joined_49 : decode cX9_joined 49 = .ok (.iload_n 1, 1) := by decide +kernel
theorem dX9_joined_50 : decode cX9_joined 50 = .ok (.iadd, 1) := by decide +kernel
theorem dX9_joined_51 : decode cX9_joined 51 = .ok (.iaload, 1) := by decide +kernel
theorem dX9_joined_52 : decode cX9_joined 52 = .ok (.if_icmp .gt 53, 3) := by decide +kernel
theorem dX9_joined_55 : decode cX9_joined 55 = .ok (.aload_n 0, 1) := by decide +kernel
theorem dX9_joined_56 : decode cX9_joined 56 = .ok (.iload_n 1, 1) := by decide +kernel
theorem dX9_joined_57 : decode cX9_joined 57 = .ok (.iconst 0, 1) := by decide +kernel
theorem dX9_joined_58 : decode cX9_joined 58 = .ok (.iload 7, 2) := by decide +kernel
theorem dX9_joined_60 : decode cX9_joined 60 = .ok (.iload_n 2, 1) := by decide +kernel
theorem dX9_joined_61 : decode cX9_joined 61 = .ok (.invokevirtual 225, 3) := by decide +kernel
theorem dX9_joined_64 : decode cX9_joined 64 = .ok (.aload_n 0, 1) := by decide +kernel
theorem dX9_joined_65 : decode cX9_joined 65 = .ok (.iload_n 1, 1) := by decide +kernel
theorem dX9_joined_66 : decode cX9_joined 66 = .ok (.iload 7, 2) := by decide +kernel
theorem dX9_joined_68 : decode cX9_joined 68 = .ok (.aload_n 0, 1) := by decide +kernel
theorem dX9_joined_69 : decode cX9_joined 69 = .ok (.getfield 9, 3) := by decide +kernel
theorem dX9_joined_72 : decode cX9_joined 72 = .ok (.bipush 70, 2) := by decide +kernel
theorem dX9_joined_74 : decode cX9_joined 74 = .ok (.iload_n 1, 1) := by decide +kernel
theorem dX9_joined_75 : decode cX9_joined 75 = .ok (.iadd, 1) := by decide +kernel
theorem dX9_joined_76 : decode cX9_joined 76 = .ok (.iaload, 1) := by decide +kernel
theorem dX9_joined_77 : decode cX9_joined 77 = .ok (.iload_n 3, 1) := by decide +kernel
theorem dX9_joined_78 : decode cX9_joined 78 = .ok (.invokevirtual 225, 3) := by decide +kernel
theorem dX9_joined_81 : decode cX9_joined 81 = .ok (.iadd, 1) := by decide +kernel
theorem dX9_joined_82 : decode cX9_joined 82 = .ok (.istore 8, 2) := by decide +kernel
theorem dX9_joined_84 : decode cX9_joined 84 = .ok (.iload 8, 2) := by decide +kernel
theorem dX9_joined_86 : decode cX9_joined 86 = .ok (.iload 6, 2) := by decide +kernel
theorem dX9_joined_88 : decode cX9_joined 88 = .ok (.if_icmp .ge 11, 3) := by decide +kernel
theorem dX9_joined_91 : decode cX9_joined 91 = .ok (.iload 8, 2) := by decide +kernel
theorem dX9_joined_93 : decode cX9_joined 93 = .ok (.istore 6, 2) := by decide +kernel
theorem dX9_joined_95 : decode cX9_joined 95 = .ok (.iload 7, 2) := by decide +kernel
theorem dX9_joined_97 : decode cX9_joined 97 = .ok (.istore 5, 2) := by decide +kernel
theorem dX9_joined_99 : decode cX9_joined 99 = .ok (.iinc 7 1, 3) := by decide +kernel
theorem dX9_joined_102 : decode cX9_joined 102 = .ok (.goto (-61), 3) := by decide +kernel
theorem dX9_joined_105 : decode cX9_joined 105 = .ok (.iload 4, 2) := by decide +kernel
theorem dX9_joined_107 : decode cX9_joined 107 = .ok (.ifCond .eq 8, 3) := by decide +kernel
theorem dX9_joined_110 : decode cX9_joined 110 = .ok (.iload 6, 2) := by decide +kernel
theorem dX9_joined_112 : decode cX9_joined 112 = .ok (.goto 5, 3) := by decide +kernel
theorem dX9_joined_115 : decode cX9_joined 115 = .ok (.iload 5, 2) := by decide +kernel
theorem dX9_joined_117 : decode cX9_joined 117 = .ok (.ireturn, 1) := by decide +kernel
theorem dX9_counts_0 : decode cX9_counts 0 = .ok (.iconst 0, 1) := by decide +kernel
theorem dX9_counts_1 : decode cX9_counts 1 = .ok (.istore 4, 2) := by decide +kernel
theorem dX9_counts_3 : decode cX9_counts 3 = .ok (.iconst 0, 1) := by decide +kernel
theorem dX9_counts_4 : decode cX9_counts 4 = .ok (.istore 5, 2) := by decide +kernel
theorem dX9_counts_6 : decode cX9_counts 6 = .ok (.iload 5, 2) := by decide +kernel
theorem dX9_counts_8 : decode cX9_counts 8 = .ok (.aload_n 0, 1) := by decide +kernel
theorem dX9_counts_9 : decode cX9_counts 9 = .ok (.getfield 9, 3) := by decide +kernel
theorem dX9_counts_12 : decode cX9_counts 12 = .ok (.iconst 0, 1) := by decide +kernel
theorem dX9_counts_13 : decode cX9_counts 13 = .ok (.iaload, 1) := by decide +kernel
theorem dX9_counts_14 : decode cX9_counts 14 = .ok (.if_icmp .ge 116, 3) := by decide +kernel
theorem dX9_counts_17 : decode cX9_counts 17 = .ok (.iload_n 2, 1) := by decide +kernel
theorem dX9_counts_18 : decode cX9_counts 18 = .ok (.iconst (-1), 1) := by decide +kernel
theorem dX9_counts_19 : decode cX9_counts 19 = .ok (.if_icmp .eq 20, 3) := by decide +kernel
theorem dX9_counts_22 : decode cX9_counts 22 = .ok (.aload_n 0, 1) := by decide +kernel
theorem dX9_counts_23 : decode cX9_counts 23 = .ok (.getfield 9, 3) := by decide +kernel
theorem dX9_counts_26 : decode cX9_counts 26 = .ok (.bipush 50, 2) := by decide +kernel
theorem dX9_counts_28 : decode cX9_counts 28 = .ok (.iload 5, 2) := by decide +kernel
theorem dX9_counts_30 : decode cX9_counts 30 = .ok (.iadd, 1) := by decide +kernel
theorem dX9_counts_31 : decode cX9_counts 31 = .ok (.iaload, 1) := by decide +kernel
theorem dX9_counts_32 : decode cX9_counts 32 = .ok (.iload_n 2, 1) := by decide +kernel
theorem dX9_counts_33 : decode cX9_counts 33 = .ok (.if_icmp .eq 6, 3) := by decide +kernel
theorem dX9_counts_36 : decode cX9_counts 36 = .ok (.goto 88, 3) := by decide +kernel
theorem dX9_counts_39 : decode cX9_counts 39 = .ok (.iconst 0, 1) := by decide +kernel
theorem dX9_counts_40 : decode cX9_counts 40 = .ok (.istore 6, 2) := by decide +kernel
theorem dX9_counts_42 : decode cX9_counts 42 = .ok (.iload 6, 2) := by decide +kernel
theorem dX9_counts_44 : decode cX9_counts 44 = .ok (.aload_n 0, 1) := by decide +kernel
theorem dX9_counts_45 : decode cX9_counts 45 = .ok (.getfield 9, 3) := by decide +kernel
theorem dX9_counts_48 : decode cX9_counts 48 = .ok (.bipush 70, 2) := by decide +kernel
theorem dX9_counts_50 : decode cX9_counts 50 = .ok (.iload 5, 2) := by decide +kernel
theorem dX9_counts_52 : decode cX9_counts 52 = .ok (.iadd, 1) := by decide +kernel
theorem dX9_counts_53 : decode cX9_counts 53 = .ok (.iaload, 1) := by decide +kernel
theorem dX9_counts_54 : decode cX9_counts 54 = .ok (.if_icmp .ge 32, 3) := by decide +kernel
theorem dX9_counts_57 : decode cX9_counts 57 = .ok (.iload 4, 2) := by decide +kernel
theorem dX9_counts_59 : decode cX9_counts 59 = .ok (.aload_n 0, 1) := by decide +kernel
theorem dX9_counts_60 : decode cX9_counts 60 = .ok (.iload 5, 2) := by decide +kernel
theorem dX9_counts_62 : decode cX9_counts 62 = .ok (.iload 6, 2) := by decide +kernel
theorem dX9_counts_64 : decode cX9_counts 64 = .ok (.iconst 0, 1) := by decide +kernel
theorem dX9_counts_65 : decode cX9_counts 65 = .ok (.invokevirtual 89, 3) := by decide +kernel
theorem dX9_counts_68 : decode cX9_counts 68 = .ok (.iload_n 1, 1) := by decide +kernel
theorem dX9_counts_69 : decode cX9_counts 69 = .ok (.if_icmp .ne 7, 3) := by decide +kernel
theorem dX9_counts_72 : decode cX9_counts 72 = .ok (.iconst 1, 1) := by decide +kernel
theorem dX9_counts_73 : decode cX9_counts 73 = .ok (.goto 4, 3) := by decide +kernel
theorem dX9_counts_76 : decode cX9_counts 76 = .ok (.iconst 0, 1) := by decide +kernel
theorem dX9_counts_77 : decode cX9_counts 77 = .ok (.iadd, 1) := by decide +kernel
theorem dX9_counts_78 : decode cX9_counts 78 = .ok (.istore 4, 2) := by decide +kernel
theorem dX9_counts_80 : decode cX9_counts 80 = .ok (.iinc 6 1, 3) := by decide +kernel
theorem dX9_counts_83 : decode cX9_counts 83 = .ok (.goto (-41), 3) := by decide +kernel
theorem dX9_counts_86 : decode cX9_counts 86 = .ok (.iload 4, 2) := by decide +kernel
theorem dX9_counts_88 : decode cX9_counts 88 = .ok (.iload_n 3, 1) := by decide +kernel
theorem dX9_counts_89 : decode cX9_counts 89 = .ok (.ifCond .eq 31, 3) := by decide +kernel
theorem dX9_counts_92 : decode cX9_counts 92 = .ok (.aload_n 0, 1) := by decide +kernel
theorem dX9_counts_93 : decode cX9_counts 93 = .ok (.iload 5, 2) := by decide +kernel
theorem dX9_counts_95 : decode cX9_counts 95 = .ok (.invokevirtual 113, 3) := by decide +kernel
theorem dX9_counts_98 : decode cX9_counts 98 = .ok (.ifCond .eq 22, 3) := by decide +kernel
theorem dX9_counts_101 : decode cX9_counts 101 = .ok (.aload_n 0, 1) := by decide +kernel
theorem dX9_counts_102 : decode cX9_counts 102 = .ok (.getfield 9, 3) := by decide +kernel
theorem dX9_counts_105 : decode cX9_counts 105 = .ok (.bipush 70, 2) := by decide +kernel
theorem dX9_counts_107 : decode cX9_counts 107 = .ok (.iload 5, 2) := by decide +kernel
theorem dX9_counts_109 : decode cX9_counts 109 = .ok (.iadd, 1) := by decide +kernel
theorem dX9_counts_110 : decode cX9_counts 110 = .ok (.iaload, 1) := by decide +kernel
theorem dX9_counts_111 : decode cX9_counts 111 = .ok (.bipush 10, 2) := by decide +kernel
theorem dX9_counts_113 : decode cX9_counts 113 = .ok (.if_icmp .ge 7, 3) := by decide +kernel
theorem dX9_counts_116 : decode cX9_counts 116 = .ok (.iconst 1, 1) := by decide +kernel
theorem dX9_counts_117 : decode cX9_counts 117 = .ok (.goto 4, 3) := by decide +kernel
theorem dX9_counts_120 : decode cX9_counts 120 = .ok (.iconst 0, 1) := by decide +kernel
theorem dX9_counts_121 : decode cX9_counts 121 = .ok (.iadd, 1) := by decide +kernel
theorem dX9_counts_122 : decode cX9_counts 122 = .ok (.istore 4, 2) := by decide +kernel
theorem dX9_counts_124 : decode cX9_counts 124 = .ok (.iinc 5 1, 3) := by decide +kernel
theorem dX9_counts_127 : decode cX9_counts 127 = .ok (.goto (-121), 3) := by decide +kernel
theorem dX9_counts_130 : decode cX9_counts 130 = .ok (.iload 4, 2) := by decide +kernel
theorem dX9_counts_132 : decode cX9_counts 132 = .ok (.ireturn, 1) := by decide +kernel
theorem dX9_count_0 : decode cX9_count 0 = .ok (.iload_n 1, 1) := by decide +kernel
theorem dX9_count_1 : decode cX9_count 1 = .ok (.invokestatic 75, 3) := by decide +kernel
theorem dX9_count_4 : decode cX9_count 4 = .ok (.ifCond .eq 25, 3) := by decide +kernel
theorem dX9_count_7 : decode cX9_count 7 = .ok (.iload_n 2, 1) := by decide +kernel
theorem dX9_count_8 : decode cX9_count 8 = .ok (.iconst (-1), 1) := by decide +kernel
theorem dX9_count_9 : decode cX9_count 9 = .ok (.if_icmp .eq 10, 3) := by decide +kernel
theorem dX9_count_12 : decode cX9_count 12 = .ok (.iload_n 2, 1) := by decide +kernel
theorem dX9_count_13 : decode cX9_count 13 = .ok (.invokestatic 62, 3) := by decide +kernel
theorem dX9_count_16 : decode cX9_count 16 = .ok (.ifCond .eq 13, 3) := by decide +kernel
theorem dX9_count_19 : decode cX9_count 19 = .ok (.aload_n 0, 1) := by decide +kernel
theorem dX9_count_20 : decode cX9_count 20 = .ok (.iload_n 1, 1) := by decide +kernel
theorem dX9_count_21 : decode cX9_count 21 = .ok (.iload_n 2, 1) := by decide +kernel
theorem dX9_count_22 : decode cX9_count 22 = .ok (.iload_n 3, 1) := by decide +kernel
theorem dX9_count_23 : decode cX9_count 23 = .ok (.invokevirtual 228, 3) := by decide +kernel
theorem dX9_count_26 : decode cX9_count 26 = .ok (.goto 9, 3) := by decide +kernel
theorem dX9_count_29 : decode cX9_count 29 = .ok (.aload_n 0, 1) := by decide +kernel
theorem dX9_count_30 : decode cX9_count 30 = .ok (.ldc 66, 2) := by decide +kernel
theorem dX9_count_32 : decode cX9_count 32 = .ok (.invokevirtual 58, 3) := by decide +kernel
theorem dX9_count_35 : decode cX9_count 35 = .ok (.ireturn, 1) := by decide +kernel
theorem dX9_home_0 : decode cX9_home 0 = .ok (.iload_n 1, 1) := by decide +kernel
theorem dX9_home_1 : decode cX9_home 1 = .ok (.invokestatic 75, 3) := by decide +kernel
theorem dX9_home_4 : decode cX9_home 4 = .ok (.ifCond .ne 10, 3) := by decide +kernel
theorem dX9_home_7 : decode cX9_home 7 = .ok (.aload_n 0, 1) := by decide +kernel
theorem dX9_home_8 : decode cX9_home 8 = .ok (.ldc 66, 2) := by decide +kernel
theorem dX9_home_10 : decode cX9_home 10 = .ok (.invokevirtual 58, 3) := by decide +kernel
theorem dX9_home_13 : decode cX9_home 13 = .ok (.ireturn, 1) := by decide +kernel
theorem dX9_home_14 : decode cX9_home 14 = .ok (.iconst 0, 1) := by decide +kernel
theorem dX9_home_15 : decode cX9_home 15 = .ok (.istore_n 2, 1) := by decide +kernel
theorem dX9_home_16 : decode cX9_home 16 = .ok (.iconst 1, 1) := by decide +kernel
theorem dX9_home_17 : decode cX9_home 17 = .ok (.istore_n 3, 1) := by decide +kernel
theorem dX9_home_18 : decode cX9_home 18 = .ok (.iload_n 3, 1) := by decide +kernel
theorem dX9_home_19 : decode cX9_home 19 = .ok (.bipush 6, 2) := by decide +kernel
theorem dX9_home_21 : decode cX9_home 21 = .ok (.if_icmp .ge 32, 3) := by decide +kernel
theorem dX9_home_24 : decode cX9_home 24 = .ok (.aload_n 0, 1) := by decide +kernel
theorem dX9_home_25 : decode cX9_home 25 = .ok (.iload_n 1, 1) := by decide +kernel
theorem dX9_home_26 : decode cX9_home 26 = .ok (.iload_n 3, 1) := by decide +kernel
theorem dX9_home_27 : decode cX9_home 27 = .ok (.iconst 0, 1) := by decide +kernel
theorem dX9_home_28 : decode cX9_home 28 = .ok (.invokevirtual 228, 3) := by decide +kernel
theorem dX9_home_31 : decode cX9_home 31 = .ok (.aload_n 0, 1) := by decide +kernel
theorem dX9_home_32 : decode cX9_home 32 = .ok (.iload_n 1, 1) := by decide +kernel
theorem dX9_home_33 : decode cX9_home 33 = .ok (.iload_n 2, 1) := by decide +kernel
theorem dX9_home_34 : decode cX9_home 34 = .ok (.iconst 0, 1) := by decide +kernel
theorem dX9_home_35 : decode cX9_home 35 = .ok (.invokevirtual 228, 3) := by decide +kernel
theorem dX9_home_38 : decode cX9_home 38 = .ok (.if_icmp .le 7, 3) := by decide +kernel
theorem dX9_home_41 : decode cX9_home 41 = .ok (.iload_n 3, 1) := by decide +kernel
theorem dX9_home_42 : decode cX9_home 42 = .ok (.goto 4, 3) := by decide +kernel
theorem dX9_home_45 : decode cX9_home 45 = .ok (.iload_n 2, 1) := by decide +kernel
theorem dX9_home_46 : decode cX9_home 46 = .ok (.istore_n 2, 1) := by decide +kernel
theorem dX9_home_47 : decode cX9_home 47 = .ok (.iinc 3 1, 3) := by decide +kernel
theorem dX9_home_50 : decode cX9_home 50 = .ok (.goto (-32), 3) := by decide +kernel
theorem dX9_home_53 : decode cX9_home 53 = .ok (.aload_n 0, 1) := by decide +kernel
theorem dX9_home_54 : decode cX9_home 54 = .ok (.iload_n 1, 1) := by decide +kernel
theorem dX9_home_55 : decode cX9_home 55 = .ok (.iload_n 2, 1) := by decide +kernel
theorem dX9_home_56 : decode cX9_home 56 = .ok (.iconst 0, 1) := by decide +kernel
theorem dX9_home_57 : decode cX9_home 57 = .ok (.invokevirtual 228, 3) := by decide +kernel
theorem dX9_home_60 : decode cX9_home 60 = .ok (.ifCond .ne 12, 3) := by decide +kernel
theorem dX9_home_63 : decode cX9_home 63 = .ok (.aload_n 0, 1) := by decide +kernel
theorem dX9_home_64 : decode cX9_home 64 = .ok (.ldc 57, 2) := by decide +kernel
theorem dX9_home_66 : decode cX9_home 66 = .ok (.invokevirtual 58, 3) := by decide +kernel
theorem dX9_home_69 : decode cX9_home 69 = .ok (.goto 4, 3) := by decide +kernel
theorem dX9_home_72 : decode cX9_home 72 = .ok (.iload_n 2, 1) := by decide +kernel
theorem dX9_home_73 : decode cX9_home 73 = .ok (.ireturn, 1) := by decide +kernel
theorem dX9_isSheet_0 : decode cX9_isSheet 0 = .ok (.iload_n 0, 1) := by decide +kernel
theorem dX9_isSheet_1 : decode cX9_isSheet 1 = .ok (.iconst 0, 1) := by decide +kernel
theorem dX9_isSheet_2 : decode cX9_isSheet 2 = .ok (.iconst 3, 1) := by decide +kernel
theorem dX9_isSheet_3 : decode cX9_isSheet 3 = .ok (.invokestatic 50, 3) := by decide +kernel
theorem dX9_isSheet_6 : decode cX9_isSheet 6 = .ok (.ireturn, 1) := by decide +kernel
theorem dX9_sheet_0 : decode cX9_sheet 0 = .ok (.iload_n 1, 1) := by decide +kernel
theorem dX9_sheet_1 : decode cX9_sheet 1 = .ok (.invokestatic 232, 3) := by decide +kernel
theorem dX9_sheet_4 : decode cX9_sheet 4 = .ok (.ifCond .eq 25, 3) := by decide +kernel
theorem dX9_sheet_7 : decode cX9_sheet 7 = .ok (.iload_n 2, 1) := by decide +kernel
theorem dX9_sheet_8 : decode cX9_sheet 8 = .ok (.ifCond .eq 28, 3) := by decide +kernel
theorem dX9_sheet_11 : decode cX9_sheet 11 = .ok (.iload_n 2, 1) := by decide +kernel
theorem dX9_sheet_12 : decode cX9_sheet 12 = .ok (.bipush 8, 2) := by decide +kernel
theorem dX9_sheet_14 : decode cX9_sheet 14 = .ok (.if_icmp .eq 22, 3) := by decide +kernel
theorem dX9_sheet_17 : decode cX9_sheet 17 = .ok (.iload_n 2, 1) := by decide +kernel
theorem dX9_sheet_18 : decode cX9_sheet 18 = .ok (.bipush 16, 2) := by decide +kernel
theorem dX9_sheet_20 : decode cX9_sheet 20 = .ok (.if_icmp .eq 16, 3) := by decide +kernel
theorem dX9_sheet_23 : decode cX9_sheet 23 = .ok (.iload_n 2, 1) := by decide +kernel
theorem dX9_sheet_24 : decode cX9_sheet 24 = .ok (.bipush 32, 2) := by decide +kernel
theorem dX9_sheet_26 : decode cX9_sheet 26 = .ok (.if_icmp .eq 10, 3) := by decide +kernel
theorem dX9_sheet_29 : decode cX9_sheet 29 = .ok (.aload_n 0, 1) := by decide +kernel
theorem dX9_sheet_30 : decode cX9_sheet 30 = .ok (.ldc 66, 2) := by decide +kernel
theorem dX9_sheet_32 : decode cX9_sheet 32 = .ok (.invokevirtual 58, 3) := by decide +kernel
theorem dX9_sheet_35 : decode cX9_sheet 35 = .ok (.ireturn, 1) := by decide +kernel
theorem dX9_sheet_36 : decode cX9_sheet 36 = .ok (.iload_n 3, 1) := by decide +kernel
theorem dX9_sheet_37 : decode cX9_sheet 37 = .ok (.ifCond .ge 10, 3) := by decide +kernel
theorem dX9_sheet_40 : decode cX9_sheet 40 = .ok (.aload_n 0, 1) := by decide +kernel
theorem dX9_sheet_41 : decode cX9_sheet 41 = .ok (.ldc 103, 2) := by decide +kernel
theorem dX9_sheet_43 : decode cX9_sheet 43 = .ok (.invokevirtual 58, 3) := by decide +kernel
theorem dX9_sheet_46 : decode cX9_sheet 46 = .ok (.ireturn, 1) := by decide +kernel
theorem dX9_sheet_47 : decode cX9_sheet 47 = .ok (.iload_n 3, 1) := by decide +kernel
theorem dX9_sheet_48 : decode cX9_sheet 48 = .ok (.bipush 30, 2) := by decide +kernel
theorem dX9_sheet_50 : decode cX9_sheet 50 = .ok (.if_icmp .le 10, 3) := by decide +kernel
theorem dX9_sheet_53 : decode cX9_sheet 53 = .ok (.aload_n 0, 1) := by decide +kernel
theorem dX9_sheet_54 : decode cX9_sheet 54 = .ok (.ldc 66, 2) := by decide +kernel
theorem dX9_sheet_56 : decode cX9_sheet 56 = .ok (.invokevirtual 58, 3) := by decide +kernel
theorem dX9_sheet_59 : decode cX9_sheet 59 = .ok (.ireturn, 1) := by decide +kernel
theorem dX9_sheet_60 : decode cX9_sheet 60 = .ok (.aload_n 0, 1) := by decide +kernel
theorem dX9_sheet_61 : decode cX9_sheet 61 = .ok (.getfield 16, 3) := by decide +kernel
theorem dX9_sheet_64 : decode cX9_sheet 64 = .ok (.iload_n 1, 1) := by decide +kernel
theorem dX9_sheet_65 : decode cX9_sheet 65 = .ok (.iload_n 2, 1) := by decide +kernel
theorem dX9_sheet_66 : decode cX9_sheet 66 = .ok (.iastore, 1) := by decide +kernel
theorem dX9_sheet_67 : decode cX9_sheet 67 = .ok (.aload_n 0, 1) := by decide +kernel
theorem dX9_sheet_68 : decode cX9_sheet 68 = .ok (.getfield 19, 3) := by decide +kernel
theorem dX9_sheet_71 : decode cX9_sheet 71 = .ok (.iload_n 1, 1) := by decide +kernel
theorem dX9_sheet_72 : decode cX9_sheet 72 = .ok (.iload_n 2, 1) := by decide +kernel
theorem dX9_sheet_73 : decode cX9_sheet 73 = .ok (.ifCond .ne 7, 3) := by decide +kernel
theorem dX9_sheet_76 : decode cX9_sheet 76 = .ok (.iconst 0, 1) := by decide +kernel
theorem dX9_sheet_77 : decode cX9_sheet 77 = .ok (.goto 4, 3) := by decide +kernel
theorem dX9_sheet_80 : decode cX9_sheet 80 = .ok (.iload_n 3, 1) := by decide +kernel
theorem dX9_sheet_81 : decode cX9_sheet 81 = .ok (.iastore, 1) := by decide +kernel
theorem dX9_sheet_82 : decode cX9_sheet 82 = .ok (.iconst 0, 1) := by decide +kernel
theorem dX9_sheet_83 : decode cX9_sheet 83 = .ok (.istore 4, 2) := by decide +kernel
theorem dX9_sheet_85 : decode cX9_sheet 85 = .ok (.iload 4, 2) := by decide +kernel
theorem dX9_sheet_87 : decode cX9_sheet 87 = .ok (.bipush 30, 2) := by decide +kernel
theorem dX9_sheet_89 : decode cX9_sheet 89 = .ok (.if_icmp .ge 22, 3) := by decide +kernel
theorem dX9_sheet_92 : decode cX9_sheet 92 = .ok (.aload_n 0, 1) := by decide +kernel
theorem dX9_sheet_93 : decode cX9_sheet 93 = .ok (.getfield 22, 3) := by decide +kernel
theorem dX9_sheet_96 : decode cX9_sheet 96 = .ok (.bipush 30, 2) := by decide +kernel
theorem dX9_sheet_98 : decode cX9_sheet 98 = .ok (.iload_n 1, 1) := by decide +kernel
theorem dX9_sheet_99 : decode cX9_sheet 99 = .ok (.imul, 1) := by decide +kernel
theorem dX9_sheet_100 : decode cX9_sheet 100 = .ok (.iload 4, 2) := by decide +kernel
theorem dX9_sheet_102 : decode cX9_sheet 102 = .ok (.iadd, 1) := by decide +kernel
theorem dX9_sheet_103 : decode cX9_sheet 103 = .ok (.iconst 0, 1) := by decide +kernel
theorem dX9_sheet_104 : decode cX9_sheet 104 = .ok (.iastore, 1) := by decide +kernel
theorem dX9_sheet_105 : decode cX9_sheet 105 = .ok (.iinc 4 1, 3) := by decide +kernel
theorem dX9_sheet_108 : decode cX9_sheet 108 = .ok (.goto (-23), 3) := by decide +kernel
theorem dX9_sheet_111 : decode cX9_sheet 111 = .ok (.aload_n 0, 1) := by decide +kernel
theorem dX9_sheet_112 : decode cX9_sheet 112 = .ok (.getfield 19, 3) := by decide +kernel
theorem dX9_sheet_115 : decode cX9_sheet 115 = .ok (.iload_n 1, 1) := by decide +kernel
theorem dX9_sheet_116 : decode cX9_sheet 116 = .ok (.iaload, 1) := by decide +kernel
theorem dX9_sheet_117 : decode cX9_sheet 117 = .ok (.ireturn, 1) := by decide +kernel
theorem dX9_put_0 : decode cX9_put 0 = .ok (.iload_n 1, 1) := by decide +kernel
theorem dX9_put_1 : decode cX9_put 1 = .ok (.invokestatic 232, 3) := by decide +kernel
theorem dX9_put_4 : decode cX9_put 4 = .ok (.ifCond .ne 10, 3) := by decide +kernel
theorem dX9_put_7 : decode cX9_put 7 = .ok (.aload_n 0, 1) := by decide +kernel
theorem dX9_put_8 : decode cX9_put 8 = .ok (.ldc 66, 2) := by decide +kernel
theorem dX9_put_10 : decode cX9_put 10 = .ok (.invokevirtual 58, 3) := by decide +kernel
theorem dX9_put_13 : decode cX9_put 13 = .ok (.ireturn, 1) := by decide +kernel
theorem dX9_put_14 : decode cX9_put 14 = .ok (.aload_n 0, 1) := by decide +kernel
theorem dX9_put_15 : decode cX9_put 15 = .ok (.getfield 16, 3) := by decide +kernel
theorem dX9_put_18 : decode cX9_put 18 = .ok (.iload_n 1, 1) := by decide +kernel
theorem dX9_put_19 : decode cX9_put 19 = .ok (.iaload, 1) := by decide +kernel
theorem dX9_put_20 : decode cX9_put 20 = .ok (.ifCond .ne 10, 3) := by decide +kernel
theorem dX9_put_23 : decode cX9_put 23 = .ok (.aload_n 0, 1) := by decide +kernel
theorem dX9_put_24 : decode cX9_put 24 = .ok (.ldc 235, 2) := by decide +kernel
theorem dX9_put_26 : decode cX9_put 26 = .ok (.invokevirtual 58, 3) := by decide +kernel
theorem dX9_put_29 : decode cX9_put 29 = .ok (.ireturn, 1) := by decide +kernel
theorem dX9_put_30 : decode cX9_put 30 = .ok (.iload_n 2, 1) := by decide +kernel
theorem dX9_put_31 : decode cX9_put 31 = .ok (.iconst 0, 1) := by decide +kernel
theorem dX9_put_32 : decode cX9_put 32 = .ok (.aload_n 0, 1) := by decide +kernel
theorem dX9_put_33 : decode cX9_put 33 = .ok (.getfield 19, 3) := by decide +kernel
theorem dX9_put_36 : decode cX9_put 36 = .ok (.iload_n 1, 1) := by decide +kernel
theorem dX9_put_37 : decode cX9_put 37 = .ok (.iaload, 1) := by decide +kernel
theorem dX9_put_38 : decode cX9_put 38 = .ok (.iconst 1, 1) := by decide +kernel
theorem dX9_put_39 : decode cX9_put 39 = .ok (.isub, 1) := by decide +kernel
theorem dX9_put_40 : decode cX9_put 40 = .ok (.invokestatic 50, 3) := by decide +kernel
theorem dX9_put_43 : decode cX9_put 43 = .ok (.ifCond .ne 10, 3) := by decide +kernel
theorem dX9_put_46 : decode cX9_put 46 = .ok (.aload_n 0, 1) := by decide +kernel
theorem dX9_put_47 : decode cX9_put 47 = .ok (.ldc 66, 2) := by decide +kernel
theorem dX9_put_49 : decode cX9_put 49 = .ok (.invokevirtual 58, 3) := by decide +kernel
theorem dX9_put_52 : decode cX9_put 52 = .ok (.ireturn, 1) := by decide +kernel
theorem dX9_put_53 : decode cX9_put 53 = .ok (.bipush 32, 2) := by decide +kernel
theorem dX9_put_55 : decode cX9_put 55 = .ok (.aload_n 0, 1) := by decide +kernel
theorem dX9_put_56 : decode cX9_put 56 = .ok (.getfield 16, 3) := by decide +kernel
theorem dX9_put_59 : decode cX9_put 59 = .ok (.iload_n 1, 1) := by decide +kernel
theorem dX9_put_60 : decode cX9_put 60 = .ok (.iaload, 1) := by decide +kernel
theorem dX9_put_61 : decode cX9_put 61 = .ok (.isub, 1) := by decide +kernel
theorem dX9_put_62 : decode cX9_put 62 = .ok (.istore 4, 2) := by decide +kernel
theorem dX9_put_64 : decode cX9_put 64 = .ok (.aload_n 0, 1) := by decide +kernel
theorem dX9_put_65 : decode cX9_put 65 = .ok (.getfield 22, 3) := by decide +kernel
theorem dX9_put_68 : decode cX9_put 68 = .ok (.bipush 30, 2) := by decide +kernel
theorem dX9_put_70 : decode cX9_put 70 = .ok (.iload_n 1, 1) := by decide +kernel
theorem dX9_put_71 : decode cX9_put 71 = .ok (.imul, 1) := by decide +kernel
theorem dX9_put_72 : decode cX9_put 72 = .ok (.iload_n 2, 1) := by decide +kernel
theorem dX9_put_73 : decode cX9_put 73 = .ok (.iadd, 1) := by decide +kernel
theorem dX9_put_74 : decode cX9_put 74 = .ok (.iload_n 3, 1) := by decide +kernel
theorem dX9_put_75 : decode cX9_put 75 = .ok (.iload 4, 2) := by decide +kernel
theorem dX9_put_77 : decode cX9_put 77 = .ok (.ishl, 1) := by decide +kernel
theorem dX9_put_78 : decode cX9_put 78 = .ok (.iload 4, 2) := by decide +kernel
theorem dX9_put_80 : decode cX9_put 80 = .ok (.ishr, 1) := by decide +kernel
theorem dX9_put_81 : decode cX9_put 81 = .ok (.iastore, 1) := by decide +kernel
theorem dX9_put_82 : decode cX9_put 82 = .ok (.iconst 0, 1) := by decide +kernel
theorem dX9_put_83 : decode cX9_put 83 = .ok (.ireturn, 1) := by decide +kernel
theorem dX9_copy_0 : decode cX9_copy 0 = .ok (.iload_n 1, 1) := by decide +kernel
theorem dX9_copy_1 : decode cX9_copy 1 = .ok (.invokestatic 232, 3) := by decide +kernel
theorem dX9_copy_4 : decode cX9_copy 4 = .ok (.ifCond .eq 10, 3) := by decide +kernel
theorem dX9_copy_7 : decode cX9_copy 7 = .ok (.iload_n 3, 1) := by decide +kernel
theorem dX9_copy_8 : decode cX9_copy 8 = .ok (.invokestatic 232, 3) := by decide +kernel
theorem dX9_copy_11 : decode cX9_copy 11 = .ok (.ifCond .ne 10, 3) := by decide +kernel
theorem dX9_copy_14 : decode cX9_copy 14 = .ok (.aload_n 0, 1) := by decide +kernel
theorem dX9_copy_15 : decode cX9_copy 15 = .ok (.ldc 66, 2) := by decide +kernel
theorem dX9_copy_17 : decode cX9_copy 17 = .ok (.invokevirtual 58, 3) := by decide +kernel
theorem dX9_copy_20 : decode cX9_copy 20 = .ok (.ireturn, 1) := by decide +kernel
theorem dX9_copy_21 : decode cX9_copy 21 = .ok (.aload_n 0, 1) := by decide +kernel
theorem dX9_copy_22 : decode cX9_copy 22 = .ok (.getfield 16, 3) := by decide +kernel
theorem dX9_copy_25 : decode cX9_copy 25 = .ok (.iload_n 1, 1) := by decide +kernel
theorem dX9_copy_26 : decode cX9_copy 26 = .ok (.iaload, 1) := by decide +kernel
theorem dX9_copy_27 : decode cX9_copy 27 = .ok (.ifCond .eq 12, 3) := by decide +kernel
theorem dX9_copy_30 : decode cX9_copy 30 = .ok (.aload_n 0, 1) := by decide +kernel
theorem dX9_copy_31 : decode cX9_copy 31 = .ok (.getfield 16, 3) := by decide +kernel
theorem dX9_copy_34 : decode cX9_copy 34 = .ok (.iload_n 3, 1) := by decide +kernel
theorem dX9_copy_35 : decode cX9_copy 35 = .ok (.iaload, 1) := by decide +kernel
theorem dX9_copy_36 : decode cX9_copy 36 = .ok (.ifCond .ne 10, 3) := by decide +kernel
theorem dX9_copy_39 : decode cX9_copy 39 = .ok (.aload_n 0, 1) := by decide +kernel
theorem dX9_copy_40 : decode cX9_copy 40 = .ok (.ldc 235, 2) := by decide +kernel
theorem dX9_copy_42 : decode cX9_copy 42 = .ok (.invokevirtual 58, 3) := by decide +kernel
theorem dX9_copy_45 : decode cX9_copy 45 = .ok (.ireturn, 1) := by decide +kernel
theorem dX9_copy_46 : decode cX9_copy 46 = .ok (.aload_n 0, 1) := by decide +kernel
theorem dX9_copy_47 : decode cX9_copy 47 = .ok (.getfield 16, 3) := by decide +kernel
theorem dX9_copy_50 : decode cX9_copy 50 = .ok (.iload_n 1, 1) := by decide +kernel
theorem dX9_copy_51 : decode cX9_copy 51 = .ok (.iaload, 1) := by decide +kernel
theorem dX9_copy_52 : decode cX9_copy 52 = .ok (.aload_n 0, 1) := by decide +kernel
theorem dX9_copy_53 : decode cX9_copy 53 = .ok (.getfield 16, 3) := by decide +kernel
theorem dX9_copy_56 : decode cX9_copy 56 = .ok (.iload_n 3, 1) := by decide +kernel
theorem dX9_copy_57 : decode cX9_copy 57 = .ok (.iaload, 1) := by decide +kernel
theorem dX9_copy_58 : decode cX9_copy 58 = .ok (.if_icmp .eq 10, 3) := by decide +kernel
theorem dX9_copy_61 : decode cX9_copy 61 = .ok (.aload_n 0, 1) := by decide +kernel
theorem dX9_copy_62 : decode cX9_copy 62 = .ok (.ldc 74, 2) := by decide +kernel
theorem dX9_copy_64 : decode cX9_copy 64 = .ok (.invokevirtual 58, 3) := by decide +kernel
theorem dX9_copy_67 : decode cX9_copy 67 = .ok (.ireturn, 1) := by decide +kernel
theorem dX9_copy_68 : decode cX9_copy 68 = .ok (.iload_n 2, 1) := by decide +kernel
theorem dX9_copy_69 : decode cX9_copy 69 = .ok (.ifCond .lt 48, 3) := by decide +kernel
theorem dX9_copy_72 : decode cX9_copy 72 = .ok (.iload 4, 2) := by decide +kernel
theorem dX9_copy_74 : decode cX9_copy 74 = .ok (.ifCond .lt 43, 3) := by decide +kernel
theorem dX9_copy_77 : decode cX9_copy 77 = .ok (.iload 5, 2) := by decide +kernel
theorem dX9_copy_79 : decode cX9_copy 79 = .ok (.ifCond .lt 38, 3) := by decide +kernel
theorem dX9_copy_82 : decode cX9_copy 82 = .ok (.iload_n 2, 1) := by decide +kernel
theorem dX9_copy_83 : decode cX9_copy 83 = .ok (.i2l, 1) := by decide +kernel
theorem dX9_copy_84 : decode cX9_copy 84 = .ok (.iload 5, 2) := by decide +kernel
theorem dX9_copy_86 : decode cX9_copy 86 = .ok (.i2l, 1) := by decide +kernel
theorem dX9_copy_87 : decode cX9_copy 87 = .ok (.ladd, 1) := by decide +kernel
theorem dX9_copy_88 : decode cX9_copy 88 = .ok (.aload_n 0, 1) := by decide +kernel
theorem dX9_copy_89 : decode cX9_copy 89 = .ok (.getfield 19, 3) := by decide +kernel
theorem dX9_copy_92 : decode cX9_copy 92 = .ok (.iload_n 1, 1) := by decide +kernel
theorem dX9_copy_93 : decode cX9_copy 93 = .ok (.iaload, 1) := by decide +kernel
theorem dX9_copy_94 : decode cX9_copy 94 = .ok (.i2l, 1) := by decide +kernel
theorem dX9_copy_95 : decode cX9_copy 95 = .ok (.lcmp, 1) := by decide +kernel
theorem dX9_copy_96 : decode cX9_copy 96 = .ok (.ifCond .gt 21, 3) := by decide +kernel
theorem dX9_copy_99 : decode cX9_copy 99 = .ok (.iload 4, 2) := by decide +kernel
theorem dX9_copy_101 : decode cX9_copy 101 = .ok (.i2l, 1) := by decide +kernel
theorem dX9_copy_102 : decode cX9_copy 102 = .ok (.iload 5, 2) := by decide +kernel
theorem dX9_copy_104 : decode cX9_copy 104 = .ok (.i2l, 1) := by decide +kernel
theorem dX9_copy_105 : decode cX9_copy 105 = .ok (.ladd, 1) := by decide +kernel
theorem dX9_copy_106 : decode cX9_copy 106 = .ok (.aload_n 0, 1) := by decide +kernel
theorem dX9_copy_107 : decode cX9_copy 107 = .ok (.getfield 19, 3) := by decide +kernel
theorem dX9_copy_110 : decode cX9_copy 110 = .ok (.iload_n 3, 1) := by decide +kernel
theorem dX9_copy_111 : decode cX9_copy 111 = .ok (.iaload, 1) := by decide +kernel
theorem dX9_copy_112 : decode cX9_copy 112 = .ok (.i2l, 1) := by decide +kernel
theorem dX9_copy_113 : decode cX9_copy 113 = .ok (.lcmp, 1) := by decide +kernel
theorem dX9_copy_114 : decode cX9_copy 114 = .ok (.ifCond .le 10, 3) := by decide +kernel
theorem dX9_copy_117 : decode cX9_copy 117 = .ok (.aload_n 0, 1) := by decide +kernel
theorem dX9_copy_118 : decode cX9_copy 118 = .ok (.ldc 66, 2) := by decide +kernel
theorem dX9_copy_120 : decode cX9_copy 120 = .ok (.invokevirtual 58, 3) := by decide +kernel
theorem dX9_copy_123 : decode cX9_copy 123 = .ok (.ireturn, 1) := by decide +kernel
theorem dX9_copy_124 : decode cX9_copy 124 = .ok (.iconst 0, 1) := by decide +kernel
theorem dX9_copy_125 : decode cX9_copy 125 = .ok (.istore 6, 2) := by decide +kernel
theorem dX9_copy_127 : decode cX9_copy 127 = .ok (.iload 6, 2) := by decide +kernel
theorem dX9_copy_129 : decode cX9_copy 129 = .ok (.iload 5, 2) := by decide +kernel
theorem dX9_copy_131 : decode cX9_copy 131 = .ok (.if_icmp .ge 30, 3) := by decide +kernel
theorem dX9_copy_134 : decode cX9_copy 134 = .ok (.aload_n 0, 1) := by decide +kernel
theorem dX9_copy_135 : decode cX9_copy 135 = .ok (.getfield 43, 3) := by decide +kernel
theorem dX9_copy_138 : decode cX9_copy 138 = .ok (.iload 6, 2) := by decide +kernel
theorem dX9_copy_140 : decode cX9_copy 140 = .ok (.aload_n 0, 1) := by decide +kernel
theorem dX9_copy_141 : decode cX9_copy 141 = .ok (.getfield 22, 3) := by decide +kernel
theorem dX9_copy_144 : decode cX9_copy 144 = .ok (.bipush 30, 2) := by decide +kernel
theorem dX9_copy_146 : decode cX9_copy 146 = .ok (.iload_n 1, 1) := by decide +kernel
theorem dX9_copy_147 : decode cX9_copy 147 = .ok (.imul, 1) := by decide +kernel
theorem dX9_copy_148 : decode cX9_copy 148 = .ok (.iload_n 2, 1) := by decide +kernel
theorem dX9_copy_149 : decode cX9_copy 149 = .ok (.iadd, 1) := by decide +kernel
theorem dX9_copy_150 : decode cX9_copy 150 = .ok (.iload 6, 2) := by decide +kernel
theorem dX9_copy_152 : decode cX9_copy 152 = .ok (.iadd, 1) := by decide +kernel
theorem dX9_copy_153 : decode cX9_copy 153 = .ok (.iaload, 1) := by decide +kernel
theorem dX9_copy_154 : decode cX9_copy 154 = .ok (.iastore, 1) := by decide +kernel
theorem dX9_copy_155 : decode cX9_copy 155 = .ok (.iinc 6 1, 3) := by decide +kernel
theorem dX9_copy_158 : decode cX9_copy 158 = .ok (.goto (-31), 3) := by decide +kernel
theorem dX9_copy_161 : decode cX9_copy 161 = .ok (.iconst 0, 1) := by decide +kernel
theorem dX9_copy_162 : decode cX9_copy 162 = .ok (.istore 6, 2) := by decide +kernel
theorem dX9_copy_164 : decode cX9_copy 164 = .ok (.iload 6, 2) := by decide +kernel
theorem dX9_copy_166 : decode cX9_copy 166 = .ok (.iload 5, 2) := by decide +kernel
theorem dX9_copy_168 : decode cX9_copy 168 = .ok (.if_icmp .ge 31, 3) := by decide +kernel
theorem dX9_copy_171 : decode cX9_copy 171 = .ok (.aload_n 0, 1) := by decide +kernel
theorem dX9_copy_172 : decode cX9_copy 172 = .ok (.getfield 22, 3) := by decide +kernel
theorem dX9_copy_175 : decode cX9_copy 175 = .ok (.bipush 30, 2) := by decide +kernel
theorem dX9_copy_177 : decode cX9_copy 177 = .ok (.iload_n 3, 1) := by decide +kernel
theorem dX9_copy_178 : decode cX9_copy 178 = .ok (.imul, 1) := by decide +kernel
theorem dX9_copy_179 : decode cX9_copy 179 = .ok (.iload 4, 2) := by decide +kernel
theorem dX9_copy_181 : decode cX9_copy 181 = .ok (.iadd, 1) := by decide +kernel
theorem dX9_copy_182 : decode cX9_copy 182 = .ok (.iload 6, 2) := by decide +kernel
theorem dX9_copy_184 : decode cX9_copy 184 = .ok (.iadd, 1) := by decide +kernel
theorem dX9_copy_185 : decode cX9_copy 185 = .ok (.aload_n 0, 1) := by decide +kernel
theorem dX9_copy_186 : decode cX9_copy 186 = .ok (.getfield 43, 3) := by decide +kernel
theorem dX9_copy_189 : decode cX9_copy 189 = .ok (.iload 6, 2) := by decide +kernel
theorem dX9_copy_191 : decode cX9_copy 191 = .ok (.iaload, 1) := by decide +kernel
theorem dX9_copy_192 : decode cX9_copy 192 = .ok (.iastore, 1) := by decide +kernel
theorem dX9_copy_193 : decode cX9_copy 193 = .ok (.iinc 6 1, 3) := by decide +kernel
theorem dX9_copy_196 : decode cX9_copy 196 = .ok (.goto (-32), 3) := by decide +kernel
theorem dX9_copy_199 : decode cX9_copy 199 = .ok (.iload 5, 2) := by decide +kernel
theorem dX9_copy_201 : decode cX9_copy 201 = .ok (.ireturn, 1) := by decide +kernel
theorem dX9_lay_0 : decode cX9_lay 0 = .ok (.aload_n 0, 1) := by decide +kernel
theorem dX9_lay_1 : decode cX9_lay 1 = .ok (.iload_n 1, 1) := by decide +kernel
theorem dX9_lay_2 : decode cX9_lay 2 = .ok (.invokevirtual 71, 3) := by decide +kernel
theorem dX9_lay_5 : decode cX9_lay 5 = .ok (.ifCond .eq 10, 3) := by decide +kernel
theorem dX9_lay_8 : decode cX9_lay 8 = .ok (.iload_n 2, 1) := by decide +kernel
theorem dX9_lay_9 : decode cX9_lay 9 = .ok (.invokestatic 232, 3) := by decide +kernel
theorem dX9_lay_12 : decode cX9_lay 12 = .ok (.ifCond .ne 10, 3) := by decide +kernel
theorem dX9_lay_15 : decode cX9_lay 15 = .ok (.aload_n 0, 1) := by decide +kernel
theorem dX9_lay_16 : decode cX9_lay 16 = .ok (.ldc 66, 2) := by decide +kernel
theorem dX9_lay_18 : decode cX9_lay 18 = .ok (.invokevirtual 58, 3) := by decide +kernel
theorem dX9_lay_21 : decode cX9_lay 21 = .ok (.ireturn, 1) := by decide +kernel
theorem dX9_lay_22 : decode cX9_lay 22 = .ok (.aload_n 0, 1) := by decide +kernel
theorem dX9_lay_23 : decode cX9_lay 23 = .ok (.getfield 16, 3) := by decide +kernel
theorem dX9_lay_26 : decode cX9_lay 26 = .ok (.iload_n 2, 1) := by decide +kernel
theorem dX9_lay_27 : decode cX9_lay 27 = .ok (.iaload, 1) := by decide +kernel
theorem dX9_lay_28 : decode cX9_lay 28 = .ok (.ifCond .ne 10, 3) := by decide +kernel
theorem dX9_lay_31 : decode cX9_lay 31 = .ok (.aload_n 0, 1) := by decide +kernel
theorem dX9_lay_32 : decode cX9_lay 32 = .ok (.ldc 235, 2) := by decide +kernel
theorem dX9_lay_34 : decode cX9_lay 34 = .ok (.invokevirtual 58, 3) := by decide +kernel
theorem dX9_lay_37 : decode cX9_lay 37 = .ok (.ireturn, 1) := by decide +kernel
theorem dX9_lay_38 : decode cX9_lay 38 = .ok (.aload_n 0, 1) := by decide +kernel
theorem dX9_lay_39 : decode cX9_lay 39 = .ok (.getfield 19, 3) := by decide +kernel
theorem dX9_lay_42 : decode cX9_lay 42 = .ok (.iload_n 2, 1) := by decide +kernel
theorem dX9_lay_43 : decode cX9_lay 43 = .ok (.iaload, 1) := by decide +kernel
theorem dX9_lay_44 : decode cX9_lay 44 = .ok (.iconst 3, 1) := by decide +kernel
theorem dX9_lay_45 : decode cX9_lay 45 = .ok (.idiv, 1) := by decide +kernel
theorem dX9_lay_46 : decode cX9_lay 46 = .ok (.istore_n 3, 1) := by decide +kernel
theorem dX9_lay_47 : decode cX9_lay 47 = .ok (.bipush 30, 2) := by decide +kernel
theorem dX9_lay_49 : decode cX9_lay 49 = .ok (.iload_n 2, 1) := by decide +kernel
theorem dX9_lay_50 : decode cX9_lay 50 = .ok (.imul, 1) := by decide +kernel
theorem dX9_lay_51 : decode cX9_lay 51 = .ok (.istore 4, 2) := by decide +kernel
theorem dX9_lay_53 : decode cX9_lay 53 = .ok (.iconst 0, 1) := by decide +kernel
theorem dX9_lay_54 : decode cX9_lay 54 = .ok (.istore 5, 2) := by decide +kernel
theorem dX9_lay_56 : decode cX9_lay 56 = .ok (.iload 5, 2) := by decide +kernel
theorem dX9_lay_58 : decode cX9_lay 58 = .ok (.iload_n 3, 1) := by decide +kernel
theorem dX9_lay_59 : decode cX9_lay 59 = .ok (.if_icmp .ge 74, 3) := by decide +kernel
theorem dX9_lay_62 : decode cX9_lay 62 = .ok (.aload_n 0, 1) := by decide +kernel
theorem dX9_lay_63 : decode cX9_lay 63 = .ok (.getfield 22, 3) := by decide +kernel
theorem dX9_lay_66 : decode cX9_lay 66 = .ok (.iload 4, 2) := by decide +kernel
theorem dX9_lay_68 : decode cX9_lay 68 = .ok (.iconst 3, 1) := by decide +kernel
theorem dX9_lay_69 : decode cX9_lay 69 = .ok (.iload 5, 2) := by decide +kernel
theorem dX9_lay_71 : decode cX9_lay 71 = .ok (.imul, 1) := by decide +kernel
theorem dX9_lay_72 : decode cX9_lay 72 = .ok (.iadd, 1) := by decide +kernel
theorem dX9_lay_73 : decode cX9_lay 73 = .ok (.iaload, 1) := by decide +kernel
theorem dX9_lay_74 : decode cX9_lay 74 = .ok (.invokestatic 75, 3) := by decide +kernel
theorem dX9_lay_77 : decode cX9_lay 77 = .ok (.ifCond .eq 43, 3) := by decide +kernel
theorem dX9_lay_80 : decode cX9_lay 80 = .ok (.aload_n 0, 1) := by decide +kernel
theorem dX9_lay_81 : decode cX9_lay 81 = .ok (.getfield 22, 3) := by decide +kernel
theorem dX9_lay_84 : decode cX9_lay 84 = .ok (.iload 4, 2) := by decide +kernel
theorem dX9_lay_86 : decode cX9_lay 86 = .ok (.iconst 3, 1) := by decide +kernel
theorem dX9_lay_87 : decode cX9_lay 87 = .ok (.iload 5, 2) := by decide +kernel
theorem dX9_lay_89 : decode cX9_lay 89 = .ok (.imul, 1) := by decide +kernel
theorem dX9_lay_90 : decode cX9_lay 90 = .ok (.iadd, 1) := by decide +kernel
theorem dX9_lay_91 : decode cX9_lay 91 = .ok (.iconst 1, 1) := by decide +kernel
theorem dX9_lay_92 : decode cX9_lay 92 = .ok (.iadd, 1) := by decide +kernel
theorem dX9_lay_93 : decode cX9_lay 93 = .ok (.iaload, 1) := by decide +kernel
theorem dX9_lay_94 : decode cX9_lay 94 = .ok (.invokestatic 78, 3) := by decide +kernel
theorem dX9_lay_97 : decode cX9_lay 97 = .ok (.ifCond .eq 23, 3) := by decide +kernel
theorem dX9_lay_100 : decode cX9_lay 100 = .ok (.aload_n 0, 1) := by decide +kernel
theorem dX9_lay_101 : decode cX9_lay 101 = .ok (.getfield 22, 3) := by decide +kernel
theorem dX9_lay_104 : decode cX9_lay 104 = .ok (.iload 4, 2) := by decide +kernel
theorem dX9_lay_106 : decode cX9_lay 106 = .ok (.iconst 3, 1) := by decide +kernel
theorem dX9_lay_107 : decode cX9_lay 107 = .ok (.iload 5, 2) := by decide +kernel
theorem dX9_lay_109 : decode cX9_lay 109 = .ok (.imul, 1) := by decide +kernel
theorem dX9_lay_110 : decode cX9_lay 110 = .ok (.iadd, 1) := by decide +kernel
theorem dX9_lay_111 : decode cX9_lay 111 = .ok (.iconst 2, 1) := by decide +kernel
theorem dX9_lay_112 : decode cX9_lay 112 = .ok (.iadd, 1) := by decide +kernel
theorem dX9_lay_113 : decode cX9_lay 113 = .ok (.iaload, 1) := by decide +kernel
theorem dX9_lay_114 : decode cX9_lay 114 = .ok (.invokestatic 78, 3) := by decide +kernel
theorem dX9_lay_117 : decode cX9_lay 117 = .ok (.ifCond .ne 10, 3) := by decide +kernel
theorem dX9_lay_120 : decode cX9_lay 120 = .ok (.aload_n 0, 1) := by decide +kernel
theorem dX9_lay_121 : decode cX9_lay 121 = .ok (.ldc 66, 2) := by decide +kernel
theorem dX9_lay_123 : decode cX9_lay 123 = .ok (.invokevirtual 58, 3) := by decide +kernel
theorem dX9_lay_126 : decode cX9_lay 126 = .ok (.ireturn, 1) := by decide +kernel
theorem dX9_lay_127 : decode cX9_lay 127 = .ok (.iinc 5 1, 3) := by decide +kernel
theorem dX9_lay_130 : decode cX9_lay 130 = .ok (.goto (-74), 3) := by decide +kernel
theorem dX9_lay_133 : decode cX9_lay 133 = .ok (.aload_n 0, 1) := by decide +kernel
theorem dX9_lay_134 : decode cX9_lay 134 = .ok (.invokevirtual 68, 3) := by decide +kernel
theorem dX9_lay_137 : decode cX9_lay 137 = .ok (.iconst 0, 1) := by decide +kernel
theorem dX9_lay_138 : decode cX9_lay 138 = .ok (.istore 5, 2) := by decide +kernel
theorem dX9_lay_140 : decode cX9_lay 140 = .ok (.iload 5, 2) := by decide +kernel
theorem dX9_lay_142 : decode cX9_lay 142 = .ok (.iload_n 3, 1) := by decide +kernel
theorem dX9_lay_143 : decode cX9_lay 143 = .ok (.if_icmp .ge 56, 3) := by decide +kernel
theorem dX9_lay_146 : decode cX9_lay 146 = .ok (.aload_n 0, 1) := by decide +kernel
theorem dX9_lay_147 : decode cX9_lay 147 = .ok (.iload_n 1, 1) := by decide +kernel
theorem dX9_lay_148 : decode cX9_lay 148 = .ok (.iload 5, 2) := by decide +kernel
theorem dX9_lay_150 : decode cX9_lay 150 = .ok (.aload_n 0, 1) := by decide +kernel
theorem dX9_lay_151 : decode cX9_lay 151 = .ok (.getfield 22, 3) := by decide +kernel
theorem dX9_lay_154 : decode cX9_lay 154 = .ok (.iload 4, 2) := by decide +kernel
theorem dX9_lay_156 : decode cX9_lay 156 = .ok (.iconst 3, 1) := by decide +kernel
theorem dX9_lay_157 : decode cX9_lay 157 = .ok (.iload 5, 2) := by decide +kernel
theorem dX9_lay_159 : decode cX9_lay 159 = .ok (.imul, 1) := by decide +kernel
theorem dX9_lay_160 : decode cX9_lay 160 = .ok (.iadd, 1) := by decide +kernel
theorem dX9_lay_161 : decode cX9_lay 161 = .ok (.iaload, 1) := by decide +kernel
theorem dX9_lay_162 : decode cX9_lay 162 = .ok (.aload_n 0, 1) := by decide +kernel
theorem dX9_lay_163 : decode cX9_lay 163 = .ok (.getfield 22, 3) := by decide +kernel
theorem dX9_lay_166 : decode cX9_lay 166 = .ok (.iload 4, 2) := by decide +kernel
theorem dX9_lay_168 : decode cX9_lay 168 = .ok (.iconst 3, 1) := by decide +kernel
theorem dX9_lay_169 : decode cX9_lay 169 = .ok (.iload 5, 2) := by decide +kernel
theorem dX9_lay_171 : decode cX9_lay 171 = .ok (.imul, 1) := by decide +kernel
theorem dX9_lay_172 : decode cX9_lay 172 = .ok (.iadd, 1) := by decide +kernel
theorem dX9_lay_173 : decode cX9_lay 173 = .ok (.iconst 1, 1) := by decide +kernel
theorem dX9_lay_174 : decode cX9_lay 174 = .ok (.iadd, 1) := by decide +kernel
theorem dX9_lay_175 : decode cX9_lay 175 = .ok (.iaload, 1) := by decide +kernel
theorem dX9_lay_176 : decode cX9_lay 176 = .ok (.aload_n 0, 1) := by decide +kernel
theorem dX9_lay_177 : decode cX9_lay 177 = .ok (.getfield 22, 3) := by decide +kernel
theorem dX9_lay_180 : decode cX9_lay 180 = .ok (.iload 4, 2) := by decide +kernel
theorem dX9_lay_182 : decode cX9_lay 182 = .ok (.iconst 3, 1) := by decide +kernel
theorem dX9_lay_183 : decode cX9_lay 183 = .ok (.iload 5, 2) := by decide +kernel
theorem dX9_lay_185 : decode cX9_lay 185 = .ok (.imul, 1) := by decide +kernel
theorem dX9_lay_186 : decode cX9_lay 186 = .ok (.iadd, 1) := by decide +kernel
theorem dX9_lay_187 : decode cX9_lay 187 = .ok (.iconst 2, 1) := by decide +kernel
theorem dX9_lay_188 : decode cX9_lay 188 = .ok (.iadd, 1) := by decide +kernel
theorem dX9_lay_189 : decode cX9_lay 189 = .ok (.iaload, 1) := by decide +kernel
theorem dX9_lay_190 : decode cX9_lay 190 = .ok (.invokevirtual 81, 3) := by decide +kernel
theorem dX9_lay_193 : decode cX9_lay 193 = .ok (.iinc 5 1, 3) := by decide +kernel
theorem dX9_lay_196 : decode cX9_lay 196 = .ok (.goto (-56), 3) := by decide +kernel
theorem dX9_lay_199 : decode cX9_lay 199 = .ok (.aload_n 0, 1) := by decide +kernel
theorem dX9_lay_200 : decode cX9_lay 200 = .ok (.getfield 9, 3) := by decide +kernel
theorem dX9_lay_203 : decode cX9_lay 203 = .ok (.bipush 70, 2) := by decide +kernel
theorem dX9_lay_205 : decode cX9_lay 205 = .ok (.iload_n 1, 1) := by decide +kernel
theorem dX9_lay_206 : decode cX9_lay 206 = .ok (.iadd, 1) := by decide +kernel
theorem dX9_lay_207 : decode cX9_lay 207 = .ok (.iload_n 3, 1) := by decide +kernel
theorem dX9_lay_208 : decode cX9_lay 208 = .ok (.iastore, 1) := by decide +kernel
theorem dX9_lay_209 : decode cX9_lay 209 = .ok (.iload_n 3, 1) := by decide +kernel
theorem dX9_lay_210 : decode cX9_lay 210 = .ok (.ireturn, 1) := by decide +kernel
theorem dX9_all_0 : decode cX9_all 0 = .ok (.iload_n 1, 1) := by decide +kernel
theorem dX9_all_1 : decode cX9_all 1 = .ok (.iconst 0, 1) := by decide +kernel
theorem dX9_all_2 : decode cX9_all 2 = .ok (.iconst 2, 1) := by decide +kernel
theorem dX9_all_3 : decode cX9_all 3 = .ok (.invokestatic 50, 3) := by decide +kernel
theorem dX9_all_6 : decode cX9_all 6 = .ok (.ifCond .ne 10, 3) := by decide +kernel
theorem dX9_all_9 : decode cX9_all 9 = .ok (.aload_n 0, 1) := by decide +kernel
theorem dX9_all_10 : decode cX9_all 10 = .ok (.ldc 66, 2) := by decide +kernel
theorem dX9_all_12 : decode cX9_all 12 = .ok (.invokevirtual 58, 3) := by decide +kernel
theorem dX9_all_15 : decode cX9_all 15 = .ok (.ireturn, 1) := by decide +kernel
theorem dX9_all_16 : decode cX9_all 16 = .ok (.iconst 0, 1) := by decide +kernel
theorem dX9_all_17 : decode cX9_all 17 = .ok (.istore_n 2, 1) := by decide +kernel
theorem dX9_all_18 : decode cX9_all 18 = .ok (.iconst 0, 1) := by decide +kernel
theorem dX9_all_19 : decode cX9_all 19 = .ok (.istore_n 3, 1) := by decide +kernel
theorem dX9_all_20 : decode cX9_all 20 = .ok (.iload_n 3, 1) := by decide +kernel
theorem dX9_all_21 : decode cX9_all 21 = .ok (.aload_n 0, 1) := by decide +kernel
theorem dX9_all_22 : decode cX9_all 22 = .ok (.getfield 9, 3) := by decide +kernel
theorem dX9_all_25 : decode cX9_all 25 = .ok (.iconst 0, 1) := by decide +kernel
theorem dX9_all_26 : decode cX9_all 26 = .ok (.iaload, 1) := by decide +kernel
theorem dX9_all_27 : decode cX9_all 27 = .ok (.if_icmp .ge 21, 3) := by decide +kernel
theorem dX9_all_30 : decode cX9_all 30 = .ok (.iload_n 2, 1) := by decide +kernel
theorem dX9_all_31 : decode cX9_all 31 = .ok (.aload_n 0, 1) := by decide +kernel
theorem dX9_all_32 : decode cX9_all 32 = .ok (.getfield 9, 3) := by decide +kernel
theorem dX9_all_35 : decode cX9_all 35 = .ok (.bipush 70, 2) := by decide +kernel
theorem dX9_all_37 : decode cX9_all 37 = .ok (.iload_n 3, 1) := by decide +kernel
theorem dX9_all_38 : decode cX9_all 38 = .ok (.iadd, 1) := by decide +kernel
theorem dX9_all_39 : decode cX9_all 39 = .ok (.iaload, 1) := by decide +kernel
theorem dX9_all_40 : decode cX9_all 40 = .ok (.iadd, 1) := by decide +kernel
theorem dX9_all_41 : decode cX9_all 41 = .ok (.istore_n 2, 1) := by decide +kernel
theorem dX9_all_42 : decode cX9_all 42 = .ok (.iinc 3 1, 3) := by decide +kernel
theorem dX9_all_45 : decode cX9_all 45 = .ok (.goto (-25), 3) := by decide +kernel
theorem dX9_all_48 : decode cX9_all 48 = .ok (.iload_n 1, 1) := by decide +kernel
theorem dX9_all_49 : decode cX9_all 49 = .ok (.ifCond .ne 12, 3) := by decide +kernel
theorem dX9_all_52 : decode cX9_all 52 = .ok (.aload_n 0, 1) := by decide +kernel
theorem dX9_all_53 : decode cX9_all 53 = .ok (.getfield 9, 3) := by decide +kernel
theorem dX9_all_56 : decode cX9_all 56 = .ok (.iconst 0, 1) := by decide +kernel
theorem dX9_all_57 : decode cX9_all 57 = .ok (.iaload, 1) := by decide +kernel
theorem dX9_all_58 : decode cX9_all 58 = .ok (.goto 16, 3) := by decide +kernel
theorem dX9_all_61 : decode cX9_all 61 = .ok (.iload_n 1, 1) := by decide +kernel
theorem dX9_all_62 : decode cX9_all 62 = .ok (.iconst 1, 1) := by decide +kernel
theorem dX9_all_63 : decode cX9_all 63 = .ok (.if_icmp .ne 7, 3) := by decide +kernel
theorem dX9_all_66 : decode cX9_all 66 = .ok (.iload_n 2, 1) := by decide +kernel
theorem dX9_all_67 : decode cX9_all 67 = .ok (.goto 7, 3) := by decide +kernel
theorem dX9_all_70 : decode cX9_all 70 = .ok (.aload_n 0, 1) := by decide +kernel
theorem dX9_all_71 : decode cX9_all 71 = .ok (.getfield 46, 3) := by decide +kernel
theorem dX9_all_74 : decode cX9_all 74 = .ok (.ireturn, 1) := by decide +kernel
theorem dJ6_bitCount_0f7a4_0 : decode cJ6_bitCount_0f7a4 0 = .ok (.iload_n 0, 1) := by decide +kernel
theorem dJ6_bitCount_0f7a4_1 : decode cJ6_bitCount_0f7a4 1 = .ok (.iload_n 0, 1) := by decide +kernel
theorem dJ6_bitCount_0f7a4_2 : decode cJ6_bitCount_0f7a4 2 = .ok (.iconst 1, 1) := by decide +kernel
theorem dJ6_bitCount_0f7a4_3 : decode cJ6_bitCount_0f7a4 3 = .ok (.iushr, 1) := by decide +kernel
theorem dJ6_bitCount_0f7a4_4 : decode cJ6_bitCount_0f7a4 4 = .ok (.ldc_w 265, 3) := by decide +kernel
theorem dJ6_bitCount_0f7a4_7 : decode cJ6_bitCount_0f7a4 7 = .ok (.iand, 1) := by decide +kernel
theorem dJ6_bitCount_0f7a4_8 : decode cJ6_bitCount_0f7a4 8 = .ok (.isub, 1) := by decide +kernel
theorem dJ6_bitCount_0f7a4_9 : decode cJ6_bitCount_0f7a4 9 = .ok (.istore_n 0, 1) := by decide +kernel
theorem dJ6_bitCount_0f7a4_10 : decode cJ6_bitCount_0f7a4 10 = .ok (.iload_n 0, 1) := by decide +kernel
theorem dJ6_bitCount_0f7a4_11 : decode cJ6_bitCount_0f7a4 11 = .ok (.ldc_w 266, 3) := by decide +kernel
theorem dJ6_bitCount_0f7a4_14 : decode cJ6_bitCount_0f7a4 14 = .ok (.iand, 1) := by decide +kernel
theorem dJ6_bitCount_0f7a4_15 : decode cJ6_bitCount_0f7a4 15 = .ok (.iload_n 0, 1) := by decide +kernel
theorem dJ6_bitCount_0f7a4_16 : decode cJ6_bitCount_0f7a4 16 = .ok (.iconst 2, 1) := by decide +kernel
theorem dJ6_bitCount_0f7a4_17 : decode cJ6_bitCount_0f7a4 17 = .ok (.iushr, 1) := by decide +kernel
theorem dJ6_bitCount_0f7a4_18 : decode cJ6_bitCount_0f7a4 18 = .ok (.ldc_w 266, 3) := by decide +kernel
theorem dJ6_bitCount_0f7a4_21 : decode cJ6_bitCount_0f7a4 21 = .ok (.iand, 1) := by decide +kernel
theorem dJ6_bitCount_0f7a4_22 : decode cJ6_bitCount_0f7a4 22 = .ok (.iadd, 1) := by decide +kernel
theorem dJ6_bitCount_0f7a4_23 : decode cJ6_bitCount_0f7a4 23 = .ok (.istore_n 0, 1) := by decide +kernel
theorem dJ6_bitCount_0f7a4_24 : decode cJ6_bitCount_0f7a4 24 = .ok (.iload_n 0, 1) := by decide +kernel
theorem dJ6_bitCount_0f7a4_25 : decode cJ6_bitCount_0f7a4 25 = .ok (.iload_n 0, 1) := by decide +kernel
theorem dJ6_bitCount_0f7a4_26 : decode cJ6_bitCount_0f7a4 26 = .ok (.iconst 4, 1) := by decide +kernel
theorem dJ6_bitCount_0f7a4_27 : decode cJ6_bitCount_0f7a4 27 = .ok (.iushr, 1) := by decide +kernel
theorem dJ6_bitCount_0f7a4_28 : decode cJ6_bitCount_0f7a4 28 = .ok (.iadd, 1) := by decide +kernel
theorem dJ6_bitCount_0f7a4_29 : decode cJ6_bitCount_0f7a4 29 = .ok (.ldc_w 267, 3) := by decide +kernel
theorem dJ6_bitCount_0f7a4_32 : decode cJ6_bitCount_0f7a4 32 = .ok (.iand, 1) := by decide +kernel
theorem dJ6_bitCount_0f7a4_33 : decode cJ6_bitCount_0f7a4 33 = .ok (.istore_n 0, 1) := by decide +kernel
theorem dJ6_bitCount_0f7a4_34 : decode cJ6_bitCount_0f7a4 34 = .ok (.iload_n 0, 1) := by decide +kernel
theorem dJ6_bitCount_0f7a4_35 : decode cJ6_bitCount_0f7a4 35 = .ok (.iload_n 0, 1) := by decide +kernel
theorem dJ6_bitCount_0f7a4_36 : decode cJ6_bitCount_0f7a4 36 = .ok (.bipush 8, 2) := by decide +kernel
theorem dJ6_bitCount_0f7a4_38 : decode cJ6_bitCount_0f7a4 38 = .ok (.iushr, 1) := by decide +kernel
theorem dJ6_bitCount_0f7a4_39 : decode cJ6_bitCount_0f7a4 39 = .ok (.iadd, 1) := by decide +kernel
theorem dJ6_bitCount_0f7a4_40 : decode cJ6_bitCount_0f7a4 40 = .ok (.istore_n 0, 1) := by decide +kernel
theorem dJ6_bitCount_0f7a4_41 : decode cJ6_bitCount_0f7a4 41 = .ok (.iload_n 0, 1) := by decide +kernel
theorem dJ6_bitCount_0f7a4_42 : decode cJ6_bitCount_0f7a4 42 = .ok (.iload_n 0, 1) := by decide +kernel
theorem dJ6_bitCount_0f7a4_43 : decode cJ6_bitCount_0f7a4 43 = .ok (.bipush 16, 2) := by decide +kernel
theorem dJ6_bitCount_0f7a4_45 : decode cJ6_bitCount_0f7a4 45 = .ok (.iushr, 1) := by decide +kernel
theorem dJ6_bitCount_0f7a4_46 : decode cJ6_bitCount_0f7a4 46 = .ok (.iadd, 1) := by decide +kernel
theorem dJ6_bitCount_0f7a4_47 : decode cJ6_bitCount_0f7a4 47 = .ok (.istore_n 0, 1) := by decide +kernel
theorem dJ6_bitCount_0f7a4_48 : decode cJ6_bitCount_0f7a4 48 = .ok (.iload_n 0, 1) := by decide +kernel
theorem dJ6_bitCount_0f7a4_49 : decode cJ6_bitCount_0f7a4 49 = .ok (.bipush 63, 2) := by decide +kernel
theorem dJ6_bitCount_0f7a4_51 : decode cJ6_bitCount_0f7a4 51 = .ok (.iand, 1) := by decide +kernel
theorem dJ6_bitCount_0f7a4_52 : decode cJ6_bitCount_0f7a4 52 = .ok (.ireturn, 1) := by decide +kernel
theorem dJ9_min_7cf53_0 : decode cJ9_min_7cf53 0 = .ok (.iload_n 0, 1) := by decide +kernel
theorem dJ9_min_7cf53_1 : decode cJ9_min_7cf53 1 = .ok (.iload_n 1, 1) := by decide +kernel
theorem dJ9_min_7cf53_2 : decode cJ9_min_7cf53 2 = .ok (.if_icmp .gt 7, 3) := by decide +kernel
theorem dJ9_min_7cf53_5 : decode cJ9_min_7cf53 5 = .ok (.iload_n 0, 1) := by decide +kernel
theorem dJ9_min_7cf53_6 : decode cJ9_min_7cf53 6 = .ok (.goto 4, 3) := by decide +kernel
theorem dJ9_min_7cf53_9 : decode cJ9_min_7cf53 9 = .ok (.iload_n 1, 1) := by decide +kernel
theorem dJ9_min_7cf53_10 : decode cJ9_min_7cf53 10 = .ok (.ireturn, 1) := by decide +kernel
theorem dJ7_fill_53178_0 : decode cJ7_fill_53178 0 = .ok (.iconst 0, 1) := by decide +kernel
theorem dJ7_fill_53178_1 : decode cJ7_fill_53178 1 = .ok (.istore_n 2, 1) := by decide +kernel
theorem dJ7_fill_53178_2 : decode cJ7_fill_53178 2 = .ok (.aload_n 0, 1) := by decide +kernel
theorem dJ7_fill_53178_3 : decode cJ7_fill_53178 3 = .ok (.arraylength, 1) := by decide +kernel
theorem dJ7_fill_53178_4 : decode cJ7_fill_53178 4 = .ok (.istore_n 3, 1) := by decide +kernel
theorem dJ7_fill_53178_5 : decode cJ7_fill_53178 5 = .ok (.iload_n 2, 1) := by decide +kernel
theorem dJ7_fill_53178_6 : decode cJ7_fill_53178 6 = .ok (.iload_n 3, 1) := by decide +kernel
theorem dJ7_fill_53178_7 : decode cJ7_fill_53178 7 = .ok (.if_icmp .ge 13, 3) := by decide +kernel
theorem dJ7_fill_53178_10 : decode cJ7_fill_53178 10 = .ok (.aload_n 0, 1) := by decide +kernel
theorem dJ7_fill_53178_11 : decode cJ7_fill_53178 11 = .ok (.iload_n 2, 1) := by decide +kernel
theorem dJ7_fill_53178_12 : decode cJ7_fill_53178 12 = .ok (.iload_n 1, 1) := by decide +kernel
theorem dJ7_fill_53178_13 : decode cJ7_fill_53178 13 = .ok (.iastore, 1) := by decide +kernel
theorem dJ7_fill_53178_14 : decode cJ7_fill_53178 14 = .ok (.iinc 2 1, 3) := by decide +kernel
theorem dJ7_fill_53178_17 : decode cJ7_fill_53178 17 = .ok (.goto (-12), 3) := by decide +kernel
theorem dJ7_fill_53178_20 : decode cJ7_fill_53178 20 = .ok (.return_, 1) := by decide +kernel
theorem dL_law_0 : decode cL_law 0 = .ok (.new 7, 3) := by decide +kernel
theorem dL_law_3 : decode cL_law 3 = .ok (.dup, 1) := by decide +kernel
theorem dL_law_4 : decode cL_law 4 = .ok (.invokespecial 9, 3) := by decide +kernel
theorem dL_law_7 : decode cL_law 7 = .ok (.astore_n 1, 1) := by decide +kernel
theorem dL_law_8 : decode cL_law 8 = .ok (.new 10, 3) := by decide +kernel
theorem dL_law_11 : decode cL_law 11 = .ok (.dup, 1) := by decide +kernel
theorem dL_law_12 : decode cL_law 12 = .ok (.invokespecial 12, 3) := by decide +kernel
theorem dL_law_15 : decode cL_law 15 = .ok (.astore_n 2, 1) := by decide +kernel
theorem dL_law_16 : decode cL_law 16 = .ok (.iconst 0, 1) := by decide +kernel
theorem dL_law_17 : decode cL_law 17 = .ok (.istore_n 3, 1) := by decide +kernel
theorem dL_law_18 : decode cL_law 18 = .ok (.iload_n 3, 1) := by decide +kernel
theorem dL_law_19 : decode cL_law 19 = .ok (.aload_n 0, 1) := by decide +kernel
theorem dL_law_20 : decode cL_law 20 = .ok (.arraylength, 1) := by decide +kernel
theorem dL_law_21 : decode cL_law 21 = .ok (.bipush 6, 2) := by decide +kernel
theorem dL_law_23 : decode cL_law 23 = .ok (.isub, 1) := by decide +kernel
theorem dL_law_24 : decode cL_law 24 = .ok (.if_icmp .gt 1285, 3) := by decide +kernel
theorem dL_law_27 : decode cL_law 27 = .ok (.aload_n 0, 1) := by decide +kernel
theorem dL_law_28 : decode cL_law 28 = .ok (.iload_n 3, 1) := by decide +kernel
theorem dL_law_29 : decode cL_law 29 = .ok (.iaload, 1) := by decide +kernel
theorem dL_law_30 : decode cL_law 30 = .ok (.bipush 31, 2) := by decide +kernel
theorem dL_law_32 : decode cL_law 32 = .ok (.iand, 1) := by decide +kernel
theorem dL_law_33 : decode cL_law 33 = .ok (.tableswitch 1270 0 30 #[139, 182, 215, 268, 291, 334, 367, 400, 433, 466, 509, 542, 585, 628, 687, 710, 733, 756, 789, 812, 835, 858, 901, 970, 1029, 1052, 1095, 1138, 1201, 1234, 1247], 139) := by decide +kernel
theorem dL_law_172 : decode cL_law 172 = .ok (.aload_n 1, 1) := by decide +kernel
theorem dL_law_173 : decode cL_law 173 = .ok (.aload_n 0, 1) := by decide +kernel
theorem dL_law_174 : decode cL_law 174 = .ok (.iload_n 3, 1) := by decide +kernel
theorem dL_law_175 : decode cL_law 175 = .ok (.iconst 1, 1) := by decide +kernel
theorem dL_law_176 : decode cL_law 176 = .ok (.iadd, 1) := by decide +kernel
theorem dL_law_177 : decode cL_law 177 = .ok (.iaload, 1) := by decide +kernel
theorem dL_law_178 : decode cL_law 178 = .ok (.aload_n 0, 1) := by decide +kernel
theorem dL_law_179 : decode cL_law 179 = .ok (.iload_n 3, 1) := by decide +kernel
theorem dL_law_180 : decode cL_law 180 = .ok (.iconst 2, 1) := by decide +kernel
theorem dL_law_181 : decode cL_law 181 = .ok (.iadd, 1) := by decide +kernel
theorem dL_law_182 : decode cL_law 182 = .ok (.iaload, 1) := by decide +kernel
theorem dL_law_183 : decode cL_law 183 = .ok (.aload_n 0, 1) := by decide +kernel
theorem dL_law_184 : decode cL_law 184 = .ok (.iload_n 3, 1) := by decide +kernel
theorem dL_law_185 : decode cL_law 185 = .ok (.iconst 3, 1) := by decide +kernel
theorem dL_law_186 : decode cL_law 186 = .ok (.iadd, 1) := by decide +kernel
theorem dL_law_187 : decode cL_law 187 = .ok (.iaload, 1) := by decide +kernel
theorem dL_law_188 : decode cL_law 188 = .ok (.invokevirtual 13, 3) := by decide +kernel
theorem dL_law_191 : decode cL_law 191 = .ok (.aload_n 2, 1) := by decide +kernel
theorem dL_law_192 : decode cL_law 192 = .ok (.aload_n 0, 1) := by decide +kernel
theorem dL_law_193 : decode cL_law 193 = .ok (.iload_n 3, 1) := by decide +kernel
theorem dL_law_194 : decode cL_law 194 = .ok (.iconst 1, 1) := by decide +kernel
theorem dL_law_195 : decode cL_law 195 = .ok (.iadd, 1) := by decide +kernel
theorem dL_law_196 : decode cL_law 196 = .ok (.iaload, 1) := by decide +kernel
theorem dL_law_197 : decode cL_law 197 = .ok (.aload_n 0, 1) := by decide +kernel
theorem dL_law_198 : decode cL_law 198 = .ok (.iload_n 3, 1) := by decide +kernel
theorem dL_law_199 : decode cL_law 199 = .ok (.iconst 2, 1) := by decide +kernel
theorem dL_law_200 : decode cL_law 200 = .ok (.iadd, 1) := by decide +kernel
theorem dL_law_201 : decode cL_law 201 = .ok (.iaload, 1) := by decide +kernel
theorem dL_law_202 : decode cL_law 202 = .ok (.aload_n 0, 1) := by decide +kernel
theorem dL_law_203 : decode cL_law 203 = .ok (.iload_n 3, 1) := by decide +kernel
theorem dL_law_204 : decode cL_law 204 = .ok (.iconst 3, 1) := by decide +kernel
theorem dL_law_205 : decode cL_law 205 = .ok (.iadd, 1) := by decide +kernel
theorem dL_law_206 : decode cL_law 206 = .ok (.iaload, 1) := by decide +kernel
theorem dL_law_207 : decode cL_law 207 = .ok (.invokevirtual 17, 3) := by decide +kernel
theorem dL_law_210 : decode cL_law 210 = .ok (.if_icmp .eq 1093, 3) := by decide +kernel
theorem dL_law_213 : decode cL_law 213 = .ok (.iconst 0, 1) := by decide +kernel
theorem dL_law_214 : decode cL_law 214 = .ok (.ireturn, 1) := by decide +kernel
theorem dL_law_215 : decode cL_law 215 = .ok (.aload_n 1, 1) := by decide +kernel
theorem dL_law_216 : decode cL_law 216 = .ok (.aload_n 0, 1) := by decide +kernel
theorem dL_law_217 : decode cL_law 217 = .ok (.iload_n 3, 1) := by decide +kernel
theorem dL_law_218 : decode cL_law 218 = .ok (.iconst 1, 1) := by decide +kernel
theorem dL_law_219 : decode cL_law 219 = .ok (.iadd, 1) := by decide +kernel
theorem dL_law_220 : decode cL_law 220 = .ok (.iaload, 1) := by decide +kernel
theorem dL_law_221 : decode cL_law 221 = .ok (.aload_n 0, 1) := by decide +kernel
theorem dL_law_222 : decode cL_law 222 = .ok (.iload_n 3, 1) := by decide +kernel
theorem dL_law_223 : decode cL_law 223 = .ok (.iconst 2, 1) := by decide +kernel
theorem dL_law_224 : decode cL_law 224 = .ok (.iadd, 1) := by decide +kernel
theorem dL_law_225 : decode cL_law 225 = .ok (.iaload, 1) := by decide +kernel
theorem dL_law_226 : decode cL_law 226 = .ok (.invokevirtual 18, 3) := by decide +kernel
theorem dL_law_229 : decode cL_law 229 = .ok (.aload_n 2, 1) := by decide +kernel
theorem dL_law_230 : decode cL_law 230 = .ok (.aload_n 0, 1) := by decide +kernel
theorem dL_law_231 : decode cL_law 231 = .ok (.iload_n 3, 1) := by decide +kernel
theorem dL_law_232 : decode cL_law 232 = .ok (.iconst 1, 1) := by decide +kernel
theorem dL_law_233 : decode cL_law 233 = .ok (.iadd, 1) := by decide +kernel
theorem dL_law_234 : decode cL_law 234 = .ok (.iaload, 1) := by decide +kernel
theorem dL_law_235 : decode cL_law 235 = .ok (.aload_n 0, 1) := by decide +kernel
theorem dL_law_236 : decode cL_law 236 = .ok (.iload_n 3, 1) := by decide +kernel
theorem dL_law_237 : decode cL_law 237 = .ok (.iconst 2, 1) := by decide +kernel
theorem dL_law_238 : decode cL_law 238 = .ok (.iadd, 1) := by decide +kernel
theorem dL_law_239 : decode cL_law 239 = .ok (.iaload, 1) := by decide +kernel
theorem dL_law_240 : decode cL_law 240 = .ok (.invokevirtual 22, 3) := by decide +kernel
theorem dL_law_243 : decode cL_law 243 = .ok (.if_icmp .eq 1060, 3) := by decide +kernel
theorem dL_law_246 : decode cL_law 246 = .ok (.iconst 0, 1) := by decide +kernel
theorem dL_law_247 : decode cL_law 247 = .ok (.ireturn, 1) := by decide +kernel
theorem dL_law_248 : decode cL_law 248 = .ok (.aload_n 1, 1) := by decide +kernel
theorem dL_law_249 : decode cL_law 249 = .ok (.aload_n 0, 1) := by decide +kernel
theorem dL_law_250 : decode cL_law 250 = .ok (.iload_n 3, 1) := by decide +kernel
theorem dL_law_251 : decode cL_law 251 = .ok (.iconst 1, 1) := by decide +kernel
theorem dL_law_252 : decode cL_law 252 = .ok (.iadd, 1) := by decide +kernel
theorem dL_law_253 : decode cL_law 253 = .ok (.iaload, 1) := by decide +kernel
theorem dL_law_254 : decode cL_law 254 = .ok (.aload_n 0, 1) := by decide +kernel
theorem dL_law_255 : decode cL_law 255 = .ok (.iload_n 3, 1) := by decide +kernel
theorem dL_law_256 : decode cL_law 256 = .ok (.iconst 2, 1) := by decide +kernel
theorem dL_law_257 : decode cL_law 257 = .ok (.iadd, 1) := by decide +kernel
theorem dL_law_258 : decode cL_law 258 = .ok (.iaload, 1) := by decide +kernel
theorem dL_law_259 : decode cL_law 259 = .ok (.aload_n 0, 1) := by decide +kernel
theorem dL_law_260 : decode cL_law 260 = .ok (.iload_n 3, 1) := by decide +kernel
theorem dL_law_261 : decode cL_law 261 = .ok (.iconst 3, 1) := by decide +kernel
theorem dL_law_262 : decode cL_law 262 = .ok (.iadd, 1) := by decide +kernel
theorem dL_law_263 : decode cL_law 263 = .ok (.iaload, 1) := by decide +kernel
theorem dL_law_264 : decode cL_law 264 = .ok (.aload_n 0, 1) := by decide +kernel
theorem dL_law_265 : decode cL_law 265 = .ok (.iload_n 3, 1) := by decide +kernel
theorem dL_law_266 : decode cL_law 266 = .ok (.iconst 4, 1) := by decide +kernel
theorem dL_law_267 : decode cL_law 267 = .ok (.iadd, 1) := by decide +kernel
theorem dL_law_268 : decode cL_law 268 = .ok (.iaload, 1) := by decide +kernel
theorem dL_law_269 : decode cL_law 269 = .ok (.invokevirtual 23, 3) := by decide +kernel
theorem dL_law_272 : decode cL_law 272 = .ok (.aload_n 2, 1) := by decide +kernel
theorem dL_law_273 : decode cL_law 273 = .ok (.aload_n 0, 1) := by decide +kernel
theorem dL_law_274 : decode cL_law 274 = .ok (.iload_n 3, 1) := by decide +kernel
theorem dL_law_275 : decode cL_law 275 = .ok (.iconst 1, 1) := by decide +kernel
theorem dL_law_276 : decode cL_law 276 = .ok (.iadd, 1) := by decide +kernel
theorem dL_law_277 : decode cL_law 277 = .ok (.iaload, 1) := by decide +kernel
theorem dL_law_278 : decode cL_law 278 = .ok (.aload_n 0, 1) := by decide +kernel
theorem dL_law_279 : decode cL_law 279 = .ok (.iload_n 3, 1) := by decide +kernel
theorem dL_law_280 : decode cL_law 280 = .ok (.iconst 2, 1) := by decide +kernel
theorem dL_law_281 : decode cL_law 281 = .ok (.iadd, 1) := by decide +kernel
theorem dL_law_282 : decode cL_law 282 = .ok (.iaload, 1) := by decide +kernel
theorem dL_law_283 : decode cL_law 283 = .ok (.aload_n 0, 1) := by decide +kernel
theorem dL_law_284 : decode cL_law 284 = .ok (.iload_n 3, 1) := by decide +kernel
theorem dL_law_285 : decode cL_law 285 = .ok (.iconst 3, 1) := by decide +kernel
theorem dL_law_286 : decode cL_law 286 = .ok (.iadd, 1) := by decide +kernel
theorem dL_law_287 : decode cL_law 287 = .ok (.iaload, 1) := by decide +kernel
theorem dL_law_288 : decode cL_law 288 = .ok (.aload_n 0, 1) := by decide +kernel
theorem dL_law_289 : decode cL_law 289 = .ok (.iload_n 3, 1) := by decide +kernel
theorem dL_law_290 : decode cL_law 290 = .ok (.iconst 4, 1) := by decide +kernel
theorem dL_law_291 : decode cL_law 291 = .ok (.iadd, 1) := by decide +kernel
theorem dL_law_292 : decode cL_law 292 = .ok (.iaload, 1) := by decide +kernel
theorem dL_law_293 : decode cL_law 293 = .ok (.invokevirtual 27, 3) := by decide +kernel
theorem dL_law_296 : decode cL_law 296 = .ok (.if_icmp .eq 1007, 3) := by decide +kernel
theorem dL_law_299 : decode cL_law 299 = .ok (.iconst 0, 1) := by decide +kernel
theorem dL_law_300 : decode cL_law 300 = .ok (.ireturn, 1) := by decide +kernel
theorem dL_law_301 : decode cL_law 301 = .ok (.aload_n 1, 1) := by decide +kernel
theorem dL_law_302 : decode cL_law 302 = .ok (.aload_n 0, 1) := by decide +kernel
theorem dL_law_303 : decode cL_law 303 = .ok (.iload_n 3, 1) := by decide +kernel
theorem dL_law_304 : decode cL_law 304 = .ok (.iconst 1, 1) := by decide +kernel
theorem dL_law_305 : decode cL_law 305 = .ok (.iadd, 1) := by decide +kernel
theorem dL_law_306 : decode cL_law 306 = .ok (.iaload, 1) := by decide +kernel
theorem dL_law_307 : decode cL_law 307 = .ok (.invokevirtual 28, 3) := by decide +kernel
theorem dL_law_310 : decode cL_law 310 = .ok (.aload_n 2, 1) := by decide +kernel
theorem dL_law_311 : decode cL_law 311 = .ok (.aload_n 0, 1) := by decide +kernel
theorem dL_law_312 : decode cL_law 312 = .ok (.iload_n 3, 1) := by decide +kernel
theorem dL_law_313 : decode cL_law 313 = .ok (.iconst 1, 1) := by decide +kernel
theorem dL_law_314 : decode cL_law 314 = .ok (.iadd, 1) := by decide +kernel
theorem dL_law_315 : decode cL_law 315 = .ok (.iaload, 1) := by decide +kernel
theorem dL_law_316 : decode cL_law 316 = .ok (.invokevirtual 32, 3) := by decide +kernel
theorem dL_law_319 : decode cL_law 319 = .ok (.if_icmp .eq 984, 3) := by decide +kernel
theorem dL_law_322 : decode cL_law 322 = .ok (.iconst 0, 1) := by decide +kernel
theorem dL_law_323 : decode cL_law 323 = .ok (.ireturn, 1) := by decide +kernel
theorem dL_law_324 : decode cL_law 324 = .ok (.aload_n 1, 1) := by decide +kernel
theorem dL_law_325 : decode cL_law 325 = .ok (.aload_n 0, 1) := by decide +kernel
theorem dL_law_326 : decode cL_law 326 = .ok (.iload_n 3, 1) := by decide +kernel
theorem dL_law_327 : decode cL_law 327 = .ok (.iconst 1, 1) := by decide +kernel
theorem dL_law_328 : decode cL_law 328 = .ok (.iadd, 1) := by decide +kernel
theorem dL_law_329 : decode cL_law 329 = .ok (.iaload, 1) := by decide +kernel
theorem dL_law_330 : decode cL_law 330 = .ok (.aload_n 0, 1) := by decide +kernel
theorem dL_law_331 : decode cL_law 331 = .ok (.iload_n 3, 1) := by decide +kernel
theorem dL_law_332 : decode cL_law 332 = .ok (.iconst 2, 1) := by decide +kernel
theorem dL_law_333 : decode cL_law 333 = .ok (.iadd, 1) := by decide +kernel
theorem dL_law_334 : decode cL_law 334 = .ok (.iaload, 1) := by decide +kernel
theorem dL_law_335 : decode cL_law 335 = .ok (.aload_n 0, 1) := by decide +kernel
theorem dL_law_336 : decode cL_law 336 = .ok (.iload_n 3, 1) := by decide +kernel
theorem dL_law_337 : decode cL_law 337 = .ok (.iconst 3, 1) := by decide +kernel
theorem dL_law_338 : decode cL_law 338 = .ok (.iadd, 1) := by decide +kernel
theorem dL_law_339 : decode cL_law 339 = .ok (.iaload, 1) := by decide +kernel
theorem dL_law_340 : decode cL_law 340 = .ok (.invokevirtual 33, 3) := by decide +kernel
theorem dL_law_343 : decode cL_law 343 = .ok (.aload_n 2, 1) := by decide +kernel
theorem dL_law_344 : decode cL_law 344 = .ok (.aload_n 0, 1) := by decide +kernel
theorem dL_law_345 : decode cL_law 345 = .ok (.iload_n 3, 1) := by decide +kernel
theorem dL_law_346 : decode cL_law 346 = .ok (.iconst 1, 1) := by decide +kernel
theorem dL_law_347 : decode cL_law 347 = .ok (.iadd, 1) := by decide +kernel
theorem dL_law_348 : decode cL_law 348 = .ok (.iaload, 1) := by decide +kernel
theorem dL_law_349 : decode cL_law 349 = .ok (.aload_n 0, 1) := by decide +kernel
theorem dL_law_350 : decode cL_law 350 = .ok (.iload_n 3, 1) := by decide +kernel
theorem dL_law_351 : decode cL_law 351 = .ok (.iconst 2, 1) := by decide +kernel
theorem dL_law_352 : decode cL_law 352 = .ok (.iadd, 1) := by decide +kernel
theorem dL_law_353 : decode cL_law 353 = .ok (.iaload, 1) := by decide +kernel
theorem dL_law_354 : decode cL_law 354 = .ok (.aload_n 0, 1) := by decide +kernel
theorem dL_law_355 : decode cL_law 355 = .ok (.iload_n 3, 1) := by decide +kernel
theorem dL_law_356 : decode cL_law 356 = .ok (.iconst 3, 1) := by decide +kernel
theorem dL_law_357 : decode cL_law 357 = .ok (.iadd, 1) := by decide +kernel
theorem dL_law_358 : decode cL_law 358 = .ok (.iaload, 1) := by decide +kernel
theorem dL_law_359 : decode cL_law 359 = .ok (.invokevirtual 36, 3) := by decide +kernel
theorem dL_law_362 : decode cL_law 362 = .ok (.if_icmp .eq 941, 3) := by decide +kernel
theorem dL_law_365 : decode cL_law 365 = .ok (.iconst 0, 1) := by decide +kernel
theorem dL_law_366 : decode cL_law 366 = .ok (.ireturn, 1) := by decide +kernel
theorem dL_law_367 : decode cL_law 367 = .ok (.aload_n 1, 1) := by decide +kernel
theorem dL_law_368 : decode cL_law 368 = .ok (.aload_n 0, 1) := by decide +kernel
theorem dL_law_369 : decode cL_law 369 = .ok (.iload_n 3, 1) := by decide +kernel
theorem dL_law_370 : decode cL_law 370 = .ok (.iconst 1, 1) := by decide +kernel
theorem dL_law_371 : decode cL_law 371 = .ok (.iadd, 1) := by decide +kernel
theorem dL_law_372 : decode cL_law 372 = .ok (.iaload, 1) := by decide +kernel
theorem dL_law_373 : decode cL_law 373 = .ok (.aload_n 0, 1) := by decide +kernel
theorem dL_law_374 : decode cL_law 374 = .ok (.iload_n 3, 1) := by decide +kernel
theorem dL_law_375 : decode cL_law 375 = .ok (.iconst 2, 1) := by decide +kernel
theorem dL_law_376 : decode cL_law 376 = .ok (.iadd, 1) := by decide +kernel
theorem dL_law_377 : decode cL_law 377 = .ok (.iaload, 1) := by decide +kernel
theorem dL_law_378 : decode cL_law 378 = .ok (.invokevirtual 37, 3) := by decide +kernel
theorem dL_law_381 : decode cL_law 381 = .ok (.aload_n 2, 1) := by decide +kernel
theorem dL_law_382 : decode cL_law 382 = .ok (.aload_n 0, 1) := by decide +kernel
theorem dL_law_383 : decode cL_law 383 = .ok (.iload_n 3, 1) := by decide +kernel
theorem dL_law_384 : decode cL_law 384 = .ok (.iconst 1, 1) := by decide +kernel
theorem dL_law_385 : decode cL_law 385 = .ok (.iadd, 1) := by decide +kernel
theorem dL_law_386 : decode cL_law 386 = .ok (.iaload, 1) := by decide +kernel
theorem dL_law_387 : decode cL_law 387 = .ok (.aload_n 0, 1) := by decide +kernel
theorem dL_law_388 : decode cL_law 388 = .ok (.iload_n 3, 1) := by decide +kernel
theorem dL_law_389 : decode cL_law 389 = .ok (.iconst 2, 1) := by decide +kernel
theorem dL_law_390 : decode cL_law 390 = .ok (.iadd, 1) := by decide +kernel
theorem dL_law_391 : decode cL_law 391 = .ok (.iaload, 1) := by decide +kernel
theorem dL_law_392 : decode cL_law 392 = .ok (.invokevirtual 40, 3) := by decide +kernel
theorem dL_law_395 : decode cL_law 395 = .ok (.if_icmp .eq 908, 3) := by decide +kernel
theorem dL_law_398 : decode cL_law 398 = .ok (.iconst 0, 1) := by decide +kernel
theorem dL_law_399 : decode cL_law 399 = .ok (.ireturn, 1) := by decide +kernel
theorem dL_law_400 : decode cL_law 400 = .ok (.aload_n 1, 1) := by decide +kernel
theorem dL_law_401 : decode cL_law 401 = .ok (.aload_n 0, 1) := by decide +kernel
theorem dL_law_402 : decode cL_law 402 = .ok (.iload_n 3, 1) := by decide +kernel
theorem dL_law_403 : decode cL_law 403 = .ok (.iconst 1, 1) := by decide +kernel
theorem dL_law_404 : decode cL_law 404 = .ok (.iadd, 1) := by decide +kernel
theorem dL_law_405 : decode cL_law 405 = .ok (.iaload, 1) := by decide +kernel
theorem dL_law_406 : decode cL_law 406 = .ok (.aload_n 0, 1) := by decide +kernel
theorem dL_law_407 : decode cL_law 407 = .ok (.iload_n 3, 1) := by decide +kernel
theorem dL_law_408 : decode cL_law 408 = .ok (.iconst 2, 1) := by decide +kernel
theorem dL_law_409 : decode cL_law 409 = .ok (.iadd, 1) := by decide +kernel
theorem dL_law_410 : decode cL_law 410 = .ok (.iaload, 1) := by decide +kernel
theorem dL_law_411 : decode cL_law 411 = .ok (.invokevirtual 41, 3) := by decide +kernel
theorem dL_law_414 : decode cL_law 414 = .ok (.aload_n 2, 1) := by decide +kernel
theorem dL_law_415 : decode cL_law 415 = .ok (.aload_n 0, 1) := by decide +kernel
theorem dL_law_416 : decode cL_law 416 = .ok (.iload_n 3, 1) := by decide +kernel
theorem dL_law_417 : decode cL_law 417 = .ok (.iconst 1, 1) := by decide +kernel
theorem dL_law_418 : decode cL_law 418 = .ok (.iadd, 1) := by decide +kernel
theorem dL_law_419 : decode cL_law 419 = .ok (.iaload, 1) := by decide +kernel
theorem dL_law_420 : decode cL_law 420 = .ok (.aload_n 0, 1) := by decide +kernel
theorem dL_law_421 : decode cL_law 421 = .ok (.iload_n 3, 1) := by decide +kernel
theorem dL_law_422 : decode cL_law 422 = .ok (.iconst 2, 1) := by decide +kernel
theorem dL_law_423 : decode cL_law 423 = .ok (.iadd, 1) := by decide +kernel
theorem dL_law_424 : decode cL_law 424 = .ok (.iaload, 1) := by decide +kernel
theorem dL_law_425 : decode cL_law 425 = .ok (.invokevirtual 44, 3) := by decide +kernel
theorem dL_law_428 : decode cL_law 428 = .ok (.if_icmp .eq 875, 3) := by decide +kernel
theorem dL_law_431 : decode cL_law 431 = .ok (.iconst 0, 1) := by decide +kernel
theorem dL_law_432 : decode cL_law 432 = .ok (.ireturn, 1) := by decide +kernel
theorem dL_law_433 : decode cL_law 433 = .ok (.aload_n 1, 1) := by decide +kernel
theorem dL_law_434 : decode cL_law 434 = .ok (.aload_n 0, 1) := by decide +kernel
theorem dL_law_435 : decode cL_law 435 = .ok (.iload_n 3, 1) := by decide +kernel
theorem dL_law_436 : decode cL_law 436 = .ok (.iconst 1, 1) := by decide +kernel
theorem dL_law_437 : decode cL_law 437 = .ok (.iadd, 1) := by decide +kernel
theorem dL_law_438 : decode cL_law 438 = .ok (.iaload, 1) := by decide +kernel
theorem dL_law_439 : decode cL_law 439 = .ok (.aload_n 0, 1) := by decide +kernel
theorem dL_law_440 : decode cL_law 440 = .ok (.iload_n 3, 1) := by decide +kernel
theorem dL_law_441 : decode cL_law 441 = .ok (.iconst 2, 1) := by decide +kernel
theorem dL_law_442 : decode cL_law 442 = .ok (.iadd, 1) := by decide +kernel
theorem dL_law_443 : decode cL_law 443 = .ok (.iaload, 1) := by decide +kernel
theorem dL_law_444 : decode cL_law 444 = .ok (.invokevirtual 45, 3) := by decide +kernel
theorem dL_law_447 : decode cL_law 447 = .ok (.aload_n 2, 1) := by decide +kernel
theorem dL_law_448 : decode cL_law 448 = .ok (.aload_n 0, 1) := by decide +kernel
theorem dL_law_449 : decode cL_law 449 = .ok (.iload_n 3, 1) := by decide +kernel
theorem dL_law_450 : decode cL_law 450 = .ok (.iconst 1, 1) := by decide +kernel
theorem dL_law_451 : decode cL_law 451 = .ok (.iadd, 1) := by decide +kernel
theorem dL_law_452 : decode cL_law 452 = .ok (.iaload, 1) := by decide +kernel
theorem dL_law_453 : decode cL_law 453 = .ok (.aload_n 0, 1) := by decide +kernel
theorem dL_law_454 : decode cL_law 454 = .ok (.iload_n 3, 1) := by decide +kernel
theorem dL_law_455 : decode cL_law 455 = .ok (.iconst 2, 1) := by decide +kernel
theorem dL_law_456 : decode cL_law 456 = .ok (.iadd, 1) := by decide +kernel
theorem dL_law_457 : decode cL_law 457 = .ok (.iaload, 1) := by decide +kernel
theorem dL_law_458 : decode cL_law 458 = .ok (.invokevirtual 48, 3) := by decide +kernel
theorem dL_law_461 : decode cL_law 461 = .ok (.if_icmp .eq 842, 3) := by decide +kernel
theorem dL_law_464 : decode cL_law 464 = .ok (.iconst 0, 1) := by decide +kernel
theorem dL_law_465 : decode cL_law 465 = .ok (.ireturn, 1) := by decide +kernel
theorem dL_law_466 : decode cL_law 466 = .ok (.aload_n 1, 1) := by decide +kernel
theorem dL_law_467 : decode cL_law 467 = .ok (.aload_n 0, 1) := by decide +kernel
theorem dL_law_468 : decode cL_law 468 = .ok (.iload_n 3, 1) := by decide +kernel
theorem dL_law_469 : decode cL_law 469 = .ok (.iconst 1, 1) := by decide +kernel
theorem dL_law_470 : decode cL_law 470 = .ok (.iadd, 1) := by decide +kernel
theorem dL_law_471 : decode cL_law 471 = .ok (.iaload, 1) := by decide +kernel
theorem dL_law_472 : decode cL_law 472 = .ok (.aload_n 0, 1) := by decide +kernel
theorem dL_law_473 : decode cL_law 473 = .ok (.iload_n 3, 1) := by decide +kernel
theorem dL_law_474 : decode cL_law 474 = .ok (.iconst 2, 1) := by decide +kernel
theorem dL_law_475 : decode cL_law 475 = .ok (.iadd, 1) := by decide +kernel
theorem dL_law_476 : decode cL_law 476 = .ok (.iaload, 1) := by decide +kernel
theorem dL_law_477 : decode cL_law 477 = .ok (.invokevirtual 49, 3) := by decide +kernel
theorem dL_law_480 : decode cL_law 480 = .ok (.aload_n 2, 1) := by decide +kernel
theorem dL_law_481 : decode cL_law 481 = .ok (.aload_n 0, 1) := by decide +kernel
theorem dL_law_482 : decode cL_law 482 = .ok (.iload_n 3, 1) := by decide +kernel
theorem dL_law_483 : decode cL_law 483 = .ok (.iconst 1, 1) := by decide +kernel
theorem dL_law_484 : decode cL_law 484 = .ok (.iadd, 1) := by decide +kernel
theorem dL_law_485 : decode cL_law 485 = .ok (.iaload, 1) := by decide +kernel
theorem dL_law_486 : decode cL_law 486 = .ok (.aload_n 0, 1) := by decide +kernel
theorem dL_law_487 : decode cL_law 487 = .ok (.iload_n 3, 1) := by decide +kernel
theorem dL_law_488 : decode cL_law 488 = .ok (.iconst 2, 1) := by decide +kernel
theorem dL_law_489 : decode cL_law 489 = .ok (.iadd, 1) := by decide +kernel
theorem dL_law_490 : decode cL_law 490 = .ok (.iaload, 1) := by decide +kernel
theorem dL_law_491 : decode cL_law 491 = .ok (.invokevirtual 52, 3) := by decide +kernel
theorem dL_law_494 : decode cL_law 494 = .ok (.if_icmp .eq 809, 3) := by decide +kernel
theorem dL_law_497 : decode cL_law 497 = .ok (.iconst 0, 1) := by decide +kernel
theorem dL_law_498 : decode cL_law 498 = .ok (.ireturn, 1) := by decide +kernel
theorem dL_law_499 : decode cL_law 499 = .ok (.aload_n 1, 1) := by decide +kernel
theorem dL_law_500 : decode cL_law 500 = .ok (.aload_n 0, 1) := by decide +kernel
theorem dL_law_501 : decode cL_law 501 = .ok (.iload_n 3, 1) := by decide +kernel
theorem dL_law_502 : decode cL_law 502 = .ok (.iconst 1, 1) := by decide +kernel
theorem dL_law_503 : decode cL_law 503 = .ok (.iadd, 1) := by decide +kernel
theorem dL_law_504 : decode cL_law 504 = .ok (.iaload, 1) := by decide +kernel
theorem dL_law_505 : decode cL_law 505 = .ok (.aload_n 0, 1) := by decide +kernel
theorem dL_law_506 : decode cL_law 506 = .ok (.iload_n 3, 1) := by decide +kernel
theorem dL_law_507 : decode cL_law 507 = .ok (.iconst 2, 1) := by decide +kernel
theorem dL_law_508 : decode cL_law 508 = .ok (.iadd, 1) := by decide +kernel
theorem dL_law_509 : decode cL_law 509 = .ok (.iaload, 1) := by decide +kernel
theorem dL_law_510 : decode cL_law 510 = .ok (.aload_n 0, 1) := by decide +kernel
theorem dL_law_511 : decode cL_law 511 = .ok (.iload_n 3, 1) := by decide +kernel
theorem dL_law_512 : decode cL_law 512 = .ok (.iconst 3, 1) := by decide +kernel
theorem dL_law_513 : decode cL_law 513 = .ok (.iadd, 1) := by decide +kernel
theorem dL_law_514 : decode cL_law 514 = .ok (.iaload, 1) := by decide +kernel
theorem dL_law_515 : decode cL_law 515 = .ok (.invokevirtual 53, 3) := by decide +kernel
theorem dL_law_518 : decode cL_law 518 = .ok (.aload_n 2, 1) := by decide +kernel
theorem dL_law_519 : decode cL_law 519 = .ok (.aload_n 0, 1) := by decide +kernel
theorem dL_law_520 : decode cL_law 520 = .ok (.iload_n 3, 1) := by decide +kernel
theorem dL_law_521 : decode cL_law 521 = .ok (.iconst 1, 1) := by decide +kernel
theorem dL_law_522 : decode cL_law 522 = .ok (.iadd, 1) := by decide +kernel
theorem dL_law_523 : decode cL_law 523 = .ok (.iaload, 1) := by decide +kernel
theorem dL_law_524 : decode cL_law 524 = .ok (.aload_n 0, 1) := by decide +kernel
theorem dL_law_525 : decode cL_law 525 = .ok (.iload_n 3, 1) := by decide +kernel
theorem dL_law_526 : decode cL_law 526 = .ok (.iconst 2, 1) := by decide +kernel
theorem dL_law_527 : decode cL_law 527 = .ok (.iadd, 1) := by decide +kernel
theorem dL_law_528 : decode cL_law 528 = .ok (.iaload, 1) := by decide +kernel
theorem dL_law_529 : decode cL_law 529 = .ok (.aload_n 0, 1) := by decide +kernel
theorem dL_law_530 : decode cL_law 530 = .ok (.iload_n 3, 1) := by decide +kernel
theorem dL_law_531 : decode cL_law 531 = .ok (.iconst 3, 1) := by decide +kernel
theorem dL_law_532 : decode cL_law 532 = .ok (.iadd, 1) := by decide +kernel
theorem dL_law_533 : decode cL_law 533 = .ok (.iaload, 1) := by decide +kernel
theorem dL_law_534 : decode cL_law 534 = .ok (.invokevirtual 56, 3) := by decide +kernel
theorem dL_law_537 : decode cL_law 537 = .ok (.if_icmp .eq 766, 3) := by decide +kernel
theorem dL_law_540 : decode cL_law 540 = .ok (.iconst 0, 1) := by decide +kernel
theorem dL_law_541 : decode cL_law 541 = .ok (.ireturn, 1) := by decide +kernel
theorem dL_law_542 : decode cL_law 542 = .ok (.aload_n 1, 1) := by decide +kernel
theorem dL_law_543 : decode cL_law 543 = .ok (.aload_n 0, 1) := by decide +kernel
theorem dL_law_544 : decode cL_law 544 = .ok (.iload_n 3, 1) := by decide +kernel
theorem dL_law_545 : decode cL_law 545 = .ok (.iconst 1, 1) := by decide +kernel
theorem dL_law_546 : decode cL_law 546 = .ok (.iadd, 1) := by decide +kernel
theorem dL_law_547 : decode cL_law 547 = .ok (.iaload, 1) := by decide +kernel
theorem dL_law_548 : decode cL_law 548 = .ok (.aload_n 0, 1) := by decide +kernel
theorem dL_law_549 : decode cL_law 549 = .ok (.iload_n 3, 1) := by decide +kernel
theorem dL_law_550 : decode cL_law 550 = .ok (.iconst 2, 1) := by decide +kernel
theorem dL_law_551 : decode cL_law 551 = .ok (.iadd, 1) := by decide +kernel
theorem dL_law_552 : decode cL_law 552 = .ok (.iaload, 1) := by decide +kernel
theorem dL_law_553 : decode cL_law 553 = .ok (.invokevirtual 57, 3) := by decide +kernel
theorem dL_law_556 : decode cL_law 556 = .ok (.aload_n 2, 1) := by decide +kernel
theorem dL_law_557 : decode cL_law 557 = .ok (.aload_n 0, 1) := by decide +kernel
theorem dL_law_558 : decode cL_law 558 = .ok (.iload_n 3, 1) := by decide +kernel
theorem dL_law_559 : decode cL_law 559 = .ok (.iconst 1, 1) := by decide +kernel
theorem dL_law_560 : decode cL_law 560 = .ok (.iadd, 1) := by decide +kernel
theorem dL_law_561 : decode cL_law 561 = .ok (.iaload, 1) := by decide +kernel
theorem dL_law_562 : decode cL_law 562 = .ok (.aload_n 0, 1) := by decide +kernel
theorem dL_law_563 : decode cL_law 563 = .ok (.iload_n 3, 1) := by decide +kernel
theorem dL_law_564 : decode cL_law 564 = .ok (.iconst 2, 1) := by decide +kernel
theorem dL_law_565 : decode cL_law 565 = .ok (.iadd, 1) := by decide +kernel
theorem dL_law_566 : decode cL_law 566 = .ok (.iaload, 1) := by decide +kernel
theorem dL_law_567 : decode cL_law 567 = .ok (.invokevirtual 60, 3) := by decide +kernel
theorem dL_law_570 : decode cL_law 570 = .ok (.if_icmp .eq 733, 3) := by decide +kernel
theorem dL_law_573 : decode cL_law 573 = .ok (.iconst 0, 1) := by decide +kernel
theorem dL_law_574 : decode cL_law 574 = .ok (.ireturn, 1) := by decide +kernel
theorem dL_law_575 : decode cL_law 575 = .ok (.aload_n 1, 1) := by decide +kernel
theorem dL_law_576 : decode cL_law 576 = .ok (.aload_n 0, 1) := by decide +kernel
theorem dL_law_577 : decode cL_law 577 = .ok (.iload_n 3, 1) := by decide +kernel
theorem dL_law_578 : decode cL_law 578 = .ok (.iconst 1, 1) := by decide +kernel
theorem dL_law_579 : decode cL_law 579 = .ok (.iadd, 1) := by decide +kernel
theorem dL_law_580 : decode cL_law 580 = .ok (.iaload, 1) := by decide +kernel
theorem dL_law_581 : decode cL_law 581 = .ok (.aload_n 0, 1) := by decide +kernel
theorem dL_law_582 : decode cL_law 582 = .ok (.iload_n 3, 1) := by decide +kernel
theorem dL_law_583 : decode cL_law 583 = .ok (.iconst 2, 1) := by decide +kernel
theorem dL_law_584 : decode cL_law 584 = .ok (.iadd, 1) := by decide +kernel
theorem dL_law_585 : decode cL_law 585 = .ok (.iaload, 1) := by decide +kernel
theorem dL_law_586 : decode cL_law 586 = .ok (.aload_n 0, 1) := by decide +kernel
theorem dL_law_587 : decode cL_law 587 = .ok (.iload_n 3, 1) := by decide +kernel
theorem dL_law_588 : decode cL_law 588 = .ok (.iconst 3, 1) := by decide +kernel
theorem dL_law_589 : decode cL_law 589 = .ok (.iadd, 1) := by decide +kernel
theorem dL_law_590 : decode cL_law 590 = .ok (.iaload, 1) := by decide +kernel
theorem dL_law_591 : decode cL_law 591 = .ok (.invokevirtual 61, 3) := by decide +kernel
theorem dL_law_594 : decode cL_law 594 = .ok (.aload_n 2, 1) := by decide +kernel
theorem dL_law_595 : decode cL_law 595 = .ok (.aload_n 0, 1) := by decide +kernel
theorem dL_law_596 : decode cL_law 596 = .ok (.iload_n 3, 1) := by decide +kernel
theorem dL_law_597 : decode cL_law 597 = .ok (.iconst 1, 1) := by decide +kernel
theorem dL_law_598 : decode cL_law 598 = .ok (.iadd, 1) := by decide +kernel
theorem dL_law_599 : decode cL_law 599 = .ok (.iaload, 1) := by decide +kernel
theorem dL_law_600 : decode cL_law 600 = .ok (.aload_n 0, 1) := by decide +kernel
theorem dL_law_601 : decode cL_law 601 = .ok (.iload_n 3, 1) := by decide +kernel
theorem dL_law_602 : decode cL_law 602 = .ok (.iconst 2, 1) := by decide +kernel
theorem dL_law_603 : decode cL_law 603 = .ok (.iadd, 1) := by decide +kernel
theorem dL_law_604 : decode cL_law 604 = .ok (.iaload, 1) := by decide +kernel
theorem dL_law_605 : decode cL_law 605 = .ok (.aload_n 0, 1) := by decide +kernel
theorem dL_law_606 : decode cL_law 606 = .ok (.iload_n 3, 1) := by decide +kernel
theorem dL_law_607 : decode cL_law 607 = .ok (.iconst 3, 1) := by decide +kernel
theorem dL_law_608 : decode cL_law 608 = .ok (.iadd, 1) := by decide +kernel
theorem dL_law_609 : decode cL_law 609 = .ok (.iaload, 1) := by decide +kernel
theorem dL_law_610 : decode cL_law 610 = .ok (.invokevirtual 64, 3) := by decide +kernel
theorem dL_law_613 : decode cL_law 613 = .ok (.if_icmp .eq 690, 3) := by decide +kernel
theorem dL_law_616 : decode cL_law 616 = .ok (.iconst 0, 1) := by decide +kernel
theorem dL_law_617 : decode cL_law 617 = .ok (.ireturn, 1) := by decide +kernel
theorem dL_law_618 : decode cL_law 618 = .ok (.aload_n 1, 1) := by decide +kernel
theorem dL_law_619 : decode cL_law 619 = .ok (.aload_n 0, 1) := by decide +kernel
theorem dL_law_620 : decode cL_law 620 = .ok (.iload_n 3, 1) := by decide +kernel
theorem dL_law_621 : decode cL_law 621 = .ok (.iconst 1, 1) := by decide +kernel
theorem dL_law_622 : decode cL_law 622 = .ok (.iadd, 1) := by decide +kernel
theorem dL_law_623 : decode cL_law 623 = .ok (.iaload, 1) := by decide +kernel
theorem dL_law_624 : decode cL_law 624 = .ok (.aload_n 0, 1) := by decide +kernel
theorem dL_law_625 : decode cL_law 625 = .ok (.iload_n 3, 1) := by decide +kernel
theorem dL_law_626 : decode cL_law 626 = .ok (.iconst 2, 1) := by decide +kernel
theorem dL_law_627 : decode cL_law 627 = .ok (.iadd, 1) := by decide +kernel
theorem dL_law_628 : decode cL_law 628 = .ok (.iaload, 1) := by decide +kernel
theorem dL_law_629 : decode cL_law 629 = .ok (.aload_n 0, 1) := by decide +kernel
theorem dL_law_630 : decode cL_law 630 = .ok (.iload_n 3, 1) := by decide +kernel
theorem dL_law_631 : decode cL_law 631 = .ok (.iconst 3, 1) := by decide +kernel
theorem dL_law_632 : decode cL_law 632 = .ok (.iadd, 1) := by decide +kernel
theorem dL_law_633 : decode cL_law 633 = .ok (.iaload, 1) := by decide +kernel
theorem dL_law_634 : decode cL_law 634 = .ok (.invokevirtual 65, 3) := by decide +kernel
theorem dL_law_637 : decode cL_law 637 = .ok (.aload_n 2, 1) := by decide +kernel
theorem dL_law_638 : decode cL_law 638 = .ok (.aload_n 0, 1) := by decide +kernel
theorem dL_law_639 : decode cL_law 639 = .ok (.iload_n 3, 1) := by decide +kernel
theorem dL_law_640 : decode cL_law 640 = .ok (.iconst 1, 1) := by decide +kernel
theorem dL_law_641 : decode cL_law 641 = .ok (.iadd, 1) := by decide +kernel
theorem dL_law_642 : decode cL_law 642 = .ok (.iaload, 1) := by decide +kernel
theorem dL_law_643 : decode cL_law 643 = .ok (.aload_n 0, 1) := by decide +kernel
theorem dL_law_644 : decode cL_law 644 = .ok (.iload_n 3, 1) := by decide +kernel
theorem dL_law_645 : decode cL_law 645 = .ok (.iconst 2, 1) := by decide +kernel
theorem dL_law_646 : decode cL_law 646 = .ok (.iadd, 1) := by decide +kernel
theorem dL_law_647 : decode cL_law 647 = .ok (.iaload, 1) := by decide +kernel
theorem dL_law_648 : decode cL_law 648 = .ok (.aload_n 0, 1) := by decide +kernel
theorem dL_law_649 : decode cL_law 649 = .ok (.iload_n 3, 1) := by decide +kernel
theorem dL_law_650 : decode cL_law 650 = .ok (.iconst 3, 1) := by decide +kernel
theorem dL_law_651 : decode cL_law 651 = .ok (.iadd, 1) := by decide +kernel
theorem dL_law_652 : decode cL_law 652 = .ok (.iaload, 1) := by decide +kernel
theorem dL_law_653 : decode cL_law 653 = .ok (.invokevirtual 68, 3) := by decide +kernel
theorem dL_law_656 : decode cL_law 656 = .ok (.if_icmp .eq 647, 3) := by decide +kernel
theorem dL_law_659 : decode cL_law 659 = .ok (.iconst 0, 1) := by decide +kernel
theorem dL_law_660 : decode cL_law 660 = .ok (.ireturn, 1) := by decide +kernel
theorem dL_law_661 : decode cL_law 661 = .ok (.aload_n 1, 1) := by decide +kernel
theorem dL_law_662 : decode cL_law 662 = .ok (.aload_n 0, 1) := by decide +kernel
theorem dL_law_663 : decode cL_law 663 = .ok (.iload_n 3, 1) := by decide +kernel
theorem dL_law_664 : decode cL_law 664 = .ok (.iconst 1, 1) := by decide +kernel
theorem dL_law_665 : decode cL_law 665 = .ok (.iadd, 1) := by decide +kernel
theorem dL_law_666 : decode cL_law 666 = .ok (.iaload, 1) := by decide +kernel
theorem dL_law_667 : decode cL_law 667 = .ok (.aload_n 0, 1) := by decide +kernel
theorem dL_law_668 : decode cL_law 668 = .ok (.iload_n 3, 1) := by decide +kernel
theorem dL_law_669 : decode cL_law 669 = .ok (.iconst 2, 1) := by decide +kernel
theorem dL_law_670 : decode cL_law 670 = .ok (.iadd, 1) := by decide +kernel
theorem dL_law_671 : decode cL_law 671 = .ok (.iaload, 1) := by decide +kernel
theorem dL_law_672 : decode cL_law 672 = .ok (.aload_n 0, 1) := by decide +kernel
theorem dL_law_673 : decode cL_law 673 = .ok (.iload_n 3, 1) := by decide +kernel
theorem dL_law_674 : decode cL_law 674 = .ok (.iconst 3, 1) := by decide +kernel
theorem dL_law_675 : decode cL_law 675 = .ok (.iadd, 1) := by decide +kernel
theorem dL_law_676 : decode cL_law 676 = .ok (.iaload, 1) := by decide +kernel
theorem dL_law_677 : decode cL_law 677 = .ok (.ifCond .eq 7, 3) := by decide +kernel
theorem dL_law_680 : decode cL_law 680 = .ok (.iconst 1, 1) := by decide +kernel
theorem dL_law_681 : decode cL_law 681 = .ok (.goto 4, 3) := by decide +kernel
theorem dL_law_684 : decode cL_law 684 = .ok (.iconst 0, 1) := by decide +kernel
theorem dL_law_685 : decode cL_law 685 = .ok (.invokevirtual 69, 3) := by decide +kernel
theorem dL_law_688 : decode cL_law 688 = .ok (.aload_n 2, 1) := by decide +kernel
theorem dL_law_689 : decode cL_law 689 = .ok (.aload_n 0, 1) := by decide +kernel
theorem dL_law_690 : decode cL_law 690 = .ok (.iload_n 3, 1) := by decide +kernel
theorem dL_law_691 : decode cL_law 691 = .ok (.iconst 1, 1) := by decide +kernel
theorem dL_law_692 : decode cL_law 692 = .ok (.iadd, 1) := by decide +kernel
theorem dL_law_693 : decode cL_law 693 = .ok (.iaload, 1) := by decide +kernel
theorem dL_law_694 : decode cL_law 694 = .ok (.aload_n 0, 1) := by decide +kernel
theorem dL_law_695 : decode cL_law 695 = .ok (.iload_n 3, 1) := by decide +kernel
theorem dL_law_696 : decode cL_law 696 = .ok (.iconst 2, 1) := by decide +kernel
theorem dL_law_697 : decode cL_law 697 = .ok (.iadd, 1) := by decide +kernel
theorem dL_law_698 : decode cL_law 698 = .ok (.iaload, 1) := by decide +kernel
theorem dL_law_699 : decode cL_law 699 = .ok (.aload_n 0, 1) := by decide +kernel
theorem dL_law_700 : decode cL_law 700 = .ok (.iload_n 3, 1) := by decide +kernel
theorem dL_law_701 : decode cL_law 701 = .ok (.iconst 3, 1) := by decide +kernel
theorem dL_law_702 : decode cL_law 702 = .ok (.iadd, 1) := by decide +kernel
theorem dL_law_703 : decode cL_law 703 = .ok (.iaload, 1) := by decide +kernel
theorem dL_law_704 : decode cL_law 704 = .ok (.ifCond .eq 7, 3) := by decide +kernel
theorem dL_law_707 : decode cL_law 707 = .ok (.iconst 1, 1) := by decide +kernel
theorem dL_law_708 : decode cL_law 708 = .ok (.goto 4, 3) := by decide +kernel
theorem dL_law_711 : decode cL_law 711 = .ok (.iconst 0, 1) := by decide +kernel
theorem dL_law_712 : decode cL_law 712 = .ok (.invokevirtual 73, 3) := by decide +kernel
theorem dL_law_715 : decode cL_law 715 = .ok (.if_icmp .eq 588, 3) := by decide +kernel
theorem dL_law_718 : decode cL_law 718 = .ok (.iconst 0, 1) := by decide +kernel
theorem dL_law_719 : decode cL_law 719 = .ok (.ireturn, 1) := by decide +kernel
theorem dL_law_720 : decode cL_law 720 = .ok (.aload_n 1, 1) := by decide +kernel
theorem dL_law_721 : decode cL_law 721 = .ok (.aload_n 0, 1) := by decide +kernel
theorem dL_law_722 : decode cL_law 722 = .ok (.iload_n 3, 1) := by decide +kernel
theorem dL_law_723 : decode cL_law 723 = .ok (.iconst 1, 1) := by decide +kernel
theorem dL_law_724 : decode cL_law 724 = .ok (.iadd, 1) := by decide +kernel
theorem dL_law_725 : decode cL_law 725 = .ok (.iaload, 1) := by decide +kernel
theorem dL_law_726 : decode cL_law 726 = .ok (.invokevirtual 74, 3) := by decide +kernel
theorem dL_law_729 : decode cL_law 729 = .ok (.aload_n 2, 1) := by decide +kernel
theorem dL_law_730 : decode cL_law 730 = .ok (.aload_n 0, 1) := by decide +kernel
theorem dL_law_731 : decode cL_law 731 = .ok (.iload_n 3, 1) := by decide +kernel
theorem dL_law_732 : decode cL_law 732 = .ok (.iconst 1, 1) := by decide +kernel
theorem dL_law_733 : decode cL_law 733 = .ok (.iadd, 1) := by decide +kernel
theorem dL_law_734 : decode cL_law 734 = .ok (.iaload, 1) := by decide +kernel
theorem dL_law_735 : decode cL_law 735 = .ok (.invokevirtual 77, 3) := by decide +kernel
theorem dL_law_738 : decode cL_law 738 = .ok (.if_icmp .eq 565, 3) := by decide +kernel
theorem dL_law_741 : decode cL_law 741 = .ok (.iconst 0, 1) := by decide +kernel
theorem dL_law_742 : decode cL_law 742 = .ok (.ireturn, 1) := by decide +kernel
theorem dL_law_743 : decode cL_law 743 = .ok (.aload_n 1, 1) := by decide +kernel
theorem dL_law_744 : decode cL_law 744 = .ok (.aload_n 0, 1) := by decide +kernel
theorem dL_law_745 : decode cL_law 745 = .ok (.iload_n 3, 1) := by decide +kernel
theorem dL_law_746 : decode cL_law 746 = .ok (.iconst 1, 1) := by decide +kernel
theorem dL_law_747 : decode cL_law 747 = .ok (.iadd, 1) := by decide +kernel
theorem dL_law_748 : decode cL_law 748 = .ok (.iaload, 1) := by decide +kernel
theorem dL_law_749 : decode cL_law 749 = .ok (.invokevirtual 78, 3) := by decide +kernel
theorem dL_law_752 : decode cL_law 752 = .ok (.aload_n 2, 1) := by decide +kernel
theorem dL_law_753 : decode cL_law 753 = .ok (.aload_n 0, 1) := by decide +kernel
theorem dL_law_754 : decode cL_law 754 = .ok (.iload_n 3, 1) := by decide +kernel
theorem dL_law_755 : decode cL_law 755 = .ok (.iconst 1, 1) := by decide +kernel
theorem dL_law_756 : decode cL_law 756 = .ok (.iadd, 1) := by decide +kernel
theorem dL_law_757 : decode cL_law 757 = .ok (.iaload, 1) := by decide +kernel
theorem dL_law_758 : decode cL_law 758 = .ok (.invokevirtual 81, 3) := by decide +kernel
theorem dL_law_761 : decode cL_law 761 = .ok (.if_icmp .eq 542, 3) := by decide +kernel
theorem dL_law_764 : decode cL_law 764 = .ok (.iconst 0, 1) := by decide +kernel
theorem dL_law_765 : decode cL_law 765 = .ok (.ireturn, 1) := by decide +kernel
theorem dL_law_766 : decode cL_law 766 = .ok (.aload_n 1, 1) := by decide +kernel
theorem dL_law_767 : decode cL_law 767 = .ok (.aload_n 0, 1) := by decide +kernel
theorem dL_law_768 : decode cL_law 768 = .ok (.iload_n 3, 1) := by decide +kernel
theorem dL_law_769 : decode cL_law 769 = .ok (.iconst 1, 1) := by decide +kernel
theorem dL_law_770 : decode cL_law 770 = .ok (.iadd, 1) := by decide +kernel
theorem dL_law_771 : decode cL_law 771 = .ok (.iaload, 1) := by decide +kernel
theorem dL_law_772 : decode cL_law 772 = .ok (.invokevirtual 82, 3) := by decide +kernel
theorem dL_law_775 : decode cL_law 775 = .ok (.aload_n 2, 1) := by decide +kernel
theorem dL_law_776 : decode cL_law 776 = .ok (.aload_n 0, 1) := by decide +kernel
theorem dL_law_777 : decode cL_law 777 = .ok (.iload_n 3, 1) := by decide +kernel
theorem dL_law_778 : decode cL_law 778 = .ok (.iconst 1, 1) := by decide +kernel
theorem dL_law_779 : decode cL_law 779 = .ok (.iadd, 1) := by decide +kernel
theorem dL_law_780 : decode cL_law 780 = .ok (.iaload, 1) := by decide +kernel
theorem dL_law_781 : decode cL_law 781 = .ok (.invokevirtual 85, 3) := by decide +kernel
theorem dL_law_784 : decode cL_law 784 = .ok (.if_icmp .eq 519, 3) := by decide +kernel
theorem dL_law_787 : decode cL_law 787 = .ok (.iconst 0, 1) := by decide +kernel
theorem dL_law_788 : decode cL_law 788 = .ok (.ireturn, 1) := by decide +kernel
theorem dL_law_789 : decode cL_law 789 = .ok (.aload_n 1, 1) := by decide +kernel
theorem dL_law_790 : decode cL_law 790 = .ok (.aload_n 0, 1) := by decide +kernel
theorem dL_law_791 : decode cL_law 791 = .ok (.iload_n 3, 1) := by decide +kernel
theorem dL_law_792 : decode cL_law 792 = .ok (.iconst 1, 1) := by decide +kernel
theorem dL_law_793 : decode cL_law 793 = .ok (.iadd, 1) := by decide +kernel
theorem dL_law_794 : decode cL_law 794 = .ok (.iaload, 1) := by decide +kernel
theorem dL_law_795 : decode cL_law 795 = .ok (.aload_n 0, 1) := by decide +kernel
theorem dL_law_796 : decode cL_law 796 = .ok (.iload_n 3, 1) := by decide +kernel
theorem dL_law_797 : decode cL_law 797 = .ok (.iconst 2, 1) := by decide +kernel
theorem dL_law_798 : decode cL_law 798 = .ok (.iadd, 1) := by decide +kernel
theorem dL_law_799 : decode cL_law 799 = .ok (.iaload, 1) := by decide +kernel
theorem dL_law_800 : decode cL_law 800 = .ok (.invokevirtual 86, 3) := by decide +kernel
theorem dL_law_803 : decode cL_law 803 = .ok (.aload_n 2, 1) := by decide +kernel
theorem dL_law_804 : decode cL_law 804 = .ok (.aload_n 0, 1) := by decide +kernel
theorem dL_law_805 : decode cL_law 805 = .ok (.iload_n 3, 1) := by decide +kernel
theorem dL_law_806 : decode cL_law 806 = .ok (.iconst 1, 1) := by decide +kernel
theorem dL_law_807 : decode cL_law 807 = .ok (.iadd, 1) := by decide +kernel
theorem dL_law_808 : decode cL_law 808 = .ok (.iaload, 1) := by decide +kernel
theorem dL_law_809 : decode cL_law 809 = .ok (.aload_n 0, 1) := by decide +kernel
theorem dL_law_810 : decode cL_law 810 = .ok (.iload_n 3, 1) := by decide +kernel
theorem dL_law_811 : decode cL_law 811 = .ok (.iconst 2, 1) := by decide +kernel
theorem dL_law_812 : decode cL_law 812 = .ok (.iadd, 1) := by decide +kernel
theorem dL_law_813 : decode cL_law 813 = .ok (.iaload, 1) := by decide +kernel
theorem dL_law_814 : decode cL_law 814 = .ok (.invokevirtual 89, 3) := by decide +kernel
theorem dL_law_817 : decode cL_law 817 = .ok (.if_icmp .eq 486, 3) := by decide +kernel
theorem dL_law_820 : decode cL_law 820 = .ok (.iconst 0, 1) := by decide +kernel
theorem dL_law_821 : decode cL_law 821 = .ok (.ireturn, 1) := by decide +kernel
theorem dL_law_822 : decode cL_law 822 = .ok (.aload_n 1, 1) := by decide +kernel
theorem dL_law_823 : decode cL_law 823 = .ok (.aload_n 0, 1) := by decide +kernel
theorem dL_law_824 : decode cL_law 824 = .ok (.iload_n 3, 1) := by decide +kernel
theorem dL_law_825 : decode cL_law 825 = .ok (.iconst 1, 1) := by decide +kernel
theorem dL_law_826 : decode cL_law 826 = .ok (.iadd, 1) := by decide +kernel
theorem dL_law_827 : decode cL_law 827 = .ok (.iaload, 1) := by decide +kernel
theorem dL_law_828 : decode cL_law 828 = .ok (.invokevirtual 90, 3) := by decide +kernel
theorem dL_law_831 : decode cL_law 831 = .ok (.aload_n 2, 1) := by decide +kernel
theorem dL_law_832 : decode cL_law 832 = .ok (.aload_n 0, 1) := by decide +kernel
theorem dL_law_833 : decode cL_law 833 = .ok (.iload_n 3, 1) := by decide +kernel
theorem dL_law_834 : decode cL_law 834 = .ok (.iconst 1, 1) := by decide +kernel
theorem dL_law_835 : decode cL_law 835 = .ok (.iadd, 1) := by decide +kernel
theorem dL_law_836 : decode cL_law 836 = .ok (.iaload, 1) := by decide +kernel
theorem dL_law_837 : decode cL_law 837 = .ok (.invokevirtual 93, 3) := by decide +kernel
theorem dL_law_840 : decode cL_law 840 = .ok (.if_icmp .eq 463, 3) := by decide +kernel
theorem dL_law_843 : decode cL_law 843 = .ok (.iconst 0, 1) := by decide +kernel
theorem dL_law_844 : decode cL_law 844 = .ok (.ireturn, 1) := by decide +kernel
theorem dL_law_845 : decode cL_law 845 = .ok (.aload_n 1, 1) := by decide +kernel
theorem dL_law_846 : decode cL_law 846 = .ok (.aload_n 0, 1) := by decide +kernel
theorem dL_law_847 : decode cL_law 847 = .ok (.iload_n 3, 1) := by decide +kernel
theorem dL_law_848 : decode cL_law 848 = .ok (.iconst 1, 1) := by decide +kernel
theorem dL_law_849 : decode cL_law 849 = .ok (.iadd, 1) := by decide +kernel
theorem dL_law_850 : decode cL_law 850 = .ok (.iaload, 1) := by decide +kernel
theorem dL_law_851 : decode cL_law 851 = .ok (.invokevirtual 94, 3) := by decide +kernel
theorem dL_law_854 : decode cL_law 854 = .ok (.aload_n 2, 1) := by decide +kernel
theorem dL_law_855 : decode cL_law 855 = .ok (.aload_n 0, 1) := by decide +kernel
theorem dL_law_856 : decode cL_law 856 = .ok (.iload_n 3, 1) := by decide +kernel
theorem dL_law_857 : decode cL_law 857 = .ok (.iconst 1, 1) := by decide +kernel
theorem dL_law_858 : decode cL_law 858 = .ok (.iadd, 1) := by decide +kernel
theorem dL_law_859 : decode cL_law 859 = .ok (.iaload, 1) := by decide +kernel
theorem dL_law_860 : decode cL_law 860 = .ok (.invokevirtual 97, 3) := by decide +kernel
theorem dL_law_863 : decode cL_law 863 = .ok (.if_icmp .eq 440, 3) := by decide +kernel
theorem dL_law_866 : decode cL_law 866 = .ok (.iconst 0, 1) := by decide +kernel
theorem dL_law_867 : decode cL_law 867 = .ok (.ireturn, 1) := by decide +kernel
theorem dL_law_868 : decode cL_law 868 = .ok (.aload_n 1, 1) := by decide +kernel
theorem dL_law_869 : decode cL_law 869 = .ok (.aload_n 0, 1) := by decide +kernel
theorem dL_law_870 : decode cL_law 870 = .ok (.iload_n 3, 1) := by decide +kernel
theorem dL_law_871 : decode cL_law 871 = .ok (.iconst 1, 1) := by decide +kernel
theorem dL_law_872 : decode cL_law 872 = .ok (.iadd, 1) := by decide +kernel
theorem dL_law_873 : decode cL_law 873 = .ok (.iaload, 1) := by decide +kernel
theorem dL_law_874 : decode cL_law 874 = .ok (.invokevirtual 98, 3) := by decide +kernel
theorem dL_law_877 : decode cL_law 877 = .ok (.aload_n 2, 1) := by decide +kernel
theorem dL_law_878 : decode cL_law 878 = .ok (.aload_n 0, 1) := by decide +kernel
theorem dL_law_879 : decode cL_law 879 = .ok (.iload_n 3, 1) := by decide +kernel
theorem dL_law_880 : decode cL_law 880 = .ok (.iconst 1, 1) := by decide +kernel
theorem dL_law_881 : decode cL_law 881 = .ok (.iadd, 1) := by decide +kernel
theorem dL_law_882 : decode cL_law 882 = .ok (.iaload, 1) := by decide +kernel
theorem dL_law_883 : decode cL_law 883 = .ok (.invokevirtual 101, 3) := by decide +kernel
theorem dL_law_886 : decode cL_law 886 = .ok (.if_icmp .eq 417, 3) := by decide +kernel
theorem dL_law_889 : decode cL_law 889 = .ok (.iconst 0, 1) := by decide +kernel
theorem dL_law_890 : decode cL_law 890 = .ok (.ireturn, 1) := by decide +kernel
theorem dL_law_891 : decode cL_law 891 = .ok (.aload_n 1, 1) := by decide +kernel
theorem dL_law_892 : decode cL_law 892 = .ok (.aload_n 0, 1) := by decide +kernel
theorem dL_law_893 : decode cL_law 893 = .ok (.iload_n 3, 1) := by decide +kernel
theorem dL_law_894 : decode cL_law 894 = .ok (.iconst 1, 1) := by decide +kernel
theorem dL_law_895 : decode cL_law 895 = .ok (.iadd, 1) := by decide +kernel
theorem dL_law_896 : decode cL_law 896 = .ok (.iaload, 1) := by decide +kernel
theorem dL_law_897 : decode cL_law 897 = .ok (.aload_n 0, 1) := by decide +kernel
theorem dL_law_898 : decode cL_law 898 = .ok (.iload_n 3, 1) := by decide +kernel
theorem dL_law_899 : decode cL_law 899 = .ok (.iconst 2, 1) := by decide +kernel
theorem dL_law_900 : decode cL_law 900 = .ok (.iadd, 1) := by decide +kernel
theorem dL_law_901 : decode cL_law 901 = .ok (.iaload, 1) := by decide +kernel
theorem dL_law_902 : decode cL_law 902 = .ok (.aload_n 0, 1) := by decide +kernel
theorem dL_law_903 : decode cL_law 903 = .ok (.iload_n 3, 1) := by decide +kernel
theorem dL_law_904 : decode cL_law 904 = .ok (.iconst 3, 1) := by decide +kernel
theorem dL_law_905 : decode cL_law 905 = .ok (.iadd, 1) := by decide +kernel
theorem dL_law_906 : decode cL_law 906 = .ok (.iaload, 1) := by decide +kernel
theorem dL_law_907 : decode cL_law 907 = .ok (.invokevirtual 102, 3) := by decide +kernel
theorem dL_law_910 : decode cL_law 910 = .ok (.aload_n 2, 1) := by decide +kernel
theorem dL_law_911 : decode cL_law 911 = .ok (.aload_n 0, 1) := by decide +kernel
theorem dL_law_912 : decode cL_law 912 = .ok (.iload_n 3, 1) := by decide +kernel
theorem dL_law_913 : decode cL_law 913 = .ok (.iconst 1, 1) := by decide +kernel
theorem dL_law_914 : decode cL_law 914 = .ok (.iadd, 1) := by decide +kernel
theorem dL_law_915 : decode cL_law 915 = .ok (.iaload, 1) := by decide +kernel
theorem dL_law_916 : decode cL_law 916 = .ok (.aload_n 0, 1) := by decide +kernel
theorem dL_law_917 : decode cL_law 917 = .ok (.iload_n 3, 1) := by decide +kernel
theorem dL_law_918 : decode cL_law 918 = .ok (.iconst 2, 1) := by decide +kernel
theorem dL_law_919 : decode cL_law 919 = .ok (.iadd, 1) := by decide +kernel
theorem dL_law_920 : decode cL_law 920 = .ok (.iaload, 1) := by decide +kernel
theorem dL_law_921 : decode cL_law 921 = .ok (.aload_n 0, 1) := by decide +kernel
theorem dL_law_922 : decode cL_law 922 = .ok (.iload_n 3, 1) := by decide +kernel
theorem dL_law_923 : decode cL_law 923 = .ok (.iconst 3, 1) := by decide +kernel
theorem dL_law_924 : decode cL_law 924 = .ok (.iadd, 1) := by decide +kernel
theorem dL_law_925 : decode cL_law 925 = .ok (.iaload, 1) := by decide +kernel
theorem dL_law_926 : decode cL_law 926 = .ok (.invokevirtual 105, 3) := by decide +kernel
theorem dL_law_929 : decode cL_law 929 = .ok (.if_icmp .eq 374, 3) := by decide +kernel
theorem dL_law_932 : decode cL_law 932 = .ok (.iconst 0, 1) := by decide +kernel
theorem dL_law_933 : decode cL_law 933 = .ok (.ireturn, 1) := by decide +kernel
theorem dL_law_934 : decode cL_law 934 = .ok (.aload_n 1, 1) := by decide +kernel
theorem dL_law_935 : decode cL_law 935 = .ok (.aload_n 0, 1) := by decide +kernel
theorem dL_law_936 : decode cL_law 936 = .ok (.iload_n 3, 1) := by decide +kernel
theorem dL_law_937 : decode cL_law 937 = .ok (.iconst 1, 1) := by decide +kernel
theorem dL_law_938 : decode cL_law 938 = .ok (.iadd, 1) := by decide +kernel
theorem dL_law_939 : decode cL_law 939 = .ok (.iaload, 1) := by decide +kernel
theorem dL_law_940 : decode cL_law 940 = .ok (.aload_n 0, 1) := by decide +kernel
theorem dL_law_941 : decode cL_law 941 = .ok (.iload_n 3, 1) := by decide +kernel
theorem dL_law_942 : decode cL_law 942 = .ok (.iconst 2, 1) := by decide +kernel
theorem dL_law_943 : decode cL_law 943 = .ok (.iadd, 1) := by decide +kernel
theorem dL_law_944 : decode cL_law 944 = .ok (.iaload, 1) := by decide +kernel
theorem dL_law_945 : decode cL_law 945 = .ok (.aload_n 0, 1) := by decide +kernel
theorem dL_law_946 : decode cL_law 946 = .ok (.iload_n 3, 1) := by decide +kernel
theorem dL_law_947 : decode cL_law 947 = .ok (.iconst 3, 1) := by decide +kernel
theorem dL_law_948 : decode cL_law 948 = .ok (.iadd, 1) := by decide +kernel
theorem dL_law_949 : decode cL_law 949 = .ok (.iaload, 1) := by decide +kernel
theorem dL_law_950 : decode cL_law 950 = .ok (.aload_n 0, 1) := by decide +kernel
theorem dL_law_951 : decode cL_law 951 = .ok (.iload_n 3, 1) := by decide +kernel
theorem dL_law_952 : decode cL_law 952 = .ok (.iconst 4, 1) := by decide +kernel
theorem dL_law_953 : decode cL_law 953 = .ok (.iadd, 1) := by decide +kernel
theorem dL_law_954 : decode cL_law 954 = .ok (.iaload, 1) := by decide +kernel
theorem dL_law_955 : decode cL_law 955 = .ok (.ifCond .eq 7, 3) := by decide +kernel
theorem dL_law_958 : decode cL_law 958 = .ok (.iconst 1, 1) := by decide +kernel
theorem dL_law_959 : decode cL_law 959 = .ok (.goto 4, 3) := by decide +kernel
theorem dL_law_962 : decode cL_law 962 = .ok (.iconst 0, 1) := by decide +kernel
theorem dL_law_963 : decode cL_law 963 = .ok (.invokevirtual 106, 3) := by decide +kernel
theorem dL_law_966 : decode cL_law 966 = .ok (.aload_n 2, 1) := by decide +kernel
theorem dL_law_967 : decode cL_law 967 = .ok (.aload_n 0, 1) := by decide +kernel
theorem dL_law_968 : decode cL_law 968 = .ok (.iload_n 3, 1) := by decide +kernel
theorem dL_law_969 : decode cL_law 969 = .ok (.iconst 1, 1) := by decide +kernel
theorem dL_law_970 : decode cL_law 970 = .ok (.iadd, 1) := by decide +kernel
theorem dL_law_971 : decode cL_law 971 = .ok (.iaload, 1) := by decide +kernel
theorem dL_law_972 : decode cL_law 972 = .ok (.aload_n 0, 1) := by decide +kernel
theorem dL_law_973 : decode cL_law 973 = .ok (.iload_n 3, 1) := by decide +kernel
theorem dL_law_974 : decode cL_law 974 = .ok (.iconst 2, 1) := by decide +kernel
theorem dL_law_975 : decode cL_law 975 = .ok (.iadd, 1) := by decide +kernel
theorem dL_law_976 : decode cL_law 976 = .ok (.iaload, 1) := by decide +kernel
theorem dL_law_977 : decode cL_law 977 = .ok (.aload_n 0, 1) := by decide +kernel
theorem dL_law_978 : decode cL_law 978 = .ok (.iload_n 3, 1) := by decide +kernel
theorem dL_law_979 : decode cL_law 979 = .ok (.iconst 3, 1) := by decide +kernel
theorem dL_law_980 : decode cL_law 980 = .ok (.iadd, 1) := by decide +kernel
theorem dL_law_981 : decode cL_law 981 = .ok (.iaload, 1) := by decide +kernel
theorem dL_law_982 : decode cL_law 982 = .ok (.aload_n 0, 1) := by decide +kernel
theorem dL_law_983 : decode cL_law 983 = .ok (.iload_n 3, 1) := by decide +kernel
theorem dL_law_984 : decode cL_law 984 = .ok (.iconst 4, 1) := by decide +kernel
theorem dL_law_985 : decode cL_law 985 = .ok (.iadd, 1) := by decide +kernel
theorem dL_law_986 : decode cL_law 986 = .ok (.iaload, 1) := by decide +kernel
theorem dL_law_987 : decode cL_law 987 = .ok (.ifCond .eq 7, 3) := by decide +kernel
theorem dL_law_990 : decode cL_law 990 = .ok (.iconst 1, 1) := by decide +kernel
theorem dL_law_991 : decode cL_law 991 = .ok (.goto 4, 3) := by decide +kernel
theorem dL_law_994 : decode cL_law 994 = .ok (.iconst 0, 1) := by decide +kernel
theorem dL_law_995 : decode cL_law 995 = .ok (.invokevirtual 110, 3) := by decide +kernel
theorem dL_law_998 : decode cL_law 998 = .ok (.if_icmp .eq 305, 3) := by decide +kernel
theorem dL_law_1001 : decode cL_law 1001 = .ok (.iconst 0, 1) := by decide +kernel
theorem dL_law_1002 : decode cL_law 1002 = .ok (.ireturn, 1) := by decide +kernel
theorem dL_law_1003 : decode cL_law 1003 = .ok (.aload_n 1, 1) := by decide +kernel
theorem dL_law_1004 : decode cL_law 1004 = .ok (.aload_n 0, 1) := by decide +kernel
theorem dL_law_1005 : decode cL_law 1005 = .ok (.iload_n 3, 1) := by decide +kernel
theorem dL_law_1006 : decode cL_law 1006 = .ok (.iconst 1, 1) := by decide +kernel
theorem dL_law_1007 : decode cL_law 1007 = .ok (.iadd, 1) := by decide +kernel
theorem dL_law_1008 : decode cL_law 1008 = .ok (.iaload, 1) := by decide +kernel
theorem dL_law_1009 : decode cL_law 1009 = .ok (.aload_n 0, 1) := by decide +kernel
theorem dL_law_1010 : decode cL_law 1010 = .ok (.iload_n 3, 1) := by decide +kernel
theorem dL_law_1011 : decode cL_law 1011 = .ok (.iconst 2, 1) := by decide +kernel
theorem dL_law_1012 : decode cL_law 1012 = .ok (.iadd, 1) := by decide +kernel
theorem dL_law_1013 : decode cL_law 1013 = .ok (.iaload, 1) := by decide +kernel
theorem dL_law_1014 : decode cL_law 1014 = .ok (.aload_n 0, 1) := by decide +kernel
theorem dL_law_1015 : decode cL_law 1015 = .ok (.iload_n 3, 1) := by decide +kernel
theorem dL_law_1016 : decode cL_law 1016 = .ok (.iconst 3, 1) := by decide +kernel
theorem dL_law_1017 : decode cL_law 1017 = .ok (.iadd, 1) := by decide +kernel
theorem dL_law_1018 : decode cL_law 1018 = .ok (.iaload, 1) := by decide +kernel
theorem dL_law_1019 : decode cL_law 1019 = .ok (.ifCond .eq 7, 3) := by decide +kernel
theorem dL_law_1022 : decode cL_law 1022 = .ok (.iconst 1, 1) := by decide +kernel
theorem dL_law_1023 : decode cL_law 1023 = .ok (.goto 4, 3) := by decide +kernel
theorem dL_law_1026 : decode cL_law 1026 = .ok (.iconst 0, 1) := by decide +kernel
theorem dL_law_1027 : decode cL_law 1027 = .ok (.invokevirtual 111, 3) := by decide +kernel
theorem dL_law_1030 : decode cL_law 1030 = .ok (.aload_n 2, 1) := by decide +kernel
theorem dL_law_1031 : decode cL_law 1031 = .ok (.aload_n 0, 1) := by decide +kernel
theorem dL_law_1032 : decode cL_law 1032 = .ok (.iload_n 3, 1) := by decide +kernel
theorem dL_law_1033 : decode cL_law 1033 = .ok (.iconst 1, 1) := by decide +kernel
theorem dL_law_1034 : decode cL_law 1034 = .ok (.iadd, 1) := by decide +kernel
theorem dL_law_1035 : decode cL_law 1035 = .ok (.iaload, 1) := by decide +kernel
theorem dL_law_1036 : decode cL_law 1036 = .ok (.aload_n 0, 1) := by decide +kernel
theorem dL_law_1037 : decode cL_law 1037 = .ok (.iload_n 3, 1) := by decide +kernel
theorem dL_law_1038 : decode cL_law 1038 = .ok (.iconst 2, 1) := by decide +kernel
theorem dL_law_1039 : decode cL_law 1039 = .ok (.iadd, 1) := by decide +kernel
theorem dL_law_1040 : decode cL_law 1040 = .ok (.iaload, 1) := by decide +kernel
theorem dL_law_1041 : decode cL_law 1041 = .ok (.aload_n 0, 1) := by decide +kernel
theorem dL_law_1042 : decode cL_law 1042 = .ok (.iload_n 3, 1) := by decide +kernel
theorem dL_law_1043 : decode cL_law 1043 = .ok (.iconst 3, 1) := by decide +kernel
theorem dL_law_1044 : decode cL_law 1044 = .ok (.iadd, 1) := by decide +kernel
theorem dL_law_1045 : decode cL_law 1045 = .ok (.iaload, 1) := by decide +kernel
theorem dL_law_1046 : decode cL_law 1046 = .ok (.ifCond .eq 7, 3) := by decide +kernel
theorem dL_law_1049 : decode cL_law 1049 = .ok (.iconst 1, 1) := by decide +kernel
theorem dL_law_1050 : decode cL_law 1050 = .ok (.goto 4, 3) := by decide +kernel
theorem dL_law_1053 : decode cL_law 1053 = .ok (.iconst 0, 1) := by decide +kernel
theorem dL_law_1054 : decode cL_law 1054 = .ok (.invokevirtual 114, 3) := by decide +kernel
theorem dL_law_1057 : decode cL_law 1057 = .ok (.if_icmp .eq 246, 3) := by decide +kernel
theorem dL_law_1060 : decode cL_law 1060 = .ok (.iconst 0, 1) := by decide +kernel
theorem dL_law_1061 : decode cL_law 1061 = .ok (.ireturn, 1) := by decide +kernel
theorem dL_law_1062 : decode cL_law 1062 = .ok (.aload_n 1, 1) := by decide +kernel
theorem dL_law_1063 : decode cL_law 1063 = .ok (.aload_n 0, 1) := by decide +kernel
theorem dL_law_1064 : decode cL_law 1064 = .ok (.iload_n 3, 1) := by decide +kernel
theorem dL_law_1065 : decode cL_law 1065 = .ok (.iconst 1, 1) := by decide +kernel
theorem dL_law_1066 : decode cL_law 1066 = .ok (.iadd, 1) := by decide +kernel
theorem dL_law_1067 : decode cL_law 1067 = .ok (.iaload, 1) := by decide +kernel
theorem dL_law_1068 : decode cL_law 1068 = .ok (.invokevirtual 115, 3) := by decide +kernel
theorem dL_law_1071 : decode cL_law 1071 = .ok (.aload_n 2, 1) := by decide +kernel
theorem dL_law_1072 : decode cL_law 1072 = .ok (.aload_n 0, 1) := by decide +kernel
theorem dL_law_1073 : decode cL_law 1073 = .ok (.iload_n 3, 1) := by decide +kernel
theorem dL_law_1074 : decode cL_law 1074 = .ok (.iconst 1, 1) := by decide +kernel
theorem dL_law_1075 : decode cL_law 1075 = .ok (.iadd, 1) := by decide +kernel
theorem dL_law_1076 : decode cL_law 1076 = .ok (.iaload, 1) := by decide +kernel
theorem dL_law_1077 : decode cL_law 1077 = .ok (.invokevirtual 118, 3) := by decide +kernel
theorem dL_law_1080 : decode cL_law 1080 = .ok (.if_icmp .eq 223, 3) := by decide +kernel
theorem dL_law_1083 : decode cL_law 1083 = .ok (.iconst 0, 1) := by decide +kernel
theorem dL_law_1084 : decode cL_law 1084 = .ok (.ireturn, 1) := by decide +kernel
theorem dL_law_1085 : decode cL_law 1085 = .ok (.aload_n 1, 1) := by decide +kernel
theorem dL_law_1086 : decode cL_law 1086 = .ok (.aload_n 0, 1) := by decide +kernel
theorem dL_law_1087 : decode cL_law 1087 = .ok (.iload_n 3, 1) := by decide +kernel
theorem dL_law_1088 : decode cL_law 1088 = .ok (.iconst 1, 1) := by decide +kernel
theorem dL_law_1089 : decode cL_law 1089 = .ok (.iadd, 1) := by decide +kernel
theorem dL_law_1090 : decode cL_law 1090 = .ok (.iaload, 1) := by decide +kernel
theorem dL_law_1091 : decode cL_law 1091 = .ok (.aload_n 0, 1) := by decide +kernel
theorem dL_law_1092 : decode cL_law 1092 = .ok (.iload_n 3, 1) := by decide +kernel
theorem dL_law_1093 : decode cL_law 1093 = .ok (.iconst 2, 1) := by decide +kernel
theorem dL_law_1094 : decode cL_law 1094 = .ok (.iadd, 1) := by decide +kernel
theorem dL_law_1095 : decode cL_law 1095 = .ok (.iaload, 1) := by decide +kernel
theorem dL_law_1096 : decode cL_law 1096 = .ok (.aload_n 0, 1) := by decide +kernel
theorem dL_law_1097 : decode cL_law 1097 = .ok (.iload_n 3, 1) := by decide +kernel
theorem dL_law_1098 : decode cL_law 1098 = .ok (.iconst 3, 1) := by decide +kernel
theorem dL_law_1099 : decode cL_law 1099 = .ok (.iadd, 1) := by decide +kernel
theorem dL_law_1100 : decode cL_law 1100 = .ok (.iaload, 1) := by decide +kernel
theorem dL_law_1101 : decode cL_law 1101 = .ok (.invokevirtual 119, 3) := by decide +kernel
theorem dL_law_1104 : decode cL_law 1104 = .ok (.aload_n 2, 1) := by decide +kernel
theorem dL_law_1105 : decode cL_law 1105 = .ok (.aload_n 0, 1) := by decide +kernel
theorem dL_law_1106 : decode cL_law 1106 = .ok (.iload_n 3, 1) := by decide +kernel
theorem dL_law_1107 : decode cL_law 1107 = .ok (.iconst 1, 1) := by decide +kernel
theorem dL_law_1108 : decode cL_law 1108 = .ok (.iadd, 1) := by decide +kernel
theorem dL_law_1109 : decode cL_law 1109 = .ok (.iaload, 1) := by decide +kernel
theorem dL_law_1110 : decode cL_law 1110 = .ok (.aload_n 0, 1) := by decide +kernel
theorem dL_law_1111 : decode cL_law 1111 = .ok (.iload_n 3, 1) := by decide +kernel
theorem dL_law_1112 : decode cL_law 1112 = .ok (.iconst 2, 1) := by decide +kernel
theorem dL_law_1113 : decode cL_law 1113 = .ok (.iadd, 1) := by decide +kernel
theorem dL_law_1114 : decode cL_law 1114 = .ok (.iaload, 1) := by decide +kernel
theorem dL_law_1115 : decode cL_law 1115 = .ok (.aload_n 0, 1) := by decide +kernel
theorem dL_law_1116 : decode cL_law 1116 = .ok (.iload_n 3, 1) := by decide +kernel
theorem dL_law_1117 : decode cL_law 1117 = .ok (.iconst 3, 1) := by decide +kernel
theorem dL_law_1118 : decode cL_law 1118 = .ok (.iadd, 1) := by decide +kernel
theorem dL_law_1119 : decode cL_law 1119 = .ok (.iaload, 1) := by decide +kernel
theorem dL_law_1120 : decode cL_law 1120 = .ok (.invokevirtual 122, 3) := by decide +kernel
theorem dL_law_1123 : decode cL_law 1123 = .ok (.if_icmp .eq 180, 3) := by decide +kernel
theorem dL_law_1126 : decode cL_law 1126 = .ok (.iconst 0, 1) := by decide +kernel
theorem dL_law_1127 : decode cL_law 1127 = .ok (.ireturn, 1) := by decide +kernel
theorem dL_law_1128 : decode cL_law 1128 = .ok (.aload_n 1, 1) := by decide +kernel
theorem dL_law_1129 : decode cL_law 1129 = .ok (.aload_n 0, 1) := by decide +kernel
theorem dL_law_1130 : decode cL_law 1130 = .ok (.iload_n 3, 1) := by decide +kernel
theorem dL_law_1131 : decode cL_law 1131 = .ok (.iconst 1, 1) := by decide +kernel
theorem dL_law_1132 : decode cL_law 1132 = .ok (.iadd, 1) := by decide +kernel
theorem dL_law_1133 : decode cL_law 1133 = .ok (.iaload, 1) := by decide +kernel
theorem dL_law_1134 : decode cL_law 1134 = .ok (.aload_n 0, 1) := by decide +kernel
theorem dL_law_1135 : decode cL_law 1135 = .ok (.iload_n 3, 1) := by decide +kernel
theorem dL_law_1136 : decode cL_law 1136 = .ok (.iconst 2, 1) := by decide +kernel
theorem dL_law_1137 : decode cL_law 1137 = .ok (.iadd, 1) := by decide +kernel
theorem dL_law_1138 : decode cL_law 1138 = .ok (.iaload, 1) := by decide +kernel
theorem dL_law_1139 : decode cL_law 1139 = .ok (.aload_n 0, 1) := by decide +kernel
theorem dL_law_1140 : decode cL_law 1140 = .ok (.iload_n 3, 1) := by decide +kernel
theorem dL_law_1141 : decode cL_law 1141 = .ok (.iconst 3, 1) := by decide +kernel
theorem dL_law_1142 : decode cL_law 1142 = .ok (.iadd, 1) := by decide +kernel
theorem dL_law_1143 : decode cL_law 1143 = .ok (.iaload, 1) := by decide +kernel
theorem dL_law_1144 : decode cL_law 1144 = .ok (.invokevirtual 123, 3) := by decide +kernel
theorem dL_law_1147 : decode cL_law 1147 = .ok (.aload_n 2, 1) := by decide +kernel
theorem dL_law_1148 : decode cL_law 1148 = .ok (.aload_n 0, 1) := by decide +kernel
theorem dL_law_1149 : decode cL_law 1149 = .ok (.iload_n 3, 1) := by decide +kernel
theorem dL_law_1150 : decode cL_law 1150 = .ok (.iconst 1, 1) := by decide +kernel
theorem dL_law_1151 : decode cL_law 1151 = .ok (.iadd, 1) := by decide +kernel
theorem dL_law_1152 : decode cL_law 1152 = .ok (.iaload, 1) := by decide +kernel
theorem dL_law_1153 : decode cL_law 1153 = .ok (.aload_n 0, 1) := by decide +kernel
theorem dL_law_1154 : decode cL_law 1154 = .ok (.iload_n 3, 1) := by decide +kernel
theorem dL_law_1155 : decode cL_law 1155 = .ok (.iconst 2, 1) := by decide +kernel
theorem dL_law_1156 : decode cL_law 1156 = .ok (.iadd, 1) := by decide +kernel
theorem dL_law_1157 : decode cL_law 1157 = .ok (.iaload, 1) := by decide +kernel
theorem dL_law_1158 : decode cL_law 1158 = .ok (.aload_n 0, 1) := by decide +kernel
theorem dL_law_1159 : decode cL_law 1159 = .ok (.iload_n 3, 1) := by decide +kernel
theorem dL_law_1160 : decode cL_law 1160 = .ok (.iconst 3, 1) := by decide +kernel
theorem dL_law_1161 : decode cL_law 1161 = .ok (.iadd, 1) := by decide +kernel
theorem dL_law_1162 : decode cL_law 1162 = .ok (.iaload, 1) := by decide +kernel
theorem dL_law_1163 : decode cL_law 1163 = .ok (.invokevirtual 126, 3) := by decide +kernel
theorem dL_law_1166 : decode cL_law 1166 = .ok (.if_icmp .eq 137, 3) := by decide +kernel
theorem dL_law_1169 : decode cL_law 1169 = .ok (.iconst 0, 1) := by decide +kernel
theorem dL_law_1170 : decode cL_law 1170 = .ok (.ireturn, 1) := by decide +kernel
theorem dL_law_1171 : decode cL_law 1171 = .ok (.aload_n 1, 1) := by decide +kernel
theorem dL_law_1172 : decode cL_law 1172 = .ok (.aload_n 0, 1) := by decide +kernel
theorem dL_law_1173 : decode cL_law 1173 = .ok (.iload_n 3, 1) := by decide +kernel
theorem dL_law_1174 : decode cL_law 1174 = .ok (.iconst 1, 1) := by decide +kernel
theorem dL_law_1175 : decode cL_law 1175 = .ok (.iadd, 1) := by decide +kernel
theorem dL_law_1176 : decode cL_law 1176 = .ok (.iaload, 1) := by decide +kernel
theorem dL_law_1177 : decode cL_law 1177 = .ok (.aload_n 0, 1) := by decide +kernel
theorem dL_law_1178 : decode cL_law 1178 = .ok (.iload_n 3, 1) := by decide +kernel
theorem dL_law_1179 : decode cL_law 1179 = .ok (.iconst 2, 1) := by decide +kernel
theorem dL_law_1180 : decode cL_law 1180 = .ok (.iadd, 1) := by decide +kernel
theorem dL_law_1181 : decode cL_law 1181 = .ok (.iaload, 1) := by decide +kernel
theorem dL_law_1182 : decode cL_law 1182 = .ok (.aload_n 0, 1) := by decide +kernel
theorem dL_law_1183 : decode cL_law 1183 = .ok (.iload_n 3, 1) := by decide +kernel
theorem dL_law_1184 : decode cL_law 1184 = .ok (.iconst 3, 1) := by decide +kernel
theorem dL_law_1185 : decode cL_law 1185 = .ok (.iadd, 1) := by decide +kernel
theorem dL_law_1186 : decode cL_law 1186 = .ok (.iaload, 1) := by decide +kernel
theorem dL_law_1187 : decode cL_law 1187 = .ok (.aload_n 0, 1) := by decide +kernel
theorem dL_law_1188 : decode cL_law 1188 = .ok (.iload_n 3, 1) := by decide +kernel
theorem dL_law_1189 : decode cL_law 1189 = .ok (.iconst 4, 1) := by decide +kernel
theorem dL_law_1190 : decode cL_law 1190 = .ok (.iadd, 1) := by decide +kernel
theorem dL_law_1191 : decode cL_law 1191 = .ok (.iaload, 1) := by decide +kernel
theorem dL_law_1192 : decode cL_law 1192 = .ok (.aload_n 0, 1) := by decide +kernel
theorem dL_law_1193 : decode cL_law 1193 = .ok (.iload_n 3, 1) := by decide +kernel
theorem dL_law_1194 : decode cL_law 1194 = .ok (.iconst 5, 1) := by decide +kernel
theorem dL_law_1195 : decode cL_law 1195 = .ok (.iadd, 1) := by decide +kernel
theorem dL_law_1196 : decode cL_law 1196 = .ok (.iaload, 1) := by decide +kernel
theorem dL_law_1197 : decode cL_law 1197 = .ok (.invokevirtual 127, 3) := by decide +kernel
theorem dL_law_1200 : decode cL_law 1200 = .ok (.aload_n 2, 1) := by decide +kernel
theorem dL_law_1201 : decode cL_law 1201 = .ok (.aload_n 0, 1) := by decide +kernel
theorem dL_law_1202 : decode cL_law 1202 = .ok (.iload_n 3, 1) := by decide +kernel
theorem dL_law_1203 : decode cL_law 1203 = .ok (.iconst 1, 1) := by decide +kernel
theorem dL_law_1204 : decode cL_law 1204 = .ok (.iadd, 1) := by decide +kernel
theorem dL_law_1205 : decode cL_law 1205 = .ok (.iaload, 1) := by decide +kernel
theorem dL_law_1206 : decode cL_law 1206 = .ok (.aload_n 0, 1) := by decide +kernel
theorem dL_law_1207 : decode cL_law 1207 = .ok (.iload_n 3, 1) := by decide +kernel
theorem dL_law_1208 : decode cL_law 1208 = .ok (.iconst 2, 1) := by decide +kernel
theorem dL_law_1209 : decode cL_law 1209 = .ok (.iadd, 1) := by decide +kernel
theorem dL_law_1210 : decode cL_law 1210 = .ok (.iaload, 1) := by decide +kernel
theorem dL_law_1211 : decode cL_law 1211 = .ok (.aload_n 0, 1) := by decide +kernel
theorem dL_law_1212 : decode cL_law 1212 = .ok (.iload_n 3, 1) := by decide +kernel
theorem dL_law_1213 : decode cL_law 1213 = .ok (.iconst 3, 1) := by decide +kernel
theorem dL_law_1214 : decode cL_law 1214 = .ok (.iadd, 1) := by decide +kernel
theorem dL_law_1215 : decode cL_law 1215 = .ok (.iaload, 1) := by decide +kernel
theorem dL_law_1216 : decode cL_law 1216 = .ok (.aload_n 0, 1) := by decide +kernel
theorem dL_law_1217 : decode cL_law 1217 = .ok (.iload_n 3, 1) := by decide +kernel
theorem dL_law_1218 : decode cL_law 1218 = .ok (.iconst 4, 1) := by decide +kernel
theorem dL_law_1219 : decode cL_law 1219 = .ok (.iadd, 1) := by decide +kernel
theorem dL_law_1220 : decode cL_law 1220 = .ok (.iaload, 1) := by decide +kernel
theorem dL_law_1221 : decode cL_law 1221 = .ok (.aload_n 0, 1) := by decide +kernel
theorem dL_law_1222 : decode cL_law 1222 = .ok (.iload_n 3, 1) := by decide +kernel
theorem dL_law_1223 : decode cL_law 1223 = .ok (.iconst 5, 1) := by decide +kernel
theorem dL_law_1224 : decode cL_law 1224 = .ok (.iadd, 1) := by decide +kernel
theorem dL_law_1225 : decode cL_law 1225 = .ok (.iaload, 1) := by decide +kernel
theorem dL_law_1226 : decode cL_law 1226 = .ok (.invokevirtual 131, 3) := by decide +kernel
theorem dL_law_1229 : decode cL_law 1229 = .ok (.if_icmp .eq 74, 3) := by decide +kernel
theorem dL_law_1232 : decode cL_law 1232 = .ok (.iconst 0, 1) := by decide +kernel
theorem dL_law_1233 : decode cL_law 1233 = .ok (.ireturn, 1) := by decide +kernel
theorem dL_law_1234 : decode cL_law 1234 = .ok (.aload_n 1, 1) := by decide +kernel
theorem dL_law_1235 : decode cL_law 1235 = .ok (.aload_n 0, 1) := by decide +kernel
theorem dL_law_1236 : decode cL_law 1236 = .ok (.iload_n 3, 1) := by decide +kernel
theorem dL_law_1237 : decode cL_law 1237 = .ok (.iconst 1, 1) := by decide +kernel
theorem dL_law_1238 : decode cL_law 1238 = .ok (.iadd, 1) := by decide +kernel
theorem dL_law_1239 : decode cL_law 1239 = .ok (.iaload, 1) := by decide +kernel
theorem dL_law_1240 : decode cL_law 1240 = .ok (.aload_n 0, 1) := by decide +kernel
theorem dL_law_1241 : decode cL_law 1241 = .ok (.iload_n 3, 1) := by decide +kernel
theorem dL_law_1242 : decode cL_law 1242 = .ok (.iconst 2, 1) := by decide +kernel
theorem dL_law_1243 : decode cL_law 1243 = .ok (.iadd, 1) := by decide +kernel
theorem dL_law_1244 : decode cL_law 1244 = .ok (.iaload, 1) := by decide +kernel
theorem dL_law_1245 : decode cL_law 1245 = .ok (.invokevirtual 132, 3) := by decide +kernel
theorem dL_law_1248 : decode cL_law 1248 = .ok (.aload_n 2, 1) := by decide +kernel
theorem dL_law_1249 : decode cL_law 1249 = .ok (.aload_n 0, 1) := by decide +kernel
theorem dL_law_1250 : decode cL_law 1250 = .ok (.iload_n 3, 1) := by decide +kernel
theorem dL_law_1251 : decode cL_law 1251 = .ok (.iconst 1, 1) := by decide +kernel
theorem dL_law_1252 : decode cL_law 1252 = .ok (.iadd, 1) := by decide +kernel
theorem dL_law_1253 : decode cL_law 1253 = .ok (.iaload, 1) := by decide +kernel
theorem dL_law_1254 : decode cL_law 1254 = .ok (.aload_n 0, 1) := by decide +kernel
theorem dL_law_1255 : decode cL_law 1255 = .ok (.iload_n 3, 1) := by decide +kernel
theorem dL_law_1256 : decode cL_law 1256 = .ok (.iconst 2, 1) := by decide +kernel
theorem dL_law_1257 : decode cL_law 1257 = .ok (.iadd, 1) := by decide +kernel
theorem dL_law_1258 : decode cL_law 1258 = .ok (.iaload, 1) := by decide +kernel
theorem dL_law_1259 : decode cL_law 1259 = .ok (.invokevirtual 135, 3) := by decide +kernel
theorem dL_law_1262 : decode cL_law 1262 = .ok (.if_icmp .eq 41, 3) := by decide +kernel
theorem dL_law_1265 : decode cL_law 1265 = .ok (.iconst 0, 1) := by decide +kernel
theorem dL_law_1266 : decode cL_law 1266 = .ok (.ireturn, 1) := by decide +kernel
theorem dL_law_1267 : decode cL_law 1267 = .ok (.aload_n 1, 1) := by decide +kernel
theorem dL_law_1268 : decode cL_law 1268 = .ok (.invokevirtual 136, 3) := by decide +kernel
theorem dL_law_1271 : decode cL_law 1271 = .ok (.aload_n 2, 1) := by decide +kernel
theorem dL_law_1272 : decode cL_law 1272 = .ok (.invokevirtual 140, 3) := by decide +kernel
theorem dL_law_1275 : decode cL_law 1275 = .ok (.if_icmp .eq 28, 3) := by decide +kernel
theorem dL_law_1278 : decode cL_law 1278 = .ok (.iconst 0, 1) := by decide +kernel
theorem dL_law_1279 : decode cL_law 1279 = .ok (.ireturn, 1) := by decide +kernel
theorem dL_law_1280 : decode cL_law 1280 = .ok (.aload_n 1, 1) := by decide +kernel
theorem dL_law_1281 : decode cL_law 1281 = .ok (.aload_n 0, 1) := by decide +kernel
theorem dL_law_1282 : decode cL_law 1282 = .ok (.iload_n 3, 1) := by decide +kernel
theorem dL_law_1283 : decode cL_law 1283 = .ok (.iconst 1, 1) := by decide +kernel
theorem dL_law_1284 : decode cL_law 1284 = .ok (.iadd, 1) := by decide +kernel
theorem dL_law_1285 : decode cL_law 1285 = .ok (.iaload, 1) := by decide +kernel
theorem dL_law_1286 : decode cL_law 1286 = .ok (.invokevirtual 141, 3) := by decide +kernel
theorem dL_law_1289 : decode cL_law 1289 = .ok (.aload_n 2, 1) := by decide +kernel
theorem dL_law_1290 : decode cL_law 1290 = .ok (.aload_n 0, 1) := by decide +kernel
theorem dL_law_1291 : decode cL_law 1291 = .ok (.iload_n 3, 1) := by decide +kernel
theorem dL_law_1292 : decode cL_law 1292 = .ok (.iconst 1, 1) := by decide +kernel
theorem dL_law_1293 : decode cL_law 1293 = .ok (.iadd, 1) := by decide +kernel
theorem dL_law_1294 : decode cL_law 1294 = .ok (.iaload, 1) := by decide +kernel
theorem dL_law_1295 : decode cL_law 1295 = .ok (.invokevirtual 144, 3) := by decide +kernel
theorem dL_law_1298 : decode cL_law 1298 = .ok (.if_icmp .eq 5, 3) := by decide +kernel
theorem dL_law_1301 : decode cL_law 1301 = .ok (.iconst 0, 1) := by decide +kernel
theorem dL_law_1302 : decode cL_law 1302 = .ok (.ireturn, 1) := by decide +kernel
theorem dL_law_1303 : decode cL_law 1303 = .ok (.iinc 3 6, 3) := by decide +kernel
theorem dL_law_1306 : decode cL_law 1306 = .ok (.goto (-1288), 3) := by decide +kernel
theorem dL_law_1309 : decode cL_law 1309 = .ok (.iconst 1, 1) := by decide +kernel
theorem dL_law_1310 : decode cL_law 1310 = .ok (.ireturn, 1) := by decide +kernel
