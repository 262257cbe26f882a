set_option maxRecDepth 100000 in
theorem dX7_holes_47 : decode cX7_holes 47 = .ok (.iadd, 1) := by decide +kernel
set_option maxRecDepth 100000 in
theorem dX7_holes_48 : decode cX7_holes 48 = .ok (.iaload, 1) := by decide +kernel
set_option maxRecDepth 100000 in
theorem dX7_holes_49 : decode cX7_holes 49 = .ok (.if_icmp .ge 105, 3) := by decide +kernel
set_option maxRecDepth 100000 in
theorem dX7_holes_52 : decode cX7_holes 52 = .ok (.sipush 1600, 3) := by decide +kernel
set_option maxRecDepth 100000 in
theorem dX7_holes_55 : decode cX7_holes 55 = .ok (.aload_n 0, 1) := by decide +kernel
set_option maxRecDepth 100000 in
theorem dX7_holes_56 : decode cX7_holes 56 = .ok (.getfield 207, 3) := by decide +kernel
set_option maxRecDepth 100000 in
theorem dX7_holes_59 : decode cX7_holes 59 = .ok (.imul, 1) := by decide +kernel
set_option maxRecDepth 100000 in
theorem dX7_holes_60 : decode cX7_holes 60 = .ok (.iload_n 3, 1) := by decide +kernel
set_option maxRecDepth 100000 in
theorem dX7_holes_61 : decode cX7_holes 61 = .ok (.iadd, 1) := by decide +kernel
set_option maxRecDepth 100000 in
theorem dX7_holes_62 : decode cX7_holes 62 = .ok (.istore 4, 2) := by decide +kernel
set_option maxRecDepth 100000 in
theorem dX7_holes_64 : decode cX7_holes 64 = .ok (.aload_n 0, 1) := by decide +kernel
set_option maxRecDepth 100000 in
theorem dX7_holes_65 : decode cX7_holes 65 = .ok (.getfield 59, 3) := by decide +kernel
set_option maxRecDepth 100000 in
theorem dX7_holes_68 : decode cX7_holes 68 = .ok (.iload 4, 2) := by decide +kernel
set_option maxRecDepth 100000 in
theorem dX7_holes_70 : decode cX7_holes 70 = .ok (.iaload, 1) := by decide +kernel
set_option maxRecDepth 100000 in
theorem dX7_holes_71 : decode cX7_holes 71 = .ok (.iconst 1, 1) := by decide +kernel
set_option maxRecDepth 100000 in
theorem dX7_holes_72 : decode cX7_holes 72 = .ok (.if_icmp .eq 6, 3) := by decide +kernel
set_option maxRecDepth 100000 in
theorem dX7_holes_75 : decode cX7_holes 75 = .ok (.goto 73, 3) := by decide +kernel
set_option maxRecDepth 100000 in
theorem dX7_holes_78 : decode cX7_holes 78 = .ok (.aload_n 0, 1) := by decide +kernel
set_option maxRecDepth 100000 in
theorem dX7_holes_79 : decode cX7_holes 79 = .ok (.aload_n 0, 1) := by decide +kernel
set_option maxRecDepth 100000 in
theorem dX7_holes_80 : decode cX7_holes 80 = .ok (.getfield 207, 3) := by decide +kernel
set_option maxRecDepth 100000 in
theorem dX7_holes_83 : decode cX7_holes 83 = .ok (.aload_n 0, 1) := by decide +kernel
set_option maxRecDepth 100000 in
theorem dX7_holes_84 : decode cX7_holes 84 = .ok (.getfield 62, 3) := by decide +kernel
set_option maxRecDepth 100000 in
theorem dX7_holes_87 : decode cX7_holes 87 = .ok (.iload 4, 2) := by decide +kernel
set_option maxRecDepth 100000 in
theorem dX7_holes_89 : decode cX7_holes 89 = .ok (.iaload, 1) := by decide +kernel
set_option maxRecDepth 100000 in
theorem dX7_holes_90 : decode cX7_holes 90 = .ok (.invokevirtual 243, 3) := by decide +kernel
set_option maxRecDepth 100000 in
theorem dX7_holes_93 : decode cX7_holes 93 = .ok (.istore 5, 2) := by decide +kernel
set_option maxRecDepth 100000 in
theorem dX7_holes_95 : decode cX7_holes 95 = .ok (.aload_n 0, 1) := by decide +kernel
set_option maxRecDepth 100000 in
theorem dX7_holes_96 : decode cX7_holes 96 = .ok (.getfield 62, 3) := by decide +kernel
set_option maxRecDepth 100000 in
theorem dX7_holes_99 : decode cX7_holes 99 = .ok (.iload 4, 2) := by decide +kernel
set_option maxRecDepth 100000 in
theorem dX7_holes_101 : decode cX7_holes 101 = .ok (.iaload, 1) := by decide +kernel
set_option maxRecDepth 100000 in
theorem dX7_holes_102 : decode cX7_holes 102 = .ok (.invokestatic 240, 3) := by decide +kernel
set_option maxRecDepth 100000 in
theorem dX7_holes_105 : decode cX7_holes 105 = .ok (.istore 6, 2) := by decide +kernel
set_option maxRecDepth 100000 in
theorem dX7_holes_107 : decode cX7_holes 107 = .ok (.iload 5, 2) := by decide +kernel
set_option maxRecDepth 100000 in
theorem dX7_holes_109 : decode cX7_holes 109 = .ok (.ifCond .ge 19, 3) := by decide +kernel
set_option maxRecDepth 100000 in
theorem dX7_holes_112 : decode cX7_holes 112 = .ok (.aload_n 0, 1) := by decide +kernel
set_option maxRecDepth 100000 in
theorem dX7_holes_113 : decode cX7_holes 113 = .ok (.iload 6, 2) := by decide +kernel
set_option maxRecDepth 100000 in
theorem dX7_holes_115 : decode cX7_holes 115 = .ok (.invokevirtual 156, 3) := by decide +kernel
set_option maxRecDepth 100000 in
theorem dX7_holes_118 : decode cX7_holes 118 = .ok (.ifCond .eq 10, 3) := by decide +kernel
set_option maxRecDepth 100000 in
theorem dX7_holes_121 : decode cX7_holes 121 = .ok (.bipush 100, 2) := by decide +kernel
set_option maxRecDepth 100000 in
theorem dX7_holes_123 : decode cX7_holes 123 = .ok (.iload 6, 2) := by decide +kernel
set_option maxRecDepth 100000 in
theorem dX7_holes_125 : decode cX7_holes 125 = .ok (.iadd, 1) := by decide +kernel
set_option maxRecDepth 100000 in
theorem dX7_holes_126 : decode cX7_holes 126 = .ok (.istore 5, 2) := by decide +kernel
set_option maxRecDepth 100000 in
theorem dX7_holes_128 : decode cX7_holes 128 = .ok (.iload 5, 2) := by decide +kernel
set_option maxRecDepth 100000 in
theorem dX7_holes_130 : decode cX7_holes 130 = .ok (.ifCond .ge 9, 3) := by decide +kernel
set_option maxRecDepth 100000 in
theorem dX7_holes_133 : decode cX7_holes 133 = .ok (.iload_n 1, 1) := by decide +kernel
set_option maxRecDepth 100000 in
theorem dX7_holes_134 : decode cX7_holes 134 = .ok (.ifCond .ge 5, 3) := by decide +kernel
set_option maxRecDepth 100000 in
theorem dX7_holes_137 : decode cX7_holes 137 = .ok (.iload_n 2, 1) := by decide +kernel
set_option maxRecDepth 100000 in
theorem dX7_holes_138 : decode cX7_holes 138 = .ok (.istore_n 1, 1) := by decide +kernel
set_option maxRecDepth 100000 in
theorem dX7_holes_139 : decode cX7_holes 139 = .ok (.aload_n 0, 1) := by decide +kernel
set_option maxRecDepth 100000 in
theorem dX7_holes_140 : decode cX7_holes 140 = .ok (.getfield 62, 3) := by decide +kernel
set_option maxRecDepth 100000 in
theorem dX7_holes_143 : decode cX7_holes 143 = .ok (.iload 4, 2) := by decide +kernel
set_option maxRecDepth 100000 in
theorem dX7_holes_145 : decode cX7_holes 145 = .ok (.iload 5, 2) := by decide +kernel
set_option maxRecDepth 100000 in
theorem dX7_holes_147 : decode cX7_holes 147 = .ok (.iastore, 1) := by decide +kernel
set_option maxRecDepth 100000 in
theorem dX7_holes_148 : decode cX7_holes 148 = .ok (.iinc 3 1, 3) := by decide +kernel
set_option maxRecDepth 100000 in
theorem dX7_holes_151 : decode cX7_holes 151 = .ok (.goto (-119), 3) := by decide +kernel
set_option maxRecDepth 100000 in
theorem dX7_holes_154 : decode cX7_holes 154 = .ok (.iinc 2 1, 3) := by decide +kernel
set_option maxRecDepth 100000 in
theorem dX7_holes_157 : decode cX7_holes 157 = .ok (.goto (-153), 3) := by decide +kernel
set_option maxRecDepth 100000 in
theorem dX7_holes_160 : decode cX7_holes 160 = .ok (.iload_n 1, 1) := by decide +kernel
set_option maxRecDepth 100000 in
theorem dX7_holes_161 : decode cX7_holes 161 = .ok (.ireturn, 1) := by decide +kernel
set_option maxRecDepth 100000 in
theorem dX7_twice_0 : decode cX7_twice 0 = .ok (.iconst 0, 1) := by decide +kernel
set_option maxRecDepth 100000 in
theorem dX7_twice_1 : decode cX7_twice 1 = .ok (.istore_n 1, 1) := by decide +kernel
set_option maxRecDepth 100000 in
theorem dX7_twice_2 : decode cX7_twice 2 = .ok (.iload_n 1, 1) := by decide +kernel
set_option maxRecDepth 100000 in
theorem dX7_twice_3 : decode cX7_twice 3 = .ok (.aload_n 0, 1) := by decide +kernel
set_option maxRecDepth 100000 in
theorem dX7_twice_4 : decode cX7_twice 4 = .ok (.getfield 77, 3) := by decide +kernel
set_option maxRecDepth 100000 in
theorem dX7_twice_7 : decode cX7_twice 7 = .ok (.aload_n 0, 1) := by decide +kernel
set_option maxRecDepth 100000 in
theorem dX7_twice_8 : decode cX7_twice 8 = .ok (.getfield 207, 3) := by decide +kernel
set_option maxRecDepth 100000 in
theorem dX7_twice_11 : decode cX7_twice 11 = .ok (.iaload, 1) := by decide +kernel
set_option maxRecDepth 100000 in
theorem dX7_twice_12 : decode cX7_twice 12 = .ok (.if_icmp .ge 37, 3) := by decide +kernel
set_option maxRecDepth 100000 in
theorem dX7_twice_15 : decode cX7_twice 15 = .ok (.aload_n 0, 1) := by decide +kernel
set_option maxRecDepth 100000 in
theorem dX7_twice_16 : decode cX7_twice 16 = .ok (.aload_n 0, 1) := by decide +kernel
set_option maxRecDepth 100000 in
theorem dX7_twice_17 : decode cX7_twice 17 = .ok (.getfield 207, 3) := by decide +kernel
set_option maxRecDepth 100000 in
theorem dX7_twice_20 : decode cX7_twice 20 = .ok (.aload_n 0, 1) := by decide +kernel
set_option maxRecDepth 100000 in
theorem dX7_twice_21 : decode cX7_twice 21 = .ok (.getfield 80, 3) := by decide +kernel
set_option maxRecDepth 100000 in
theorem dX7_twice_24 : decode cX7_twice 24 = .ok (.bipush 12, 2) := by decide +kernel
set_option maxRecDepth 100000 in
theorem dX7_twice_26 : decode cX7_twice 26 = .ok (.aload_n 0, 1) := by decide +kernel
set_option maxRecDepth 100000 in
theorem dX7_twice_27 : decode cX7_twice 27 = .ok (.getfield 207, 3) := by decide +kernel
set_option maxRecDepth 100000 in
theorem dX7_twice_30 : decode cX7_twice 30 = .ok (.imul, 1) := by decide +kernel
set_option maxRecDepth 100000 in
theorem dX7_twice_31 : decode cX7_twice 31 = .ok (.iload_n 1, 1) := by decide +kernel
set_option maxRecDepth 100000 in
theorem dX7_twice_32 : decode cX7_twice 32 = .ok (.iadd, 1) := by decide +kernel
set_option maxRecDepth 100000 in
theorem dX7_twice_33 : decode cX7_twice 33 = .ok (.iaload, 1) := by decide +kernel
set_option maxRecDepth 100000 in
theorem dX7_twice_34 : decode cX7_twice 34 = .ok (.invokevirtual 243, 3) := by decide +kernel
set_option maxRecDepth 100000 in
theorem dX7_twice_37 : decode cX7_twice 37 = .ok (.iload_n 1, 1) := by decide +kernel
set_option maxRecDepth 100000 in
theorem dX7_twice_38 : decode cX7_twice 38 = .ok (.if_icmp .ge 5, 3) := by decide +kernel
set_option maxRecDepth 100000 in
theorem dX7_twice_41 : decode cX7_twice 41 = .ok (.iload_n 1, 1) := by decide +kernel
set_option maxRecDepth 100000 in
theorem dX7_twice_42 : decode cX7_twice 42 = .ok (.ireturn, 1) := by decide +kernel
set_option maxRecDepth 100000 in
theorem dX7_twice_43 : decode cX7_twice 43 = .ok (.iinc 1 1, 3) := by decide +kernel
set_option maxRecDepth 100000 in
theorem dX7_twice_46 : decode cX7_twice 46 = .ok (.goto (-44), 3) := by decide +kernel
set_option maxRecDepth 100000 in
theorem dX7_twice_49 : decode cX7_twice 49 = .ok (.iconst (-1), 1) := by decide +kernel
set_option maxRecDepth 100000 in
theorem dX7_twice_50 : decode cX7_twice 50 = .ok (.ireturn, 1) := by decide +kernel
set_option maxRecDepth 100000 in
theorem dX7_findHangs_0 : decode cX7_findHangs 0 = .ok (.iconst 0, 1) := by decide +kernel
set_option maxRecDepth 100000 in
theorem dX7_findHangs_1 : decode cX7_findHangs 1 = .ok (.istore_n 2, 1) := by decide +kernel
set_option maxRecDepth 100000 in
theorem dX7_findHangs_2 : decode cX7_findHangs 2 = .ok (.iload_n 2, 1) := by decide +kernel
set_option maxRecDepth 100000 in
theorem dX7_findHangs_3 : decode cX7_findHangs 3 = .ok (.bipush 22, 2) := by decide +kernel
set_option maxRecDepth 100000 in
theorem dX7_findHangs_5 : decode cX7_findHangs 5 = .ok (.if_icmp .ge 16, 3) := by decide +kernel
set_option maxRecDepth 100000 in
theorem dX7_findHangs_8 : decode cX7_findHangs 8 = .ok (.aload_n 0, 1) := by decide +kernel
set_option maxRecDepth 100000 in
theorem dX7_findHangs_9 : decode cX7_findHangs 9 = .ok (.getfield 92, 3) := by decide +kernel
set_option maxRecDepth 100000 in
theorem dX7_findHangs_12 : decode cX7_findHangs 12 = .ok (.iload_n 2, 1) := by decide +kernel
set_option maxRecDepth 100000 in
theorem dX7_findHangs_13 : decode cX7_findHangs 13 = .ok (.iconst 0, 1) := by decide +kernel
set_option maxRecDepth 100000 in
theorem dX7_findHangs_14 : decode cX7_findHangs 14 = .ok (.iastore, 1) := by decide +kernel
set_option maxRecDepth 100000 in
theorem dX7_findHangs_15 : decode cX7_findHangs 15 = .ok (.iinc 2 1, 3) := by decide +kernel
set_option maxRecDepth 100000 in
theorem dX7_findHangs_18 : decode cX7_findHangs 18 = .ok (.goto (-16), 3) := by decide +kernel
set_option maxRecDepth 100000 in
theorem dX7_findHangs_21 : decode cX7_findHangs 21 = .ok (.iconst 0, 1) := by decide +kernel
set_option maxRecDepth 100000 in
theorem dX7_findHangs_22 : decode cX7_findHangs 22 = .ok (.istore_n 2, 1) := by decide +kernel
set_option maxRecDepth 100000 in
theorem dX7_findHangs_23 : decode cX7_findHangs 23 = .ok (.iload_n 2, 1) := by decide +kernel
set_option maxRecDepth 100000 in
theorem dX7_findHangs_24 : decode cX7_findHangs 24 = .ok (.aload_n 0, 1) := by decide +kernel
set_option maxRecDepth 100000 in
theorem dX7_findHangs_25 : decode cX7_findHangs 25 = .ok (.getfield 77, 3) := by decide +kernel
set_option maxRecDepth 100000 in
theorem dX7_findHangs_28 : decode cX7_findHangs 28 = .ok (.iload_n 1, 1) := by decide +kernel
set_option maxRecDepth 100000 in
theorem dX7_findHangs_29 : decode cX7_findHangs 29 = .ok (.iaload, 1) := by decide +kernel
set_option maxRecDepth 100000 in
theorem dX7_findHangs_30 : decode cX7_findHangs 30 = .ok (.if_icmp .ge 110, 3) := by decide +kernel
set_option maxRecDepth 100000 in
theorem dX7_findHangs_33 : decode cX7_findHangs 33 = .ok (.aload_n 0, 1) := by decide +kernel
set_option maxRecDepth 100000 in
theorem dX7_findHangs_34 : decode cX7_findHangs 34 = .ok (.getfield 86, 3) := by decide +kernel
set_option maxRecDepth 100000 in
theorem dX7_findHangs_37 : decode cX7_findHangs 37 = .ok (.bipush 13, 2) := by decide +kernel
set_option maxRecDepth 100000 in
theorem dX7_findHangs_39 : decode cX7_findHangs 39 = .ok (.iload_n 1, 1) := by decide +kernel
set_option maxRecDepth 100000 in
theorem dX7_findHangs_40 : decode cX7_findHangs 40 = .ok (.imul, 1) := by decide +kernel
set_option maxRecDepth 100000 in
theorem dX7_findHangs_41 : decode cX7_findHangs 41 = .ok (.iload_n 2, 1) := by decide +kernel
set_option maxRecDepth 100000 in
theorem dX7_findHangs_42 : decode cX7_findHangs 42 = .ok (.iadd, 1) := by decide +kernel
set_option maxRecDepth 100000 in
theorem dX7_findHangs_43 : decode cX7_findHangs 43 = .ok (.iaload, 1) := by decide +kernel
set_option maxRecDepth 100000 in
theorem dX7_findHangs_44 : decode cX7_findHangs 44 = .ok (.istore_n 3, 1) := by decide +kernel
set_option maxRecDepth 100000 in
theorem dX7_findHangs_45 : decode cX7_findHangs 45 = .ok (.iload_n 3, 1) := by decide +kernel
set_option maxRecDepth 100000 in
theorem dX7_findHangs_46 : decode cX7_findHangs 46 = .ok (.aload_n 0, 1) := by decide +kernel
set_option maxRecDepth 100000 in
theorem dX7_findHangs_47 : decode cX7_findHangs 47 = .ok (.getfield 86, 3) := by decide +kernel
set_option maxRecDepth 100000 in
theorem dX7_findHangs_50 : decode cX7_findHangs 50 = .ok (.bipush 13, 2) := by decide +kernel
set_option maxRecDepth 100000 in
theorem dX7_findHangs_52 : decode cX7_findHangs 52 = .ok (.iload_n 1, 1) := by decide +kernel
set_option maxRecDepth 100000 in
theorem dX7_findHangs_53 : decode cX7_findHangs 53 = .ok (.imul, 1) := by decide +kernel
set_option maxRecDepth 100000 in
theorem dX7_findHangs_54 : decode cX7_findHangs 54 = .ok (.iload_n 2, 1) := by decide +kernel
set_option maxRecDepth 100000 in
theorem dX7_findHangs_55 : decode cX7_findHangs 55 = .ok (.iadd, 1) := by decide +kernel
set_option maxRecDepth 100000 in
theorem dX7_findHangs_56 : decode cX7_findHangs 56 = .ok (.iconst 1, 1) := by decide +kernel
set_option maxRecDepth 100000 in
theorem dX7_findHangs_57 : decode cX7_findHangs 57 = .ok (.iadd, 1) := by decide +kernel
set_option maxRecDepth 100000 in
theorem dX7_findHangs_58 : decode cX7_findHangs 58 = .ok (.iaload, 1) := by decide +kernel
set_option maxRecDepth 100000 in
theorem dX7_findHangs_59 : decode cX7_findHangs 59 = .ok (.if_icmp .ge 75, 3) := by decide +kernel
set_option maxRecDepth 100000 in
theorem dX7_findHangs_62 : decode cX7_findHangs 62 = .ok (.sipush 1600, 3) := by decide +kernel
set_option maxRecDepth 100000 in
theorem dX7_findHangs_65 : decode cX7_findHangs 65 = .ok (.iload_n 1, 1) := by decide +kernel
set_option maxRecDepth 100000 in
theorem dX7_findHangs_66 : decode cX7_findHangs 66 = .ok (.imul, 1) := by decide +kernel
set_option maxRecDepth 100000 in
theorem dX7_findHangs_67 : decode cX7_findHangs 67 = .ok (.iload_n 3, 1) := by decide +kernel
set_option maxRecDepth 100000 in
theorem dX7_findHangs_68 : decode cX7_findHangs 68 = .ok (.iadd, 1) := by decide +kernel
set_option maxRecDepth 100000 in
theorem dX7_findHangs_69 : decode cX7_findHangs 69 = .ok (.istore 4, 2) := by decide +kernel
set_option maxRecDepth 100000 in
theorem dX7_findHangs_71 : decode cX7_findHangs 71 = .ok (.aload_n 0, 1) := by decide +kernel
set_option maxRecDepth 100000 in
theorem dX7_findHangs_72 : decode cX7_findHangs 72 = .ok (.getfield 59, 3) := by decide +kernel
set_option maxRecDepth 100000 in
theorem dX7_findHangs_75 : decode cX7_findHangs 75 = .ok (.iload 4, 2) := by decide +kernel
set_option maxRecDepth 100000 in
theorem dX7_findHangs_77 : decode cX7_findHangs 77 = .ok (.iaload, 1) := by decide +kernel
set_option maxRecDepth 100000 in
theorem dX7_findHangs_78 : decode cX7_findHangs 78 = .ok (.iconst 1, 1) := by decide +kernel
set_option maxRecDepth 100000 in
theorem dX7_findHangs_79 : decode cX7_findHangs 79 = .ok (.if_icmp .ne 49, 3) := by decide +kernel
set_option maxRecDepth 100000 in
theorem dX7_findHangs_82 : decode cX7_findHangs 82 = .ok (.aload_n 0, 1) := by decide +kernel
set_option maxRecDepth 100000 in
theorem dX7_findHangs_83 : decode cX7_findHangs 83 = .ok (.getfield 92, 3) := by decide +kernel
set_option maxRecDepth 100000 in
theorem dX7_findHangs_86 : decode cX7_findHangs 86 = .ok (.iload_n 2, 1) := by decide +kernel
set_option maxRecDepth 100000 in
theorem dX7_findHangs_87 : decode cX7_findHangs 87 = .ok (.dup2, 1) := by decide +kernel
set_option maxRecDepth 100000 in
theorem dX7_findHangs_88 : decode cX7_findHangs 88 = .ok (.iaload, 1) := by decide +kernel
set_option maxRecDepth 100000 in
theorem dX7_findHangs_89 : decode cX7_findHangs 89 = .ok (.iconst 1, 1) := by decide +kernel
set_option maxRecDepth 100000 in
theorem dX7_findHangs_90 : decode cX7_findHangs 90 = .ok (.aload_n 0, 1) := by decide +kernel
set_option maxRecDepth 100000 in
theorem dX7_findHangs_91 : decode cX7_findHangs 91 = .ok (.getfield 62, 3) := by decide +kernel
set_option maxRecDepth 100000 in
theorem dX7_findHangs_94 : decode cX7_findHangs 94 = .ok (.iload 4, 2) := by decide +kernel
set_option maxRecDepth 100000 in
theorem dX7_findHangs_96 : decode cX7_findHangs 96 = .ok (.iaload, 1) := by decide +kernel
set_option maxRecDepth 100000 in
theorem dX7_findHangs_97 : decode cX7_findHangs 97 = .ok (.bipush 100, 2) := by decide +kernel
set_option maxRecDepth 100000 in
theorem dX7_findHangs_99 : decode cX7_findHangs 99 = .ok (.if_icmp .ge 13, 3) := by decide +kernel
set_option maxRecDepth 100000 in
theorem dX7_findHangs_102 : decode cX7_findHangs 102 = .ok (.aload_n 0, 1) := by decide +kernel
set_option maxRecDepth 100000 in
theorem dX7_findHangs_103 : decode cX7_findHangs 103 = .ok (.getfield 62, 3) := by decide +kernel
set_option maxRecDepth 100000 in
theorem dX7_findHangs_106 : decode cX7_findHangs 106 = .ok (.iload 4, 2) := by decide +kernel
set_option maxRecDepth 100000 in
theorem dX7_findHangs_108 : decode cX7_findHangs 108 = .ok (.iaload, 1) := by decide +kernel
set_option maxRecDepth 100000 in
theorem dX7_findHangs_109 : decode cX7_findHangs 109 = .ok (.goto 16, 3) := by decide +kernel
set_option maxRecDepth 100000 in
theorem dX7_findHangs_112 : decode cX7_findHangs 112 = .ok (.bipush 12, 2) := by decide +kernel
set_option maxRecDepth 100000 in
theorem dX7_findHangs_114 : decode cX7_findHangs 114 = .ok (.aload_n 0, 1) := by decide +kernel
set_option maxRecDepth 100000 in
theorem dX7_findHangs_115 : decode cX7_findHangs 115 = .ok (.getfield 62, 3) := by decide +kernel
set_option maxRecDepth 100000 in
theorem dX7_findHangs_118 : decode cX7_findHangs 118 = .ok (.iload 4, 2) := by decide +kernel
set_option maxRecDepth 100000 in
theorem dX7_findHangs_120 : decode cX7_findHangs 120 = .ok (.iaload, 1) := by decide +kernel
set_option maxRecDepth 100000 in
theorem dX7_findHangs_121 : decode cX7_findHangs 121 = .ok (.iadd, 1) := by decide +kernel
set_option maxRecDepth 100000 in
theorem dX7_findHangs_122 : decode cX7_findHangs 122 = .ok (.bipush 100, 2) := by decide +kernel
set_option maxRecDepth 100000 in
theorem dX7_findHangs_124 : decode cX7_findHangs 124 = .ok (.isub, 1) := by decide +kernel
set_option maxRecDepth 100000 in
theorem dX7_findHangs_125 : decode cX7_findHangs 125 = .ok (.ishl, 1) := by decide +kernel
set_option maxRecDepth 100000 in
theorem dX7_findHangs_126 : decode cX7_findHangs 126 = .ok (.ior, 1) := by decide +kernel
set_option maxRecDepth 100000 in
theorem dX7_findHangs_127 : decode cX7_findHangs 127 = .ok (.iastore, 1) := by decide +kernel
set_option maxRecDepth 100000 in
theorem dX7_findHangs_128 : decode cX7_findHangs 128 = .ok (.iinc 3 1, 3) := by decide +kernel
set_option maxRecDepth 100000 in
theorem dX7_findHangs_131 : decode cX7_findHangs 131 = .ok (.goto (-86), 3) := by decide +kernel
set_option maxRecDepth 100000 in
theorem dX7_findHangs_134 : decode cX7_findHangs 134 = .ok (.iinc 2 1, 3) := by decide +kernel
set_option maxRecDepth 100000 in
theorem dX7_findHangs_137 : decode cX7_findHangs 137 = .ok (.goto (-114), 3) := by decide +kernel
set_option maxRecDepth 100000 in
theorem dX7_findHangs_140 : decode cX7_findHangs 140 = .ok (.iconst 0, 1) := by decide +kernel
set_option maxRecDepth 100000 in
theorem dX7_findHangs_141 : decode cX7_findHangs 141 = .ok (.istore_n 2, 1) := by decide +kernel
set_option maxRecDepth 100000 in
theorem dX7_findHangs_142 : decode cX7_findHangs 142 = .ok (.iload_n 2, 1) := by decide +kernel
set_option maxRecDepth 100000 in
theorem dX7_findHangs_143 : decode cX7_findHangs 143 = .ok (.aload_n 0, 1) := by decide +kernel
set_option maxRecDepth 100000 in
theorem dX7_findHangs_144 : decode cX7_findHangs 144 = .ok (.getfield 145, 3) := by decide +kernel
set_option maxRecDepth 100000 in
theorem dX7_findHangs_147 : decode cX7_findHangs 147 = .ok (.if_icmp .ge 44, 3) := by decide +kernel
set_option maxRecDepth 100000 in
theorem dX7_findHangs_150 : decode cX7_findHangs 150 = .ok (.aload_n 0, 1) := by decide +kernel
set_option maxRecDepth 100000 in
theorem dX7_findHangs_151 : decode cX7_findHangs 151 = .ok (.getfield 28, 3) := by decide +kernel
set_option maxRecDepth 100000 in
theorem dX7_findHangs_154 : decode cX7_findHangs 154 = .ok (.iload_n 2, 1) := by decide +kernel
set_option maxRecDepth 100000 in
theorem dX7_findHangs_155 : decode cX7_findHangs 155 = .ok (.iaload, 1) := by decide +kernel
set_option maxRecDepth 100000 in
theorem dX7_findHangs_156 : decode cX7_findHangs 156 = .ok (.aload_n 0, 1) := by decide +kernel
set_option maxRecDepth 100000 in
theorem dX7_findHangs_157 : decode cX7_findHangs 157 = .ok (.getfield 77, 3) := by decide +kernel
set_option maxRecDepth 100000 in
theorem dX7_findHangs_160 : decode cX7_findHangs 160 = .ok (.iload_n 1, 1) := by decide +kernel
set_option maxRecDepth 100000 in
theorem dX7_findHangs_161 : decode cX7_findHangs 161 = .ok (.iaload, 1) := by decide +kernel
set_option maxRecDepth 100000 in
theorem dX7_findHangs_162 : decode cX7_findHangs 162 = .ok (.invokestatic 141, 3) := by decide +kernel
set_option maxRecDepth 100000 in
theorem dX7_findHangs_165 : decode cX7_findHangs 165 = .ok (.ifCond .eq 20, 3) := by decide +kernel
set_option maxRecDepth 100000 in
theorem dX7_findHangs_168 : decode cX7_findHangs 168 = .ok (.aload_n 0, 1) := by decide +kernel
set_option maxRecDepth 100000 in
theorem dX7_findHangs_169 : decode cX7_findHangs 169 = .ok (.getfield 92, 3) := by decide +kernel
set_option maxRecDepth 100000 in
theorem dX7_findHangs_172 : decode cX7_findHangs 172 = .ok (.bipush 12, 2) := by decide +kernel
set_option maxRecDepth 100000 in
theorem dX7_findHangs_174 : decode cX7_findHangs 174 = .ok (.iload_n 2, 1) := by decide +kernel
set_option maxRecDepth 100000 in
theorem dX7_findHangs_175 : decode cX7_findHangs 175 = .ok (.iadd, 1) := by decide +kernel
set_option maxRecDepth 100000 in
theorem dX7_findHangs_176 : decode cX7_findHangs 176 = .ok (.iconst 1, 1) := by decide +kernel
set_option maxRecDepth 100000 in
theorem dX7_findHangs_177 : decode cX7_findHangs 177 = .ok (.aload_n 0, 1) := by decide +kernel
set_option maxRecDepth 100000 in
theorem dX7_findHangs_178 : decode cX7_findHangs 178 = .ok (.getfield 28, 3) := by decide +kernel
set_option maxRecDepth 100000 in
theorem dX7_findHangs_181 : decode cX7_findHangs 181 = .ok (.iload_n 2, 1) := by decide +kernel
set_option maxRecDepth 100000 in
theorem dX7_findHangs_182 : decode cX7_findHangs 182 = .ok (.iaload, 1) := by decide +kernel
set_option maxRecDepth 100000 in
theorem dX7_findHangs_183 : decode cX7_findHangs 183 = .ok (.ishl, 1) := by decide +kernel
set_option maxRecDepth 100000 in
theorem dX7_findHangs_184 : decode cX7_findHangs 184 = .ok (.iastore, 1) := by decide +kernel
set_option maxRecDepth 100000 in
theorem dX7_findHangs_185 : decode cX7_findHangs 185 = .ok (.iinc 2 1, 3) := by decide +kernel
set_option maxRecDepth 100000 in
theorem dX7_findHangs_188 : decode cX7_findHangs 188 = .ok (.goto (-46), 3) := by decide +kernel
set_option maxRecDepth 100000 in
theorem dX7_findHangs_191 : decode cX7_findHangs 191 = .ok (.iconst 0, 1) := by decide +kernel
set_option maxRecDepth 100000 in
theorem dX7_findHangs_192 : decode cX7_findHangs 192 = .ok (.istore_n 2, 1) := by decide +kernel
set_option maxRecDepth 100000 in
theorem dX7_findHangs_193 : decode cX7_findHangs 193 = .ok (.iload_n 2, 1) := by decide +kernel
set_option maxRecDepth 100000 in
theorem dX7_findHangs_194 : decode cX7_findHangs 194 = .ok (.bipush 22, 2) := by decide +kernel
set_option maxRecDepth 100000 in
theorem dX7_findHangs_196 : decode cX7_findHangs 196 = .ok (.if_icmp .ge 52, 3) := by decide +kernel
set_option maxRecDepth 100000 in
theorem dX7_findHangs_199 : decode cX7_findHangs 199 = .ok (.iconst 0, 1) := by decide +kernel
set_option maxRecDepth 100000 in
theorem dX7_findHangs_200 : decode cX7_findHangs 200 = .ok (.istore_n 3, 1) := by decide +kernel
set_option maxRecDepth 100000 in
theorem dX7_findHangs_201 : decode cX7_findHangs 201 = .ok (.iload_n 3, 1) := by decide +kernel
set_option maxRecDepth 100000 in
theorem dX7_findHangs_202 : decode cX7_findHangs 202 = .ok (.bipush 22, 2) := by decide +kernel
set_option maxRecDepth 100000 in
theorem dX7_findHangs_204 : decode cX7_findHangs 204 = .ok (.if_icmp .ge 38, 3) := by decide +kernel
set_option maxRecDepth 100000 in
theorem dX7_findHangs_207 : decode cX7_findHangs 207 = .ok (.aload_n 0, 1) := by decide +kernel
set_option maxRecDepth 100000 in
theorem dX7_findHangs_208 : decode cX7_findHangs 208 = .ok (.getfield 92, 3) := by decide +kernel
set_option maxRecDepth 100000 in
theorem dX7_findHangs_211 : decode cX7_findHangs 211 = .ok (.iload_n 3, 1) := by decide +kernel
set_option maxRecDepth 100000 in
theorem dX7_findHangs_212 : decode cX7_findHangs 212 = .ok (.iaload, 1) := by decide +kernel
set_option maxRecDepth 100000 in
theorem dX7_findHangs_213 : decode cX7_findHangs 213 = .ok (.iload_n 2, 1) := by decide +kernel
set_option maxRecDepth 100000 in
theorem dX7_findHangs_214 : decode cX7_findHangs 214 = .ok (.ishr, 1) := by decide +kernel
set_option maxRecDepth 100000 in
theorem dX7_findHangs_215 : decode cX7_findHangs 215 = .ok (.iconst 1, 1) := by decide +kernel
set_option maxRecDepth 100000 in
theorem dX7_findHangs_216 : decode cX7_findHangs 216 = .ok (.iand, 1) := by decide +kernel
set_option maxRecDepth 100000 in
theorem dX7_findHangs_217 : decode cX7_findHangs 217 = .ok (.iconst 1, 1) := by decide +kernel
set_option maxRecDepth 100000 in
theorem dX7_findHangs_218 : decode cX7_findHangs 218 = .ok (.if_icmp .ne 18, 3) := by decide +kernel
set_option maxRecDepth 100000 in
theorem dX7_findHangs_221 : decode cX7_findHangs 221 = .ok (.aload_n 0, 1) := by decide +kernel
set_option maxRecDepth 100000 in
theorem dX7_findHangs_222 : decode cX7_findHangs 222 = .ok (.getfield 92, 3) := by decide +kernel
set_option maxRecDepth 100000 in
theorem dX7_findHangs_225 : decode cX7_findHangs 225 = .ok (.iload_n 3, 1) := by decide +kernel
set_option maxRecDepth 100000 in
theorem dX7_findHangs_226 : decode cX7_findHangs 226 = .ok (.dup2, 1) := by decide +kernel
set_option maxRecDepth 100000 in
theorem dX7_findHangs_227 : decode cX7_findHangs 227 = .ok (.iaload, 1) := by decide +kernel
set_option maxRecDepth 100000 in
theorem dX7_findHangs_228 : decode cX7_findHangs 228 = .ok (.aload_n 0, 1) := by decide +kernel
set_option maxRecDepth 100000 in
theorem dX7_findHangs_229 : decode cX7_findHangs 229 = .ok (.getfield 92, 3) := by decide +kernel
set_option maxRecDepth 100000 in
theorem dX7_findHangs_232 : decode cX7_findHangs 232 = .ok (.iload_n 2, 1) := by decide +kernel
set_option maxRecDepth 100000 in
theorem dX7_findHangs_233 : decode cX7_findHangs 233 = .ok (.iaload, 1) := by decide +kernel
set_option maxRecDepth 100000 in
theorem dX7_findHangs_234 : decode cX7_findHangs 234 = .ok (.ior, 1) := by decide +kernel
set_option maxRecDepth 100000 in
theorem dX7_findHangs_235 : decode cX7_findHangs 235 = .ok (.iastore, 1) := by decide +kernel
set_option maxRecDepth 100000 in
theorem dX7_findHangs_236 : decode cX7_findHangs 236 = .ok (.iinc 3 1, 3) := by decide +kernel
set_option maxRecDepth 100000 in
theorem dX7_findHangs_239 : decode cX7_findHangs 239 = .ok (.goto (-38), 3) := by decide +kernel
set_option maxRecDepth 100000 in
theorem dX7_findHangs_242 : decode cX7_findHangs 242 = .ok (.iinc 2 1, 3) := by decide +kernel
set_option maxRecDepth 100000 in
theorem dX7_findHangs_245 : decode cX7_findHangs 245 = .ok (.goto (-52), 3) := by decide +kernel
set_option maxRecDepth 100000 in
theorem dX7_findHangs_248 : decode cX7_findHangs 248 = .ok (.return_, 1) := by decide +kernel
set_option maxRecDepth 100000 in
theorem dX7_isRing_0 : decode cX7_isRing 0 = .ok (.iconst 0, 1) := by decide +kernel
set_option maxRecDepth 100000 in
theorem dX7_isRing_1 : decode cX7_isRing 1 = .ok (.istore_n 1, 1) := by decide +kernel
set_option maxRecDepth 100000 in
theorem dX7_isRing_2 : decode cX7_isRing 2 = .ok (.iconst 0, 1) := by decide +kernel
set_option maxRecDepth 100000 in
theorem dX7_isRing_3 : decode cX7_isRing 3 = .ok (.istore_n 2, 1) := by decide +kernel
set_option maxRecDepth 100000 in
theorem dX7_isRing_4 : decode cX7_isRing 4 = .ok (.iload_n 2, 1) := by decide +kernel
set_option maxRecDepth 100000 in
theorem dX7_isRing_5 : decode cX7_isRing 5 = .ok (.bipush 22, 2) := by decide +kernel
set_option maxRecDepth 100000 in
theorem dX7_isRing_7 : decode cX7_isRing 7 = .ok (.if_icmp .ge 33, 3) := by decide +kernel
set_option maxRecDepth 100000 in
theorem dX7_isRing_10 : decode cX7_isRing 10 = .ok (.iload_n 1, 1) := by decide +kernel
set_option maxRecDepth 100000 in
theorem dX7_isRing_11 : decode cX7_isRing 11 = .ok (.ifCond .ne 17, 3) := by decide +kernel
set_option maxRecDepth 100000 in
theorem dX7_isRing_14 : decode cX7_isRing 14 = .ok (.aload_n 0, 1) := by decide +kernel
set_option maxRecDepth 100000 in
theorem dX7_isRing_15 : decode cX7_isRing 15 = .ok (.getfield 92, 3) := by decide +kernel
set_option maxRecDepth 100000 in
theorem dX7_isRing_18 : decode cX7_isRing 18 = .ok (.iload_n 2, 1) := by decide +kernel
set_option maxRecDepth 100000 in
theorem dX7_isRing_19 : decode cX7_isRing 19 = .ok (.iaload, 1) := by decide +kernel
set_option maxRecDepth 100000 in
theorem dX7_isRing_20 : decode cX7_isRing 20 = .ok (.iload_n 2, 1) := by decide +kernel
set_option maxRecDepth 100000 in
theorem dX7_isRing_21 : decode cX7_isRing 21 = .ok (.ishr, 1) := by decide +kernel
set_option maxRecDepth 100000 in
theorem dX7_isRing_22 : decode cX7_isRing 22 = .ok (.iconst 1, 1) := by decide +kernel
set_option maxRecDepth 100000 in
theorem dX7_isRing_23 : decode cX7_isRing 23 = .ok (.iand, 1) := by decide +kernel
set_option maxRecDepth 100000 in
theorem dX7_isRing_24 : decode cX7_isRing 24 = .ok (.iconst 1, 1) := by decide +kernel
set_option maxRecDepth 100000 in
theorem dX7_isRing_25 : decode cX7_isRing 25 = .ok (.if_icmp .ne 7, 3) := by decide +kernel
set_option maxRecDepth 100000 in
theorem dX7_isRing_28 : decode cX7_isRing 28 = .ok (.iconst 1, 1) := by decide +kernel
set_option maxRecDepth 100000 in
theorem dX7_isRing_29 : decode cX7_isRing 29 = .ok (.goto 4, 3) := by decide +kernel
set_option maxRecDepth 100000 in
theorem dX7_isRing_32 : decode cX7_isRing 32 = .ok (.iconst 0, 1) := by decide +kernel
set_option maxRecDepth 100000 in
theorem dX7_isRing_33 : decode cX7_isRing 33 = .ok (.istore_n 1, 1) := by decide +kernel
set_option maxRecDepth 100000 in
theorem dX7_isRing_34 : decode cX7_isRing 34 = .ok (.iinc 2 1, 3) := by decide +kernel
set_option maxRecDepth 100000 in
theorem dX7_isRing_37 : decode cX7_isRing 37 = .ok (.goto (-33), 3) := by decide +kernel
set_option maxRecDepth 100000 in
theorem dX7_isRing_40 : decode cX7_isRing 40 = .ok (.iload_n 1, 1) := by decide +kernel
set_option maxRecDepth 100000 in
theorem dX7_isRing_41 : decode cX7_isRing 41 = .ok (.ireturn, 1) := by decide +kernel
set_option maxRecDepth 100000 in
theorem dX7_keepsOld_0 : decode cX7_keepsOld 0 = .ok (.iconst 0, 1) := by decide +kernel
set_option maxRecDepth 100000 in
theorem dX7_keepsOld_1 : decode cX7_keepsOld 1 = .ok (.istore_n 1, 1) := by decide +kernel
set_option maxRecDepth 100000 in
theorem dX7_keepsOld_2 : decode cX7_keepsOld 2 = .ok (.iload_n 1, 1) := by decide +kernel
set_option maxRecDepth 100000 in
theorem dX7_keepsOld_3 : decode cX7_keepsOld 3 = .ok (.aload_n 0, 1) := by decide +kernel
set_option maxRecDepth 100000 in
theorem dX7_keepsOld_4 : decode cX7_keepsOld 4 = .ok (.getfield 137, 3) := by decide +kernel
set_option maxRecDepth 100000 in
theorem dX7_keepsOld_7 : decode cX7_keepsOld 7 = .ok (.if_icmp .ge 77, 3) := by decide +kernel
set_option maxRecDepth 100000 in
theorem dX7_keepsOld_10 : decode cX7_keepsOld 10 = .ok (.iconst 0, 1) := by decide +kernel
set_option maxRecDepth 100000 in
theorem dX7_keepsOld_11 : decode cX7_keepsOld 11 = .ok (.istore_n 2, 1) := by decide +kernel
set_option maxRecDepth 100000 in
theorem dX7_keepsOld_12 : decode cX7_keepsOld 12 = .ok (.iload_n 2, 1) := by decide +kernel
set_option maxRecDepth 100000 in
theorem dX7_keepsOld_13 : decode cX7_keepsOld 13 = .ok (.aload_n 0, 1) := by decide +kernel
set_option maxRecDepth 100000 in
theorem dX7_keepsOld_14 : decode cX7_keepsOld 14 = .ok (.getfield 77, 3) := by decide +kernel
set_option maxRecDepth 100000 in
theorem dX7_keepsOld_17 : decode cX7_keepsOld 17 = .ok (.aload_n 0, 1) := by decide +kernel
set_option maxRecDepth 100000 in
theorem dX7_keepsOld_18 : decode cX7_keepsOld 18 = .ok (.getfield 148, 3) := by decide +kernel
set_option maxRecDepth 100000 in
theorem dX7_keepsOld_21 : decode cX7_keepsOld 21 = .ok (.iaload, 1) := by decide +kernel
set_option maxRecDepth 100000 in
theorem dX7_keepsOld_22 : decode cX7_keepsOld 22 = .ok (.if_icmp .ge 56, 3) := by decide +kernel
set_option maxRecDepth 100000 in
theorem dX7_keepsOld_25 : decode cX7_keepsOld 25 = .ok (.aload_n 0, 1) := by decide +kernel
set_option maxRecDepth 100000 in
theorem dX7_keepsOld_26 : decode cX7_keepsOld 26 = .ok (.iload_n 1, 1) := by decide +kernel
set_option maxRecDepth 100000 in
theorem dX7_keepsOld_27 : decode cX7_keepsOld 27 = .ok (.invokevirtual 246, 3) := by decide +kernel
set_option maxRecDepth 100000 in
theorem dX7_keepsOld_30 : decode cX7_keepsOld 30 = .ok (.aload_n 0, 1) := by decide +kernel
set_option maxRecDepth 100000 in
theorem dX7_keepsOld_31 : decode cX7_keepsOld 31 = .ok (.iload_n 2, 1) := by decide +kernel
set_option maxRecDepth 100000 in
theorem dX7_keepsOld_32 : decode cX7_keepsOld 32 = .ok (.invokevirtual 249, 3) := by decide +kernel
set_option maxRecDepth 100000 in
theorem dX7_keepsOld_35 : decode cX7_keepsOld 35 = .ok (.bipush 12, 2) := by decide +kernel
set_option maxRecDepth 100000 in
theorem dX7_keepsOld_37 : decode cX7_keepsOld 37 = .ok (.iload_n 1, 1) := by decide +kernel
set_option maxRecDepth 100000 in
theorem dX7_keepsOld_38 : decode cX7_keepsOld 38 = .ok (.imul, 1) := by decide +kernel
set_option maxRecDepth 100000 in
theorem dX7_keepsOld_39 : decode cX7_keepsOld 39 = .ok (.iload_n 2, 1) := by decide +kernel
set_option maxRecDepth 100000 in
theorem dX7_keepsOld_40 : decode cX7_keepsOld 40 = .ok (.iadd, 1) := by decide +kernel
set_option maxRecDepth 100000 in
theorem dX7_keepsOld_41 : decode cX7_keepsOld 41 = .ok (.istore_n 3, 1) := by decide +kernel
set_option maxRecDepth 100000 in
theorem dX7_keepsOld_42 : decode cX7_keepsOld 42 = .ok (.aload_n 0, 1) := by decide +kernel
set_option maxRecDepth 100000 in
theorem dX7_keepsOld_43 : decode cX7_keepsOld 43 = .ok (.getfield 95, 3) := by decide +kernel
set_option maxRecDepth 100000 in
theorem dX7_keepsOld_46 : decode cX7_keepsOld 46 = .ok (.iload_n 3, 1) := by decide +kernel
set_option maxRecDepth 100000 in
theorem dX7_keepsOld_47 : decode cX7_keepsOld 47 = .ok (.aload_n 0, 1) := by decide +kernel
set_option maxRecDepth 100000 in
theorem dX7_keepsOld_48 : decode cX7_keepsOld 48 = .ok (.getfield 252, 3) := by decide +kernel
set_option maxRecDepth 100000 in
theorem dX7_keepsOld_51 : decode cX7_keepsOld 51 = .ok (.iastore, 1) := by decide +kernel
set_option maxRecDepth 100000 in
theorem dX7_keepsOld_52 : decode cX7_keepsOld 52 = .ok (.aload_n 0, 1) := by decide +kernel
set_option maxRecDepth 100000 in
theorem dX7_keepsOld_53 : decode cX7_keepsOld 53 = .ok (.getfield 98, 3) := by decide +kernel
set_option maxRecDepth 100000 in
theorem dX7_keepsOld_56 : decode cX7_keepsOld 56 = .ok (.iload_n 3, 1) := by decide +kernel
set_option maxRecDepth 100000 in
theorem dX7_keepsOld_57 : decode cX7_keepsOld 57 = .ok (.aload_n 0, 1) := by decide +kernel
set_option maxRecDepth 100000 in
theorem dX7_keepsOld_58 : decode cX7_keepsOld 58 = .ok (.getfield 255, 3) := by decide +kernel
set_option maxRecDepth 100000 in
theorem dX7_keepsOld_61 : decode cX7_keepsOld 61 = .ok (.lastore, 1) := by decide +kernel
set_option maxRecDepth 100000 in
theorem dX7_keepsOld_62 : decode cX7_keepsOld 62 = .ok (.aload_n 0, 1) := by decide +kernel
set_option maxRecDepth 100000 in
theorem dX7_keepsOld_63 : decode cX7_keepsOld 63 = .ok (.getfield 102, 3) := by decide +kernel
set_option maxRecDepth 100000 in
theorem dX7_keepsOld_66 : decode cX7_keepsOld 66 = .ok (.iload_n 3, 1) := by decide +kernel
set_option maxRecDepth 100000 in
theorem dX7_keepsOld_67 : decode cX7_keepsOld 67 = .ok (.aload_n 0, 1) := by decide +kernel
set_option maxRecDepth 100000 in
theorem dX7_keepsOld_68 : decode cX7_keepsOld 68 = .ok (.getfield 259, 3) := by decide +kernel
set_option maxRecDepth 100000 in
theorem dX7_keepsOld_71 : decode cX7_keepsOld 71 = .ok (.lastore, 1) := by decide +kernel
set_option maxRecDepth 100000 in
theorem dX7_keepsOld_72 : decode cX7_keepsOld 72 = .ok (.iinc 2 1, 3) := by decide +kernel
set_option maxRecDepth 100000 in
theorem dX7_keepsOld_75 : decode cX7_keepsOld 75 = .ok (.goto (-63), 3) := by decide +kernel
set_option maxRecDepth 100000 in
theorem dX7_keepsOld_78 : decode cX7_keepsOld 78 = .ok (.iinc 1 1, 3) := by decide +kernel
set_option maxRecDepth 100000 in
theorem dX7_keepsOld_81 : decode cX7_keepsOld 81 = .ok (.goto (-79), 3) := by decide +kernel
set_option maxRecDepth 100000 in
theorem dX7_keepsOld_84 : decode cX7_keepsOld 84 = .ok (.return_, 1) := by decide +kernel
set_option maxRecDepth 100000 in
theorem dX7_isLess_0 : decode cX7_isLess 0 = .ok (.iconst 0, 1) := by decide +kernel
set_option maxRecDepth 100000 in
theorem dX7_isLess_1 : decode cX7_isLess 1 = .ok (.istore_n 2, 1) := by decide +kernel
set_option maxRecDepth 100000 in
theorem dX7_isLess_2 : decode cX7_isLess 2 = .ok (.iload_n 2, 1) := by decide +kernel
set_option maxRecDepth 100000 in
theorem dX7_isLess_3 : decode cX7_isLess 3 = .ok (.aload_n 0, 1) := by decide +kernel
set_option maxRecDepth 100000 in
theorem dX7_isLess_4 : decode cX7_isLess 4 = .ok (.getfield 137, 3) := by decide +kernel
set_option maxRecDepth 100000 in
theorem dX7_isLess_7 : decode cX7_isLess 7 = .ok (.if_icmp .ge 133, 3) := by decide +kernel
set_option maxRecDepth 100000 in
theorem dX7_isLess_10 : decode cX7_isLess 10 = .ok (.iconst 0, 1) := by decide +kernel
set_option maxRecDepth 100000 in
theorem dX7_isLess_11 : decode cX7_isLess 11 = .ok (.istore_n 3, 1) := by decide +kernel
set_option maxRecDepth 100000 in
theorem dX7_isLess_12 : decode cX7_isLess 12 = .ok (.iload_n 3, 1) := by decide +kernel
set_option maxRecDepth 100000 in
theorem dX7_isLess_13 : decode cX7_isLess 13 = .ok (.aload_n 0, 1) := by decide +kernel
set_option maxRecDepth 100000 in
theorem dX7_isLess_14 : decode cX7_isLess 14 = .ok (.getfield 77, 3) := by decide +kernel
set_option maxRecDepth 100000 in
theorem dX7_isLess_17 : decode cX7_isLess 17 = .ok (.aload_n 0, 1) := by decide +kernel
set_option maxRecDepth 100000 in
theorem dX7_isLess_18 : decode cX7_isLess 18 = .ok (.getfield 148, 3) := by decide +kernel
set_option maxRecDepth 100000 in
theorem dX7_isLess_21 : decode cX7_isLess 21 = .ok (.iaload, 1) := by decide +kernel
set_option maxRecDepth 100000 in
theorem dX7_isLess_22 : decode cX7_isLess 22 = .ok (.if_icmp .ge 112, 3) := by decide +kernel
set_option maxRecDepth 100000 in
theorem dX7_isLess_25 : decode cX7_isLess 25 = .ok (.aload_n 0, 1) := by decide +kernel
set_option maxRecDepth 100000 in
theorem dX7_isLess_26 : decode cX7_isLess 26 = .ok (.iload_n 1, 1) := by decide +kernel
set_option maxRecDepth 100000 in
theorem dX7_isLess_27 : decode cX7_isLess 27 = .ok (.aload_n 0, 1) := by decide +kernel
set_option maxRecDepth 100000 in
theorem dX7_isLess_28 : decode cX7_isLess 28 = .ok (.getfield 80, 3) := by decide +kernel
set_option maxRecDepth 100000 in
theorem dX7_isLess_31 : decode cX7_isLess 31 = .ok (.bipush 12, 2) := by decide +kernel
set_option maxRecDepth 100000 in
theorem dX7_isLess_33 : decode cX7_isLess 33 = .ok (.aload_n 0, 1) := by decide +kernel
set_option maxRecDepth 100000 in
theorem dX7_isLess_34 : decode cX7_isLess 34 = .ok (.getfield 148, 3) := by decide +kernel
set_option maxRecDepth 100000 in
theorem dX7_isLess_37 : decode cX7_isLess 37 = .ok (.imul, 1) := by decide +kernel
set_option maxRecDepth 100000 in
theorem dX7_isLess_38 : decode cX7_isLess 38 = .ok (.iload_n 3, 1) := by decide +kernel
set_option maxRecDepth 100000 in
theorem dX7_isLess_39 : decode cX7_isLess 39 = .ok (.iadd, 1) := by decide +kernel
set_option maxRecDepth 100000 in
theorem dX7_isLess_40 : decode cX7_isLess 40 = .ok (.iaload, 1) := by decide +kernel
set_option maxRecDepth 100000 in
theorem dX7_isLess_41 : decode cX7_isLess 41 = .ok (.invokevirtual 243, 3) := by decide +kernel
set_option maxRecDepth 100000 in
theorem dX7_isLess_44 : decode cX7_isLess 44 = .ok (.istore 4, 2) := by decide +kernel
set_option maxRecDepth 100000 in
theorem dX7_isLess_46 : decode cX7_isLess 46 = .ok (.iload 4, 2) := by decide +kernel
set_option maxRecDepth 100000 in
theorem dX7_isLess_48 : decode cX7_isLess 48 = .ok (.ifCond .lt 80, 3) := by decide +kernel
set_option maxRecDepth 100000 in
theorem dX7_isLess_51 : decode cX7_isLess 51 = .ok (.aload_n 0, 1) := by decide +kernel
set_option maxRecDepth 100000 in
theorem dX7_isLess_52 : decode cX7_isLess 52 = .ok (.getfield 95, 3) := by decide +kernel
set_option maxRecDepth 100000 in
theorem dX7_isLess_55 : decode cX7_isLess 55 = .ok (.bipush 12, 2) := by decide +kernel
set_option maxRecDepth 100000 in
theorem dX7_isLess_57 : decode cX7_isLess 57 = .ok (.iload_n 2, 1) := by decide +kernel
set_option maxRecDepth 100000 in
theorem dX7_isLess_58 : decode cX7_isLess 58 = .ok (.imul, 1) := by decide +kernel
set_option maxRecDepth 100000 in
theorem dX7_isLess_59 : decode cX7_isLess 59 = .ok (.iload 4, 2) := by decide +kernel
set_option maxRecDepth 100000 in
theorem dX7_isLess_61 : decode cX7_isLess 61 = .ok (.iadd, 1) := by decide +kernel
set_option maxRecDepth 100000 in
theorem dX7_isLess_62 : decode cX7_isLess 62 = .ok (.iaload, 1) := by decide +kernel
set_option maxRecDepth 100000 in
theorem dX7_isLess_63 : decode cX7_isLess 63 = .ok (.iconst 1, 1) := by decide +kernel
set_option maxRecDepth 100000 in
theorem dX7_isLess_64 : decode cX7_isLess 64 = .ok (.if_icmp .eq 6, 3) := by decide +kernel
set_option maxRecDepth 100000 in
theorem dX7_isLess_67 : decode cX7_isLess 67 = .ok (.goto 61, 3) := by decide +kernel
set_option maxRecDepth 100000 in
theorem dX7_isLess_70 : decode cX7_isLess 70 = .ok (.aload_n 0, 1) := by decide +kernel
set_option maxRecDepth 100000 in
theorem dX7_isLess_71 : decode cX7_isLess 71 = .ok (.iload_n 2, 1) := by decide +kernel
set_option maxRecDepth 100000 in
theorem dX7_isLess_72 : decode cX7_isLess 72 = .ok (.invokevirtual 246, 3) := by decide +kernel
set_option maxRecDepth 100000 in
theorem dX7_isLess_75 : decode cX7_isLess 75 = .ok (.aload_n 0, 1) := by decide +kernel
set_option maxRecDepth 100000 in
theorem dX7_isLess_76 : decode cX7_isLess 76 = .ok (.iload_n 3, 1) := by decide +kernel
set_option maxRecDepth 100000 in
theorem dX7_isLess_77 : decode cX7_isLess 77 = .ok (.invokevirtual 249, 3) := by decide +kernel
set_option maxRecDepth 100000 in
theorem dX7_isLess_80 : decode cX7_isLess 80 = .ok (.aload_n 0, 1) := by decide +kernel
set_option maxRecDepth 100000 in
theorem dX7_isLess_81 : decode cX7_isLess 81 = .ok (.getfield 252, 3) := by decide +kernel
set_option maxRecDepth 100000 in
theorem dX7_isLess_84 : decode cX7_isLess 84 = .ok (.iconst 1, 1) := by decide +kernel
set_option maxRecDepth 100000 in
theorem dX7_isLess_85 : decode cX7_isLess 85 = .ok (.if_icmp .ne 43, 3) := by decide +kernel
set_option maxRecDepth 100000 in
theorem dX7_isLess_88 : decode cX7_isLess 88 = .ok (.aload_n 0, 1) := by decide +kernel
set_option maxRecDepth 100000 in
theorem dX7_isLess_89 : decode cX7_isLess 89 = .ok (.getfield 255, 3) := by decide +kernel
set_option maxRecDepth 100000 in
theorem dX7_isLess_92 : decode cX7_isLess 92 = .ok (.aload_n 0, 1) := by decide +kernel
set_option maxRecDepth 100000 in
theorem dX7_isLess_93 : decode cX7_isLess 93 = .ok (.getfield 102, 3) := by decide +kernel
set_option maxRecDepth 100000 in
theorem dX7_isLess_96 : decode cX7_isLess 96 = .ok (.bipush 12, 2) := by decide +kernel
set_option maxRecDepth 100000 in
theorem dX7_isLess_98 : decode cX7_isLess 98 = .ok (.iload_n 2, 1) := by decide +kernel
set_option maxRecDepth 100000 in
theorem dX7_isLess_99 : decode cX7_isLess 99 = .ok (.imul, 1) := by decide +kernel
set_option maxRecDepth 100000 in
theorem dX7_isLess_100 : decode cX7_isLess 100 = .ok (.iload 4, 2) := by decide +kernel
set_option maxRecDepth 100000 in
theorem dX7_isLess_102 : decode cX7_isLess 102 = .ok (.iadd, 1) := by decide +kernel
set_option maxRecDepth 100000 in
theorem dX7_isLess_103 : decode cX7_isLess 103 = .ok (.laload, 1) := by decide +kernel
set_option maxRecDepth 100000 in
theorem dX7_isLess_104 : decode cX7_isLess 104 = .ok (.lmul, 1) := by decide +kernel
set_option maxRecDepth 100000 in
theorem dX7_isLess_105 : decode cX7_isLess 105 = .ok (.aload_n 0, 1) := by decide +kernel
set_option maxRecDepth 100000 in
theorem dX7_isLess_106 : decode cX7_isLess 106 = .ok (.getfield 98, 3) := by decide +kernel
set_option maxRecDepth 100000 in
theorem dX7_isLess_109 : decode cX7_isLess 109 = .ok (.bipush 12, 2) := by decide +kernel
set_option maxRecDepth 100000 in
theorem dX7_isLess_111 : decode cX7_isLess 111 = .ok (.iload_n 2, 1) := by decide +kernel
set_option maxRecDepth 100000 in
theorem dX7_isLess_112 : decode cX7_isLess 112 = .ok (.imul, 1) := by decide +kernel
set_option maxRecDepth 100000 in
theorem dX7_isLess_113 : decode cX7_isLess 113 = .ok (.iload 4, 2) := by decide +kernel
set_option maxRecDepth 100000 in
theorem dX7_isLess_115 : decode cX7_isLess 115 = .ok (.iadd, 1) := by decide +kernel
set_option maxRecDepth 100000 in
theorem dX7_isLess_116 : decode cX7_isLess 116 = .ok (.laload, 1) := by decide +kernel
set_option maxRecDepth 100000 in
theorem dX7_isLess_117 : decode cX7_isLess 117 = .ok (.aload_n 0, 1) := by decide +kernel
set_option maxRecDepth 100000 in
theorem dX7_isLess_118 : decode cX7_isLess 118 = .ok (.getfield 259, 3) := by decide +kernel
set_option maxRecDepth 100000 in
theorem dX7_isLess_121 : decode cX7_isLess 121 = .ok (.lmul, 1) := by decide +kernel
set_option maxRecDepth 100000 in
theorem dX7_isLess_122 : decode cX7_isLess 122 = .ok (.lcmp, 1) := by decide +kernel
set_option maxRecDepth 100000 in
theorem dX7_isLess_123 : decode cX7_isLess 123 = .ok (.ifCond .ge 5, 3) := by decide +kernel
set_option maxRecDepth 100000 in
theorem dX7_isLess_126 : decode cX7_isLess 126 = .ok (.iconst 1, 1) := by decide +kernel
set_option maxRecDepth 100000 in
theorem dX7_isLess_127 : decode cX7_isLess 127 = .ok (.ireturn, 1) := by decide +kernel
set_option maxRecDepth 100000 in
theorem dX7_isLess_128 : decode cX7_isLess 128 = .ok (.iinc 3 1, 3) := by decide +kernel
set_option maxRecDepth 100000 in
theorem dX7_isLess_131 : decode cX7_isLess 131 = .ok (.goto (-119), 3) := by decide +kernel
set_option maxRecDepth 100000 in
theorem dX7_isLess_134 : decode cX7_isLess 134 = .ok (.iinc 2 1, 3) := by decide +kernel
set_option maxRecDepth 100000 in
theorem dX7_isLess_137 : decode cX7_isLess 137 = .ok (.goto (-135), 3) := by decide +kernel
set_option maxRecDepth 100000 in
theorem dX7_isLess_140 : decode cX7_isLess 140 = .ok (.iconst 0, 1) := by decide +kernel
set_option maxRecDepth 100000 in
theorem dX7_isLess_141 : decode cX7_isLess 141 = .ok (.ireturn, 1) := by decide +kernel
set_option maxRecDepth 100000 in
theorem dX7_refusesText_0 : decode cX7_refusesText 0 = .ok (.aload_n 0, 1) := by decide +kernel
set_option maxRecDepth 100000 in
theorem dX7_refusesText_1 : decode cX7_refusesText 1 = .ok (.dup, 1) := by decide +kernel
set_option maxRecDepth 100000 in
theorem dX7_refusesText_2 : decode cX7_refusesText 2 = .ok (.getfield 262, 3) := by decide +kernel
set_option maxRecDepth 100000 in
theorem dX7_refusesText_5 : decode cX7_refusesText 5 = .ok (.iconst 1, 1) := by decide +kernel
set_option maxRecDepth 100000 in
theorem dX7_refusesText_6 : decode cX7_refusesText 6 = .ok (.iadd, 1) := by decide +kernel
set_option maxRecDepth 100000 in
theorem dX7_refusesText_7 : decode cX7_refusesText 7 = .ok (.putfield 262, 3) := by decide +kernel
set_option maxRecDepth 100000 in
theorem dX7_refusesText_10 : decode cX7_refusesText 10 = .ok (.iload_n 1, 1) := by decide +kernel
set_option maxRecDepth 100000 in
theorem dX7_refusesText_11 : decode cX7_refusesText 11 = .ok (.ireturn, 1) := by decide +kernel
set_option maxRecDepth 100000 in
theorem dX7_rules_0 : decode cX7_rules 0 = .ok (.iload_n 1, 1) := by decide +kernel
set_option maxRecDepth 100000 in
theorem dX7_rules_1 : decode cX7_rules 1 = .ok (.ifCond .ge 10, 3) := by decide +kernel
set_option maxRecDepth 100000 in
theorem dX7_rules_4 : decode cX7_rules 4 = .ok (.aload_n 0, 1) := by decide +kernel
set_option maxRecDepth 100000 in
theorem dX7_rules_5 : decode cX7_rules 5 = .ok (.bipush (-4), 2) := by decide +kernel
set_option maxRecDepth 100000 in
theorem dX7_rules_7 : decode cX7_rules 7 = .ok (.invokevirtual 133, 3) := by decide +kernel
set_option maxRecDepth 100000 in
theorem dX7_rules_10 : decode cX7_rules 10 = .ok (.ireturn, 1) := by decide +kernel
set_option maxRecDepth 100000 in
theorem dX7_rules_11 : decode cX7_rules 11 = .ok (.iload_n 1, 1) := by decide +kernel
set_option maxRecDepth 100000 in
theorem dX7_rules_12 : decode cX7_rules 12 = .ok (.aload_n 0, 1) := by decide +kernel
set_option maxRecDepth 100000 in
theorem dX7_rules_13 : decode cX7_rules 13 = .ok (.getfield 166, 3) := by decide +kernel
set_option maxRecDepth 100000 in
theorem dX7_rules_16 : decode cX7_rules 16 = .ok (.if_icmp .le 10, 3) := by decide +kernel
set_option maxRecDepth 100000 in
theorem dX7_rules_19 : decode cX7_rules 19 = .ok (.aload_n 0, 1) := by decide +kernel
set_option maxRecDepth 100000 in
theorem dX7_rules_20 : decode cX7_rules 20 = .ok (.bipush (-6), 2) := by decide +kernel
set_option maxRecDepth 100000 in
theorem dX7_rules_22 : decode cX7_rules 22 = .ok (.invokevirtual 133, 3) := by decide +kernel
set_option maxRecDepth 100000 in
theorem dX7_rules_25 : decode cX7_rules 25 = .ok (.ireturn, 1) := by decide +kernel
set_option maxRecDepth 100000 in
theorem dX7_rules_26 : decode cX7_rules 26 = .ok (.aload_n 0, 1) := by decide +kernel
set_option maxRecDepth 100000 in
theorem dX7_rules_27 : decode cX7_rules 27 = .ok (.iconst 1, 1) := by decide +kernel
set_option maxRecDepth 100000 in
theorem dX7_rules_28 : decode cX7_rules 28 = .ok (.aload_n 0, 1) := by decide +kernel
set_option maxRecDepth 100000 in
theorem dX7_rules_29 : decode cX7_rules 29 = .ok (.getfield 148, 3) := by decide +kernel
set_option maxRecDepth 100000 in
theorem dX7_rules_32 : decode cX7_rules 32 = .ok (.isub, 1) := by decide +kernel
set_option maxRecDepth 100000 in
theorem dX7_rules_33 : decode cX7_rules 33 = .ok (.putfield 207, 3) := by decide +kernel
set_option maxRecDepth 100000 in
theorem dX7_rules_36 : decode cX7_rules 36 = .ok (.aload_n 0, 1) := by decide +kernel
set_option maxRecDepth 100000 in
theorem dX7_rules_37 : decode cX7_rules 37 = .ok (.iload_n 1, 1) := by decide +kernel
set_option maxRecDepth 100000 in
theorem dX7_rules_38 : decode cX7_rules 38 = .ok (.invokevirtual 265, 3) := by decide +kernel
set_option maxRecDepth 100000 in
theorem dX7_rules_41 : decode cX7_rules 41 = .ok (.istore_n 3, 1) := by decide +kernel
set_option maxRecDepth 100000 in
theorem dX7_rules_42 : decode cX7_rules 42 = .ok (.aload_n 0, 1) := by decide +kernel
set_option maxRecDepth 100000 in
theorem dX7_rules_43 : decode cX7_rules 43 = .ok (.iconst 0, 1) := by decide +kernel
set_option maxRecDepth 100000 in
theorem dX7_rules_44 : decode cX7_rules 44 = .ok (.putfield 166, 3) := by decide +kernel
set_option maxRecDepth 100000 in
theorem dX7_rules_47 : decode cX7_rules 47 = .ok (.iload_n 3, 1) := by decide +kernel
set_option maxRecDepth 100000 in
theorem dX7_rules_48 : decode cX7_rules 48 = .ok (.ifCond .ne 16, 3) := by decide +kernel
set_option maxRecDepth 100000 in
theorem dX7_rules_51 : decode cX7_rules 51 = .ok (.aload_n 0, 1) := by decide +kernel
set_option maxRecDepth 100000 in
theorem dX7_rules_52 : decode cX7_rules 52 = .ok (.sipush (-1000), 3) := by decide +kernel
set_option maxRecDepth 100000 in
theorem dX7_rules_55 : decode cX7_rules 55 = .ok (.aload_n 0, 1) := by decide +kernel
set_option maxRecDepth 100000 in
theorem dX7_rules_56 : decode cX7_rules 56 = .ok (.getfield 190, 3) := by decide +kernel
set_option maxRecDepth 100000 in
theorem dX7_rules_59 : decode cX7_rules 59 = .ok (.isub, 1) := by decide +kernel
set_option maxRecDepth 100000 in
theorem dX7_rules_60 : decode cX7_rules 60 = .ok (.invokevirtual 268, 3) := by decide +kernel
set_option maxRecDepth 100000 in
theorem dX7_rules_63 : decode cX7_rules 63 = .ok (.ireturn, 1) := by decide +kernel
set_option maxRecDepth 100000 in
theorem dX7_rules_64 : decode cX7_rules 64 = .ok (.aload_n 0, 1) := by decide +kernel
set_option maxRecDepth 100000 in
theorem dX7_rules_65 : decode cX7_rules 65 = .ok (.invokevirtual 271, 3) := by decide +kernel
set_option maxRecDepth 100000 in
theorem dX7_rules_68 : decode cX7_rules 68 = .ok (.istore 4, 2) := by decide +kernel
set_option maxRecDepth 100000 in
theorem dX7_rules_70 : decode cX7_rules 70 = .ok (.iload 4, 2) := by decide +kernel
set_option maxRecDepth 100000 in
theorem dX7_rules_72 : decode cX7_rules 72 = .ok (.ifCond .lt 14, 3) := by decide +kernel
set_option maxRecDepth 100000 in
theorem dX7_rules_75 : decode cX7_rules 75 = .ok (.aload_n 0, 1) := by decide +kernel
set_option maxRecDepth 100000 in
theorem dX7_rules_76 : decode cX7_rules 76 = .ok (.sipush (-2000), 3) := by decide +kernel
set_option maxRecDepth 100000 in
theorem dX7_rules_79 : decode cX7_rules 79 = .ok (.iload 4, 2) := by decide +kernel
set_option maxRecDepth 100000 in
theorem dX7_rules_81 : decode cX7_rules 81 = .ok (.isub, 1) := by decide +kernel
set_option maxRecDepth 100000 in
theorem dX7_rules_82 : decode cX7_rules 82 = .ok (.invokevirtual 268, 3) := by decide +kernel
set_option maxRecDepth 100000 in
theorem dX7_rules_85 : decode cX7_rules 85 = .ok (.ireturn, 1) := by decide +kernel
set_option maxRecDepth 100000 in
theorem dX7_rules_86 : decode cX7_rules 86 = .ok (.aload_n 0, 1) := by decide +kernel
set_option maxRecDepth 100000 in
theorem dX7_rules_87 : decode cX7_rules 87 = .ok (.invokevirtual 274, 3) := by decide +kernel
set_option maxRecDepth 100000 in
theorem dX7_rules_90 : decode cX7_rules 90 = .ok (.istore 5, 2) := by decide +kernel
set_option maxRecDepth 100000 in
theorem dX7_rules_92 : decode cX7_rules 92 = .ok (.iload 5, 2) := by decide +kernel
set_option maxRecDepth 100000 in
theorem dX7_rules_94 : decode cX7_rules 94 = .ok (.ifCond .lt 14, 3) := by decide +kernel
set_option maxRecDepth 100000 in
theorem dX7_rules_97 : decode cX7_rules 97 = .ok (.aload_n 0, 1) := by decide +kernel
set_option maxRecDepth 100000 in
theorem dX7_rules_98 : decode cX7_rules 98 = .ok (.sipush (-3000), 3) := by decide +kernel
set_option maxRecDepth 100000 in
theorem dX7_rules_101 : decode cX7_rules 101 = .ok (.iload 5, 2) := by decide +kernel
set_option maxRecDepth 100000 in
theorem dX7_rules_103 : decode cX7_rules 103 = .ok (.isub, 1) := by decide +kernel
set_option maxRecDepth 100000 in
theorem dX7_rules_104 : decode cX7_rules 104 = .ok (.invokevirtual 268, 3) := by decide +kernel
set_option maxRecDepth 100000 in
theorem dX7_rules_107 : decode cX7_rules 107 = .ok (.ireturn, 1) := by decide +kernel
set_option maxRecDepth 100000 in
theorem dX7_rules_108 : decode cX7_rules 108 = .ok (.aload_n 0, 1) := by decide +kernel
set_option maxRecDepth 100000 in
theorem dX7_rules_109 : decode cX7_rules 109 = .ok (.aload_n 0, 1) := by decide +kernel
set_option maxRecDepth 100000 in
theorem dX7_rules_110 : decode cX7_rules 110 = .ok (.getfield 207, 3) := by decide +kernel
set_option maxRecDepth 100000 in
theorem dX7_rules_113 : decode cX7_rules 113 = .ok (.invokevirtual 277, 3) := by decide +kernel
set_option maxRecDepth 100000 in
theorem dX7_rules_116 : decode cX7_rules 116 = .ok (.aload_n 0, 1) := by decide +kernel
set_option maxRecDepth 100000 in
theorem dX7_rules_117 : decode cX7_rules 117 = .ok (.invokevirtual 280, 3) := by decide +kernel
set_option maxRecDepth 100000 in
theorem dX7_rules_120 : decode cX7_rules 120 = .ok (.ifCond .eq 10, 3) := by decide +kernel
set_option maxRecDepth 100000 in
theorem dX7_rules_123 : decode cX7_rules 123 = .ok (.aload_n 0, 1) := by decide +kernel
set_option maxRecDepth 100000 in
theorem dX7_rules_124 : decode cX7_rules 124 = .ok (.bipush (-5), 2) := by decide +kernel
set_option maxRecDepth 100000 in
theorem dX7_rules_126 : decode cX7_rules 126 = .ok (.invokevirtual 133, 3) := by decide +kernel
set_option maxRecDepth 100000 in
theorem dX7_rules_129 : decode cX7_rules 129 = .ok (.ireturn, 1) := by decide +kernel
set_option maxRecDepth 100000 in
theorem dX7_rules_130 : decode cX7_rules 130 = .ok (.iconst 0, 1) := by decide +kernel
set_option maxRecDepth 100000 in
theorem dX7_rules_131 : decode cX7_rules 131 = .ok (.istore 6, 2) := by decide +kernel
set_option maxRecDepth 100000 in
theorem dX7_rules_133 : decode cX7_rules 133 = .ok (.iload 6, 2) := by decide +kernel
set_option maxRecDepth 100000 in
theorem dX7_rules_135 : decode cX7_rules 135 = .ok (.aload_n 0, 1) := by decide +kernel
set_option maxRecDepth 100000 in
theorem dX7_rules_136 : decode cX7_rules 136 = .ok (.getfield 145, 3) := by decide +kernel
set_option maxRecDepth 100000 in
theorem dX7_rules_139 : decode cX7_rules 139 = .ok (.if_icmp .ge 35, 3) := by decide +kernel
set_option maxRecDepth 100000 in
theorem dX7_rules_142 : decode cX7_rules 142 = .ok (.aload_n 0, 1) := by decide +kernel
set_option maxRecDepth 100000 in
theorem dX7_rules_143 : decode cX7_rules 143 = .ok (.getfield 28, 3) := by decide +kernel
set_option maxRecDepth 100000 in
theorem dX7_rules_146 : decode cX7_rules 146 = .ok (.iload 6, 2) := by decide +kernel
set_option maxRecDepth 100000 in
theorem dX7_rules_148 : decode cX7_rules 148 = .ok (.iaload, 1) := by decide +kernel
set_option maxRecDepth 100000 in
theorem dX7_rules_149 : decode cX7_rules 149 = .ok (.aload_n 0, 1) := by decide +kernel
set_option maxRecDepth 100000 in
theorem dX7_rules_150 : decode cX7_rules 150 = .ok (.getfield 77, 3) := by decide +kernel
set_option maxRecDepth 100000 in
theorem dX7_rules_153 : decode cX7_rules 153 = .ok (.aload_n 0, 1) := by decide +kernel
set_option maxRecDepth 100000 in
theorem dX7_rules_154 : decode cX7_rules 154 = .ok (.getfield 207, 3) := by decide +kernel
set_option maxRecDepth 100000 in
theorem dX7_rules_157 : decode cX7_rules 157 = .ok (.iaload, 1) := by decide +kernel
set_option maxRecDepth 100000 in
theorem dX7_rules_158 : decode cX7_rules 158 = .ok (.if_icmp .lt 10, 3) := by decide +kernel
set_option maxRecDepth 100000 in
theorem dX7_rules_161 : decode cX7_rules 161 = .ok (.aload_n 0, 1) := by decide +kernel
set_option maxRecDepth 100000 in
theorem dX7_rules_162 : decode cX7_rules 162 = .ok (.bipush (-3), 2) := by decide +kernel
set_option maxRecDepth 100000 in
theorem dX7_rules_164 : decode cX7_rules 164 = .ok (.invokevirtual 133, 3) := by decide +kernel
set_option maxRecDepth 100000 in
theorem dX7_rules_167 : decode cX7_rules 167 = .ok (.ireturn, 1) := by decide +kernel
set_option maxRecDepth 100000 in
theorem dX7_rules_168 : decode cX7_rules 168 = .ok (.iinc 6 1, 3) := by decide +kernel
set_option maxRecDepth 100000 in
theorem dX7_rules_171 : decode cX7_rules 171 = .ok (.goto (-38), 3) := by decide +kernel
set_option maxRecDepth 100000 in
theorem dX7_rules_174 : decode cX7_rules 174 = .ok (.iload_n 2, 1) := by decide +kernel
set_option maxRecDepth 100000 in
theorem dX7_rules_175 : decode cX7_rules 175 = .ok (.ifCond .eq 7, 3) := by decide +kernel
set_option maxRecDepth 100000 in
theorem dX7_rules_178 : decode cX7_rules 178 = .ok (.aload_n 0, 1) := by decide +kernel
set_option maxRecDepth 100000 in
theorem dX7_rules_179 : decode cX7_rules 179 = .ok (.invokevirtual 283, 3) := by decide +kernel
set_option maxRecDepth 100000 in
theorem dX7_rules_182 : decode cX7_rules 182 = .ok (.aload_n 0, 1) := by decide +kernel
set_option maxRecDepth 100000 in
theorem dX7_rules_183 : decode cX7_rules 183 = .ok (.getfield 148, 3) := by decide +kernel
set_option maxRecDepth 100000 in
theorem dX7_rules_186 : decode cX7_rules 186 = .ok (.istore 6, 2) := by decide +kernel
set_option maxRecDepth 100000 in
theorem dX7_rules_188 : decode cX7_rules 188 = .ok (.aload_n 0, 1) := by decide +kernel
set_option maxRecDepth 100000 in
theorem dX7_rules_189 : decode cX7_rules 189 = .ok (.aload_n 0, 1) := by decide +kernel
set_option maxRecDepth 100000 in
theorem dX7_rules_190 : decode cX7_rules 190 = .ok (.getfield 207, 3) := by decide +kernel
set_option maxRecDepth 100000 in
theorem dX7_rules_193 : decode cX7_rules 193 = .ok (.putfield 148, 3) := by decide +kernel
set_option maxRecDepth 100000 in
theorem dX7_rules_196 : decode cX7_rules 196 = .ok (.iload_n 2, 1) := by decide +kernel
set_option maxRecDepth 100000 in
theorem dX7_rules_197 : decode cX7_rules 197 = .ok (.ifCond .eq 25, 3) := by decide +kernel
set_option maxRecDepth 100000 in
theorem dX7_rules_200 : decode cX7_rules 200 = .ok (.aload_n 0, 1) := by decide +kernel
set_option maxRecDepth 100000 in
theorem dX7_rules_201 : decode cX7_rules 201 = .ok (.iload 6, 2) := by decide +kernel
set_option maxRecDepth 100000 in
theorem dX7_rules_203 : decode cX7_rules 203 = .ok (.invokevirtual 286, 3) := by decide +kernel
set_option maxRecDepth 100000 in
theorem dX7_rules_206 : decode cX7_rules 206 = .ok (.ifCond .eq 16, 3) := by decide +kernel
set_option maxRecDepth 100000 in
theorem dX7_rules_209 : decode cX7_rules 209 = .ok (.aload_n 0, 1) := by decide +kernel
set_option maxRecDepth 100000 in
theorem dX7_rules_210 : decode cX7_rules 210 = .ok (.iload 6, 2) := by decide +kernel
set_option maxRecDepth 100000 in
theorem dX7_rules_212 : decode cX7_rules 212 = .ok (.putfield 148, 3) := by decide +kernel
set_option maxRecDepth 100000 in
theorem dX7_rules_215 : decode cX7_rules 215 = .ok (.aload_n 0, 1) := by decide +kernel
set_option maxRecDepth 100000 in
theorem dX7_rules_216 : decode cX7_rules 216 = .ok (.bipush (-7), 2) := by decide +kernel
set_option maxRecDepth 100000 in
theorem dX7_rules_218 : decode cX7_rules 218 = .ok (.invokevirtual 133, 3) := by decide +kernel
set_option maxRecDepth 100000 in
theorem dX7_rules_221 : decode cX7_rules 221 = .ok (.ireturn, 1) := by decide +kernel
set_option maxRecDepth 100000 in
theorem dX7_rules_222 : decode cX7_rules 222 = .ok (.aload_n 0, 1) := by decide +kernel
set_option maxRecDepth 100000 in
theorem dX7_rules_223 : decode cX7_rules 223 = .ok (.getfield 77, 3) := by decide +kernel
set_option maxRecDepth 100000 in
theorem dX7_rules_226 : decode cX7_rules 226 = .ok (.aload_n 0, 1) := by decide +kernel
set_option maxRecDepth 100000 in
theorem dX7_rules_227 : decode cX7_rules 227 = .ok (.getfield 148, 3) := by decide +kernel
set_option maxRecDepth 100000 in
theorem dX7_rules_230 : decode cX7_rules 230 = .ok (.iaload, 1) := by decide +kernel
set_option maxRecDepth 100000 in
theorem dX7_rules_231 : decode cX7_rules 231 = .ok (.ireturn, 1) := by decide +kernel
set_option maxRecDepth 100000 in
theorem dX7_name_0 : decode cX7_name 0 = .ok (.aload_n 0, 1) := by decide +kernel
set_option maxRecDepth 100000 in
theorem dX7_name_1 : decode cX7_name 1 = .ok (.iload_n 1, 1) := by decide +kernel
set_option maxRecDepth 100000 in
theorem dX7_name_2 : decode cX7_name 2 = .ok (.invokevirtual 289, 3) := by decide +kernel
set_option maxRecDepth 100000 in
theorem dX7_name_5 : decode cX7_name 5 = .ok (.ifCond .eq 20, 3) := by decide +kernel
set_option maxRecDepth 100000 in
theorem dX7_name_8 : decode cX7_name 8 = .ok (.aload_n 0, 1) := by decide +kernel
set_option maxRecDepth 100000 in
theorem dX7_name_9 : decode cX7_name 9 = .ok (.getfield 80, 3) := by decide +kernel
set_option maxRecDepth 100000 in
theorem dX7_name_12 : decode cX7_name 12 = .ok (.bipush 12, 2) := by decide +kernel
set_option maxRecDepth 100000 in
theorem dX7_name_14 : decode cX7_name 14 = .ok (.aload_n 0, 1) := by decide +kernel
set_option maxRecDepth 100000 in
theorem dX7_name_15 : decode cX7_name 15 = .ok (.getfield 148, 3) := by decide +kernel
set_option maxRecDepth 100000 in
theorem dX7_name_18 : decode cX7_name 18 = .ok (.imul, 1) := by decide +kernel
set_option maxRecDepth 100000 in
theorem dX7_name_19 : decode cX7_name 19 = .ok (.iload_n 1, 1) := by decide +kernel
set_option maxRecDepth 100000 in
theorem dX7_name_20 : decode cX7_name 20 = .ok (.iadd, 1) := by decide +kernel
set_option maxRecDepth 100000 in
theorem dX7_name_21 : decode cX7_name 21 = .ok (.iaload, 1) := by decide +kernel
set_option maxRecDepth 100000 in
theorem dX7_name_22 : decode cX7_name 22 = .ok (.goto 8, 3) := by decide +kernel
set_option maxRecDepth 100000 in
theorem dX7_name_25 : decode cX7_name 25 = .ok (.aload_n 0, 1) := by decide +kernel
set_option maxRecDepth 100000 in
theorem dX7_name_26 : decode cX7_name 26 = .ok (.iconst (-1), 1) := by decide +kernel
set_option maxRecDepth 100000 in
theorem dX7_name_27 : decode cX7_name 27 = .ok (.invokevirtual 133, 3) := by decide +kernel
set_option maxRecDepth 100000 in
theorem dX7_name_30 : decode cX7_name 30 = .ok (.ireturn, 1) := by decide +kernel
set_option maxRecDepth 100000 in
theorem dX7_hangs_0 : decode cX7_hangs 0 = .ok (.aload_n 0, 1) := by decide +kernel
set_option maxRecDepth 100000 in
theorem dX7_hangs_1 : decode cX7_hangs 1 = .ok (.iload_n 1, 1) := by decide +kernel
set_option maxRecDepth 100000 in
theorem dX7_hangs_2 : decode cX7_hangs 2 = .ok (.invokevirtual 289, 3) := by decide +kernel
set_option maxRecDepth 100000 in
theorem dX7_hangs_5 : decode cX7_hangs 5 = .ok (.ifCond .eq 11, 3) := by decide +kernel
set_option maxRecDepth 100000 in
theorem dX7_hangs_8 : decode cX7_hangs 8 = .ok (.aload_n 0, 1) := by decide +kernel
set_option maxRecDepth 100000 in
theorem dX7_hangs_9 : decode cX7_hangs 9 = .ok (.iload_n 2, 1) := by decide +kernel
set_option maxRecDepth 100000 in
theorem dX7_hangs_10 : decode cX7_hangs 10 = .ok (.invokevirtual 156, 3) := by decide +kernel
set_option maxRecDepth 100000 in
theorem dX7_hangs_13 : decode cX7_hangs 13 = .ok (.ifCond .ne 9, 3) := by decide +kernel
set_option maxRecDepth 100000 in
theorem dX7_hangs_16 : decode cX7_hangs 16 = .ok (.aload_n 0, 1) := by decide +kernel
set_option maxRecDepth 100000 in
theorem dX7_hangs_17 : decode cX7_hangs 17 = .ok (.iconst (-1), 1) := by decide +kernel
set_option maxRecDepth 100000 in
theorem dX7_hangs_18 : decode cX7_hangs 18 = .ok (.invokevirtual 133, 3) := by decide +kernel
set_option maxRecDepth 100000 in
theorem dX7_hangs_21 : decode cX7_hangs 21 = .ok (.ireturn, 1) := by decide +kernel
set_option maxRecDepth 100000 in
theorem dX7_hangs_22 : decode cX7_hangs 22 = .ok (.aload_n 0, 1) := by decide +kernel
set_option maxRecDepth 100000 in
theorem dX7_hangs_23 : decode cX7_hangs 23 = .ok (.aload_n 0, 1) := by decide +kernel
set_option maxRecDepth 100000 in
theorem dX7_hangs_24 : decode cX7_hangs 24 = .ok (.getfield 148, 3) := by decide +kernel
set_option maxRecDepth 100000 in
theorem dX7_hangs_27 : decode cX7_hangs 27 = .ok (.invokevirtual 277, 3) := by decide +kernel
set_option maxRecDepth 100000 in
theorem dX7_hangs_30 : decode cX7_hangs 30 = .ok (.aload_n 0, 1) := by decide +kernel
set_option maxRecDepth 100000 in
theorem dX7_hangs_31 : decode cX7_hangs 31 = .ok (.getfield 92, 3) := by decide +kernel
set_option maxRecDepth 100000 in
theorem dX7_hangs_34 : decode cX7_hangs 34 = .ok (.iload_n 1, 1) := by decide +kernel
set_option maxRecDepth 100000 in
theorem dX7_hangs_35 : decode cX7_hangs 35 = .ok (.iaload, 1) := by decide +kernel
set_option maxRecDepth 100000 in
theorem dX7_hangs_36 : decode cX7_hangs 36 = .ok (.bipush 12, 2) := by decide +kernel
set_option maxRecDepth 100000 in
theorem dX7_hangs_38 : decode cX7_hangs 38 = .ok (.iload_n 2, 1) := by decide +kernel
set_option maxRecDepth 100000 in
theorem dX7_hangs_39 : decode cX7_hangs 39 = .ok (.iadd, 1) := by decide +kernel
set_option maxRecDepth 100000 in
theorem dX7_hangs_40 : decode cX7_hangs 40 = .ok (.ishr, 1) := by decide +kernel
set_option maxRecDepth 100000 in
theorem dX7_hangs_41 : decode cX7_hangs 41 = .ok (.iconst 1, 1) := by decide +kernel
set_option maxRecDepth 100000 in
theorem dX7_hangs_42 : decode cX7_hangs 42 = .ok (.iand, 1) := by decide +kernel
set_option maxRecDepth 100000 in
theorem dX7_hangs_43 : decode cX7_hangs 43 = .ok (.ireturn, 1) := by decide +kernel
set_option maxRecDepth 100000 in
theorem dX7_need_0 : decode cX7_need 0 = .ok (.aload_n 0, 1) := by decide +kernel
set_option maxRecDepth 100000 in
theorem dX7_need_1 : decode cX7_need 1 = .ok (.iload_n 1, 1) := by decide +kernel
set_option maxRecDepth 100000 in
theorem dX7_need_2 : decode cX7_need 2 = .ok (.invokevirtual 156, 3) := by decide +kernel
set_option maxRecDepth 100000 in
theorem dX7_need_5 : decode cX7_need 5 = .ok (.ifCond .eq 16, 3) := by decide +kernel
set_option maxRecDepth 100000 in
theorem dX7_need_8 : decode cX7_need 8 = .ok (.iload_n 2, 1) := by decide +kernel
set_option maxRecDepth 100000 in
theorem dX7_need_9 : decode cX7_need 9 = .ok (.iconst (-1), 1) := by decide +kernel
set_option maxRecDepth 100000 in
theorem dX7_need_10 : decode cX7_need 10 = .ok (.if_icmp .eq 17, 3) := by decide +kernel
set_option maxRecDepth 100000 in
theorem dX7_need_13 : decode cX7_need 13 = .ok (.aload_n 0, 1) := by decide +kernel
set_option maxRecDepth 100000 in
theorem dX7_need_14 : decode cX7_need 14 = .ok (.iload_n 2, 1) := by decide +kernel
set_option maxRecDepth 100000 in
theorem dX7_need_15 : decode cX7_need 15 = .ok (.invokevirtual 289, 3) := by decide +kernel
set_option maxRecDepth 100000 in
theorem dX7_need_18 : decode cX7_need 18 = .ok (.ifCond .ne 9, 3) := by decide +kernel
set_option maxRecDepth 100000 in
theorem dX7_need_21 : decode cX7_need 21 = .ok (.aload_n 0, 1) := by decide +kernel
set_option maxRecDepth 100000 in
theorem dX7_need_22 : decode cX7_need 22 = .ok (.iconst (-1), 1) := by decide +kernel
set_option maxRecDepth 100000 in
theorem dX7_need_23 : decode cX7_need 23 = .ok (.invokevirtual 133, 3) := by decide +kernel
set_option maxRecDepth 100000 in
theorem dX7_need_26 : decode cX7_need 26 = .ok (.ireturn, 1) := by decide +kernel
set_option maxRecDepth 100000 in
theorem dX7_need_27 : decode cX7_need 27 = .ok (.iload_n 3, 1) := by decide +kernel
set_option maxRecDepth 100000 in
theorem dX7_need_28 : decode cX7_need 28 = .ok (.ifCond .ge 10, 3) := by decide +kernel
set_option maxRecDepth 100000 in
theorem dX7_need_31 : decode cX7_need 31 = .ok (.aload_n 0, 1) := by decide +kernel
set_option maxRecDepth 100000 in
theorem dX7_need_32 : decode cX7_need 32 = .ok (.bipush (-4), 2) := by decide +kernel
set_option maxRecDepth 100000 in
theorem dX7_need_34 : decode cX7_need 34 = .ok (.invokevirtual 133, 3) := by decide +kernel
set_option maxRecDepth 100000 in
theorem dX7_need_37 : decode cX7_need 37 = .ok (.ireturn, 1) := by decide +kernel
set_option maxRecDepth 100000 in
theorem dX7_need_38 : decode cX7_need 38 = .ok (.iload_n 3, 1) := by decide +kernel
set_option maxRecDepth 100000 in
theorem dX7_need_39 : decode cX7_need 39 = .ok (.sipush 9999, 3) := by decide +kernel
set_option maxRecDepth 100000 in
theorem dX7_need_42 : decode cX7_need 42 = .ok (.if_icmp .le 10, 3) := by decide +kernel
set_option maxRecDepth 100000 in
theorem dX7_need_45 : decode cX7_need 45 = .ok (.aload_n 0, 1) := by decide +kernel
set_option maxRecDepth 100000 in
theorem dX7_need_46 : decode cX7_need 46 = .ok (.bipush (-6), 2) := by decide +kernel
set_option maxRecDepth 100000 in
theorem dX7_need_48 : decode cX7_need 48 = .ok (.invokevirtual 133, 3) := by decide +kernel
set_option maxRecDepth 100000 in
theorem dX7_need_51 : decode cX7_need 51 = .ok (.ireturn, 1) := by decide +kernel
set_option maxRecDepth 100000 in
theorem dX7_need_52 : decode cX7_need 52 = .ok (.aload_n 0, 1) := by decide +kernel
set_option maxRecDepth 100000 in
theorem dX7_need_53 : decode cX7_need 53 = .ok (.getfield 28, 3) := by decide +kernel
set_option maxRecDepth 100000 in
theorem dX7_need_56 : decode cX7_need 56 = .ok (.iload_n 1, 1) := by decide +kernel
set_option maxRecDepth 100000 in
theorem dX7_need_57 : decode cX7_need 57 = .ok (.iaload, 1) := by decide +kernel
set_option maxRecDepth 100000 in
theorem dX7_need_58 : decode cX7_need 58 = .ok (.istore 4, 2) := by decide +kernel
set_option maxRecDepth 100000 in
theorem dX7_need_60 : decode cX7_need 60 = .ok (.aload_n 0, 1) := by decide +kernel
set_option maxRecDepth 100000 in
theorem dX7_need_61 : decode cX7_need 61 = .ok (.getfield 28, 3) := by decide +kernel
set_option maxRecDepth 100000 in
theorem dX7_need_64 : decode cX7_need 64 = .ok (.iload_n 1, 1) := by decide +kernel
set_option maxRecDepth 100000 in
theorem dX7_need_65 : decode cX7_need 65 = .ok (.iload_n 2, 1) := by decide +kernel
set_option maxRecDepth 100000 in
theorem dX7_need_66 : decode cX7_need 66 = .ok (.iastore, 1) := by decide +kernel
set_option maxRecDepth 100000 in
theorem dX7_need_67 : decode cX7_need 67 = .ok (.aload_n 0, 1) := by decide +kernel
set_option maxRecDepth 100000 in
theorem dX7_need_68 : decode cX7_need 68 = .ok (.aload_n 0, 1) := by decide +kernel
set_option maxRecDepth 100000 in
theorem dX7_need_69 : decode cX7_need 69 = .ok (.getfield 148, 3) := by decide +kernel
set_option maxRecDepth 100000 in
theorem dX7_need_72 : decode cX7_need 72 = .ok (.invokevirtual 277, 3) := by decide +kernel
set_option maxRecDepth 100000 in
theorem dX7_need_75 : decode cX7_need 75 = .ok (.aload_n 0, 1) := by decide +kernel
set_option maxRecDepth 100000 in
theorem dX7_need_76 : decode cX7_need 76 = .ok (.invokevirtual 280, 3) := by decide +kernel
set_option maxRecDepth 100000 in
theorem dX7_need_79 : decode cX7_need 79 = .ok (.ifCond .eq 18, 3) := by decide +kernel
set_option maxRecDepth 100000 in
theorem dX7_need_82 : decode cX7_need 82 = .ok (.aload_n 0, 1) := by decide +kernel
set_option maxRecDepth 100000 in
theorem dX7_need_83 : decode cX7_need 83 = .ok (.getfield 28, 3) := by decide +kernel
set_option maxRecDepth 100000 in
theorem dX7_need_86 : decode cX7_need 86 = .ok (.iload_n 1, 1) := by decide +kernel
set_option maxRecDepth 100000 in
theorem dX7_need_87 : decode cX7_need 87 = .ok (.iload 4, 2) := by decide +kernel
set_option maxRecDepth 100000 in
theorem dX7_need_89 : decode cX7_need 89 = .ok (.iastore, 1) := by decide +kernel
set_option maxRecDepth 100000 in
theorem dX7_need_90 : decode cX7_need 90 = .ok (.aload_n 0, 1) := by decide +kernel
set_option maxRecDepth 100000 in
theorem dX7_need_91 : decode cX7_need 91 = .ok (.bipush (-5), 2) := by decide +kernel
set_option maxRecDepth 100000 in
theorem dX7_need_93 : decode cX7_need 93 = .ok (.invokevirtual 133, 3) := by decide +kernel
set_option maxRecDepth 100000 in
theorem dX7_need_96 : decode cX7_need 96 = .ok (.ireturn, 1) := by decide +kernel
set_option maxRecDepth 100000 in
theorem dX7_need_97 : decode cX7_need 97 = .ok (.aload_n 0, 1) := by decide +kernel
set_option maxRecDepth 100000 in
theorem dX7_need_98 : decode cX7_need 98 = .ok (.getfield 31, 3) := by decide +kernel
set_option maxRecDepth 100000 in
theorem dX7_need_101 : decode cX7_need 101 = .ok (.iload_n 1, 1) := by decide +kernel
set_option maxRecDepth 100000 in
theorem dX7_need_102 : decode cX7_need 102 = .ok (.iload_n 3, 1) := by decide +kernel
set_option maxRecDepth 100000 in
theorem dX7_need_103 : decode cX7_need 103 = .ok (.iastore, 1) := by decide +kernel
set_option maxRecDepth 100000 in
theorem dX7_need_104 : decode cX7_need 104 = .ok (.iconst 1, 1) := by decide +kernel
set_option maxRecDepth 100000 in
theorem dX7_need_105 : decode cX7_need 105 = .ok (.ireturn, 1) := by decide +kernel
set_option maxRecDepth 100000 in
theorem dX7_tells_0 : decode cX7_tells 0 = .ok (.lload_n 1, 1) := by decide +kernel
set_option maxRecDepth 100000 in
theorem dX7_tells_1 : decode cX7_tells 1 = .ok (.invokestatic 292, 3) := by decide +kernel
set_option maxRecDepth 100000 in
theorem dX7_tells_4 : decode cX7_tells 4 = .ok (.lstore 5, 2) := by decide +kernel
set_option maxRecDepth 100000 in
theorem dX7_tells_6 : decode cX7_tells 6 = .ok (.lload_n 3, 1) := by decide +kernel
set_option maxRecDepth 100000 in
theorem dX7_tells_7 : decode cX7_tells 7 = .ok (.lstore 7, 2) := by decide +kernel
set_option maxRecDepth 100000 in
theorem dX7_tells_9 : decode cX7_tells 9 = .ok (.lload 7, 2) := by decide +kernel
set_option maxRecDepth 100000 in
theorem dX7_tells_11 : decode cX7_tells 11 = .ok (.lconst 0, 1) := by decide +kernel
set_option maxRecDepth 100000 in
theorem dX7_tells_12 : decode cX7_tells 12 = .ok (.lcmp, 1) := by decide +kernel
set_option maxRecDepth 100000 in
theorem dX7_tells_13 : decode cX7_tells 13 = .ok (.ifCond .eq 21, 3) := by decide +kernel
set_option maxRecDepth 100000 in
theorem dX7_tells_16 : decode cX7_tells 16 = .ok (.lload 5, 2) := by decide +kernel
set_option maxRecDepth 100000 in
theorem dX7_tells_18 : decode cX7_tells 18 = .ok (.lload 7, 2) := by decide +kernel
set_option maxRecDepth 100000 in
theorem dX7_tells_20 : decode cX7_tells 20 = .ok (.lrem, 1) := by decide +kernel
set_option maxRecDepth 100000 in
theorem dX7_tells_21 : decode cX7_tells 21 = .ok (.lstore 9, 2) := by decide +kernel
set_option maxRecDepth 100000 in
theorem dX7_tells_23 : decode cX7_tells 23 = .ok (.lload 7, 2) := by decide +kernel
set_option maxRecDepth 100000 in
theorem dX7_tells_25 : decode cX7_tells 25 = .ok (.lstore 5, 2) := by decide +kernel
set_option maxRecDepth 100000 in
theorem dX7_tells_27 : decode cX7_tells 27 = .ok (.lload 9, 2) := by decide +kernel
set_option maxRecDepth 100000 in
theorem dX7_tells_29 : decode cX7_tells 29 = .ok (.lstore 7, 2) := by decide +kernel
set_option maxRecDepth 100000 in
theorem dX7_tells_31 : decode cX7_tells 31 = .ok (.goto (-22), 3) := by decide +kernel
set_option maxRecDepth 100000 in
theorem dX7_tells_34 : decode cX7_tells 34 = .ok (.aload_n 0, 1) := by decide +kernel
set_option maxRecDepth 100000 in
theorem dX7_tells_35 : decode cX7_tells 35 = .ok (.lload_n 1, 1) := by decide +kernel
set_option maxRecDepth 100000 in
theorem dX7_tells_36 : decode cX7_tells 36 = .ok (.lload 5, 2) := by decide +kernel
set_option maxRecDepth 100000 in
theorem dX7_tells_38 : decode cX7_tells 38 = .ok (.ldiv, 1) := by decide +kernel
set_option maxRecDepth 100000 in
theorem dX7_tells_39 : decode cX7_tells 39 = .ok (.putfield 255, 3) := by decide +kernel
set_option maxRecDepth 100000 in
theorem dX7_tells_42 : decode cX7_tells 42 = .ok (.aload_n 0, 1) := by decide +kernel
set_option maxRecDepth 100000 in
theorem dX7_tells_43 : decode cX7_tells 43 = .ok (.lload_n 3, 1) := by decide +kernel
set_option maxRecDepth 100000 in
theorem dX7_tells_44 : decode cX7_tells 44 = .ok (.lload 5, 2) := by decide +kernel
set_option maxRecDepth 100000 in
theorem dX7_tells_46 : decode cX7_tells 46 = .ok (.ldiv, 1) := by decide +kernel
set_option maxRecDepth 100000 in
theorem dX7_tells_47 : decode cX7_tells 47 = .ok (.putfield 259, 3) := by decide +kernel
set_option maxRecDepth 100000 in
theorem dX7_tells_50 : decode cX7_tells 50 = .ok (.aload_n 0, 1) := by decide +kernel
set_option maxRecDepth 100000 in
theorem dX7_tells_51 : decode cX7_tells 51 = .ok (.aload_n 0, 1) := by decide +kernel
set_option maxRecDepth 100000 in
theorem dX7_tells_52 : decode cX7_tells 52 = .ok (.getfield 255, 3) := by decide +kernel
set_option maxRecDepth 100000 in
theorem dX7_tells_55 : decode cX7_tells 55 = .ok (.ldc2_w 298, 3) := by decide +kernel
set_option maxRecDepth 100000 in
theorem dX7_tells_58 : decode cX7_tells 58 = .ok (.lcmp, 1) := by decide +kernel
set_option maxRecDepth 100000 in
theorem dX7_tells_59 : decode cX7_tells 59 = .ok (.ifCond .gt 25, 3) := by decide +kernel
set_option maxRecDepth 100000 in
theorem dX7_tells_62 : decode cX7_tells 62 = .ok (.aload_n 0, 1) := by decide +kernel
set_option maxRecDepth 100000 in
theorem dX7_tells_63 : decode cX7_tells 63 = .ok (.getfield 255, 3) := by decide +kernel
set_option maxRecDepth 100000 in
theorem dX7_tells_66 : decode cX7_tells 66 = .ok (.ldc2_w 300, 3) := by decide +kernel
set_option maxRecDepth 100000 in
theorem dX7_tells_69 : decode cX7_tells 69 = .ok (.lcmp, 1) := by decide +kernel
set_option maxRecDepth 100000 in
theorem dX7_tells_70 : decode cX7_tells 70 = .ok (.ifCond .lt 14, 3) := by decide +kernel
set_option maxRecDepth 100000 in
theorem dX7_tells_73 : decode cX7_tells 73 = .ok (.aload_n 0, 1) := by decide +kernel
set_option maxRecDepth 100000 in
theorem dX7_tells_74 : decode cX7_tells 74 = .ok (.getfield 259, 3) := by decide +kernel
set_option maxRecDepth 100000 in
theorem dX7_tells_77 : decode cX7_tells 77 = .ok (.ldc2_w 298, 3) := by decide +kernel
set_option maxRecDepth 100000 in
theorem dX7_tells_80 : decode cX7_tells 80 = .ok (.lcmp, 1) := by decide +kernel
set_option maxRecDepth 100000 in
theorem dX7_tells_81 : decode cX7_tells 81 = .ok (.ifCond .le 7, 3) := by decide +kernel
set_option maxRecDepth 100000 in
theorem dX7_tells_84 : decode cX7_tells 84 = .ok (.iconst 2, 1) := by decide +kernel
set_option maxRecDepth 100000 in
theorem dX7_tells_85 : decode cX7_tells 85 = .ok (.goto 4, 3) := by decide +kernel
set_option maxRecDepth 100000 in
theorem dX7_tells_88 : decode cX7_tells 88 = .ok (.iconst 1, 1) := by decide +kernel
set_option maxRecDepth 100000 in
theorem dX7_tells_89 : decode cX7_tells 89 = .ok (.putfield 252, 3) := by decide +kernel
set_option maxRecDepth 100000 in
theorem dX7_tells_92 : decode cX7_tells 92 = .ok (.return_, 1) := by decide +kernel
set_option maxRecDepth 100000 in
theorem dX7_days_0 : decode cX7_days 0 = .ok (.aload_n 0, 1) := by decide +kernel
set_option maxRecDepth 100000 in
theorem dX7_days_1 : decode cX7_days 1 = .ok (.getfield 40, 3) := by decide +kernel
set_option maxRecDepth 100000 in
theorem dX7_days_4 : decode cX7_days 4 = .ok (.iconst 3, 1) := by decide +kernel
set_option maxRecDepth 100000 in
theorem dX7_days_5 : decode cX7_days 5 = .ok (.iload_n 1, 1) := by decide +kernel
set_option maxRecDepth 100000 in
theorem dX7_days_6 : decode cX7_days 6 = .ok (.iload_n 2, 1) := by decide +kernel
set_option maxRecDepth 100000 in
theorem dX7_days_7 : decode cX7_days 7 = .ok (.invokestatic 159, 3) := by decide +kernel
set_option maxRecDepth 100000 in
theorem dX7_days_10 : decode cX7_days 10 = .ok (.imul, 1) := by decide +kernel
set_option maxRecDepth 100000 in
theorem dX7_days_11 : decode cX7_days 11 = .ok (.iload_n 3, 1) := by decide +kernel
set_option maxRecDepth 100000 in
theorem dX7_days_12 : decode cX7_days 12 = .ok (.iadd, 1) := by decide +kernel
set_option maxRecDepth 100000 in
theorem dX7_days_13 : decode cX7_days 13 = .ok (.iaload, 1) := by decide +kernel
set_option maxRecDepth 100000 in
theorem dX7_days_14 : decode cX7_days 14 = .ok (.aload_n 0, 1) := by decide +kernel
set_option maxRecDepth 100000 in
theorem dX7_days_15 : decode cX7_days 15 = .ok (.getfield 22, 3) := by decide +kernel
set_option maxRecDepth 100000 in
theorem dX7_days_18 : decode cX7_days 18 = .ok (.iload_n 2, 1) := by decide +kernel
set_option maxRecDepth 100000 in
theorem dX7_days_19 : decode cX7_days 19 = .ok (.iaload, 1) := by decide +kernel
set_option maxRecDepth 100000 in
theorem dX7_days_20 : decode cX7_days 20 = .ok (.isub, 1) := by decide +kernel
set_option maxRecDepth 100000 in
theorem dX7_days_21 : decode cX7_days 21 = .ok (.aload_n 0, 1) := by decide +kernel
set_option maxRecDepth 100000 in
theorem dX7_days_22 : decode cX7_days 22 = .ok (.getfield 34, 3) := by decide +kernel
set_option maxRecDepth 100000 in
theorem dX7_days_25 : decode cX7_days 25 = .ok (.iload_n 1, 1) := by decide +kernel
set_option maxRecDepth 100000 in
theorem dX7_days_26 : decode cX7_days 26 = .ok (.iload_n 2, 1) := by decide +kernel
set_option maxRecDepth 100000 in
theorem dX7_days_27 : decode cX7_days 27 = .ok (.invokestatic 159, 3) := by decide +kernel
set_option maxRecDepth 100000 in
theorem dX7_days_30 : decode cX7_days 30 = .ok (.iaload, 1) := by decide +kernel
set_option maxRecDepth 100000 in
theorem dX7_days_31 : decode cX7_days 31 = .ok (.isub, 1) := by decide +kernel
set_option maxRecDepth 100000 in
theorem dX7_days_32 : decode cX7_days 32 = .ok (.istore 4, 2) := by decide +kernel
set_option maxRecDepth 100000 in
theorem dX7_days_34 : decode cX7_days 34 = .ok (.iload 4, 2) := by decide +kernel
set_option maxRecDepth 100000 in
theorem dX7_days_36 : decode cX7_days 36 = .ok (.ifCond .gt 7, 3) := by decide +kernel
set_option maxRecDepth 100000 in
theorem dX7_days_39 : decode cX7_days 39 = .ok (.iconst 0, 1) := by decide +kernel
set_option maxRecDepth 100000 in
theorem dX7_days_40 : decode cX7_days 40 = .ok (.goto 11, 3) := by decide +kernel
set_option maxRecDepth 100000 in
theorem dX7_days_43 : decode cX7_days 43 = .ok (.iload 4, 2) := by decide +kernel
set_option maxRecDepth 100000 in
theorem dX7_days_45 : decode cX7_days 45 = .ok (.bipush 23, 2) := by decide +kernel
set_option maxRecDepth 100000 in
theorem dX7_days_47 : decode cX7_days 47 = .ok (.iadd, 1) := by decide +kernel
set_option maxRecDepth 100000 in
theorem dX7_days_48 : decode cX7_days 48 = .ok (.bipush 24, 2) := by decide +kernel
set_option maxRecDepth 100000 in
theorem dX7_days_50 : decode cX7_days 50 = .ok (.idiv, 1) := by decide +kernel
set_option maxRecDepth 100000 in
theorem dX7_days_51 : decode cX7_days 51 = .ok (.ireturn, 1) := by decide +kernel
set_option maxRecDepth 100000 in
theorem dX7_part100_0 : decode cX7_part100 0 = .ok (.lconst 0, 1) := by decide +kernel
set_option maxRecDepth 100000 in
theorem dX7_part100_1 : decode cX7_part100 1 = .ok (.ldc2_w 302, 3) := by decide +kernel
set_option maxRecDepth 100000 in
theorem dX7_part100_4 : decode cX7_part100 4 = .ok (.aload_n 0, 1) := by decide +kernel
set_option maxRecDepth 100000 in
theorem dX7_part100_5 : decode cX7_part100 5 = .ok (.getfield 25, 3) := by decide +kernel
set_option maxRecDepth 100000 in
theorem dX7_part100_8 : decode cX7_part100 8 = .ok (.iload_n 2, 1) := by decide +kernel
set_option maxRecDepth 100000 in
theorem dX7_part100_9 : decode cX7_part100 9 = .ok (.iaload, 1) := by decide +kernel
set_option maxRecDepth 100000 in
theorem dX7_part100_10 : decode cX7_part100 10 = .ok (.i2l, 1) := by decide +kernel
set_option maxRecDepth 100000 in
theorem dX7_part100_11 : decode cX7_part100 11 = .ok (.aload_n 0, 1) := by decide +kernel
set_option maxRecDepth 100000 in
theorem dX7_part100_12 : decode cX7_part100 12 = .ok (.iload_n 1, 1) := by decide +kernel
set_option maxRecDepth 100000 in
theorem dX7_part100_13 : decode cX7_part100 13 = .ok (.iload_n 2, 1) := by decide +kernel
set_option maxRecDepth 100000 in
theorem dX7_part100_14 : decode cX7_part100 14 = .ok (.iload_n 3, 1) := by decide +kernel
set_option maxRecDepth 100000 in
theorem dX7_part100_15 : decode cX7_part100 15 = .ok (.invokevirtual 304, 3) := by decide +kernel
set_option maxRecDepth 100000 in
theorem dX7_part100_18 : decode cX7_part100 18 = .ok (.i2l, 1) := by decide +kernel
set_option maxRecDepth 100000 in
theorem dX7_part100_19 : decode cX7_part100 19 = .ok (.lmul, 1) := by decide +kernel
set_option maxRecDepth 100000 in
theorem dX7_part100_20 : decode cX7_part100 20 = .ok (.lsub, 1) := by decide +kernel
set_option maxRecDepth 100000 in
theorem dX7_part100_21 : decode cX7_part100 21 = .ok (.invokestatic 307, 3) := by decide +kernel
set_option maxRecDepth 100000 in
theorem dX7_part100_24 : decode cX7_part100 24 = .ok (.lreturn, 1) := by decide +kernel
set_option maxRecDepth 100000 in
theorem dX7_peerMarks_0 : decode cX7_peerMarks 0 = .ok (.iconst 0, 1) := by decide +kernel
set_option maxRecDepth 100000 in
theorem dX7_peerMarks_1 : decode cX7_peerMarks 1 = .ok (.istore_n 3, 1) := by decide +kernel
set_option maxRecDepth 100000 in
theorem dX7_peerMarks_2 : decode cX7_peerMarks 2 = .ok (.iconst 0, 1) := by decide +kernel
set_option maxRecDepth 100000 in
theorem dX7_peerMarks_3 : decode cX7_peerMarks 3 = .ok (.istore 4, 2) := by decide +kernel
set_option maxRecDepth 100000 in
theorem dX7_peerMarks_5 : decode cX7_peerMarks 5 = .ok (.iload 4, 2) := by decide +kernel
set_option maxRecDepth 100000 in
theorem dX7_peerMarks_7 : decode cX7_peerMarks 7 = .ok (.bipush 6, 2) := by decide +kernel
set_option maxRecDepth 100000 in
theorem dX7_peerMarks_9 : decode cX7_peerMarks 9 = .ok (.if_icmp .ge 36, 3) := by decide +kernel
set_option maxRecDepth 100000 in
theorem dX7_peerMarks_12 : decode cX7_peerMarks 12 = .ok (.iload_n 3, 1) := by decide +kernel
set_option maxRecDepth 100000 in
theorem dX7_peerMarks_13 : decode cX7_peerMarks 13 = .ok (.aload_n 0, 1) := by decide +kernel
set_option maxRecDepth 100000 in
theorem dX7_peerMarks_14 : decode cX7_peerMarks 14 = .ok (.getfield 49, 3) := by decide +kernel
set_option maxRecDepth 100000 in
theorem dX7_peerMarks_17 : decode cX7_peerMarks 17 = .ok (.bipush 6, 2) := by decide +kernel
set_option maxRecDepth 100000 in
theorem dX7_peerMarks_19 : decode cX7_peerMarks 19 = .ok (.iload_n 1, 1) := by decide +kernel
set_option maxRecDepth 100000 in
theorem dX7_peerMarks_20 : decode cX7_peerMarks 20 = .ok (.iload_n 2, 1) := by decide +kernel
set_option maxRecDepth 100000 in
theorem dX7_peerMarks_21 : decode cX7_peerMarks 21 = .ok (.invokestatic 159, 3) := by decide +kernel
set_option maxRecDepth 100000 in
theorem dX7_peerMarks_24 : decode cX7_peerMarks 24 = .ok (.imul, 1) := by decide +kernel
set_option maxRecDepth 100000 in
theorem dX7_peerMarks_25 : decode cX7_peerMarks 25 = .ok (.iload 4, 2) := by decide +kernel
set_option maxRecDepth 100000 in
theorem dX7_peerMarks_27 : decode cX7_peerMarks 27 = .ok (.iadd, 1) := by decide +kernel
set_option maxRecDepth 100000 in
theorem dX7_peerMarks_28 : decode cX7_peerMarks 28 = .ok (.iaload, 1) := by decide +kernel
set_option maxRecDepth 100000 in
theorem dX7_peerMarks_29 : decode cX7_peerMarks 29 = .ok (.ifCond .lt 7, 3) := by decide +kernel
set_option maxRecDepth 100000 in
theorem dX7_peerMarks_32 : decode cX7_peerMarks 32 = .ok (.iconst 1, 1) := by decide +kernel
set_option maxRecDepth 100000 in
theorem dX7_peerMarks_33 : decode cX7_peerMarks 33 = .ok (.goto 4, 3) := by decide +kernel
set_option maxRecDepth 100000 in
theorem dX7_peerMarks_36 : decode cX7_peerMarks 36 = .ok (.iconst 0, 1) := by decide +kernel
set_option maxRecDepth 100000 in
theorem dX7_peerMarks_37 : decode cX7_peerMarks 37 = .ok (.iadd, 1) := by decide +kernel
set_option maxRecDepth 100000 in
theorem dX7_peerMarks_38 : decode cX7_peerMarks 38 = .ok (.istore_n 3, 1) := by decide +kernel
set_option maxRecDepth 100000 in
theorem dX7_peerMarks_39 : decode cX7_peerMarks 39 = .ok (.iinc 4 1, 3) := by decide +kernel
set_option maxRecDepth 100000 in
theorem dX7_peerMarks_42 : decode cX7_peerMarks 42 = .ok (.goto (-37), 3) := by decide +kernel
set_option maxRecDepth 100000 in
theorem dX7_peerMarks_45 : decode cX7_peerMarks 45 = .ok (.iload_n 3, 1) := by decide +kernel
set_option maxRecDepth 100000 in
theorem dX7_peerMarks_46 : decode cX7_peerMarks 46 = .ok (.ireturn, 1) := by decide +kernel
set_option maxRecDepth 100000 in
theorem dX7_isMarked_0 : decode cX7_isMarked 0 = .ok (.aload_n 0, 1) := by decide +kernel
set_option maxRecDepth 100000 in
theorem dX7_isMarked_1 : decode cX7_isMarked 1 = .ok (.getfield 16, 3) := by decide +kernel
set_option maxRecDepth 100000 in
theorem dX7_isMarked_4 : decode cX7_isMarked 4 = .ok (.iload_n 2, 1) := by decide +kernel
set_option maxRecDepth 100000 in
theorem dX7_isMarked_5 : decode cX7_isMarked 5 = .ok (.iaload, 1) := by decide +kernel
set_option maxRecDepth 100000 in
theorem dX7_isMarked_6 : decode cX7_isMarked 6 = .ok (.iconst 3, 1) := by decide +kernel
set_option maxRecDepth 100000 in
theorem dX7_isMarked_7 : decode cX7_isMarked 7 = .ok (.if_icmp .ne 18, 3) := by decide +kernel
set_option maxRecDepth 100000 in
theorem dX7_isMarked_10 : decode cX7_isMarked 10 = .ok (.aload_n 0, 1) := by decide +kernel
set_option maxRecDepth 100000 in
theorem dX7_isMarked_11 : decode cX7_isMarked 11 = .ok (.iload_n 1, 1) := by decide +kernel
set_option maxRecDepth 100000 in
theorem dX7_isMarked_12 : decode cX7_isMarked 12 = .ok (.iload_n 2, 1) := by decide +kernel
set_option maxRecDepth 100000 in
theorem dX7_isMarked_13 : decode cX7_isMarked 13 = .ok (.invokevirtual 311, 3) := by decide +kernel
set_option maxRecDepth 100000 in
theorem dX7_isMarked_16 : decode cX7_isMarked 16 = .ok (.ifCond .le 7, 3) := by decide +kernel
set_option maxRecDepth 100000 in
theorem dX7_isMarked_19 : decode cX7_isMarked 19 = .ok (.iconst 1, 1) := by decide +kernel
set_option maxRecDepth 100000 in
theorem dX7_isMarked_20 : decode cX7_isMarked 20 = .ok (.goto 4, 3) := by decide +kernel
set_option maxRecDepth 100000 in
theorem dX7_isMarked_23 : decode cX7_isMarked 23 = .ok (.iconst 0, 1) := by decide +kernel
set_option maxRecDepth 100000 in
theorem dX7_isMarked_24 : decode cX7_isMarked 24 = .ok (.ireturn, 1) := by decide +kernel
set_option maxRecDepth 100000 in
theorem dX7_isMarked_25 : decode cX7_isMarked 25 = .ok (.aload_n 0, 1) := by decide +kernel
set_option maxRecDepth 100000 in
theorem dX7_isMarked_26 : decode cX7_isMarked 26 = .ok (.getfield 46, 3) := by decide +kernel
set_option maxRecDepth 100000 in
theorem dX7_isMarked_29 : decode cX7_isMarked 29 = .ok (.iconst 3, 1) := by decide +kernel
set_option maxRecDepth 100000 in
theorem dX7_isMarked_30 : decode cX7_isMarked 30 = .ok (.iload_n 1, 1) := by decide +kernel
set_option maxRecDepth 100000 in
theorem dX7_isMarked_31 : decode cX7_isMarked 31 = .ok (.iload_n 2, 1) := by decide +kernel
set_option maxRecDepth 100000 in
theorem dX7_isMarked_32 : decode cX7_isMarked 32 = .ok (.invokestatic 159, 3) := by decide +kernel
set_option maxRecDepth 100000 in
theorem dX7_isMarked_35 : decode cX7_isMarked 35 = .ok (.imul, 1) := by decide +kernel
set_option maxRecDepth 100000 in
theorem dX7_isMarked_36 : decode cX7_isMarked 36 = .ok (.iaload, 1) := by decide +kernel
set_option maxRecDepth 100000 in
theorem dX7_isMarked_37 : decode cX7_isMarked 37 = .ok (.ifCond .lt 7, 3) := by decide +kernel
set_option maxRecDepth 100000 in
theorem dX7_isMarked_40 : decode cX7_isMarked 40 = .ok (.iconst 1, 1) := by decide +kernel
set_option maxRecDepth 100000 in
theorem dX7_isMarked_41 : decode cX7_isMarked 41 = .ok (.goto 4, 3) := by decide +kernel
set_option maxRecDepth 100000 in
theorem dX7_isMarked_44 : decode cX7_isMarked 44 = .ok (.iconst 0, 1) := by decide +kernel
set_option maxRecDepth 100000 in
theorem dX7_isMarked_45 : decode cX7_isMarked 45 = .ok (.ireturn, 1) := by decide +kernel
set_option maxRecDepth 100000 in
theorem dX7_markedIs_0 : decode cX7_markedIs 0 = .ok (.iload_n 1, 1) := by decide +kernel
set_option maxRecDepth 100000 in
theorem dX7_markedIs_1 : decode cX7_markedIs 1 = .ok (.iload_n 2, 1) := by decide +kernel
set_option maxRecDepth 100000 in
theorem dX7_markedIs_2 : decode cX7_markedIs 2 = .ok (.invokestatic 159, 3) := by decide +kernel
set_option maxRecDepth 100000 in
theorem dX7_markedIs_5 : decode cX7_markedIs 5 = .ok (.istore_n 3, 1) := by decide +kernel
set_option maxRecDepth 100000 in
theorem dX7_markedIs_6 : decode cX7_markedIs 6 = .ok (.aload_n 0, 1) := by decide +kernel
set_option maxRecDepth 100000 in
theorem dX7_markedIs_7 : decode cX7_markedIs 7 = .ok (.getfield 16, 3) := by decide +kernel
set_option maxRecDepth 100000 in
theorem dX7_markedIs_10 : decode cX7_markedIs 10 = .ok (.iload_n 2, 1) := by decide +kernel
set_option maxRecDepth 100000 in
theorem dX7_markedIs_11 : decode cX7_markedIs 11 = .ok (.iaload, 1) := by decide +kernel
set_option maxRecDepth 100000 in
theorem dX7_markedIs_12 : decode cX7_markedIs 12 = .ok (.iconst 3, 1) := by decide +kernel
set_option maxRecDepth 100000 in
theorem dX7_markedIs_13 : decode cX7_markedIs 13 = .ok (.if_icmp .ne 70, 3) := by decide +kernel
set_option maxRecDepth 100000 in
theorem dX7_markedIs_16 : decode cX7_markedIs 16 = .ok (.lconst 0, 1) := by decide +kernel
set_option maxRecDepth 100000 in
theorem dX7_markedIs_17 : decode cX7_markedIs 17 = .ok (.lstore 4, 2) := by decide +kernel
set_option maxRecDepth 100000 in
theorem dX7_markedIs_19 : decode cX7_markedIs 19 = .ok (.iconst 0, 1) := by decide +kernel
set_option maxRecDepth 100000 in
theorem dX7_markedIs_20 : decode cX7_markedIs 20 = .ok (.istore 6, 2) := by decide +kernel
set_option maxRecDepth 100000 in
theorem dX7_markedIs_22 : decode cX7_markedIs 22 = .ok (.iload 6, 2) := by decide +kernel
set_option maxRecDepth 100000 in
theorem dX7_markedIs_24 : decode cX7_markedIs 24 = .ok (.bipush 6, 2) := by decide +kernel
set_option maxRecDepth 100000 in
theorem dX7_markedIs_26 : decode cX7_markedIs 26 = .ok (.if_icmp .ge 31, 3) := by decide +kernel
set_option maxRecDepth 100000 in
theorem dX7_markedIs_29 : decode cX7_markedIs 29 = .ok (.lload 4, 2) := by decide +kernel
set_option maxRecDepth 100000 in
theorem dX7_markedIs_31 : decode cX7_markedIs 31 = .ok (.iconst 0, 1) := by decide +kernel
set_option maxRecDepth 100000 in
theorem dX7_markedIs_32 : decode cX7_markedIs 32 = .ok (.aload_n 0, 1) := by decide +kernel
set_option maxRecDepth 100000 in
theorem dX7_markedIs_33 : decode cX7_markedIs 33 = .ok (.getfield 49, 3) := by decide +kernel
set_option maxRecDepth 100000 in
theorem dX7_markedIs_36 : decode cX7_markedIs 36 = .ok (.bipush 6, 2) := by decide +kernel
set_option maxRecDepth 100000 in
theorem dX7_markedIs_38 : decode cX7_markedIs 38 = .ok (.iload_n 3, 1) := by decide +kernel
set_option maxRecDepth 100000 in
theorem dX7_markedIs_39 : decode cX7_markedIs 39 = .ok (.imul, 1) := by decide +kernel
set_option maxRecDepth 100000 in
theorem dX7_markedIs_40 : decode cX7_markedIs 40 = .ok (.iload 6, 2) := by decide +kernel
set_option maxRecDepth 100000 in
theorem dX7_markedIs_42 : decode cX7_markedIs 42 = .ok (.iadd, 1) := by decide +kernel
set_option maxRecDepth 100000 in
theorem dX7_markedIs_43 : decode cX7_markedIs 43 = .ok (.iaload, 1) := by decide +kernel
set_option maxRecDepth 100000 in
theorem dX7_markedIs_44 : decode cX7_markedIs 44 = .ok (.invokestatic 314, 3) := by decide +kernel
set_option maxRecDepth 100000 in
theorem dX7_markedIs_47 : decode cX7_markedIs 47 = .ok (.i2l, 1) := by decide +kernel
set_option maxRecDepth 100000 in
theorem dX7_markedIs_48 : decode cX7_markedIs 48 = .ok (.ladd, 1) := by decide +kernel
set_option maxRecDepth 100000 in
theorem dX7_markedIs_49 : decode cX7_markedIs 49 = .ok (.lstore 4, 2) := by decide +kernel
set_option maxRecDepth 100000 in
theorem dX7_markedIs_51 : decode cX7_markedIs 51 = .ok (.iinc 6 1, 3) := by decide +kernel
set_option maxRecDepth 100000 in
theorem dX7_markedIs_54 : decode cX7_markedIs 54 = .ok (.goto (-32), 3) := by decide +kernel
set_option maxRecDepth 100000 in
theorem dX7_markedIs_57 : decode cX7_markedIs 57 = .ok (.aload_n 0, 1) := by decide +kernel
set_option maxRecDepth 100000 in
theorem dX7_markedIs_58 : decode cX7_markedIs 58 = .ok (.lload 4, 2) := by decide +kernel
set_option maxRecDepth 100000 in
theorem dX7_markedIs_60 : decode cX7_markedIs 60 = .ok (.aload_n 0, 1) := by decide +kernel
set_option maxRecDepth 100000 in
theorem dX7_markedIs_61 : decode cX7_markedIs 61 = .ok (.iload_n 1, 1) := by decide +kernel
set_option maxRecDepth 100000 in
theorem dX7_markedIs_62 : decode cX7_markedIs 62 = .ok (.iload_n 2, 1) := by decide +kernel
set_option maxRecDepth 100000 in
theorem dX7_markedIs_63 : decode cX7_markedIs 63 = .ok (.iconst 0, 1) := by decide +kernel
set_option maxRecDepth 100000 in
theorem dX7_markedIs_64 : decode cX7_markedIs 64 = .ok (.invokevirtual 316, 3) := by decide +kernel
set_option maxRecDepth 100000 in
theorem dX7_markedIs_67 : decode cX7_markedIs 67 = .ok (.lmul, 1) := by decide +kernel
set_option maxRecDepth 100000 in
theorem dX7_markedIs_68 : decode cX7_markedIs 68 = .ok (.ldc2_w 302, 3) := by decide +kernel
set_option maxRecDepth 100000 in
theorem dX7_markedIs_71 : decode cX7_markedIs 71 = .ok (.aload_n 0, 1) := by decide +kernel
set_option maxRecDepth 100000 in
theorem dX7_markedIs_72 : decode cX7_markedIs 72 = .ok (.iload_n 1, 1) := by decide +kernel
set_option maxRecDepth 100000 in
theorem dX7_markedIs_73 : decode cX7_markedIs 73 = .ok (.iload_n 2, 1) := by decide +kernel
set_option maxRecDepth 100000 in
theorem dX7_markedIs_74 : decode cX7_markedIs 74 = .ok (.invokevirtual 311, 3) := by decide +kernel
set_option maxRecDepth 100000 in
theorem dX7_markedIs_77 : decode cX7_markedIs 77 = .ok (.i2l, 1) := by decide +kernel
set_option maxRecDepth 100000 in
theorem dX7_markedIs_78 : decode cX7_markedIs 78 = .ok (.lmul, 1) := by decide +kernel
set_option maxRecDepth 100000 in
theorem dX7_markedIs_79 : decode cX7_markedIs 79 = .ok (.invokevirtual 320, 3) := by decide +kernel
set_option maxRecDepth 100000 in
theorem dX7_markedIs_82 : decode cX7_markedIs 82 = .ok (.return_, 1) := by decide +kernel
set_option maxRecDepth 100000 in
theorem dX7_markedIs_83 : decode cX7_markedIs 83 = .ok (.lconst 0, 1) := by decide +kernel
set_option maxRecDepth 100000 in
theorem dX7_markedIs_84 : decode cX7_markedIs 84 = .ok (.lstore 4, 2) := by decide +kernel
set_option maxRecDepth 100000 in
theorem dX7_markedIs_86 : decode cX7_markedIs 86 = .ok (.iconst 0, 1) := by decide +kernel
set_option maxRecDepth 100000 in
theorem dX7_markedIs_87 : decode cX7_markedIs 87 = .ok (.istore 6, 2) := by decide +kernel
set_option maxRecDepth 100000 in
theorem dX7_markedIs_89 : decode cX7_markedIs 89 = .ok (.iload 6, 2) := by decide +kernel
set_option maxRecDepth 100000 in
theorem dX7_markedIs_91 : decode cX7_markedIs 91 = .ok (.iconst 3, 1) := by decide +kernel
set_option maxRecDepth 100000 in
theorem dX7_markedIs_92 : decode cX7_markedIs 92 = .ok (.if_icmp .ge 51, 3) := by decide +kernel
set_option maxRecDepth 100000 in
theorem dX7_markedIs_95 : decode cX7_markedIs 95 = .ok (.aload_n 0, 1) := by decide +kernel
set_option maxRecDepth 100000 in
theorem dX7_markedIs_96 : decode cX7_markedIs 96 = .ok (.getfield 46, 3) := by decide +kernel
set_option maxRecDepth 100000 in
theorem dX7_markedIs_99 : decode cX7_markedIs 99 = .ok (.iconst 3, 1) := by decide +kernel
set_option maxRecDepth 100000 in
theorem dX7_markedIs_100 : decode cX7_markedIs 100 = .ok (.iload_n 3, 1) := by decide +kernel
set_option maxRecDepth 100000 in
theorem dX7_markedIs_101 : decode cX7_markedIs 101 = .ok (.imul, 1) := by decide +kernel
set_option maxRecDepth 100000 in
theorem dX7_markedIs_102 : decode cX7_markedIs 102 = .ok (.iload 6, 2) := by decide +kernel
set_option maxRecDepth 100000 in
theorem dX7_markedIs_104 : decode cX7_markedIs 104 = .ok (.iadd, 1) := by decide +kernel
set_option maxRecDepth 100000 in
theorem dX7_markedIs_105 : decode cX7_markedIs 105 = .ok (.iaload, 1) := by decide +kernel
set_option maxRecDepth 100000 in
theorem dX7_markedIs_106 : decode cX7_markedIs 106 = .ok (.ifCond .lt 31, 3) := by decide +kernel
set_option maxRecDepth 100000 in
theorem dX7_markedIs_109 : decode cX7_markedIs 109 = .ok (.lload 4, 2) := by decide +kernel
set_option maxRecDepth 100000 in
theorem dX7_markedIs_111 : decode cX7_markedIs 111 = .ok (.aload_n 0, 1) := by decide +kernel
set_option maxRecDepth 100000 in
theorem dX7_markedIs_112 : decode cX7_markedIs 112 = .ok (.getfield 46, 3) := by decide +kernel
set_option maxRecDepth 100000 in
theorem dX7_markedIs_115 : decode cX7_markedIs 115 = .ok (.iconst 3, 1) := by decide +kernel
set_option maxRecDepth 100000 in
theorem dX7_markedIs_116 : decode cX7_markedIs 116 = .ok (.iload_n 3, 1) := by decide +kernel
set_option maxRecDepth 100000 in
theorem dX7_markedIs_117 : decode cX7_markedIs 117 = .ok (.imul, 1) := by decide +kernel
set_option maxRecDepth 100000 in
theorem dX7_markedIs_118 : decode cX7_markedIs 118 = .ok (.iload 6, 2) := by decide +kernel
set_option maxRecDepth 100000 in
theorem dX7_markedIs_120 : decode cX7_markedIs 120 = .ok (.iadd, 1) := by decide +kernel
set_option maxRecDepth 100000 in
theorem dX7_markedIs_121 : decode cX7_markedIs 121 = .ok (.iaload, 1) := by decide +kernel
set_option maxRecDepth 100000 in
theorem dX7_markedIs_122 : decode cX7_markedIs 122 = .ok (.i2l, 1) := by decide +kernel
set_option maxRecDepth 100000 in
theorem dX7_markedIs_123 : decode cX7_markedIs 123 = .ok (.aload_n 0, 1) := by decide +kernel
set_option maxRecDepth 100000 in
theorem dX7_markedIs_124 : decode cX7_markedIs 124 = .ok (.iload_n 1, 1) := by decide +kernel
set_option maxRecDepth 100000 in
theorem dX7_markedIs_125 : decode cX7_markedIs 125 = .ok (.iload_n 2, 1) := by decide +kernel
set_option maxRecDepth 100000 in
theorem dX7_markedIs_126 : decode cX7_markedIs 126 = .ok (.iload 6, 2) := by decide +kernel
set_option maxRecDepth 100000 in
theorem dX7_markedIs_128 : decode cX7_markedIs 128 = .ok (.invokevirtual 316, 3) := by decide +kernel
set_option maxRecDepth 100000 in
theorem dX7_markedIs_131 : decode cX7_markedIs 131 = .ok (.lmul, 1) := by decide +kernel
set_option maxRecDepth 100000 in
theorem dX7_markedIs_132 : decode cX7_markedIs 132 = .ok (.invokestatic 307, 3) := by decide +kernel
set_option maxRecDepth 100000 in
theorem dX7_markedIs_135 : decode cX7_markedIs 135 = .ok (.lstore 4, 2) := by decide +kernel
set_option maxRecDepth 100000 in
theorem dX7_markedIs_137 : decode cX7_markedIs 137 = .ok (.iinc 6 1, 3) := by decide +kernel
set_option maxRecDepth 100000 in
theorem dX7_markedIs_140 : decode cX7_markedIs 140 = .ok (.goto (-51), 3) := by decide +kernel
set_option maxRecDepth 100000 in
theorem dX7_markedIs_143 : decode cX7_markedIs 143 = .ok (.aload_n 0, 1) := by decide +kernel
set_option maxRecDepth 100000 in
theorem dX7_markedIs_144 : decode cX7_markedIs 144 = .ok (.lload 4, 2) := by decide +kernel
set_option maxRecDepth 100000 in
theorem dX7_markedIs_146 : decode cX7_markedIs 146 = .ok (.ldc2_w 302, 3) := by decide +kernel
set_option maxRecDepth 100000 in
theorem dX7_markedIs_149 : decode cX7_markedIs 149 = .ok (.invokevirtual 320, 3) := by decide +kernel
set_option maxRecDepth 100000 in
theorem dX7_markedIs_152 : decode cX7_markedIs 152 = .ok (.return_, 1) := by decide +kernel
set_option maxRecDepth 100000 in
theorem dX7_isOpenEnded_0 : decode cX7_isOpenEnded 0 = .ok (.aload_n 0, 1) := by decide +kernel
set_option maxRecDepth 100000 in
theorem dX7_isOpenEnded_1 : decode cX7_isOpenEnded 1 = .ok (.getfield 52, 3) := by decide +kernel
set_option maxRecDepth 100000 in
theorem dX7_isOpenEnded_4 : decode cX7_isOpenEnded 4 = .ok (.iload_n 1, 1) := by decide +kernel
set_option maxRecDepth 100000 in
theorem dX7_isOpenEnded_5 : decode cX7_isOpenEnded 5 = .ok (.iload_n 2, 1) := by decide +kernel
set_option maxRecDepth 100000 in
theorem dX7_isOpenEnded_6 : decode cX7_isOpenEnded 6 = .ok (.invokestatic 159, 3) := by decide +kernel
set_option maxRecDepth 100000 in
theorem dX7_isOpenEnded_9 : decode cX7_isOpenEnded 9 = .ok (.baload, 1) := by decide +kernel
set_option maxRecDepth 100000 in
theorem dX7_isOpenEnded_10 : decode cX7_isOpenEnded 10 = .ok (.ifCond .ne 16, 3) := by decide +kernel
set_option maxRecDepth 100000 in
theorem dX7_isOpenEnded_13 : decode cX7_isOpenEnded 13 = .ok (.aload_n 0, 1) := by decide +kernel
set_option maxRecDepth 100000 in
theorem dX7_isOpenEnded_14 : decode cX7_isOpenEnded 14 = .ok (.iload_n 1, 1) := by decide +kernel
set_option maxRecDepth 100000 in
theorem dX7_isOpenEnded_15 : decode cX7_isOpenEnded 15 = .ok (.iload_n 2, 1) := by decide +kernel
set_option maxRecDepth 100000 in
theorem dX7_isOpenEnded_16 : decode cX7_isOpenEnded 16 = .ok (.invokevirtual 324, 3) := by decide +kernel
set_option maxRecDepth 100000 in
theorem dX7_isOpenEnded_19 : decode cX7_isOpenEnded 19 = .ok (.ifCond .ne 7, 3) := by decide +kernel
set_option maxRecDepth 100000 in
theorem dX7_isOpenEnded_22 : decode cX7_isOpenEnded 22 = .ok (.iconst 1, 1) := by decide +kernel
set_option maxRecDepth 100000 in
theorem dX7_isOpenEnded_23 : decode cX7_isOpenEnded 23 = .ok (.goto 4, 3) := by decide +kernel
set_option maxRecDepth 100000 in
theorem dX7_isOpenEnded_26 : decode cX7_isOpenEnded 26 = .ok (.iconst 0, 1) := by decide +kernel
set_option maxRecDepth 100000 in
theorem dX7_isOpenEnded_27 : decode cX7_isOpenEnded 27 = .ok (.ireturn, 1) := by decide +kernel
set_option maxRecDepth 100000 in
theorem dX7_begins_0 : decode cX7_begins 0 = .ok (.aload_n 0, 1) := by decide +kernel
set_option maxRecDepth 100000 in
theorem dX7_begins_1 : decode cX7_begins 1 = .ok (.iload_n 1, 1) := by decide +kernel
set_option maxRecDepth 100000 in
theorem dX7_begins_2 : decode cX7_begins 2 = .ok (.putfield 327, 3) := by decide +kernel
set_option maxRecDepth 100000 in
theorem dX7_begins_5 : decode cX7_begins 5 = .ok (.iconst 0, 1) := by decide +kernel
set_option maxRecDepth 100000 in
theorem dX7_begins_6 : decode cX7_begins 6 = .ok (.istore_n 2, 1) := by decide +kernel
set_option maxRecDepth 100000 in
theorem dX7_begins_7 : decode cX7_begins 7 = .ok (.iload_n 2, 1) := by decide +kernel
set_option maxRecDepth 100000 in
theorem dX7_begins_8 : decode cX7_begins 8 = .ok (.bipush 10, 2) := by decide +kernel
set_option maxRecDepth 100000 in
theorem dX7_begins_10 : decode cX7_begins 10 = .ok (.if_icmp .ge 16, 3) := by decide +kernel
set_option maxRecDepth 100000 in
theorem dX7_begins_13 : decode cX7_begins 13 = .ok (.aload_n 0, 1) := by decide +kernel
set_option maxRecDepth 100000 in
theorem dX7_begins_14 : decode cX7_begins 14 = .ok (.getfield 105, 3) := by decide +kernel
set_option maxRecDepth 100000 in
theorem dX7_begins_17 : decode cX7_begins 17 = .ok (.iload_n 2, 1) := by decide +kernel
set_option maxRecDepth 100000 in
theorem dX7_begins_18 : decode cX7_begins 18 = .ok (.iconst (-1), 1) := by decide +kernel
set_option maxRecDepth 100000 in
theorem dX7_begins_19 : decode cX7_begins 19 = .ok (.iastore, 1) := by decide +kernel
set_option maxRecDepth 100000 in
theorem dX7_begins_20 : decode cX7_begins 20 = .ok (.iinc 2 1, 3) := by decide +kernel
set_option maxRecDepth 100000 in
theorem dX7_begins_23 : decode cX7_begins 23 = .ok (.goto (-16), 3) := by decide +kernel
set_option maxRecDepth 100000 in
theorem dX7_begins_26 : decode cX7_begins 26 = .ok (.aload_n 0, 1) := by decide +kernel
set_option maxRecDepth 100000 in
theorem dX7_begins_27 : decode cX7_begins 27 = .ok (.invokevirtual 330, 3) := by decide +kernel
set_option maxRecDepth 100000 in
theorem dX7_begins_30 : decode cX7_begins 30 = .ok (.return_, 1) := by decide +kernel
set_option maxRecDepth 100000 in
theorem dX7_forgets_0 : decode cX7_forgets 0 = .ok (.iconst 0, 1) := by decide +kernel
set_option maxRecDepth 100000 in
theorem dX7_forgets_1 : decode cX7_forgets 1 = .ok (.istore_n 1, 1) := by decide +kernel
set_option maxRecDepth 100000 in
theorem dX7_forgets_2 : decode cX7_forgets 2 = .ok (.iload_n 1, 1) := by decide +kernel
set_option maxRecDepth 100000 in
theorem dX7_forgets_3 : decode cX7_forgets 3 = .ok (.bipush 12, 2) := by decide +kernel
set_option maxRecDepth 100000 in
theorem dX7_forgets_5 : decode cX7_forgets 5 = .ok (.if_icmp .ge 16, 3) := by decide +kernel
set_option maxRecDepth 100000 in
theorem dX7_forgets_8 : decode cX7_forgets 8 = .ok (.aload_n 0, 1) := by decide +kernel
set_option maxRecDepth 100000 in
theorem dX7_forgets_9 : decode cX7_forgets 9 = .ok (.getfield 108, 3) := by decide +kernel
set_option maxRecDepth 100000 in
theorem dX7_forgets_12 : decode cX7_forgets 12 = .ok (.iload_n 1, 1) := by decide +kernel
set_option maxRecDepth 100000 in
theorem dX7_forgets_13 : decode cX7_forgets 13 = .ok (.iconst (-1), 1) := by decide +kernel
set_option maxRecDepth 100000 in
theorem dX7_forgets_14 : decode cX7_forgets 14 = .ok (.iastore, 1) := by decide +kernel
set_option maxRecDepth 100000 in
theorem dX7_forgets_15 : decode cX7_forgets 15 = .ok (.iinc 1 1, 3) := by decide +kernel
set_option maxRecDepth 100000 in
theorem dX7_forgets_18 : decode cX7_forgets 18 = .ok (.goto (-16), 3) := by decide +kernel
set_option maxRecDepth 100000 in
theorem dX7_forgets_21 : decode cX7_forgets 21 = .ok (.return_, 1) := by decide +kernel
set_option maxRecDepth 100000 in
theorem dX7_workIs_0 : decode cX7_workIs 0 = .ok (.aload_n 0, 1) := by decide +kernel
set_option maxRecDepth 100000 in
theorem dX7_workIs_1 : decode cX7_workIs 1 = .ok (.getfield 52, 3) := by decide +kernel
set_option maxRecDepth 100000 in
theorem dX7_workIs_4 : decode cX7_workIs 4 = .ok (.aload_n 0, 1) := by decide +kernel
set_option maxRecDepth 100000 in
theorem dX7_workIs_5 : decode cX7_workIs 5 = .ok (.getfield 327, 3) := by decide +kernel
set_option maxRecDepth 100000 in
theorem dX7_workIs_8 : decode cX7_workIs 8 = .ok (.iload_n 1, 1) := by decide +kernel
set_option maxRecDepth 100000 in
theorem dX7_workIs_9 : decode cX7_workIs 9 = .ok (.invokestatic 159, 3) := by decide +kernel
set_option maxRecDepth 100000 in
theorem dX7_workIs_12 : decode cX7_workIs 12 = .ok (.baload, 1) := by decide +kernel
set_option maxRecDepth 100000 in
theorem dX7_workIs_13 : decode cX7_workIs 13 = .ok (.ifCond .eq 9, 3) := by decide +kernel
set_option maxRecDepth 100000 in
theorem dX7_workIs_16 : decode cX7_workIs 16 = .ok (.aload_n 0, 1) := by decide +kernel
set_option maxRecDepth 100000 in
theorem dX7_workIs_17 : decode cX7_workIs 17 = .ok (.iconst 0, 1) := by decide +kernel
set_option maxRecDepth 100000 in
theorem dX7_workIs_18 : decode cX7_workIs 18 = .ok (.putfield 252, 3) := by decide +kernel
set_option maxRecDepth 100000 in
theorem dX7_workIs_21 : decode cX7_workIs 21 = .ok (.return_, 1) := by decide +kernel
set_option maxRecDepth 100000 in
theorem dX7_workIs_22 : decode cX7_workIs 22 = .ok (.aload_n 0, 1) := by decide +kernel
set_option maxRecDepth 100000 in
theorem dX7_workIs_23 : decode cX7_workIs 23 = .ok (.aload_n 0, 1) := by decide +kernel
set_option maxRecDepth 100000 in
theorem dX7_workIs_24 : decode cX7_workIs 24 = .ok (.getfield 327, 3) := by decide +kernel
set_option maxRecDepth 100000 in
theorem dX7_workIs_27 : decode cX7_workIs 27 = .ok (.iload_n 1, 1) := by decide +kernel
set_option maxRecDepth 100000 in
theorem dX7_workIs_28 : decode cX7_workIs 28 = .ok (.invokevirtual 324, 3) := by decide +kernel
set_option maxRecDepth 100000 in
theorem dX7_workIs_31 : decode cX7_workIs 31 = .ok (.ifCond .eq 15, 3) := by decide +kernel
set_option maxRecDepth 100000 in
theorem dX7_workIs_34 : decode cX7_workIs 34 = .ok (.aload_n 0, 1) := by decide +kernel
set_option maxRecDepth 100000 in
theorem dX7_workIs_35 : decode cX7_workIs 35 = .ok (.aload_n 0, 1) := by decide +kernel
set_option maxRecDepth 100000 in
theorem dX7_workIs_36 : decode cX7_workIs 36 = .ok (.getfield 327, 3) := by decide +kernel
set_option maxRecDepth 100000 in
theorem dX7_workIs_39 : decode cX7_workIs 39 = .ok (.iload_n 1, 1) := by decide +kernel
set_option maxRecDepth 100000 in
theorem dX7_workIs_40 : decode cX7_workIs 40 = .ok (.invokevirtual 333, 3) := by decide +kernel
set_option maxRecDepth 100000 in
theorem dX7_workIs_43 : decode cX7_workIs 43 = .ok (.goto 19, 3) := by decide +kernel
set_option maxRecDepth 100000 in
theorem dX7_workIs_46 : decode cX7_workIs 46 = .ok (.aload_n 0, 1) := by decide +kernel
set_option maxRecDepth 100000 in
theorem dX7_workIs_47 : decode cX7_workIs 47 = .ok (.iconst 0, 1) := by decide +kernel
set_option maxRecDepth 100000 in
theorem dX7_workIs_48 : decode cX7_workIs 48 = .ok (.aload_n 0, 1) := by decide +kernel
set_option maxRecDepth 100000 in
theorem dX7_workIs_49 : decode cX7_workIs 49 = .ok (.getfield 105, 3) := by decide +kernel
set_option maxRecDepth 100000 in
theorem dX7_workIs_52 : decode cX7_workIs 52 = .ok (.iload_n 1, 1) := by decide +kernel
set_option maxRecDepth 100000 in
theorem dX7_workIs_53 : decode cX7_workIs 53 = .ok (.iaload, 1) := by decide +kernel
set_option maxRecDepth 100000 in
theorem dX7_workIs_54 : decode cX7_workIs 54 = .ok (.invokestatic 314, 3) := by decide +kernel
set_option maxRecDepth 100000 in
theorem dX7_workIs_57 : decode cX7_workIs 57 = .ok (.i2l, 1) := by decide +kernel
set_option maxRecDepth 100000 in
theorem dX7_workIs_58 : decode cX7_workIs 58 = .ok (.lconst 1, 1) := by decide +kernel
set_option maxRecDepth 100000 in
theorem dX7_workIs_59 : decode cX7_workIs 59 = .ok (.invokevirtual 320, 3) := by decide +kernel
set_option maxRecDepth 100000 in
theorem dX7_workIs_62 : decode cX7_workIs 62 = .ok (.return_, 1) := by decide +kernel
set_option maxRecDepth 100000 in
theorem dX7_values_0 : decode cX7_values 0 = .ok (.aload_n 0, 1) := by decide +kernel
set_option maxRecDepth 100000 in
theorem dX7_values_1 : decode cX7_values 1 = .ok (.getfield 108, 3) := by decide +kernel
set_option maxRecDepth 100000 in
theorem dX7_values_4 : decode cX7_values 4 = .ok (.iload_n 1, 1) := by decide +kernel
set_option maxRecDepth 100000 in
theorem dX7_values_5 : decode cX7_values 5 = .ok (.iaload, 1) := by decide +kernel
set_option maxRecDepth 100000 in
theorem dX7_values_6 : decode cX7_values 6 = .ok (.ifCond .ge 51, 3) := by decide +kernel
set_option maxRecDepth 100000 in
theorem dX7_values_9 : decode cX7_values 9 = .ok (.aload_n 0, 1) := by decide +kernel
set_option maxRecDepth 100000 in
theorem dX7_values_10 : decode cX7_values 10 = .ok (.aload_n 0, 1) := by decide +kernel
set_option maxRecDepth 100000 in
theorem dX7_values_11 : decode cX7_values 11 = .ok (.getfield 83, 3) := by decide +kernel
set_option maxRecDepth 100000 in
theorem dX7_values_14 : decode cX7_values 14 = .ok (.bipush 12, 2) := by decide +kernel
set_option maxRecDepth 100000 in
theorem dX7_values_16 : decode cX7_values 16 = .ok (.aload_n 0, 1) := by decide +kernel
set_option maxRecDepth 100000 in
theorem dX7_values_17 : decode cX7_values 17 = .ok (.getfield 148, 3) := by decide +kernel
set_option maxRecDepth 100000 in
theorem dX7_values_20 : decode cX7_values 20 = .ok (.imul, 1) := by decide +kernel
set_option maxRecDepth 100000 in
theorem dX7_values_21 : decode cX7_values 21 = .ok (.iload_n 1, 1) := by decide +kernel
set_option maxRecDepth 100000 in
theorem dX7_values_22 : decode cX7_values 22 = .ok (.iadd, 1) := by decide +kernel
set_option maxRecDepth 100000 in
theorem dX7_values_23 : decode cX7_values 23 = .ok (.iaload, 1) := by decide +kernel
set_option maxRecDepth 100000 in
theorem dX7_values_24 : decode cX7_values 24 = .ok (.invokevirtual 336, 3) := by decide +kernel
set_option maxRecDepth 100000 in
theorem dX7_values_27 : decode cX7_values 27 = .ok (.aload_n 0, 1) := by decide +kernel
set_option maxRecDepth 100000 in
theorem dX7_values_28 : decode cX7_values 28 = .ok (.getfield 108, 3) := by decide +kernel
set_option maxRecDepth 100000 in
theorem dX7_values_31 : decode cX7_values 31 = .ok (.iload_n 1, 1) := by decide +kernel
set_option maxRecDepth 100000 in
theorem dX7_values_32 : decode cX7_values 32 = .ok (.aload_n 0, 1) := by decide +kernel
set_option maxRecDepth 100000 in
theorem dX7_values_33 : decode cX7_values 33 = .ok (.getfield 252, 3) := by decide +kernel
set_option maxRecDepth 100000 in
theorem dX7_values_36 : decode cX7_values 36 = .ok (.iastore, 1) := by decide +kernel
set_option maxRecDepth 100000 in
theorem dX7_values_37 : decode cX7_values 37 = .ok (.aload_n 0, 1) := by decide +kernel
set_option maxRecDepth 100000 in
theorem dX7_values_38 : decode cX7_values 38 = .ok (.getfield 111, 3) := by decide +kernel
set_option maxRecDepth 100000 in
theorem dX7_values_41 : decode cX7_values 41 = .ok (.iload_n 1, 1) := by decide +kernel
set_option maxRecDepth 100000 in
theorem dX7_values_42 : decode cX7_values 42 = .ok (.aload_n 0, 1) := by decide +kernel
set_option maxRecDepth 100000 in
theorem dX7_values_43 : decode cX7_values 43 = .ok (.getfield 255, 3) := by decide +kernel
set_option maxRecDepth 100000 in
theorem dX7_values_46 : decode cX7_values 46 = .ok (.lastore, 1) := by decide +kernel
set_option maxRecDepth 100000 in
theorem dX7_values_47 : decode cX7_values 47 = .ok (.aload_n 0, 1) := by decide +kernel
set_option maxRecDepth 100000 in
theorem dX7_values_48 : decode cX7_values 48 = .ok (.getfield 114, 3) := by decide +kernel
set_option maxRecDepth 100000 in
theorem dX7_values_51 : decode cX7_values 51 = .ok (.iload_n 1, 1) := by decide +kernel
set_option maxRecDepth 100000 in
theorem dX7_values_52 : decode cX7_values 52 = .ok (.aload_n 0, 1) := by decide +kernel
set_option maxRecDepth 100000 in
theorem dX7_values_53 : decode cX7_values 53 = .ok (.getfield 259, 3) := by decide +kernel
set_option maxRecDepth 100000 in
theorem dX7_values_56 : decode cX7_values 56 = .ok (.lastore, 1) := by decide +kernel
set_option maxRecDepth 100000 in
theorem dX7_values_57 : decode cX7_values 57 = .ok (.aload_n 0, 1) := by decide +kernel
set_option maxRecDepth 100000 in
theorem dX7_values_58 : decode cX7_values 58 = .ok (.aload_n 0, 1) := by decide +kernel
set_option maxRecDepth 100000 in
theorem dX7_values_59 : decode cX7_values 59 = .ok (.getfield 108, 3) := by decide +kernel
set_option maxRecDepth 100000 in
theorem dX7_values_62 : decode cX7_values 62 = .ok (.iload_n 1, 1) := by decide +kernel
set_option maxRecDepth 100000 in
theorem dX7_values_63 : decode cX7_values 63 = .ok (.iaload, 1) := by decide +kernel
set_option maxRecDepth 100000 in
theorem dX7_values_64 : decode cX7_values 64 = .ok (.putfield 252, 3) := by decide +kernel
set_option maxRecDepth 100000 in
theorem dX7_values_67 : decode cX7_values 67 = .ok (.aload_n 0, 1) := by decide +kernel
set_option maxRecDepth 100000 in
theorem dX7_values_68 : decode cX7_values 68 = .ok (.aload_n 0, 1) := by decide +kernel
set_option maxRecDepth 100000 in
theorem dX7_values_69 : decode cX7_values 69 = .ok (.getfield 111, 3) := by decide +kernel
set_option maxRecDepth 100000 in
theorem dX7_values_72 : decode cX7_values 72 = .ok (.iload_n 1, 1) := by decide +kernel
set_option maxRecDepth 100000 in
theorem dX7_values_73 : decode cX7_values 73 = .ok (.laload, 1) := by decide +kernel
set_option maxRecDepth 100000 in
theorem dX7_values_74 : decode cX7_values 74 = .ok (.putfield 255, 3) := by decide +kernel
set_option maxRecDepth 100000 in
theorem dX7_values_77 : decode cX7_values 77 = .ok (.aload_n 0, 1) := by decide +kernel
set_option maxRecDepth 100000 in
theorem dX7_values_78 : decode cX7_values 78 = .ok (.aload_n 0, 1) := by decide +kernel
set_option maxRecDepth 100000 in
theorem dX7_values_79 : decode cX7_values 79 = .ok (.getfield 114, 3) := by decide +kernel
set_option maxRecDepth 100000 in
theorem dX7_values_82 : decode cX7_values 82 = .ok (.iload_n 1, 1) := by decide +kernel
set_option maxRecDepth 100000 in
theorem dX7_values_83 : decode cX7_values 83 = .ok (.laload, 1) := by decide +kernel
set_option maxRecDepth 100000 in
theorem dX7_values_84 : decode cX7_values 84 = .ok (.putfield 259, 3) := by decide +kernel
set_option maxRecDepth 100000 in
theorem dX7_values_87 : decode cX7_values 87 = .ok (.return_, 1) := by decide +kernel
set_option maxRecDepth 100000 in
theorem dX7_valueOf_0 : decode cX7_valueOf 0 = .ok (.aload_n 0, 1) := by decide +kernel
set_option maxRecDepth 100000 in
theorem dX7_valueOf_1 : decode cX7_valueOf 1 = .ok (.getfield 59, 3) := by decide +kernel
set_option maxRecDepth 100000 in
theorem dX7_valueOf_4 : decode cX7_valueOf 4 = .ok (.iload_n 1, 1) := by decide +kernel
set_option maxRecDepth 100000 in
theorem dX7_valueOf_5 : decode cX7_valueOf 5 = .ok (.iaload, 1) := by decide +kernel
set_option maxRecDepth 100000 in
theorem dX7_valueOf_6 : decode cX7_valueOf 6 = .ok (.ifCond .ne 18, 3) := by decide +kernel
set_option maxRecDepth 100000 in
theorem dX7_valueOf_9 : decode cX7_valueOf 9 = .ok (.aload_n 0, 1) := by decide +kernel
set_option maxRecDepth 100000 in
theorem dX7_valueOf_10 : decode cX7_valueOf 10 = .ok (.aload_n 0, 1) := by decide +kernel
set_option maxRecDepth 100000 in
theorem dX7_valueOf_11 : decode cX7_valueOf 11 = .ok (.getfield 62, 3) := by decide +kernel
set_option maxRecDepth 100000 in
theorem dX7_valueOf_14 : decode cX7_valueOf 14 = .ok (.iload_n 1, 1) := by decide +kernel
set_option maxRecDepth 100000 in
theorem dX7_valueOf_15 : decode cX7_valueOf 15 = .ok (.iaload, 1) := by decide +kernel
set_option maxRecDepth 100000 in
theorem dX7_valueOf_16 : decode cX7_valueOf 16 = .ok (.i2l, 1) := by decide +kernel
set_option maxRecDepth 100000 in
theorem dX7_valueOf_17 : decode cX7_valueOf 17 = .ok (.lconst 1, 1) := by decide +kernel
set_option maxRecDepth 100000 in
theorem dX7_valueOf_18 : decode cX7_valueOf 18 = .ok (.invokevirtual 320, 3) := by decide +kernel
set_option maxRecDepth 100000 in
theorem dX7_valueOf_21 : decode cX7_valueOf 21 = .ok (.goto 68, 3) := by decide +kernel
set_option maxRecDepth 100000 in
theorem dX7_valueOf_24 : decode cX7_valueOf 24 = .ok (.aload_n 0, 1) := by decide +kernel
set_option maxRecDepth 100000 in
theorem dX7_valueOf_25 : decode cX7_valueOf 25 = .ok (.getfield 59, 3) := by decide +kernel
set_option maxRecDepth 100000 in
theorem dX7_valueOf_28 : decode cX7_valueOf 28 = .ok (.iload_n 1, 1) := by decide +kernel
set_option maxRecDepth 100000 in
theorem dX7_valueOf_29 : decode cX7_valueOf 29 = .ok (.iaload, 1) := by decide +kernel
set_option maxRecDepth 100000 in
theorem dX7_valueOf_30 : decode cX7_valueOf 30 = .ok (.iconst 1, 1) := by decide +kernel
set_option maxRecDepth 100000 in
theorem dX7_valueOf_31 : decode cX7_valueOf 31 = .ok (.if_icmp .ne 30, 3) := by decide +kernel
set_option maxRecDepth 100000 in
theorem dX7_valueOf_34 : decode cX7_valueOf 34 = .ok (.aload_n 0, 1) := by decide +kernel
set_option maxRecDepth 100000 in
theorem dX7_valueOf_35 : decode cX7_valueOf 35 = .ok (.getfield 62, 3) := by decide +kernel
set_option maxRecDepth 100000 in
theorem dX7_valueOf_38 : decode cX7_valueOf 38 = .ok (.iload_n 1, 1) := by decide +kernel
set_option maxRecDepth 100000 in
theorem dX7_valueOf_39 : decode cX7_valueOf 39 = .ok (.iaload, 1) := by decide +kernel
set_option maxRecDepth 100000 in
theorem dX7_valueOf_40 : decode cX7_valueOf 40 = .ok (.bipush 100, 2) := by decide +kernel
set_option maxRecDepth 100000 in
theorem dX7_valueOf_42 : decode cX7_valueOf 42 = .ok (.if_icmp .lt 19, 3) := by decide +kernel
set_option maxRecDepth 100000 in
theorem dX7_valueOf_45 : decode cX7_valueOf 45 = .ok (.aload_n 0, 1) := by decide +kernel
set_option maxRecDepth 100000 in
theorem dX7_valueOf_46 : decode cX7_valueOf 46 = .ok (.aload_n 0, 1) := by decide +kernel
set_option maxRecDepth 100000 in
theorem dX7_valueOf_47 : decode cX7_valueOf 47 = .ok (.getfield 62, 3) := by decide +kernel
set_option maxRecDepth 100000 in
theorem dX7_valueOf_50 : decode cX7_valueOf 50 = .ok (.iload_n 1, 1) := by decide +kernel
set_option maxRecDepth 100000 in
theorem dX7_valueOf_51 : decode cX7_valueOf 51 = .ok (.iaload, 1) := by decide +kernel
set_option maxRecDepth 100000 in
theorem dX7_valueOf_52 : decode cX7_valueOf 52 = .ok (.bipush 100, 2) := by decide +kernel
set_option maxRecDepth 100000 in
theorem dX7_valueOf_54 : decode cX7_valueOf 54 = .ok (.isub, 1) := by decide +kernel
set_option maxRecDepth 100000 in
theorem dX7_valueOf_55 : decode cX7_valueOf 55 = .ok (.invokevirtual 339, 3) := by decide +kernel
set_option maxRecDepth 100000 in
theorem dX7_valueOf_58 : decode cX7_valueOf 58 = .ok (.goto 31, 3) := by decide +kernel
set_option maxRecDepth 100000 in
theorem dX7_valueOf_61 : decode cX7_valueOf 61 = .ok (.aload_n 0, 1) := by decide +kernel
set_option maxRecDepth 100000 in
theorem dX7_valueOf_62 : decode cX7_valueOf 62 = .ok (.getfield 59, 3) := by decide +kernel
set_option maxRecDepth 100000 in
theorem dX7_valueOf_65 : decode cX7_valueOf 65 = .ok (.iload_n 1, 1) := by decide +kernel
set_option maxRecDepth 100000 in
theorem dX7_valueOf_66 : decode cX7_valueOf 66 = .ok (.iaload, 1) := by decide +kernel
set_option maxRecDepth 100000 in
theorem dX7_valueOf_67 : decode cX7_valueOf 67 = .ok (.iconst 1, 1) := by decide +kernel
set_option maxRecDepth 100000 in
theorem dX7_valueOf_68 : decode cX7_valueOf 68 = .ok (.if_icmp .ne 16, 3) := by decide +kernel
set_option maxRecDepth 100000 in
theorem dX7_valueOf_71 : decode cX7_valueOf 71 = .ok (.aload_n 0, 1) := by decide +kernel
set_option maxRecDepth 100000 in
theorem dX7_valueOf_72 : decode cX7_valueOf 72 = .ok (.aload_n 0, 1) := by decide +kernel
set_option maxRecDepth 100000 in
theorem dX7_valueOf_73 : decode cX7_valueOf 73 = .ok (.getfield 62, 3) := by decide +kernel
set_option maxRecDepth 100000 in
theorem dX7_valueOf_76 : decode cX7_valueOf 76 = .ok (.iload_n 1, 1) := by decide +kernel
set_option maxRecDepth 100000 in
theorem dX7_valueOf_77 : decode cX7_valueOf 77 = .ok (.iaload, 1) := by decide +kernel
set_option maxRecDepth 100000 in
theorem dX7_valueOf_78 : decode cX7_valueOf 78 = .ok (.invokevirtual 249, 3) := by decide +kernel
set_option maxRecDepth 100000 in
theorem dX7_valueOf_81 : decode cX7_valueOf 81 = .ok (.goto 8, 3) := by decide +kernel
set_option maxRecDepth 100000 in
theorem dX7_valueOf_84 : decode cX7_valueOf 84 = .ok (.aload_n 0, 1) := by decide +kernel
set_option maxRecDepth 100000 in
theorem dX7_valueOf_85 : decode cX7_valueOf 85 = .ok (.iload_n 1, 1) := by decide +kernel
set_option maxRecDepth 100000 in
theorem dX7_valueOf_86 : decode cX7_valueOf 86 = .ok (.invokevirtual 342, 3) := by decide +kernel
set_option maxRecDepth 100000 in
theorem dX7_valueOf_89 : decode cX7_valueOf 89 = .ok (.aload_n 0, 1) := by decide +kernel
set_option maxRecDepth 100000 in
theorem dX7_valueOf_90 : decode cX7_valueOf 90 = .ok (.getfield 117, 3) := by decide +kernel
set_option maxRecDepth 100000 in
theorem dX7_valueOf_93 : decode cX7_valueOf 93 = .ok (.iload_n 1, 1) := by decide +kernel
set_option maxRecDepth 100000 in
theorem dX7_valueOf_94 : decode cX7_valueOf 94 = .ok (.aload_n 0, 1) := by decide +kernel
set_option maxRecDepth 100000 in
theorem dX7_valueOf_95 : decode cX7_valueOf 95 = .ok (.getfield 252, 3) := by decide +kernel
set_option maxRecDepth 100000 in
theorem dX7_valueOf_98 : decode cX7_valueOf 98 = .ok (.iastore, 1) := by decide +kernel
set_option maxRecDepth 100000 in
theorem dX7_valueOf_99 : decode cX7_valueOf 99 = .ok (.aload_n 0, 1) := by decide +kernel
set_option maxRecDepth 100000 in
theorem dX7_valueOf_100 : decode cX7_valueOf 100 = .ok (.getfield 120, 3) := by decide +kernel
set_option maxRecDepth 100000 in
theorem dX7_valueOf_103 : decode cX7_valueOf 103 = .ok (.iload_n 1, 1) := by decide +kernel
set_option maxRecDepth 100000 in
theorem dX7_valueOf_104 : decode cX7_valueOf 104 = .ok (.aload_n 0, 1) := by decide +kernel
set_option maxRecDepth 100000 in
theorem dX7_valueOf_105 : decode cX7_valueOf 105 = .ok (.getfield 255, 3) := by decide +kernel
set_option maxRecDepth 100000 in
theorem dX7_valueOf_108 : decode cX7_valueOf 108 = .ok (.lastore, 1) := by decide +kernel
set_option maxRecDepth 100000 in
theorem dX7_valueOf_109 : decode cX7_valueOf 109 = .ok (.aload_n 0, 1) := by decide +kernel
set_option maxRecDepth 100000 in
theorem dX7_valueOf_110 : decode cX7_valueOf 110 = .ok (.getfield 123, 3) := by decide +kernel
set_option maxRecDepth 100000 in
theorem dX7_valueOf_113 : decode cX7_valueOf 113 = .ok (.iload_n 1, 1) := by decide +kernel
set_option maxRecDepth 100000 in
theorem dX7_valueOf_114 : decode cX7_valueOf 114 = .ok (.aload_n 0, 1) := by decide +kernel
set_option maxRecDepth 100000 in
theorem dX7_valueOf_115 : decode cX7_valueOf 115 = .ok (.getfield 259, 3) := by decide +kernel
set_option maxRecDepth 100000 in
theorem dX7_valueOf_118 : decode cX7_valueOf 118 = .ok (.lastore, 1) := by decide +kernel
set_option maxRecDepth 100000 in
theorem dX7_valueOf_119 : decode cX7_valueOf 119 = .ok (.return_, 1) := by decide +kernel
set_option maxRecDepth 100000 in
theorem dX7_partsOf_0 : decode cX7_partsOf 0 = .ok (.iconst 0, 1) := by decide +kernel
set_option maxRecDepth 100000 in
theorem dX7_partsOf_1 : decode cX7_partsOf 1 = .ok (.istore_n 2, 1) := by decide +kernel
set_option maxRecDepth 100000 in
theorem dX7_partsOf_2 : decode cX7_partsOf 2 = .ok (.iconst 0, 1) := by decide +kernel
set_option maxRecDepth 100000 in
theorem dX7_partsOf_3 : decode cX7_partsOf 3 = .ok (.istore_n 3, 1) := by decide +kernel
set_option maxRecDepth 100000 in
theorem dX7_partsOf_4 : decode cX7_partsOf 4 = .ok (.iconst 0, 1) := by decide +kernel
set_option maxRecDepth 100000 in
theorem dX7_partsOf_5 : decode cX7_partsOf 5 = .ok (.istore 4, 2) := by decide +kernel
set_option maxRecDepth 100000 in
theorem dX7_partsOf_7 : decode cX7_partsOf 7 = .ok (.aload_n 0, 1) := by decide +kernel
set_option maxRecDepth 100000 in
theorem dX7_partsOf_8 : decode cX7_partsOf 8 = .ok (.getfield 65, 3) := by decide +kernel
set_option maxRecDepth 100000 in
theorem dX7_partsOf_11 : decode cX7_partsOf 11 = .ok (.iload_n 1, 1) := by decide +kernel
set_option maxRecDepth 100000 in
theorem dX7_partsOf_12 : decode cX7_partsOf 12 = .ok (.iaload, 1) := by decide +kernel
set_option maxRecDepth 100000 in
theorem dX7_partsOf_13 : decode cX7_partsOf 13 = .ok (.istore 5, 2) := by decide +kernel
set_option maxRecDepth 100000 in
theorem dX7_partsOf_15 : decode cX7_partsOf 15 = .ok (.iload 5, 2) := by decide +kernel
set_option maxRecDepth 100000 in
theorem dX7_partsOf_17 : decode cX7_partsOf 17 = .ok (.ifCond .lt 57, 3) := by decide +kernel
set_option maxRecDepth 100000 in
theorem dX7_partsOf_20 : decode cX7_partsOf 20 = .ok (.aload_n 0, 1) := by decide +kernel
set_option maxRecDepth 100000 in
theorem dX7_partsOf_21 : decode cX7_partsOf 21 = .ok (.iload 5, 2) := by decide +kernel
set_option maxRecDepth 100000 in
theorem dX7_partsOf_23 : decode cX7_partsOf 23 = .ok (.invokevirtual 336, 3) := by decide +kernel
set_option maxRecDepth 100000 in
theorem dX7_partsOf_26 : decode cX7_partsOf 26 = .ok (.iload_n 2, 1) := by decide +kernel
set_option maxRecDepth 100000 in
theorem dX7_partsOf_27 : decode cX7_partsOf 27 = .ok (.ifCond .ne 11, 3) := by decide +kernel
set_option maxRecDepth 100000 in
theorem dX7_partsOf_30 : decode cX7_partsOf 30 = .ok (.aload_n 0, 1) := by decide +kernel
set_option maxRecDepth 100000 in
theorem dX7_partsOf_31 : decode cX7_partsOf 31 = .ok (.getfield 252, 3) := by decide +kernel
set_option maxRecDepth 100000 in
theorem dX7_partsOf_34 : decode cX7_partsOf 34 = .ok (.iconst 2, 1) := by decide +kernel
set_option maxRecDepth 100000 in
theorem dX7_partsOf_35 : decode cX7_partsOf 35 = .ok (.if_icmp .ne 7, 3) := by decide +kernel
set_option maxRecDepth 100000 in
theorem dX7_partsOf_38 : decode cX7_partsOf 38 = .ok (.iconst 1, 1) := by decide +kernel
set_option maxRecDepth 100000 in
theorem dX7_partsOf_39 : decode cX7_partsOf 39 = .ok (.goto 4, 3) := by decide +kernel
set_option maxRecDepth 100000 in
theorem dX7_partsOf_42 : decode cX7_partsOf 42 = .ok (.iconst 0, 1) := by decide +kernel
set_option maxRecDepth 100000 in
theorem dX7_partsOf_43 : decode cX7_partsOf 43 = .ok (.istore_n 2, 1) := by decide +kernel
set_option maxRecDepth 100000 in
theorem dX7_partsOf_44 : decode cX7_partsOf 44 = .ok (.iload_n 3, 1) := by decide +kernel
set_option maxRecDepth 100000 in
theorem dX7_partsOf_45 : decode cX7_partsOf 45 = .ok (.aload_n 0, 1) := by decide +kernel
set_option maxRecDepth 100000 in
theorem dX7_partsOf_46 : decode cX7_partsOf 46 = .ok (.getfield 252, 3) := by decide +kernel
set_option maxRecDepth 100000 in
theorem dX7_partsOf_49 : decode cX7_partsOf 49 = .ok (.ifCond .ne 7, 3) := by decide +kernel
set_option maxRecDepth 100000 in
theorem dX7_partsOf_52 : decode cX7_partsOf 52 = .ok (.iconst 1, 1) := by decide +kernel
set_option maxRecDepth 100000 in
theorem dX7_partsOf_53 : decode cX7_partsOf 53 = .ok (.goto 4, 3) := by decide +kernel
set_option maxRecDepth 100000 in
theorem dX7_partsOf_56 : decode cX7_partsOf 56 = .ok (.iconst 0, 1) := by decide +kernel
set_option maxRecDepth 100000 in
theorem dX7_partsOf_57 : decode cX7_partsOf 57 = .ok (.iadd, 1) := by decide +kernel
set_option maxRecDepth 100000 in
theorem dX7_partsOf_58 : decode cX7_partsOf 58 = .ok (.istore_n 3, 1) := by decide +kernel
set_option maxRecDepth 100000 in
theorem dX7_partsOf_59 : decode cX7_partsOf 59 = .ok (.iinc 4 1, 3) := by decide +kernel
set_option maxRecDepth 100000 in
theorem dX7_partsOf_62 : decode cX7_partsOf 62 = .ok (.aload_n 0, 1) := by decide +kernel
set_option maxRecDepth 100000 in
theorem dX7_partsOf_63 : decode cX7_partsOf 63 = .ok (.getfield 68, 3) := by decide +kernel
set_option maxRecDepth 100000 in
theorem dX7_partsOf_66 : decode cX7_partsOf 66 = .ok (.iload 5, 2) := by decide +kernel
set_option maxRecDepth 100000 in
theorem dX7_partsOf_68 : decode cX7_partsOf 68 = .ok (.iaload, 1) := by decide +kernel
set_option maxRecDepth 100000 in
theorem dX7_partsOf_69 : decode cX7_partsOf 69 = .ok (.istore 5, 2) := by decide +kernel
set_option maxRecDepth 100000 in
theorem dX7_partsOf_71 : decode cX7_partsOf 71 = .ok (.goto (-56), 3) := by decide +kernel
set_option maxRecDepth 100000 in
theorem dX7_partsOf_74 : decode cX7_partsOf 74 = .ok (.aload_n 0, 1) := by decide +kernel
set_option maxRecDepth 100000 in
theorem dX7_partsOf_75 : decode cX7_partsOf 75 = .ok (.iload_n 2, 1) := by decide +kernel
set_option maxRecDepth 100000 in
theorem dX7_partsOf_76 : decode cX7_partsOf 76 = .ok (.ifCond .eq 7, 3) := by decide +kernel
set_option maxRecDepth 100000 in
theorem dX7_partsOf_79 : decode cX7_partsOf 79 = .ok (.iconst 2, 1) := by decide +kernel
set_option maxRecDepth 100000 in
theorem dX7_partsOf_80 : decode cX7_partsOf 80 = .ok (.goto 28, 3) := by decide +kernel
set_option maxRecDepth 100000 in
theorem dX7_partsOf_83 : decode cX7_partsOf 83 = .ok (.iload_n 3, 1) := by decide +kernel
set_option maxRecDepth 100000 in
theorem dX7_partsOf_84 : decode cX7_partsOf 84 = .ok (.iload 4, 2) := by decide +kernel
set_option maxRecDepth 100000 in
theorem dX7_partsOf_86 : decode cX7_partsOf 86 = .ok (.if_icmp .eq 17, 3) := by decide +kernel
set_option maxRecDepth 100000 in
theorem dX7_partsOf_89 : decode cX7_partsOf 89 = .ok (.aload_n 0, 1) := by decide +kernel
set_option maxRecDepth 100000 in
theorem dX7_partsOf_90 : decode cX7_partsOf 90 = .ok (.getfield 59, 3) := by decide +kernel
set_option maxRecDepth 100000 in
theorem dX7_partsOf_93 : decode cX7_partsOf 93 = .ok (.iload_n 1, 1) := by decide +kernel
set_option maxRecDepth 100000 in
theorem dX7_partsOf_94 : decode cX7_partsOf 94 = .ok (.iaload, 1) := by decide +kernel
set_option maxRecDepth 100000 in
theorem dX7_partsOf_95 : decode cX7_partsOf 95 = .ok (.iconst 3, 1) := by decide +kernel
set_option maxRecDepth 100000 in
theorem dX7_partsOf_96 : decode cX7_partsOf 96 = .ok (.if_icmp .ne 11, 3) := by decide +kernel
set_option maxRecDepth 100000 in
theorem dX7_partsOf_99 : decode cX7_partsOf 99 = .ok (.iload_n 3, 1) := by decide +kernel
set_option maxRecDepth 100000 in
theorem dX7_partsOf_100 : decode cX7_partsOf 100 = .ok (.ifCond .le 7, 3) := by decide +kernel
set_option maxRecDepth 100000 in
theorem dX7_partsOf_103 : decode cX7_partsOf 103 = .ok (.iconst 0, 1) := by decide +kernel
set_option maxRecDepth 100000 in
theorem dX7_partsOf_104 : decode cX7_partsOf 104 = .ok (.goto 4, 3) := by decide +kernel
set_option maxRecDepth 100000 in
theorem dX7_partsOf_107 : decode cX7_partsOf 107 = .ok (.iconst 1, 1) := by decide +kernel
set_option maxRecDepth 100000 in
theorem dX7_partsOf_108 : decode cX7_partsOf 108 = .ok (.putfield 252, 3) := by decide +kernel
set_option maxRecDepth 100000 in
theorem dX7_partsOf_111 : decode cX7_partsOf 111 = .ok (.aload_n 0, 1) := by decide +kernel
set_option maxRecDepth 100000 in
theorem dX7_partsOf_112 : decode cX7_partsOf 112 = .ok (.getfield 252, 3) := by decide +kernel
set_option maxRecDepth 100000 in
theorem dX7_partsOf_115 : decode cX7_partsOf 115 = .ok (.iconst 1, 1) := by decide +kernel
set_option maxRecDepth 100000 in
theorem dX7_partsOf_116 : decode cX7_partsOf 116 = .ok (.if_icmp .eq 4, 3) := by decide +kernel
set_option maxRecDepth 100000 in
theorem dX7_partsOf_119 : decode cX7_partsOf 119 = .ok (.return_, 1) := by decide +kernel
set_option maxRecDepth 100000 in
theorem dX7_partsOf_120 : decode cX7_partsOf 120 = .ok (.aload_n 0, 1) := by decide +kernel
set_option maxRecDepth 100000 in
theorem dX7_partsOf_121 : decode cX7_partsOf 121 = .ok (.getfield 59, 3) := by decide +kernel
set_option maxRecDepth 100000 in
theorem dX7_partsOf_124 : decode cX7_partsOf 124 = .ok (.iload_n 1, 1) := by decide +kernel
set_option maxRecDepth 100000 in
theorem dX7_partsOf_125 : decode cX7_partsOf 125 = .ok (.iaload, 1) := by decide +kernel
set_option maxRecDepth 100000 in
theorem dX7_partsOf_126 : decode cX7_partsOf 126 = .ok (.tableswitch 100 2 10 #[50, 56, 100, 100, 68, 100, 100, 62, 62], 50) := by decide +kernel
set_option maxRecDepth 100000 in
theorem dX7_partsOf_176 : decode cX7_partsOf 176 = .ok (.aload_n 0, 1) := by decide +kernel
set_option maxRecDepth 100000 in
theorem dX7_partsOf_177 : decode cX7_partsOf 177 = .ok (.iload_n 1, 1) := by decide +kernel
set_option maxRecDepth 100000 in
theorem dX7_partsOf_178 : decode cX7_partsOf 178 = .ok (.invokevirtual 345, 3) := by decide +kernel
set_option maxRecDepth 100000 in
theorem dX7_partsOf_181 : decode cX7_partsOf 181 = .ok (.return_, 1) := by decide +kernel
set_option maxRecDepth 100000 in
theorem dX7_partsOf_182 : decode cX7_partsOf 182 = .ok (.aload_n 0, 1) := by decide +kernel
set_option maxRecDepth 100000 in
theorem dX7_partsOf_183 : decode cX7_partsOf 183 = .ok (.iload_n 1, 1) := by decide +kernel
set_option maxRecDepth 100000 in
theorem dX7_partsOf_184 : decode cX7_partsOf 184 = .ok (.invokevirtual 348, 3) := by decide +kernel
set_option maxRecDepth 100000 in
theorem dX7_partsOf_187 : decode cX7_partsOf 187 = .ok (.return_, 1) := by decide +kernel
set_option maxRecDepth 100000 in
theorem dX7_partsOf_188 : decode cX7_partsOf 188 = .ok (.aload_n 0, 1) := by decide +kernel
set_option maxRecDepth 100000 in
theorem dX7_partsOf_189 : decode cX7_partsOf 189 = .ok (.iload_n 1, 1) := by decide +kernel
set_option maxRecDepth 100000 in
theorem dX7_partsOf_190 : decode cX7_partsOf 190 = .ok (.invokevirtual 351, 3) := by decide +kernel
set_option maxRecDepth 100000 in
theorem dX7_partsOf_193 : decode cX7_partsOf 193 = .ok (.return_, 1) := by decide +kernel
set_option maxRecDepth 100000 in
theorem dX7_partsOf_194 : decode cX7_partsOf 194 = .ok (.aload_n 0, 1) := by decide +kernel
set_option maxRecDepth 100000 in
theorem dX7_partsOf_195 : decode cX7_partsOf 195 = .ok (.iload_n 1, 1) := by decide +kernel
set_option maxRecDepth 100000 in
theorem dX7_partsOf_196 : decode cX7_partsOf 196 = .ok (.invokevirtual 345, 3) := by decide +kernel
set_option maxRecDepth 100000 in
theorem dX7_partsOf_199 : decode cX7_partsOf 199 = .ok (.aload_n 0, 1) := by decide +kernel
set_option maxRecDepth 100000 in
theorem dX7_partsOf_200 : decode cX7_partsOf 200 = .ok (.getfield 252, 3) := by decide +kernel
set_option maxRecDepth 100000 in
theorem dX7_partsOf_203 : decode cX7_partsOf 203 = .ok (.iconst 1, 1) := by decide +kernel
set_option maxRecDepth 100000 in
theorem dX7_partsOf_204 : decode cX7_partsOf 204 = .ok (.if_icmp .ne 21, 3) := by decide +kernel
set_option maxRecDepth 100000 in
theorem dX7_partsOf_207 : decode cX7_partsOf 207 = .ok (.aload_n 0, 1) := by decide +kernel
set_option maxRecDepth 100000 in
theorem dX7_partsOf_208 : decode cX7_partsOf 208 = .ok (.aload_n 0, 1) := by decide +kernel
set_option maxRecDepth 100000 in
theorem dX7_partsOf_209 : decode cX7_partsOf 209 = .ok (.getfield 255, 3) := by decide +kernel
set_option maxRecDepth 100000 in
theorem dX7_partsOf_212 : decode cX7_partsOf 212 = .ok (.aload_n 0, 1) := by decide +kernel
set_option maxRecDepth 100000 in
theorem dX7_partsOf_213 : decode cX7_partsOf 213 = .ok (.getfield 259, 3) := by decide +kernel
set_option maxRecDepth 100000 in
theorem dX7_partsOf_216 : decode cX7_partsOf 216 = .ok (.iload 4, 2) := by decide +kernel
set_option maxRecDepth 100000 in
theorem dX7_partsOf_218 : decode cX7_partsOf 218 = .ok (.iload_n 3, 1) := by decide +kernel
set_option maxRecDepth 100000 in
theorem dX7_partsOf_219 : decode cX7_partsOf 219 = .ok (.isub, 1) := by decide +kernel
set_option maxRecDepth 100000 in
theorem dX7_partsOf_220 : decode cX7_partsOf 220 = .ok (.i2l, 1) := by decide +kernel
set_option maxRecDepth 100000 in
theorem dX7_partsOf_221 : decode cX7_partsOf 221 = .ok (.lmul, 1) := by decide +kernel
set_option maxRecDepth 100000 in
theorem dX7_partsOf_222 : decode cX7_partsOf 222 = .ok (.invokevirtual 320, 3) := by decide +kernel
set_option maxRecDepth 100000 in
theorem dX7_partsOf_225 : decode cX7_partsOf 225 = .ok (.return_, 1) := by decide +kernel
set_option maxRecDepth 100000 in
theorem dX7_partsOf_226 : decode cX7_partsOf 226 = .ok (.aload_n 0, 1) := by decide +kernel
set_option maxRecDepth 100000 in
theorem dX7_partsOf_227 : decode cX7_partsOf 227 = .ok (.iload_n 1, 1) := by decide +kernel
set_option maxRecDepth 100000 in
theorem dX7_partsOf_228 : decode cX7_partsOf 228 = .ok (.iload 4, 2) := by decide +kernel
set_option maxRecDepth 100000 in
theorem dX7_partsOf_230 : decode cX7_partsOf 230 = .ok (.iload_n 3, 1) := by decide +kernel
set_option maxRecDepth 100000 in
theorem dX7_partsOf_231 : decode cX7_partsOf 231 = .ok (.isub, 1) := by decide +kernel
set_option maxRecDepth 100000 in
theorem dX7_partsOf_232 : decode cX7_partsOf 232 = .ok (.invokevirtual 354, 3) := by decide +kernel
set_option maxRecDepth 100000 in
theorem dX7_partsOf_235 : decode cX7_partsOf 235 = .ok (.return_, 1) := by decide +kernel
set_option maxRecDepth 100000 in
theorem dX7_plus_0 : decode cX7_plus 0 = .ok (.aload_n 0, 1) := by decide +kernel
set_option maxRecDepth 100000 in
theorem dX7_plus_1 : decode cX7_plus 1 = .ok (.aload_n 0, 1) := by decide +kernel
set_option maxRecDepth 100000 in
theorem dX7_plus_2 : decode cX7_plus 2 = .ok (.getfield 255, 3) := by decide +kernel
set_option maxRecDepth 100000 in
theorem dX7_plus_5 : decode cX7_plus 5 = .ok (.lload_n 3, 1) := by decide +kernel
set_option maxRecDepth 100000 in
theorem dX7_plus_6 : decode cX7_plus 6 = .ok (.lmul, 1) := by decide +kernel
set_option maxRecDepth 100000 in
theorem dX7_plus_7 : decode cX7_plus 7 = .ok (.lload_n 1, 1) := by decide +kernel
set_option maxRecDepth 100000 in
theorem dX7_plus_8 : decode cX7_plus 8 = .ok (.aload_n 0, 1) := by decide +kernel
set_option maxRecDepth 100000 in
theorem dX7_plus_9 : decode cX7_plus 9 = .ok (.getfield 259, 3) := by decide +kernel
set_option maxRecDepth 100000 in
theorem dX7_plus_12 : decode cX7_plus 12 = .ok (.lmul, 1) := by decide +kernel
set_option maxRecDepth 100000 in
theorem dX7_plus_13 : decode cX7_plus 13 = .ok (.ladd, 1) := by decide +kernel
set_option maxRecDepth 100000 in
theorem dX7_plus_14 : decode cX7_plus 14 = .ok (.aload_n 0, 1) := by decide +kernel
set_option maxRecDepth 100000 in
theorem dX7_plus_15 : decode cX7_plus 15 = .ok (.getfield 259, 3) := by decide +kernel
set_option maxRecDepth 100000 in
theorem dX7_plus_18 : decode cX7_plus 18 = .ok (.lload_n 3, 1) := by decide +kernel
set_option maxRecDepth 100000 in
theorem dX7_plus_19 : decode cX7_plus 19 = .ok (.lmul, 1) := by decide +kernel
set_option maxRecDepth 100000 in
theorem dX7_plus_20 : decode cX7_plus 20 = .ok (.invokevirtual 320, 3) := by decide +kernel
set_option maxRecDepth 100000 in
theorem dX7_plus_23 : decode cX7_plus 23 = .ok (.return_, 1) := by decide +kernel
set_option maxRecDepth 100000 in
theorem dX7_sums_0 : decode cX7_sums 0 = .ok (.aload_n 0, 1) := by decide +kernel
set_option maxRecDepth 100000 in
theorem dX7_sums_1 : decode cX7_sums 1 = .ok (.lconst 0, 1) := by decide +kernel
set_option maxRecDepth 100000 in
theorem dX7_sums_2 : decode cX7_sums 2 = .ok (.lconst 1, 1) := by decide +kernel
set_option maxRecDepth 100000 in
theorem dX7_sums_3 : decode cX7_sums 3 = .ok (.invokevirtual 320, 3) := by decide +kernel
set_option maxRecDepth 100000 in
theorem dX7_sums_6 : decode cX7_sums 6 = .ok (.aload_n 0, 1) := by decide +kernel
set_option maxRecDepth 100000 in
theorem dX7_sums_7 : decode cX7_sums 7 = .ok (.getfield 65, 3) := by decide +kernel
set_option maxRecDepth 100000 in
theorem dX7_sums_10 : decode cX7_sums 10 = .ok (.iload_n 1, 1) := by decide +kernel
set_option maxRecDepth 100000 in
theorem dX7_sums_11 : decode cX7_sums 11 = .ok (.iaload, 1) := by decide +kernel
set_option maxRecDepth 100000 in
theorem dX7_sums_12 : decode cX7_sums 12 = .ok (.istore_n 2, 1) := by decide +kernel
set_option maxRecDepth 100000 in
theorem dX7_sums_13 : decode cX7_sums 13 = .ok (.iload_n 2, 1) := by decide +kernel
set_option maxRecDepth 100000 in
theorem dX7_sums_14 : decode cX7_sums 14 = .ok (.ifCond .lt 76, 3) := by decide +kernel
set_option maxRecDepth 100000 in
theorem dX7_sums_17 : decode cX7_sums 17 = .ok (.aload_n 0, 1) := by decide +kernel
set_option maxRecDepth 100000 in
theorem dX7_sums_18 : decode cX7_sums 18 = .ok (.getfield 252, 3) := by decide +kernel
set_option maxRecDepth 100000 in
theorem dX7_sums_21 : decode cX7_sums 21 = .ok (.iconst 1, 1) := by decide +kernel
set_option maxRecDepth 100000 in
theorem dX7_sums_22 : decode cX7_sums 22 = .ok (.if_icmp .ne 68, 3) := by decide +kernel
set_option maxRecDepth 100000 in
theorem dX7_sums_25 : decode cX7_sums 25 = .ok (.aload_n 0, 1) := by decide +kernel
set_option maxRecDepth 100000 in
theorem dX7_sums_26 : decode cX7_sums 26 = .ok (.getfield 117, 3) := by decide +kernel
set_option maxRecDepth 100000 in
theorem dX7_sums_29 : decode cX7_sums 29 = .ok (.iload_n 2, 1) := by decide +kernel
set_option maxRecDepth 100000 in
theorem dX7_sums_30 : decode cX7_sums 30 = .ok (.iaload, 1) := by decide +kernel
set_option maxRecDepth 100000 in
theorem dX7_sums_31 : decode cX7_sums 31 = .ok (.iconst 1, 1) := by decide +kernel
set_option maxRecDepth 100000 in
theorem dX7_sums_32 : decode cX7_sums 32 = .ok (.if_icmp .ne 48, 3) := by decide +kernel
set_option maxRecDepth 100000 in
theorem dX7_sums_35 : decode cX7_sums 35 = .ok (.aload_n 0, 1) := by decide +kernel
set_option maxRecDepth 100000 in
theorem dX7_sums_36 : decode cX7_sums 36 = .ok (.aload_n 0, 1) := by decide +kernel
set_option maxRecDepth 100000 in
theorem dX7_sums_37 : decode cX7_sums 37 = .ok (.getfield 74, 3) := by decide +kernel
set_option maxRecDepth 100000 in
theorem dX7_sums_40 : decode cX7_sums 40 = .ok (.iload_n 2, 1) := by decide +kernel
set_option maxRecDepth 100000 in
theorem dX7_sums_41 : decode cX7_sums 41 = .ok (.baload, 1) := by decide +kernel
set_option maxRecDepth 100000 in
theorem dX7_sums_42 : decode cX7_sums 42 = .ok (.ifCond .eq 23, 3) := by decide +kernel
set_option maxRecDepth 100000 in
theorem dX7_sums_45 : decode cX7_sums 45 = .ok (.aload_n 0, 1) := by decide +kernel
set_option maxRecDepth 100000 in
theorem dX7_sums_46 : decode cX7_sums 46 = .ok (.getfield 59, 3) := by decide +kernel
set_option maxRecDepth 100000 in
theorem dX7_sums_49 : decode cX7_sums 49 = .ok (.iload_n 1, 1) := by decide +kernel
set_option maxRecDepth 100000 in
theorem dX7_sums_50 : decode cX7_sums 50 = .ok (.iaload, 1) := by decide +kernel
set_option maxRecDepth 100000 in
theorem dX7_sums_51 : decode cX7_sums 51 = .ok (.iconst 2, 1) := by decide +kernel
set_option maxRecDepth 100000 in
theorem dX7_sums_52 : decode cX7_sums 52 = .ok (.if_icmp .ne 13, 3) := by decide +kernel
set_option maxRecDepth 100000 in
theorem dX7_sums_55 : decode cX7_sums 55 = .ok (.aload_n 0, 1) := by decide +kernel
set_option maxRecDepth 100000 in
theorem dX7_sums_56 : decode cX7_sums 56 = .ok (.getfield 120, 3) := by decide +kernel
set_option maxRecDepth 100000 in
theorem dX7_sums_59 : decode cX7_sums 59 = .ok (.iload_n 2, 1) := by decide +kernel
set_option maxRecDepth 100000 in
theorem dX7_sums_60 : decode cX7_sums 60 = .ok (.laload, 1) := by decide +kernel
set_option maxRecDepth 100000 in
theorem dX7_sums_61 : decode cX7_sums 61 = .ok (.lneg, 1) := by decide +kernel
set_option maxRecDepth 100000 in
theorem dX7_sums_62 : decode cX7_sums 62 = .ok (.goto 9, 3) := by decide +kernel
set_option maxRecDepth 100000 in
theorem dX7_sums_65 : decode cX7_sums 65 = .ok (.aload_n 0, 1) := by decide +kernel
set_option maxRecDepth 100000 in
theorem dX7_sums_66 : decode cX7_sums 66 = .ok (.getfield 120, 3) := by decide +kernel
set_option maxRecDepth 100000 in
theorem dX7_sums_69 : decode cX7_sums 69 = .ok (.iload_n 2, 1) := by decide +kernel
set_option maxRecDepth 100000 in
theorem dX7_sums_70 : decode cX7_sums 70 = .ok (.laload, 1) := by decide +kernel
set_option maxRecDepth 100000 in
theorem dX7_sums_71 : decode cX7_sums 71 = .ok (.aload_n 0, 1) := by decide +kernel
set_option maxRecDepth 100000 in
theorem dX7_sums_72 : decode cX7_sums 72 = .ok (.getfield 123, 3) := by decide +kernel
set_option maxRecDepth 100000 in
theorem dX7_sums_75 : decode cX7_sums 75 = .ok (.iload_n 2, 1) := by decide +kernel
set_option maxRecDepth 100000 in
theorem dX7_sums_76 : decode cX7_sums 76 = .ok (.laload, 1) := by decide +kernel
set_option maxRecDepth 100000 in
theorem dX7_sums_77 : decode cX7_sums 77 = .ok (.invokevirtual 357, 3) := by decide +kernel
set_option maxRecDepth 100000 in
theorem dX7_sums_80 : decode cX7_sums 80 = .ok (.aload_n 0, 1) := by decide +kernel
set_option maxRecDepth 100000 in
theorem dX7_sums_81 : decode cX7_sums 81 = .ok (.getfield 68, 3) := by decide +kernel
set_option maxRecDepth 100000 in
theorem dX7_sums_84 : decode cX7_sums 84 = .ok (.iload_n 2, 1) := by decide +kernel
set_option maxRecDepth 100000 in
theorem dX7_sums_85 : decode cX7_sums 85 = .ok (.iaload, 1) := by decide +kernel
set_option maxRecDepth 100000 in
theorem dX7_sums_86 : decode cX7_sums 86 = .ok (.istore_n 2, 1) := by decide +kernel
set_option maxRecDepth 100000 in
theorem dX7_sums_87 : decode cX7_sums 87 = .ok (.goto (-74), 3) := by decide +kernel
set_option maxRecDepth 100000 in
theorem dX7_sums_90 : decode cX7_sums 90 = .ok (.return_, 1) := by decide +kernel
set_option maxRecDepth 100000 in
theorem dX7_multiplies_0 : decode cX7_multiplies 0 = .ok (.aload_n 0, 1) := by decide +kernel
set_option maxRecDepth 100000 in
theorem dX7_multiplies_1 : decode cX7_multiplies 1 = .ok (.lconst 1, 1) := by decide +kernel
set_option maxRecDepth 100000 in
theorem dX7_multiplies_2 : decode cX7_multiplies 2 = .ok (.lconst 1, 1) := by decide +kernel
set_option maxRecDepth 100000 in
theorem dX7_multiplies_3 : decode cX7_multiplies 3 = .ok (.invokevirtual 320, 3) := by decide +kernel
set_option maxRecDepth 100000 in
theorem dX7_multiplies_6 : decode cX7_multiplies 6 = .ok (.aload_n 0, 1) := by decide +kernel
set_option maxRecDepth 100000 in
theorem dX7_multiplies_7 : decode cX7_multiplies 7 = .ok (.getfield 65, 3) := by decide +kernel
set_option maxRecDepth 100000 in
theorem dX7_multiplies_10 : decode cX7_multiplies 10 = .ok (.iload_n 1, 1) := by decide +kernel
set_option maxRecDepth 100000 in
theorem dX7_multiplies_11 : decode cX7_multiplies 11 = .ok (.iaload, 1) := by decide +kernel
set_option maxRecDepth 100000 in
theorem dX7_multiplies_12 : decode cX7_multiplies 12 = .ok (.istore_n 2, 1) := by decide +kernel
set_option maxRecDepth 100000 in
theorem dX7_multiplies_13 : decode cX7_multiplies 13 = .ok (.iload_n 2, 1) := by decide +kernel
set_option maxRecDepth 100000 in
theorem dX7_multiplies_14 : decode cX7_multiplies 14 = .ok (.ifCond .lt 87, 3) := by decide +kernel
set_option maxRecDepth 100000 in
theorem dX7_multiplies_17 : decode cX7_multiplies 17 = .ok (.aload_n 0, 1) := by decide +kernel
set_option maxRecDepth 100000 in
theorem dX7_multiplies_18 : decode cX7_multiplies 18 = .ok (.getfield 252, 3) := by decide +kernel
set_option maxRecDepth 100000 in
theorem dX7_multiplies_21 : decode cX7_multiplies 21 = .ok (.iconst 1, 1) := by decide +kernel
set_option maxRecDepth 100000 in
theorem dX7_multiplies_22 : decode cX7_multiplies 22 = .ok (.if_icmp .ne 79, 3) := by decide +kernel
set_option maxRecDepth 100000 in
theorem dX7_multiplies_25 : decode cX7_multiplies 25 = .ok (.aload_n 0, 1) := by decide +kernel
set_option maxRecDepth 100000 in
theorem dX7_multiplies_26 : decode cX7_multiplies 26 = .ok (.getfield 74, 3) := by decide +kernel
set_option maxRecDepth 100000 in
theorem dX7_multiplies_29 : decode cX7_multiplies 29 = .ok (.iload_n 2, 1) := by decide +kernel
set_option maxRecDepth 100000 in
theorem dX7_multiplies_30 : decode cX7_multiplies 30 = .ok (.baload, 1) := by decide +kernel
set_option maxRecDepth 100000 in
theorem dX7_multiplies_31 : decode cX7_multiplies 31 = .ok (.ifCond .eq 34, 3) := by decide +kernel
set_option maxRecDepth 100000 in
theorem dX7_multiplies_34 : decode cX7_multiplies 34 = .ok (.aload_n 0, 1) := by decide +kernel
set_option maxRecDepth 100000 in
theorem dX7_multiplies_35 : decode cX7_multiplies 35 = .ok (.getfield 59, 3) := by decide +kernel
set_option maxRecDepth 100000 in
theorem dX7_multiplies_38 : decode cX7_multiplies 38 = .ok (.iload_n 2, 1) := by decide +kernel
set_option maxRecDepth 100000 in
theorem dX7_multiplies_39 : decode cX7_multiplies 39 = .ok (.iaload, 1) := by decide +kernel
set_option maxRecDepth 100000 in
theorem dX7_multiplies_40 : decode cX7_multiplies 40 = .ok (.ifCond .ne 25, 3) := by decide +kernel
set_option maxRecDepth 100000 in
theorem dX7_multiplies_43 : decode cX7_multiplies 43 = .ok (.aload_n 0, 1) := by decide +kernel
set_option maxRecDepth 100000 in
theorem dX7_multiplies_44 : decode cX7_multiplies 44 = .ok (.aload_n 0, 1) := by decide +kernel
set_option maxRecDepth 100000 in
theorem dX7_multiplies_45 : decode cX7_multiplies 45 = .ok (.getfield 255, 3) := by decide +kernel
set_option maxRecDepth 100000 in
theorem dX7_multiplies_48 : decode cX7_multiplies 48 = .ok (.aload_n 0, 1) := by decide +kernel
set_option maxRecDepth 100000 in
theorem dX7_multiplies_49 : decode cX7_multiplies 49 = .ok (.getfield 259, 3) := by decide +kernel
set_option maxRecDepth 100000 in
theorem dX7_multiplies_52 : decode cX7_multiplies 52 = .ok (.aload_n 0, 1) := by decide +kernel
set_option maxRecDepth 100000 in
theorem dX7_multiplies_53 : decode cX7_multiplies 53 = .ok (.getfield 120, 3) := by decide +kernel
set_option maxRecDepth 100000 in
theorem dX7_multiplies_56 : decode cX7_multiplies 56 = .ok (.iload_n 2, 1) := by decide +kernel
set_option maxRecDepth 100000 in
theorem dX7_multiplies_57 : decode cX7_multiplies 57 = .ok (.laload, 1) := by decide +kernel
set_option maxRecDepth 100000 in
theorem dX7_multiplies_58 : decode cX7_multiplies 58 = .ok (.lmul, 1) := by decide +kernel
set_option maxRecDepth 100000 in
theorem dX7_multiplies_59 : decode cX7_multiplies 59 = .ok (.invokevirtual 320, 3) := by decide +kernel
set_option maxRecDepth 100000 in
theorem dX7_multiplies_62 : decode cX7_multiplies 62 = .ok (.goto 29, 3) := by decide +kernel
set_option maxRecDepth 100000 in
theorem dX7_multiplies_65 : decode cX7_multiplies 65 = .ok (.aload_n 0, 1) := by decide +kernel
set_option maxRecDepth 100000 in
theorem dX7_multiplies_66 : decode cX7_multiplies 66 = .ok (.aload_n 0, 1) := by decide +kernel
set_option maxRecDepth 100000 in
theorem dX7_multiplies_67 : decode cX7_multiplies 67 = .ok (.getfield 255, 3) := by decide +kernel
set_option maxRecDepth 100000 in
theorem dX7_multiplies_70 : decode cX7_multiplies 70 = .ok (.aload_n 0, 1) := by decide +kernel
set_option maxRecDepth 100000 in
theorem dX7_multiplies_71 : decode cX7_multiplies 71 = .ok (.getfield 120, 3) := by decide +kernel
set_option maxRecDepth 100000 in
theorem dX7_multiplies_74 : decode cX7_multiplies 74 = .ok (.iload_n 2, 1) := by decide +kernel
set_option maxRecDepth 100000 in
theorem dX7_multiplies_75 : decode cX7_multiplies 75 = .ok (.laload, 1) := by decide +kernel
set_option maxRecDepth 100000 in
theorem dX7_multiplies_76 : decode cX7_multiplies 76 = .ok (.lmul, 1) := by decide +kernel
set_option maxRecDepth 100000 in
theorem dX7_multiplies_77 : decode cX7_multiplies 77 = .ok (.aload_n 0, 1) := by decide +kernel
set_option maxRecDepth 100000 in
theorem dX7_multiplies_78 : decode cX7_multiplies 78 = .ok (.getfield 259, 3) := by decide +kernel
set_option maxRecDepth 100000 in
theorem dX7_multiplies_81 : decode cX7_multiplies 81 = .ok (.aload_n 0, 1) := by decide +kernel
set_option maxRecDepth 100000 in
theorem dX7_multiplies_82 : decode cX7_multiplies 82 = .ok (.getfield 123, 3) := by decide +kernel
set_option maxRecDepth 100000 in
theorem dX7_multiplies_85 : decode cX7_multiplies 85 = .ok (.iload_n 2, 1) := by decide +kernel
set_option maxRecDepth 100000 in
theorem dX7_multiplies_86 : decode cX7_multiplies 86 = .ok (.laload, 1) := by decide +kernel
set_option maxRecDepth 100000 in
theorem dX7_multiplies_87 : decode cX7_multiplies 87 = .ok (.lmul, 1) := by decide +kernel
set_option maxRecDepth 100000 in
theorem dX7_multiplies_88 : decode cX7_multiplies 88 = .ok (.invokevirtual 320, 3) := by decide +kernel
set_option maxRecDepth 100000 in
theorem dX7_multiplies_91 : decode cX7_multiplies 91 = .ok (.aload_n 0, 1) := by decide +kernel
set_option maxRecDepth 100000 in
theorem dX7_multiplies_92 : decode cX7_multiplies 92 = .ok (.getfield 68, 3) := by decide +kernel
set_option maxRecDepth 100000 in
theorem dX7_multiplies_95 : decode cX7_multiplies 95 = .ok (.iload_n 2, 1) := by decide +kernel
set_option maxRecDepth 100000 in
theorem dX7_multiplies_96 : decode cX7_multiplies 96 = .ok (.iaload, 1) := by decide +kernel
set_option maxRecDepth 100000 in
theorem dX7_multiplies_97 : decode cX7_multiplies 97 = .ok (.istore_n 2, 1) := by decide +kernel
set_option maxRecDepth 100000 in
theorem dX7_multiplies_98 : decode cX7_multiplies 98 = .ok (.goto (-85), 3) := by decide +kernel
set_option maxRecDepth 100000 in
theorem dX7_multiplies_101 : decode cX7_multiplies 101 = .ok (.return_, 1) := by decide +kernel
set_option maxRecDepth 100000 in
theorem dX7_caps_0 : decode cX7_caps 0 = .ok (.aload_n 0, 1) := by decide +kernel
set_option maxRecDepth 100000 in
theorem dX7_caps_1 : decode cX7_caps 1 = .ok (.getfield 65, 3) := by decide +kernel
set_option maxRecDepth 100000 in
theorem dX7_caps_4 : decode cX7_caps 4 = .ok (.iload_n 1, 1) := by decide +kernel
set_option maxRecDepth 100000 in
theorem dX7_caps_5 : decode cX7_caps 5 = .ok (.iaload, 1) := by decide +kernel
set_option maxRecDepth 100000 in
theorem dX7_caps_6 : decode cX7_caps 6 = .ok (.istore_n 2, 1) := by decide +kernel
set_option maxRecDepth 100000 in
theorem dX7_caps_7 : decode cX7_caps 7 = .ok (.aload_n 0, 1) := by decide +kernel
set_option maxRecDepth 100000 in
theorem dX7_caps_8 : decode cX7_caps 8 = .ok (.getfield 120, 3) := by decide +kernel
set_option maxRecDepth 100000 in
theorem dX7_caps_11 : decode cX7_caps 11 = .ok (.iload_n 2, 1) := by decide +kernel
set_option maxRecDepth 100000 in
theorem dX7_caps_12 : decode cX7_caps 12 = .ok (.laload, 1) := by decide +kernel
set_option maxRecDepth 100000 in
theorem dX7_caps_13 : decode cX7_caps 13 = .ok (.aload_n 0, 1) := by decide +kernel
set_option maxRecDepth 100000 in
theorem dX7_caps_14 : decode cX7_caps 14 = .ok (.getfield 62, 3) := by decide +kernel
set_option maxRecDepth 100000 in
theorem dX7_caps_17 : decode cX7_caps 17 = .ok (.iload_n 1, 1) := by decide +kernel
set_option maxRecDepth 100000 in
theorem dX7_caps_18 : decode cX7_caps 18 = .ok (.iaload, 1) := by decide +kernel
set_option maxRecDepth 100000 in
theorem dX7_caps_19 : decode cX7_caps 19 = .ok (.i2l, 1) := by decide +kernel
set_option maxRecDepth 100000 in
theorem dX7_caps_20 : decode cX7_caps 20 = .ok (.aload_n 0, 1) := by decide +kernel
set_option maxRecDepth 100000 in
theorem dX7_caps_21 : decode cX7_caps 21 = .ok (.getfield 123, 3) := by decide +kernel
set_option maxRecDepth 100000 in
theorem dX7_caps_24 : decode cX7_caps 24 = .ok (.iload_n 2, 1) := by decide +kernel
set_option maxRecDepth 100000 in
theorem dX7_caps_25 : decode cX7_caps 25 = .ok (.laload, 1) := by decide +kernel
set_option maxRecDepth 100000 in
theorem dX7_caps_26 : decode cX7_caps 26 = .ok (.lmul, 1) := by decide +kernel
set_option maxRecDepth 100000 in
theorem dX7_caps_27 : decode cX7_caps 27 = .ok (.lcmp, 1) := by decide +kernel
set_option maxRecDepth 100000 in
theorem dX7_caps_28 : decode cX7_caps 28 = .ok (.ifCond .lt 7, 3) := by decide +kernel
set_option maxRecDepth 100000 in
theorem dX7_caps_31 : decode cX7_caps 31 = .ok (.iconst 1, 1) := by decide +kernel
set_option maxRecDepth 100000 in
theorem dX7_caps_32 : decode cX7_caps 32 = .ok (.goto 4, 3) := by decide +kernel
set_option maxRecDepth 100000 in
theorem dX7_caps_35 : decode cX7_caps 35 = .ok (.iconst 0, 1) := by decide +kernel
set_option maxRecDepth 100000 in
theorem dX7_caps_36 : decode cX7_caps 36 = .ok (.istore_n 3, 1) := by decide +kernel
set_option maxRecDepth 100000 in
theorem dX7_caps_37 : decode cX7_caps 37 = .ok (.aload_n 0, 1) := by decide +kernel
set_option maxRecDepth 100000 in
theorem dX7_caps_38 : decode cX7_caps 38 = .ok (.getfield 59, 3) := by decide +kernel
set_option maxRecDepth 100000 in
theorem dX7_caps_41 : decode cX7_caps 41 = .ok (.iload_n 1, 1) := by decide +kernel
set_option maxRecDepth 100000 in
theorem dX7_caps_42 : decode cX7_caps 42 = .ok (.iaload, 1) := by decide +kernel
set_option maxRecDepth 100000 in
theorem dX7_caps_43 : decode cX7_caps 43 = .ok (.bipush 10, 2) := by decide +kernel
set_option maxRecDepth 100000 in
theorem dX7_caps_45 : decode cX7_caps 45 = .ok (.if_icmp .ne 20, 3) := by decide +kernel
set_option maxRecDepth 100000 in
theorem dX7_caps_48 : decode cX7_caps 48 = .ok (.aload_n 0, 1) := by decide +kernel
set_option maxRecDepth 100000 in
theorem dX7_caps_49 : decode cX7_caps 49 = .ok (.iload_n 3, 1) := by decide +kernel
set_option maxRecDepth 100000 in
theorem dX7_caps_50 : decode cX7_caps 50 = .ok (.ifCond .eq 7, 3) := by decide +kernel
set_option maxRecDepth 100000 in
theorem dX7_caps_53 : decode cX7_caps 53 = .ok (.lconst 1, 1) := by decide +kernel
set_option maxRecDepth 100000 in
theorem dX7_caps_54 : decode cX7_caps 54 = .ok (.goto 4, 3) := by decide +kernel
set_option maxRecDepth 100000 in
theorem dX7_caps_57 : decode cX7_caps 57 = .ok (.lconst 0, 1) := by decide +kernel
set_option maxRecDepth 100000 in
theorem dX7_caps_58 : decode cX7_caps 58 = .ok (.lconst 1, 1) := by decide +kernel
set_option maxRecDepth 100000 in
theorem dX7_caps_59 : decode cX7_caps 59 = .ok (.invokevirtual 320, 3) := by decide +kernel
set_option maxRecDepth 100000 in
theorem dX7_caps_62 : decode cX7_caps 62 = .ok (.goto 38, 3) := by decide +kernel
set_option maxRecDepth 100000 in
theorem dX7_caps_65 : decode cX7_caps 65 = .ok (.iload_n 3, 1) := by decide +kernel
set_option maxRecDepth 100000 in
theorem dX7_caps_66 : decode cX7_caps 66 = .ok (.ifCond .eq 18, 3) := by decide +kernel
set_option maxRecDepth 100000 in
theorem dX7_caps_69 : decode cX7_caps 69 = .ok (.aload_n 0, 1) := by decide +kernel
set_option maxRecDepth 100000 in
theorem dX7_caps_70 : decode cX7_caps 70 = .ok (.aload_n 0, 1) := by decide +kernel
set_option maxRecDepth 100000 in
theorem dX7_caps_71 : decode cX7_caps 71 = .ok (.getfield 62, 3) := by decide +kernel
set_option maxRecDepth 100000 in
theorem dX7_caps_74 : decode cX7_caps 74 = .ok (.iload_n 1, 1) := by decide +kernel
set_option maxRecDepth 100000 in
theorem dX7_caps_75 : decode cX7_caps 75 = .ok (.iaload, 1) := by decide +kernel
set_option maxRecDepth 100000 in
theorem dX7_caps_76 : decode cX7_caps 76 = .ok (.i2l, 1) := by decide +kernel
set_option maxRecDepth 100000 in
theorem dX7_caps_77 : decode cX7_caps 77 = .ok (.lconst 1, 1) := by decide +kernel
set_option maxRecDepth 100000 in
theorem dX7_caps_78 : decode cX7_caps 78 = .ok (.invokevirtual 320, 3) := by decide +kernel
set_option maxRecDepth 100000 in
theorem dX7_caps_81 : decode cX7_caps 81 = .ok (.goto 19, 3) := by decide +kernel
set_option maxRecDepth 100000 in
theorem dX7_caps_84 : decode cX7_caps 84 = .ok (.aload_n 0, 1) := by decide +kernel
set_option maxRecDepth 100000 in
theorem dX7_caps_85 : decode cX7_caps 85 = .ok (.aload_n 0, 1) := by decide +kernel
set_option maxRecDepth 100000 in
theorem dX7_caps_86 : decode cX7_caps 86 = .ok (.getfield 120, 3) := by decide +kernel
set_option maxRecDepth 100000 in
theorem dX7_caps_89 : decode cX7_caps 89 = .ok (.iload_n 2, 1) := by decide +kernel
set_option maxRecDepth 100000 in
theorem dX7_caps_90 : decode cX7_caps 90 = .ok (.laload, 1) := by decide +kernel
set_option maxRecDepth 100000 in
theorem dX7_caps_91 : decode cX7_caps 91 = .ok (.aload_n 0, 1) := by decide +kernel
set_option maxRecDepth 100000 in
theorem dX7_caps_92 : decode cX7_caps 92 = .ok (.getfield 123, 3) := by decide +kernel
set_option maxRecDepth 100000 in
theorem dX7_caps_95 : decode cX7_caps 95 = .ok (.iload_n 2, 1) := by decide +kernel
set_option maxRecDepth 100000 in
theorem dX7_caps_96 : decode cX7_caps 96 = .ok (.laload, 1) := by decide +kernel
set_option maxRecDepth 100000 in
theorem dX7_caps_97 : decode cX7_caps 97 = .ok (.invokevirtual 320, 3) := by decide +kernel
set_option maxRecDepth 100000 in
theorem dX7_caps_100 : decode cX7_caps 100 = .ok (.return_, 1) := by decide +kernel
set_option maxRecDepth 100000 in
theorem dX7_picks_0 : decode cX7_picks 0 = .ok (.iconst 0, 1) := by decide +kernel
set_option maxRecDepth 100000 in
theorem dX7_picks_1 : decode cX7_picks 1 = .ok (.istore_n 3, 1) := by decide +kernel
set_option maxRecDepth 100000 in
theorem dX7_picks_2 : decode cX7_picks 2 = .ok (.aload_n 0, 1) := by decide +kernel
set_option maxRecDepth 100000 in
theorem dX7_picks_3 : decode cX7_picks 3 = .ok (.getfield 65, 3) := by decide +kernel
set_option maxRecDepth 100000 in
theorem dX7_picks_6 : decode cX7_picks 6 = .ok (.iload_n 1, 1) := by decide +kernel
set_option maxRecDepth 100000 in
theorem dX7_picks_7 : decode cX7_picks 7 = .ok (.iaload, 1) := by decide +kernel
set_option maxRecDepth 100000 in
theorem dX7_picks_8 : decode cX7_picks 8 = .ok (.istore 4, 2) := by decide +kernel
set_option maxRecDepth 100000 in
theorem dX7_picks_10 : decode cX7_picks 10 = .ok (.iload 4, 2) := by decide +kernel
set_option maxRecDepth 100000 in
theorem dX7_picks_12 : decode cX7_picks 12 = .ok (.ifCond .lt 119, 3) := by decide +kernel
set_option maxRecDepth 100000 in
theorem dX7_picks_15 : decode cX7_picks 15 = .ok (.aload_n 0, 1) := by decide +kernel
set_option maxRecDepth 100000 in
theorem dX7_picks_16 : decode cX7_picks 16 = .ok (.getfield 117, 3) := by decide +kernel
