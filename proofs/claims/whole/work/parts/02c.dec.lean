set_option maxRecDepth 100000 in
theorem dX6_init_0 : decode cX6_init 0 = .ok (.aload_n 0, 1) := by decide +kernel
set_option maxRecDepth 100000 in
theorem dX6_init_1 : decode cX6_init 1 = .ok (.invokespecial 3, 3) := by decide +kernel
set_option maxRecDepth 100000 in
theorem dX6_init_4 : decode cX6_init 4 = .ok (.aload_n 0, 1) := by decide +kernel
set_option maxRecDepth 100000 in
theorem dX6_init_5 : decode cX6_init 5 = .ok (.bipush 6, 2) := by decide +kernel
set_option maxRecDepth 100000 in
theorem dX6_init_7 : decode cX6_init 7 = .ok (.newarray .int, 2) := by decide +kernel
set_option maxRecDepth 100000 in
theorem dX6_init_9 : decode cX6_init 9 = .ok (.putfield 9, 3) := by decide +kernel
set_option maxRecDepth 100000 in
theorem dX6_init_12 : decode cX6_init 12 = .ok (.aload_n 0, 1) := by decide +kernel
set_option maxRecDepth 100000 in
theorem dX6_init_13 : decode cX6_init 13 = .ok (.bipush 10, 2) := by decide +kernel
set_option maxRecDepth 100000 in
theorem dX6_init_15 : decode cX6_init 15 = .ok (.anewarray 13, 3) := by decide +kernel
set_option maxRecDepth 100000 in
theorem dX6_init_18 : decode cX6_init 18 = .ok (.putfield 15, 3) := by decide +kernel
set_option maxRecDepth 100000 in
theorem dX6_init_21 : decode cX6_init 21 = .ok (.aload_n 0, 1) := by decide +kernel
set_option maxRecDepth 100000 in
theorem dX6_init_22 : decode cX6_init 22 = .ok (.bipush 60, 2) := by decide +kernel
set_option maxRecDepth 100000 in
theorem dX6_init_24 : decode cX6_init 24 = .ok (.anewarray 19, 3) := by decide +kernel
set_option maxRecDepth 100000 in
theorem dX6_init_27 : decode cX6_init 27 = .ok (.putfield 21, 3) := by decide +kernel
set_option maxRecDepth 100000 in
theorem dX6_init_30 : decode cX6_init 30 = .ok (.aload_n 0, 1) := by decide +kernel
set_option maxRecDepth 100000 in
theorem dX6_init_31 : decode cX6_init 31 = .ok (.new 25, 3) := by decide +kernel
set_option maxRecDepth 100000 in
theorem dX6_init_34 : decode cX6_init 34 = .ok (.dup, 1) := by decide +kernel
set_option maxRecDepth 100000 in
theorem dX6_init_35 : decode cX6_init 35 = .ok (.invokespecial 27, 3) := by decide +kernel
set_option maxRecDepth 100000 in
theorem dX6_init_38 : decode cX6_init 38 = .ok (.putfield 28, 3) := by decide +kernel
set_option maxRecDepth 100000 in
theorem dX6_init_41 : decode cX6_init 41 = .ok (.aload_n 0, 1) := by decide +kernel
set_option maxRecDepth 100000 in
theorem dX6_init_42 : decode cX6_init 42 = .ok (.new 32, 3) := by decide +kernel
set_option maxRecDepth 100000 in
theorem dX6_init_45 : decode cX6_init 45 = .ok (.dup, 1) := by decide +kernel
set_option maxRecDepth 100000 in
theorem dX6_init_46 : decode cX6_init 46 = .ok (.invokespecial 34, 3) := by decide +kernel
set_option maxRecDepth 100000 in
theorem dX6_init_49 : decode cX6_init 49 = .ok (.putfield 35, 3) := by decide +kernel
set_option maxRecDepth 100000 in
theorem dX6_init_52 : decode cX6_init 52 = .ok (.aload_n 0, 1) := by decide +kernel
set_option maxRecDepth 100000 in
theorem dX6_init_53 : decode cX6_init 53 = .ok (.new 39, 3) := by decide +kernel
set_option maxRecDepth 100000 in
theorem dX6_init_56 : decode cX6_init 56 = .ok (.dup, 1) := by decide +kernel
set_option maxRecDepth 100000 in
theorem dX6_init_57 : decode cX6_init 57 = .ok (.invokespecial 41, 3) := by decide +kernel
set_option maxRecDepth 100000 in
theorem dX6_init_60 : decode cX6_init 60 = .ok (.putfield 42, 3) := by decide +kernel
set_option maxRecDepth 100000 in
theorem dX6_init_63 : decode cX6_init 63 = .ok (.aload_n 0, 1) := by decide +kernel
set_option maxRecDepth 100000 in
theorem dX6_init_64 : decode cX6_init 64 = .ok (.bipush 8, 2) := by decide +kernel
set_option maxRecDepth 100000 in
theorem dX6_init_66 : decode cX6_init 66 = .ok (.newarray .int, 2) := by decide +kernel
set_option maxRecDepth 100000 in
theorem dX6_init_68 : decode cX6_init 68 = .ok (.putfield 46, 3) := by decide +kernel
set_option maxRecDepth 100000 in
theorem dX6_init_71 : decode cX6_init 71 = .ok (.iconst 0, 1) := by decide +kernel
set_option maxRecDepth 100000 in
theorem dX6_init_72 : decode cX6_init 72 = .ok (.istore_n 1, 1) := by decide +kernel
set_option maxRecDepth 100000 in
theorem dX6_init_73 : decode cX6_init 73 = .ok (.iload_n 1, 1) := by decide +kernel
set_option maxRecDepth 100000 in
theorem dX6_init_74 : decode cX6_init 74 = .ok (.aload_n 0, 1) := by decide +kernel
set_option maxRecDepth 100000 in
theorem dX6_init_75 : decode cX6_init 75 = .ok (.getfield 15, 3) := by decide +kernel
set_option maxRecDepth 100000 in
theorem dX6_init_78 : decode cX6_init 78 = .ok (.arraylength, 1) := by decide +kernel
set_option maxRecDepth 100000 in
theorem dX6_init_79 : decode cX6_init 79 = .ok (.if_icmp .ge 22, 3) := by decide +kernel
set_option maxRecDepth 100000 in
theorem dX6_init_82 : decode cX6_init 82 = .ok (.aload_n 0, 1) := by decide +kernel
set_option maxRecDepth 100000 in
theorem dX6_init_83 : decode cX6_init 83 = .ok (.getfield 15, 3) := by decide +kernel
set_option maxRecDepth 100000 in
theorem dX6_init_86 : decode cX6_init 86 = .ok (.iload_n 1, 1) := by decide +kernel
set_option maxRecDepth 100000 in
theorem dX6_init_87 : decode cX6_init 87 = .ok (.new 13, 3) := by decide +kernel
set_option maxRecDepth 100000 in
theorem dX6_init_90 : decode cX6_init 90 = .ok (.dup, 1) := by decide +kernel
set_option maxRecDepth 100000 in
theorem dX6_init_91 : decode cX6_init 91 = .ok (.invokespecial 49, 3) := by decide +kernel
set_option maxRecDepth 100000 in
theorem dX6_init_94 : decode cX6_init 94 = .ok (.aastore, 1) := by decide +kernel
set_option maxRecDepth 100000 in
theorem dX6_init_95 : decode cX6_init 95 = .ok (.iinc 1 1, 3) := by decide +kernel
set_option maxRecDepth 100000 in
theorem dX6_init_98 : decode cX6_init 98 = .ok (.goto (-25), 3) := by decide +kernel
set_option maxRecDepth 100000 in
theorem dX6_init_101 : decode cX6_init 101 = .ok (.iconst 0, 1) := by decide +kernel
set_option maxRecDepth 100000 in
theorem dX6_init_102 : decode cX6_init 102 = .ok (.istore_n 1, 1) := by decide +kernel
set_option maxRecDepth 100000 in
theorem dX6_init_103 : decode cX6_init 103 = .ok (.iload_n 1, 1) := by decide +kernel
set_option maxRecDepth 100000 in
theorem dX6_init_104 : decode cX6_init 104 = .ok (.aload_n 0, 1) := by decide +kernel
set_option maxRecDepth 100000 in
theorem dX6_init_105 : decode cX6_init 105 = .ok (.getfield 21, 3) := by decide +kernel
set_option maxRecDepth 100000 in
theorem dX6_init_108 : decode cX6_init 108 = .ok (.arraylength, 1) := by decide +kernel
set_option maxRecDepth 100000 in
theorem dX6_init_109 : decode cX6_init 109 = .ok (.if_icmp .ge 22, 3) := by decide +kernel
set_option maxRecDepth 100000 in
theorem dX6_init_112 : decode cX6_init 112 = .ok (.aload_n 0, 1) := by decide +kernel
set_option maxRecDepth 100000 in
theorem dX6_init_113 : decode cX6_init 113 = .ok (.getfield 21, 3) := by decide +kernel
set_option maxRecDepth 100000 in
theorem dX6_init_116 : decode cX6_init 116 = .ok (.iload_n 1, 1) := by decide +kernel
set_option maxRecDepth 100000 in
theorem dX6_init_117 : decode cX6_init 117 = .ok (.new 19, 3) := by decide +kernel
set_option maxRecDepth 100000 in
theorem dX6_init_120 : decode cX6_init 120 = .ok (.dup, 1) := by decide +kernel
set_option maxRecDepth 100000 in
theorem dX6_init_121 : decode cX6_init 121 = .ok (.invokespecial 50, 3) := by decide +kernel
set_option maxRecDepth 100000 in
theorem dX6_init_124 : decode cX6_init 124 = .ok (.aastore, 1) := by decide +kernel
set_option maxRecDepth 100000 in
theorem dX6_init_125 : decode cX6_init 125 = .ok (.iinc 1 1, 3) := by decide +kernel
set_option maxRecDepth 100000 in
theorem dX6_init_128 : decode cX6_init 128 = .ok (.goto (-25), 3) := by decide +kernel
set_option maxRecDepth 100000 in
theorem dX6_init_131 : decode cX6_init 131 = .ok (.return_, 1) := by decide +kernel
set_option maxRecDepth 100000 in
theorem dX6_pupil_0 : decode cX6_pupil 0 = .ok (.aload_n 0, 1) := by decide +kernel
set_option maxRecDepth 100000 in
theorem dX6_pupil_1 : decode cX6_pupil 1 = .ok (.getfield 51, 3) := by decide +kernel
set_option maxRecDepth 100000 in
theorem dX6_pupil_4 : decode cX6_pupil 4 = .ok (.ifCond .lt 15, 3) := by decide +kernel
set_option maxRecDepth 100000 in
theorem dX6_pupil_7 : decode cX6_pupil 7 = .ok (.aload_n 0, 1) := by decide +kernel
set_option maxRecDepth 100000 in
theorem dX6_pupil_8 : decode cX6_pupil 8 = .ok (.getfield 51, 3) := by decide +kernel
set_option maxRecDepth 100000 in
theorem dX6_pupil_11 : decode cX6_pupil 11 = .ok (.aload_n 0, 1) := by decide +kernel
set_option maxRecDepth 100000 in
theorem dX6_pupil_12 : decode cX6_pupil 12 = .ok (.getfield 9, 3) := by decide +kernel
set_option maxRecDepth 100000 in
theorem dX6_pupil_15 : decode cX6_pupil 15 = .ok (.arraylength, 1) := by decide +kernel
set_option maxRecDepth 100000 in
theorem dX6_pupil_16 : decode cX6_pupil 16 = .ok (.if_icmp .lt 10, 3) := by decide +kernel
set_option maxRecDepth 100000 in
theorem dX6_pupil_19 : decode cX6_pupil 19 = .ok (.aload_n 0, 1) := by decide +kernel
set_option maxRecDepth 100000 in
theorem dX6_pupil_20 : decode cX6_pupil 20 = .ok (.bipush (-6), 2) := by decide +kernel
set_option maxRecDepth 100000 in
theorem dX6_pupil_22 : decode cX6_pupil 22 = .ok (.invokevirtual 55, 3) := by decide +kernel
set_option maxRecDepth 100000 in
theorem dX6_pupil_25 : decode cX6_pupil 25 = .ok (.ireturn, 1) := by decide +kernel
set_option maxRecDepth 100000 in
theorem dX6_pupil_26 : decode cX6_pupil 26 = .ok (.aload_n 0, 1) := by decide +kernel
set_option maxRecDepth 100000 in
theorem dX6_pupil_27 : decode cX6_pupil 27 = .ok (.getfield 9, 3) := by decide +kernel
set_option maxRecDepth 100000 in
theorem dX6_pupil_30 : decode cX6_pupil 30 = .ok (.aload_n 0, 1) := by decide +kernel
set_option maxRecDepth 100000 in
theorem dX6_pupil_31 : decode cX6_pupil 31 = .ok (.getfield 51, 3) := by decide +kernel
set_option maxRecDepth 100000 in
theorem dX6_pupil_34 : decode cX6_pupil 34 = .ok (.aload_n 0, 1) := by decide +kernel
set_option maxRecDepth 100000 in
theorem dX6_pupil_35 : decode cX6_pupil 35 = .ok (.getfield 51, 3) := by decide +kernel
set_option maxRecDepth 100000 in
theorem dX6_pupil_38 : decode cX6_pupil 38 = .ok (.iastore, 1) := by decide +kernel
set_option maxRecDepth 100000 in
theorem dX6_pupil_39 : decode cX6_pupil 39 = .ok (.aload_n 0, 1) := by decide +kernel
set_option maxRecDepth 100000 in
theorem dX6_pupil_40 : decode cX6_pupil 40 = .ok (.dup, 1) := by decide +kernel
set_option maxRecDepth 100000 in
theorem dX6_pupil_41 : decode cX6_pupil 41 = .ok (.getfield 51, 3) := by decide +kernel
set_option maxRecDepth 100000 in
theorem dX6_pupil_44 : decode cX6_pupil 44 = .ok (.dup_x1, 1) := by decide +kernel
set_option maxRecDepth 100000 in
theorem dX6_pupil_45 : decode cX6_pupil 45 = .ok (.iconst 1, 1) := by decide +kernel
set_option maxRecDepth 100000 in
theorem dX6_pupil_46 : decode cX6_pupil 46 = .ok (.iadd, 1) := by decide +kernel
set_option maxRecDepth 100000 in
theorem dX6_pupil_47 : decode cX6_pupil 47 = .ok (.putfield 51, 3) := by decide +kernel
set_option maxRecDepth 100000 in
theorem dX6_pupil_50 : decode cX6_pupil 50 = .ok (.ireturn, 1) := by decide +kernel
set_option maxRecDepth 100000 in
theorem dX6_group_0 : decode cX6_group 0 = .ok (.aload_n 0, 1) := by decide +kernel
set_option maxRecDepth 100000 in
theorem dX6_group_1 : decode cX6_group 1 = .ok (.iload_n 1, 1) := by decide +kernel
set_option maxRecDepth 100000 in
theorem dX6_group_2 : decode cX6_group 2 = .ok (.invokevirtual 59, 3) := by decide +kernel
set_option maxRecDepth 100000 in
theorem dX6_group_5 : decode cX6_group 5 = .ok (.ifCond .eq 13, 3) := by decide +kernel
set_option maxRecDepth 100000 in
theorem dX6_group_8 : decode cX6_group 8 = .ok (.iload_n 2, 1) := by decide +kernel
set_option maxRecDepth 100000 in
theorem dX6_group_9 : decode cX6_group 9 = .ok (.ifCond .lt 9, 3) := by decide +kernel
set_option maxRecDepth 100000 in
theorem dX6_group_12 : decode cX6_group 12 = .ok (.iload_n 2, 1) := by decide +kernel
set_option maxRecDepth 100000 in
theorem dX6_group_13 : decode cX6_group 13 = .ok (.bipush 6, 2) := by decide +kernel
set_option maxRecDepth 100000 in
theorem dX6_group_15 : decode cX6_group 15 = .ok (.if_icmp .lt 9, 3) := by decide +kernel
set_option maxRecDepth 100000 in
theorem dX6_group_18 : decode cX6_group 18 = .ok (.aload_n 0, 1) := by decide +kernel
set_option maxRecDepth 100000 in
theorem dX6_group_19 : decode cX6_group 19 = .ok (.iconst (-1), 1) := by decide +kernel
set_option maxRecDepth 100000 in
theorem dX6_group_20 : decode cX6_group 20 = .ok (.invokevirtual 55, 3) := by decide +kernel
set_option maxRecDepth 100000 in
theorem dX6_group_23 : decode cX6_group 23 = .ok (.ireturn, 1) := by decide +kernel
set_option maxRecDepth 100000 in
theorem dX6_group_24 : decode cX6_group 24 = .ok (.aload_n 0, 1) := by decide +kernel
set_option maxRecDepth 100000 in
theorem dX6_group_25 : decode cX6_group 25 = .ok (.getfield 9, 3) := by decide +kernel
set_option maxRecDepth 100000 in
theorem dX6_group_28 : decode cX6_group 28 = .ok (.iload_n 1, 1) := by decide +kernel
set_option maxRecDepth 100000 in
theorem dX6_group_29 : decode cX6_group 29 = .ok (.iaload, 1) := by decide +kernel
set_option maxRecDepth 100000 in
theorem dX6_group_30 : decode cX6_group 30 = .ok (.istore_n 3, 1) := by decide +kernel
set_option maxRecDepth 100000 in
theorem dX6_group_31 : decode cX6_group 31 = .ok (.aload_n 0, 1) := by decide +kernel
set_option maxRecDepth 100000 in
theorem dX6_group_32 : decode cX6_group 32 = .ok (.getfield 9, 3) := by decide +kernel
set_option maxRecDepth 100000 in
theorem dX6_group_35 : decode cX6_group 35 = .ok (.iload_n 1, 1) := by decide +kernel
set_option maxRecDepth 100000 in
theorem dX6_group_36 : decode cX6_group 36 = .ok (.iload_n 2, 1) := by decide +kernel
set_option maxRecDepth 100000 in
theorem dX6_group_37 : decode cX6_group 37 = .ok (.iastore, 1) := by decide +kernel
set_option maxRecDepth 100000 in
theorem dX6_group_38 : decode cX6_group 38 = .ok (.iload_n 3, 1) := by decide +kernel
set_option maxRecDepth 100000 in
theorem dX6_group_39 : decode cX6_group 39 = .ok (.ireturn, 1) := by decide +kernel
set_option maxRecDepth 100000 in
theorem dX6_work_0 : decode cX6_work 0 = .ok (.iload_n 1, 1) := by decide +kernel
set_option maxRecDepth 100000 in
theorem dX6_work_1 : decode cX6_work 1 = .ok (.ifCond .lt 8, 3) := by decide +kernel
set_option maxRecDepth 100000 in
theorem dX6_work_4 : decode cX6_work 4 = .ok (.iload_n 1, 1) := by decide +kernel
set_option maxRecDepth 100000 in
theorem dX6_work_5 : decode cX6_work 5 = .ok (.iconst 3, 1) := by decide +kernel
set_option maxRecDepth 100000 in
theorem dX6_work_6 : decode cX6_work 6 = .ok (.if_icmp .le 9, 3) := by decide +kernel
set_option maxRecDepth 100000 in
theorem dX6_work_9 : decode cX6_work 9 = .ok (.aload_n 0, 1) := by decide +kernel
set_option maxRecDepth 100000 in
theorem dX6_work_10 : decode cX6_work 10 = .ok (.iconst (-1), 1) := by decide +kernel
set_option maxRecDepth 100000 in
theorem dX6_work_11 : decode cX6_work 11 = .ok (.invokevirtual 55, 3) := by decide +kernel
set_option maxRecDepth 100000 in
theorem dX6_work_14 : decode cX6_work 14 = .ok (.ireturn, 1) := by decide +kernel
set_option maxRecDepth 100000 in
theorem dX6_work_15 : decode cX6_work 15 = .ok (.iload_n 2, 1) := by decide +kernel
set_option maxRecDepth 100000 in
theorem dX6_work_16 : decode cX6_work 16 = .ok (.iconst 1, 1) := by decide +kernel
set_option maxRecDepth 100000 in
theorem dX6_work_17 : decode cX6_work 17 = .ok (.if_icmp .lt 12, 3) := by decide +kernel
set_option maxRecDepth 100000 in
theorem dX6_work_20 : decode cX6_work 20 = .ok (.iload_n 3, 1) := by decide +kernel
set_option maxRecDepth 100000 in
theorem dX6_work_21 : decode cX6_work 21 = .ok (.ifCond .lt 8, 3) := by decide +kernel
set_option maxRecDepth 100000 in
theorem dX6_work_24 : decode cX6_work 24 = .ok (.iload 4, 2) := by decide +kernel
set_option maxRecDepth 100000 in
theorem dX6_work_26 : decode cX6_work 26 = .ok (.ifCond .ge 10, 3) := by decide +kernel
set_option maxRecDepth 100000 in
theorem dX6_work_29 : decode cX6_work 29 = .ok (.aload_n 0, 1) := by decide +kernel
set_option maxRecDepth 100000 in
theorem dX6_work_30 : decode cX6_work 30 = .ok (.bipush (-4), 2) := by decide +kernel
set_option maxRecDepth 100000 in
theorem dX6_work_32 : decode cX6_work 32 = .ok (.invokevirtual 55, 3) := by decide +kernel
set_option maxRecDepth 100000 in
theorem dX6_work_35 : decode cX6_work 35 = .ok (.ireturn, 1) := by decide +kernel
set_option maxRecDepth 100000 in
theorem dX6_work_36 : decode cX6_work 36 = .ok (.iload_n 2, 1) := by decide +kernel
set_option maxRecDepth 100000 in
theorem dX6_work_37 : decode cX6_work 37 = .ok (.bipush 20, 2) := by decide +kernel
set_option maxRecDepth 100000 in
theorem dX6_work_39 : decode cX6_work 39 = .ok (.if_icmp .gt 25, 3) := by decide +kernel
set_option maxRecDepth 100000 in
theorem dX6_work_42 : decode cX6_work 42 = .ok (.iload_n 3, 1) := by decide +kernel
set_option maxRecDepth 100000 in
theorem dX6_work_43 : decode cX6_work 43 = .ok (.ldc 63, 2) := by decide +kernel
set_option maxRecDepth 100000 in
theorem dX6_work_45 : decode cX6_work 45 = .ok (.if_icmp .gt 19, 3) := by decide +kernel
set_option maxRecDepth 100000 in
theorem dX6_work_48 : decode cX6_work 48 = .ok (.iload 4, 2) := by decide +kernel
set_option maxRecDepth 100000 in
theorem dX6_work_50 : decode cX6_work 50 = .ok (.bipush 100, 2) := by decide +kernel
set_option maxRecDepth 100000 in
theorem dX6_work_52 : decode cX6_work 52 = .ok (.if_icmp .gt 12, 3) := by decide +kernel
set_option maxRecDepth 100000 in
theorem dX6_work_55 : decode cX6_work 55 = .ok (.aload_n 0, 1) := by decide +kernel
set_option maxRecDepth 100000 in
theorem dX6_work_56 : decode cX6_work 56 = .ok (.getfield 64, 3) := by decide +kernel
set_option maxRecDepth 100000 in
theorem dX6_work_59 : decode cX6_work 59 = .ok (.bipush 10, 2) := by decide +kernel
set_option maxRecDepth 100000 in
theorem dX6_work_61 : decode cX6_work 61 = .ok (.if_icmp .lt 10, 3) := by decide +kernel
set_option maxRecDepth 100000 in
theorem dX6_work_64 : decode cX6_work 64 = .ok (.aload_n 0, 1) := by decide +kernel
set_option maxRecDepth 100000 in
theorem dX6_work_65 : decode cX6_work 65 = .ok (.bipush (-6), 2) := by decide +kernel
set_option maxRecDepth 100000 in
theorem dX6_work_67 : decode cX6_work 67 = .ok (.invokevirtual 55, 3) := by decide +kernel
set_option maxRecDepth 100000 in
theorem dX6_work_70 : decode cX6_work 70 = .ok (.ireturn, 1) := by decide +kernel
set_option maxRecDepth 100000 in
theorem dX6_work_71 : decode cX6_work 71 = .ok (.aload_n 0, 1) := by decide +kernel
set_option maxRecDepth 100000 in
theorem dX6_work_72 : decode cX6_work 72 = .ok (.dup, 1) := by decide +kernel
set_option maxRecDepth 100000 in
theorem dX6_work_73 : decode cX6_work 73 = .ok (.getfield 64, 3) := by decide +kernel
set_option maxRecDepth 100000 in
theorem dX6_work_76 : decode cX6_work 76 = .ok (.dup_x1, 1) := by decide +kernel
set_option maxRecDepth 100000 in
theorem dX6_work_77 : decode cX6_work 77 = .ok (.iconst 1, 1) := by decide +kernel
set_option maxRecDepth 100000 in
theorem dX6_work_78 : decode cX6_work 78 = .ok (.iadd, 1) := by decide +kernel
set_option maxRecDepth 100000 in
theorem dX6_work_79 : decode cX6_work 79 = .ok (.putfield 64, 3) := by decide +kernel
set_option maxRecDepth 100000 in
theorem dX6_work_82 : decode cX6_work 82 = .ok (.istore 5, 2) := by decide +kernel
set_option maxRecDepth 100000 in
theorem dX6_work_84 : decode cX6_work 84 = .ok (.aload_n 0, 1) := by decide +kernel
set_option maxRecDepth 100000 in
theorem dX6_work_85 : decode cX6_work 85 = .ok (.iload 5, 2) := by decide +kernel
set_option maxRecDepth 100000 in
theorem dX6_work_87 : decode cX6_work 87 = .ok (.invokevirtual 67, 3) := by decide +kernel
set_option maxRecDepth 100000 in
theorem dX6_work_90 : decode cX6_work 90 = .ok (.astore 6, 2) := by decide +kernel
set_option maxRecDepth 100000 in
theorem dX6_work_92 : decode cX6_work 92 = .ok (.aload 6, 2) := by decide +kernel
set_option maxRecDepth 100000 in
theorem dX6_work_94 : decode cX6_work 94 = .ok (.ifnull 28, 3) := by decide +kernel
set_option maxRecDepth 100000 in
theorem dX6_work_97 : decode cX6_work 97 = .ok (.aload 6, 2) := by decide +kernel
set_option maxRecDepth 100000 in
theorem dX6_work_99 : decode cX6_work 99 = .ok (.iload_n 1, 1) := by decide +kernel
set_option maxRecDepth 100000 in
theorem dX6_work_100 : decode cX6_work 100 = .ok (.putfield 71, 3) := by decide +kernel
set_option maxRecDepth 100000 in
theorem dX6_work_103 : decode cX6_work 103 = .ok (.aload 6, 2) := by decide +kernel
set_option maxRecDepth 100000 in
theorem dX6_work_105 : decode cX6_work 105 = .ok (.iload_n 2, 1) := by decide +kernel
set_option maxRecDepth 100000 in
theorem dX6_work_106 : decode cX6_work 106 = .ok (.putfield 74, 3) := by decide +kernel
set_option maxRecDepth 100000 in
theorem dX6_work_109 : decode cX6_work 109 = .ok (.aload 6, 2) := by decide +kernel
set_option maxRecDepth 100000 in
theorem dX6_work_111 : decode cX6_work 111 = .ok (.iload_n 3, 1) := by decide +kernel
set_option maxRecDepth 100000 in
theorem dX6_work_112 : decode cX6_work 112 = .ok (.putfield 77, 3) := by decide +kernel
set_option maxRecDepth 100000 in
theorem dX6_work_115 : decode cX6_work 115 = .ok (.aload 6, 2) := by decide +kernel
set_option maxRecDepth 100000 in
theorem dX6_work_117 : decode cX6_work 117 = .ok (.iload 4, 2) := by decide +kernel
set_option maxRecDepth 100000 in
theorem dX6_work_119 : decode cX6_work 119 = .ok (.putfield 80, 3) := by decide +kernel
set_option maxRecDepth 100000 in
theorem dX6_work_122 : decode cX6_work 122 = .ok (.iload 5, 2) := by decide +kernel
set_option maxRecDepth 100000 in
theorem dX6_work_124 : decode cX6_work 124 = .ok (.ireturn, 1) := by decide +kernel
set_option maxRecDepth 100000 in
theorem dX6_leave_0 : decode cX6_leave 0 = .ok (.aload_n 0, 1) := by decide +kernel
set_option maxRecDepth 100000 in
theorem dX6_leave_1 : decode cX6_leave 1 = .ok (.iload_n 1, 1) := by decide +kernel
set_option maxRecDepth 100000 in
theorem dX6_leave_2 : decode cX6_leave 2 = .ok (.iload_n 2, 1) := by decide +kernel
set_option maxRecDepth 100000 in
theorem dX6_leave_3 : decode cX6_leave 3 = .ok (.invokevirtual 83, 3) := by decide +kernel
set_option maxRecDepth 100000 in
theorem dX6_leave_6 : decode cX6_leave 6 = .ok (.astore 4, 2) := by decide +kernel
set_option maxRecDepth 100000 in
theorem dX6_leave_8 : decode cX6_leave 8 = .ok (.aload 4, 2) := by decide +kernel
set_option maxRecDepth 100000 in
theorem dX6_leave_10 : decode cX6_leave 10 = .ok (.ifnonnull 9, 3) := by decide +kernel
set_option maxRecDepth 100000 in
theorem dX6_leave_13 : decode cX6_leave 13 = .ok (.aload_n 0, 1) := by decide +kernel
set_option maxRecDepth 100000 in
theorem dX6_leave_14 : decode cX6_leave 14 = .ok (.iconst (-1), 1) := by decide +kernel
set_option maxRecDepth 100000 in
theorem dX6_leave_15 : decode cX6_leave 15 = .ok (.invokevirtual 55, 3) := by decide +kernel
set_option maxRecDepth 100000 in
theorem dX6_leave_18 : decode cX6_leave 18 = .ok (.ireturn, 1) := by decide +kernel
set_option maxRecDepth 100000 in
theorem dX6_leave_19 : decode cX6_leave 19 = .ok (.iload_n 3, 1) := by decide +kernel
set_option maxRecDepth 100000 in
theorem dX6_leave_20 : decode cX6_leave 20 = .ok (.ifCond .ge 10, 3) := by decide +kernel
set_option maxRecDepth 100000 in
theorem dX6_leave_23 : decode cX6_leave 23 = .ok (.aload_n 0, 1) := by decide +kernel
set_option maxRecDepth 100000 in
theorem dX6_leave_24 : decode cX6_leave 24 = .ok (.bipush (-4), 2) := by decide +kernel
set_option maxRecDepth 100000 in
theorem dX6_leave_26 : decode cX6_leave 26 = .ok (.invokevirtual 55, 3) := by decide +kernel
set_option maxRecDepth 100000 in
theorem dX6_leave_29 : decode cX6_leave 29 = .ok (.ireturn, 1) := by decide +kernel
set_option maxRecDepth 100000 in
theorem dX6_leave_30 : decode cX6_leave 30 = .ok (.iload_n 3, 1) := by decide +kernel
set_option maxRecDepth 100000 in
theorem dX6_leave_31 : decode cX6_leave 31 = .ok (.sipush 1000, 3) := by decide +kernel
set_option maxRecDepth 100000 in
theorem dX6_leave_34 : decode cX6_leave 34 = .ok (.if_icmp .le 10, 3) := by decide +kernel
set_option maxRecDepth 100000 in
theorem dX6_leave_37 : decode cX6_leave 37 = .ok (.aload_n 0, 1) := by decide +kernel
set_option maxRecDepth 100000 in
theorem dX6_leave_38 : decode cX6_leave 38 = .ok (.bipush (-6), 2) := by decide +kernel
set_option maxRecDepth 100000 in
theorem dX6_leave_40 : decode cX6_leave 40 = .ok (.invokevirtual 55, 3) := by decide +kernel
set_option maxRecDepth 100000 in
theorem dX6_leave_43 : decode cX6_leave 43 = .ok (.ireturn, 1) := by decide +kernel
set_option maxRecDepth 100000 in
theorem dX6_leave_44 : decode cX6_leave 44 = .ok (.aload 4, 2) := by decide +kernel
set_option maxRecDepth 100000 in
theorem dX6_leave_46 : decode cX6_leave 46 = .ok (.getfield 87, 3) := by decide +kernel
set_option maxRecDepth 100000 in
theorem dX6_leave_49 : decode cX6_leave 49 = .ok (.istore 5, 2) := by decide +kernel
set_option maxRecDepth 100000 in
theorem dX6_leave_51 : decode cX6_leave 51 = .ok (.aload 4, 2) := by decide +kernel
set_option maxRecDepth 100000 in
theorem dX6_leave_53 : decode cX6_leave 53 = .ok (.iload_n 3, 1) := by decide +kernel
set_option maxRecDepth 100000 in
theorem dX6_leave_54 : decode cX6_leave 54 = .ok (.putfield 87, 3) := by decide +kernel
set_option maxRecDepth 100000 in
theorem dX6_leave_57 : decode cX6_leave 57 = .ok (.iload 5, 2) := by decide +kernel
set_option maxRecDepth 100000 in
theorem dX6_leave_59 : decode cX6_leave 59 = .ok (.ireturn, 1) := by decide +kernel
set_option maxRecDepth 100000 in
theorem dX6_excuse_0 : decode cX6_excuse 0 = .ok (.aload_n 0, 1) := by decide +kernel
set_option maxRecDepth 100000 in
theorem dX6_excuse_1 : decode cX6_excuse 1 = .ok (.iload_n 1, 1) := by decide +kernel
set_option maxRecDepth 100000 in
theorem dX6_excuse_2 : decode cX6_excuse 2 = .ok (.iload_n 2, 1) := by decide +kernel
set_option maxRecDepth 100000 in
theorem dX6_excuse_3 : decode cX6_excuse 3 = .ok (.invokevirtual 83, 3) := by decide +kernel
set_option maxRecDepth 100000 in
theorem dX6_excuse_6 : decode cX6_excuse 6 = .ok (.astore 4, 2) := by decide +kernel
set_option maxRecDepth 100000 in
theorem dX6_excuse_8 : decode cX6_excuse 8 = .ok (.aload 4, 2) := by decide +kernel
set_option maxRecDepth 100000 in
theorem dX6_excuse_10 : decode cX6_excuse 10 = .ok (.ifnonnull 9, 3) := by decide +kernel
set_option maxRecDepth 100000 in
theorem dX6_excuse_13 : decode cX6_excuse 13 = .ok (.aload_n 0, 1) := by decide +kernel
set_option maxRecDepth 100000 in
theorem dX6_excuse_14 : decode cX6_excuse 14 = .ok (.iconst (-1), 1) := by decide +kernel
set_option maxRecDepth 100000 in
theorem dX6_excuse_15 : decode cX6_excuse 15 = .ok (.invokevirtual 55, 3) := by decide +kernel
set_option maxRecDepth 100000 in
theorem dX6_excuse_18 : decode cX6_excuse 18 = .ok (.ireturn, 1) := by decide +kernel
set_option maxRecDepth 100000 in
theorem dX6_excuse_19 : decode cX6_excuse 19 = .ok (.aload 4, 2) := by decide +kernel
set_option maxRecDepth 100000 in
theorem dX6_excuse_21 : decode cX6_excuse 21 = .ok (.getfield 90, 3) := by decide +kernel
set_option maxRecDepth 100000 in
theorem dX6_excuse_24 : decode cX6_excuse 24 = .ok (.iload_n 3, 1) := by decide +kernel
set_option maxRecDepth 100000 in
theorem dX6_excuse_25 : decode cX6_excuse 25 = .ok (.if_icmp .ne 5, 3) := by decide +kernel
set_option maxRecDepth 100000 in
theorem dX6_excuse_28 : decode cX6_excuse 28 = .ok (.iconst 0, 1) := by decide +kernel
set_option maxRecDepth 100000 in
theorem dX6_excuse_29 : decode cX6_excuse 29 = .ok (.ireturn, 1) := by decide +kernel
set_option maxRecDepth 100000 in
theorem dX6_excuse_30 : decode cX6_excuse 30 = .ok (.aload 4, 2) := by decide +kernel
set_option maxRecDepth 100000 in
theorem dX6_excuse_32 : decode cX6_excuse 32 = .ok (.iload_n 3, 1) := by decide +kernel
set_option maxRecDepth 100000 in
theorem dX6_excuse_33 : decode cX6_excuse 33 = .ok (.putfield 90, 3) := by decide +kernel
set_option maxRecDepth 100000 in
theorem dX6_excuse_36 : decode cX6_excuse 36 = .ok (.iconst 1, 1) := by decide +kernel
set_option maxRecDepth 100000 in
theorem dX6_excuse_37 : decode cX6_excuse 37 = .ok (.ireturn, 1) := by decide +kernel
set_option maxRecDepth 100000 in
theorem dX6_tick_0 : decode cX6_tick 0 = .ok (.iload_n 1, 1) := by decide +kernel
set_option maxRecDepth 100000 in
theorem dX6_tick_1 : decode cX6_tick 1 = .ok (.iconst 1, 1) := by decide +kernel
set_option maxRecDepth 100000 in
theorem dX6_tick_2 : decode cX6_tick 2 = .ok (.if_icmp .ge 10, 3) := by decide +kernel
set_option maxRecDepth 100000 in
theorem dX6_tick_5 : decode cX6_tick 5 = .ok (.aload_n 0, 1) := by decide +kernel
set_option maxRecDepth 100000 in
theorem dX6_tick_6 : decode cX6_tick 6 = .ok (.bipush (-4), 2) := by decide +kernel
set_option maxRecDepth 100000 in
theorem dX6_tick_8 : decode cX6_tick 8 = .ok (.invokevirtual 55, 3) := by decide +kernel
set_option maxRecDepth 100000 in
theorem dX6_tick_11 : decode cX6_tick 11 = .ok (.ireturn, 1) := by decide +kernel
set_option maxRecDepth 100000 in
theorem dX6_tick_12 : decode cX6_tick 12 = .ok (.iload_n 1, 1) := by decide +kernel
set_option maxRecDepth 100000 in
theorem dX6_tick_13 : decode cX6_tick 13 = .ok (.ldc 63, 2) := by decide +kernel
set_option maxRecDepth 100000 in
theorem dX6_tick_15 : decode cX6_tick 15 = .ok (.aload_n 0, 1) := by decide +kernel
set_option maxRecDepth 100000 in
theorem dX6_tick_16 : decode cX6_tick 16 = .ok (.getfield 94, 3) := by decide +kernel
set_option maxRecDepth 100000 in
theorem dX6_tick_19 : decode cX6_tick 19 = .ok (.isub, 1) := by decide +kernel
set_option maxRecDepth 100000 in
theorem dX6_tick_20 : decode cX6_tick 20 = .ok (.if_icmp .le 10, 3) := by decide +kernel
set_option maxRecDepth 100000 in
theorem dX6_tick_23 : decode cX6_tick 23 = .ok (.aload_n 0, 1) := by decide +kernel
set_option maxRecDepth 100000 in
theorem dX6_tick_24 : decode cX6_tick 24 = .ok (.bipush (-6), 2) := by decide +kernel
set_option maxRecDepth 100000 in
theorem dX6_tick_26 : decode cX6_tick 26 = .ok (.invokevirtual 55, 3) := by decide +kernel
set_option maxRecDepth 100000 in
theorem dX6_tick_29 : decode cX6_tick 29 = .ok (.ireturn, 1) := by decide +kernel
set_option maxRecDepth 100000 in
theorem dX6_tick_30 : decode cX6_tick 30 = .ok (.aload_n 0, 1) := by decide +kernel
set_option maxRecDepth 100000 in
theorem dX6_tick_31 : decode cX6_tick 31 = .ok (.dup, 1) := by decide +kernel
set_option maxRecDepth 100000 in
theorem dX6_tick_32 : decode cX6_tick 32 = .ok (.getfield 94, 3) := by decide +kernel
set_option maxRecDepth 100000 in
theorem dX6_tick_35 : decode cX6_tick 35 = .ok (.iload_n 1, 1) := by decide +kernel
set_option maxRecDepth 100000 in
theorem dX6_tick_36 : decode cX6_tick 36 = .ok (.iadd, 1) := by decide +kernel
set_option maxRecDepth 100000 in
theorem dX6_tick_37 : decode cX6_tick 37 = .ok (.putfield 94, 3) := by decide +kernel
set_option maxRecDepth 100000 in
theorem dX6_tick_40 : decode cX6_tick 40 = .ok (.aload_n 0, 1) := by decide +kernel
set_option maxRecDepth 100000 in
theorem dX6_tick_41 : decode cX6_tick 41 = .ok (.getfield 94, 3) := by decide +kernel
set_option maxRecDepth 100000 in
theorem dX6_tick_44 : decode cX6_tick 44 = .ok (.ireturn, 1) := by decide +kernel
set_option maxRecDepth 100000 in
theorem dX6_text_0 : decode cX6_text 0 = .ok (.aload_n 0, 1) := by decide +kernel
set_option maxRecDepth 100000 in
theorem dX6_text_1 : decode cX6_text 1 = .ok (.getfield 28, 3) := by decide +kernel
set_option maxRecDepth 100000 in
theorem dX6_text_4 : decode cX6_text 4 = .ok (.getfield 97, 3) := by decide +kernel
set_option maxRecDepth 100000 in
theorem dX6_text_7 : decode cX6_text 7 = .ok (.sipush 580, 3) := by decide +kernel
set_option maxRecDepth 100000 in
theorem dX6_text_10 : decode cX6_text 10 = .ok (.if_icmp .le 10, 3) := by decide +kernel
set_option maxRecDepth 100000 in
theorem dX6_text_13 : decode cX6_text 13 = .ok (.aload_n 0, 1) := by decide +kernel
set_option maxRecDepth 100000 in
theorem dX6_text_14 : decode cX6_text 14 = .ok (.bipush (-6), 2) := by decide +kernel
set_option maxRecDepth 100000 in
theorem dX6_text_16 : decode cX6_text 16 = .ok (.invokevirtual 55, 3) := by decide +kernel
set_option maxRecDepth 100000 in
theorem dX6_text_19 : decode cX6_text 19 = .ok (.ireturn, 1) := by decide +kernel
set_option maxRecDepth 100000 in
theorem dX6_text_20 : decode cX6_text 20 = .ok (.aload_n 0, 1) := by decide +kernel
set_option maxRecDepth 100000 in
theorem dX6_text_21 : decode cX6_text 21 = .ok (.getfield 28, 3) := by decide +kernel
set_option maxRecDepth 100000 in
theorem dX6_text_24 : decode cX6_text 24 = .ok (.iload_n 1, 1) := by decide +kernel
set_option maxRecDepth 100000 in
theorem dX6_text_25 : decode cX6_text 25 = .ok (.invokevirtual 100, 3) := by decide +kernel
set_option maxRecDepth 100000 in
theorem dX6_text_28 : decode cX6_text 28 = .ok (.aload_n 0, 1) := by decide +kernel
set_option maxRecDepth 100000 in
theorem dX6_text_29 : decode cX6_text 29 = .ok (.getfield 28, 3) := by decide +kernel
set_option maxRecDepth 100000 in
theorem dX6_text_32 : decode cX6_text 32 = .ok (.iload_n 2, 1) := by decide +kernel
set_option maxRecDepth 100000 in
theorem dX6_text_33 : decode cX6_text 33 = .ok (.invokevirtual 100, 3) := by decide +kernel
set_option maxRecDepth 100000 in
theorem dX6_text_36 : decode cX6_text 36 = .ok (.aload_n 0, 1) := by decide +kernel
set_option maxRecDepth 100000 in
theorem dX6_text_37 : decode cX6_text 37 = .ok (.getfield 28, 3) := by decide +kernel
set_option maxRecDepth 100000 in
theorem dX6_text_40 : decode cX6_text 40 = .ok (.iload_n 3, 1) := by decide +kernel
set_option maxRecDepth 100000 in
theorem dX6_text_41 : decode cX6_text 41 = .ok (.invokevirtual 100, 3) := by decide +kernel
set_option maxRecDepth 100000 in
theorem dX6_text_44 : decode cX6_text 44 = .ok (.aload_n 0, 1) := by decide +kernel
set_option maxRecDepth 100000 in
theorem dX6_text_45 : decode cX6_text 45 = .ok (.getfield 28, 3) := by decide +kernel
set_option maxRecDepth 100000 in
theorem dX6_text_48 : decode cX6_text 48 = .ok (.iload 4, 2) := by decide +kernel
set_option maxRecDepth 100000 in
theorem dX6_text_50 : decode cX6_text 50 = .ok (.invokevirtual 100, 3) := by decide +kernel
set_option maxRecDepth 100000 in
theorem dX6_text_53 : decode cX6_text 53 = .ok (.aload_n 0, 1) := by decide +kernel
set_option maxRecDepth 100000 in
theorem dX6_text_54 : decode cX6_text 54 = .ok (.getfield 28, 3) := by decide +kernel
set_option maxRecDepth 100000 in
theorem dX6_text_57 : decode cX6_text 57 = .ok (.iload 5, 2) := by decide +kernel
set_option maxRecDepth 100000 in
theorem dX6_text_59 : decode cX6_text 59 = .ok (.invokevirtual 100, 3) := by decide +kernel
set_option maxRecDepth 100000 in
theorem dX6_text_62 : decode cX6_text 62 = .ok (.aload_n 0, 1) := by decide +kernel
set_option maxRecDepth 100000 in
theorem dX6_text_63 : decode cX6_text 63 = .ok (.getfield 28, 3) := by decide +kernel
set_option maxRecDepth 100000 in
theorem dX6_text_66 : decode cX6_text 66 = .ok (.getfield 97, 3) := by decide +kernel
set_option maxRecDepth 100000 in
theorem dX6_text_69 : decode cX6_text 69 = .ok (.ireturn, 1) := by decide +kernel
set_option maxRecDepth 100000 in
theorem dX6_rules_0 : decode cX6_rules 0 = .ok (.iload_n 1, 1) := by decide +kernel
set_option maxRecDepth 100000 in
theorem dX6_rules_1 : decode cX6_rules 1 = .ok (.ifCond .ge 10, 3) := by decide +kernel
set_option maxRecDepth 100000 in
theorem dX6_rules_4 : decode cX6_rules 4 = .ok (.aload_n 0, 1) := by decide +kernel
set_option maxRecDepth 100000 in
theorem dX6_rules_5 : decode cX6_rules 5 = .ok (.bipush (-4), 2) := by decide +kernel
set_option maxRecDepth 100000 in
theorem dX6_rules_7 : decode cX6_rules 7 = .ok (.invokevirtual 55, 3) := by decide +kernel
set_option maxRecDepth 100000 in
theorem dX6_rules_10 : decode cX6_rules 10 = .ok (.ireturn, 1) := by decide +kernel
set_option maxRecDepth 100000 in
theorem dX6_rules_11 : decode cX6_rules 11 = .ok (.iload_n 1, 1) := by decide +kernel
set_option maxRecDepth 100000 in
theorem dX6_rules_12 : decode cX6_rules 12 = .ok (.aload_n 0, 1) := by decide +kernel
set_option maxRecDepth 100000 in
theorem dX6_rules_13 : decode cX6_rules 13 = .ok (.getfield 28, 3) := by decide +kernel
set_option maxRecDepth 100000 in
theorem dX6_rules_16 : decode cX6_rules 16 = .ok (.getfield 97, 3) := by decide +kernel
set_option maxRecDepth 100000 in
theorem dX6_rules_19 : decode cX6_rules 19 = .ok (.if_icmp .le 10, 3) := by decide +kernel
set_option maxRecDepth 100000 in
theorem dX6_rules_22 : decode cX6_rules 22 = .ok (.aload_n 0, 1) := by decide +kernel
set_option maxRecDepth 100000 in
theorem dX6_rules_23 : decode cX6_rules 23 = .ok (.bipush (-6), 2) := by decide +kernel
set_option maxRecDepth 100000 in
theorem dX6_rules_25 : decode cX6_rules 25 = .ok (.invokevirtual 55, 3) := by decide +kernel
set_option maxRecDepth 100000 in
theorem dX6_rules_28 : decode cX6_rules 28 = .ok (.ireturn, 1) := by decide +kernel
set_option maxRecDepth 100000 in
theorem dX6_rules_29 : decode cX6_rules 29 = .ok (.aload_n 0, 1) := by decide +kernel
set_option maxRecDepth 100000 in
theorem dX6_rules_30 : decode cX6_rules 30 = .ok (.getfield 28, 3) := by decide +kernel
set_option maxRecDepth 100000 in
theorem dX6_rules_33 : decode cX6_rules 33 = .ok (.iload_n 1, 1) := by decide +kernel
set_option maxRecDepth 100000 in
theorem dX6_rules_34 : decode cX6_rules 34 = .ok (.invokevirtual 104, 3) := by decide +kernel
set_option maxRecDepth 100000 in
theorem dX6_rules_37 : decode cX6_rules 37 = .ok (.istore_n 3, 1) := by decide +kernel
set_option maxRecDepth 100000 in
theorem dX6_rules_38 : decode cX6_rules 38 = .ok (.aload_n 0, 1) := by decide +kernel
set_option maxRecDepth 100000 in
theorem dX6_rules_39 : decode cX6_rules 39 = .ok (.getfield 28, 3) := by decide +kernel
set_option maxRecDepth 100000 in
theorem dX6_rules_42 : decode cX6_rules 42 = .ok (.iconst 0, 1) := by decide +kernel
set_option maxRecDepth 100000 in
theorem dX6_rules_43 : decode cX6_rules 43 = .ok (.putfield 97, 3) := by decide +kernel
set_option maxRecDepth 100000 in
theorem dX6_rules_46 : decode cX6_rules 46 = .ok (.aload_n 0, 1) := by decide +kernel
set_option maxRecDepth 100000 in
theorem dX6_rules_47 : decode cX6_rules 47 = .ok (.getfield 28, 3) := by decide +kernel
set_option maxRecDepth 100000 in
theorem dX6_rules_50 : decode cX6_rules 50 = .ok (.getfield 107, 3) := by decide +kernel
set_option maxRecDepth 100000 in
theorem dX6_rules_53 : decode cX6_rules 53 = .ok (.astore 4, 2) := by decide +kernel
set_option maxRecDepth 100000 in
theorem dX6_rules_55 : decode cX6_rules 55 = .ok (.iload_n 3, 1) := by decide +kernel
set_option maxRecDepth 100000 in
theorem dX6_rules_56 : decode cX6_rules 56 = .ok (.ifCond .lt 13, 3) := by decide +kernel
set_option maxRecDepth 100000 in
theorem dX6_rules_59 : decode cX6_rules 59 = .ok (.aload_n 0, 1) := by decide +kernel
set_option maxRecDepth 100000 in
theorem dX6_rules_60 : decode cX6_rules 60 = .ok (.sipush (-1000), 3) := by decide +kernel
set_option maxRecDepth 100000 in
theorem dX6_rules_63 : decode cX6_rules 63 = .ok (.iload_n 3, 1) := by decide +kernel
set_option maxRecDepth 100000 in
theorem dX6_rules_64 : decode cX6_rules 64 = .ok (.isub, 1) := by decide +kernel
set_option maxRecDepth 100000 in
theorem dX6_rules_65 : decode cX6_rules 65 = .ok (.invokevirtual 108, 3) := by decide +kernel
set_option maxRecDepth 100000 in
theorem dX6_rules_68 : decode cX6_rules 68 = .ok (.ireturn, 1) := by decide +kernel
set_option maxRecDepth 100000 in
theorem dX6_rules_69 : decode cX6_rules 69 = .ok (.aload 4, 2) := by decide +kernel
set_option maxRecDepth 100000 in
theorem dX6_rules_71 : decode cX6_rules 71 = .ok (.aload_n 0, 1) := by decide +kernel
set_option maxRecDepth 100000 in
theorem dX6_rules_72 : decode cX6_rules 72 = .ok (.getfield 64, 3) := by decide +kernel
set_option maxRecDepth 100000 in
theorem dX6_rules_75 : decode cX6_rules 75 = .ok (.invokevirtual 111, 3) := by decide +kernel
set_option maxRecDepth 100000 in
theorem dX6_rules_78 : decode cX6_rules 78 = .ok (.istore 5, 2) := by decide +kernel
set_option maxRecDepth 100000 in
theorem dX6_rules_80 : decode cX6_rules 80 = .ok (.iload 5, 2) := by decide +kernel
set_option maxRecDepth 100000 in
theorem dX6_rules_82 : decode cX6_rules 82 = .ok (.ifCond .lt 14, 3) := by decide +kernel
set_option maxRecDepth 100000 in
theorem dX6_rules_85 : decode cX6_rules 85 = .ok (.aload_n 0, 1) := by decide +kernel
set_option maxRecDepth 100000 in
theorem dX6_rules_86 : decode cX6_rules 86 = .ok (.sipush (-2000), 3) := by decide +kernel
set_option maxRecDepth 100000 in
theorem dX6_rules_89 : decode cX6_rules 89 = .ok (.iload 5, 2) := by decide +kernel
set_option maxRecDepth 100000 in
theorem dX6_rules_91 : decode cX6_rules 91 = .ok (.isub, 1) := by decide +kernel
set_option maxRecDepth 100000 in
theorem dX6_rules_92 : decode cX6_rules 92 = .ok (.invokevirtual 108, 3) := by decide +kernel
set_option maxRecDepth 100000 in
theorem dX6_rules_95 : decode cX6_rules 95 = .ok (.ireturn, 1) := by decide +kernel
set_option maxRecDepth 100000 in
theorem dX6_rules_96 : decode cX6_rules 96 = .ok (.aload 4, 2) := by decide +kernel
set_option maxRecDepth 100000 in
theorem dX6_rules_98 : decode cX6_rules 98 = .ok (.invokevirtual 114, 3) := by decide +kernel
set_option maxRecDepth 100000 in
theorem dX6_rules_101 : decode cX6_rules 101 = .ok (.istore 6, 2) := by decide +kernel
set_option maxRecDepth 100000 in
theorem dX6_rules_103 : decode cX6_rules 103 = .ok (.iload 6, 2) := by decide +kernel
set_option maxRecDepth 100000 in
theorem dX6_rules_105 : decode cX6_rules 105 = .ok (.ifCond .lt 14, 3) := by decide +kernel
set_option maxRecDepth 100000 in
theorem dX6_rules_108 : decode cX6_rules 108 = .ok (.aload_n 0, 1) := by decide +kernel
set_option maxRecDepth 100000 in
theorem dX6_rules_109 : decode cX6_rules 109 = .ok (.sipush (-3000), 3) := by decide +kernel
set_option maxRecDepth 100000 in
theorem dX6_rules_112 : decode cX6_rules 112 = .ok (.iload 6, 2) := by decide +kernel
set_option maxRecDepth 100000 in
theorem dX6_rules_114 : decode cX6_rules 114 = .ok (.isub, 1) := by decide +kernel
set_option maxRecDepth 100000 in
theorem dX6_rules_115 : decode cX6_rules 115 = .ok (.invokevirtual 108, 3) := by decide +kernel
set_option maxRecDepth 100000 in
theorem dX6_rules_118 : decode cX6_rules 118 = .ok (.ireturn, 1) := by decide +kernel
set_option maxRecDepth 100000 in
theorem dX6_rules_119 : decode cX6_rules 119 = .ok (.aload_n 0, 1) := by decide +kernel
set_option maxRecDepth 100000 in
theorem dX6_rules_120 : decode cX6_rules 120 = .ok (.aload 4, 2) := by decide +kernel
set_option maxRecDepth 100000 in
theorem dX6_rules_122 : decode cX6_rules 122 = .ok (.invokevirtual 118, 3) := by decide +kernel
set_option maxRecDepth 100000 in
theorem dX6_rules_125 : decode cX6_rules 125 = .ok (.ifCond .eq 10, 3) := by decide +kernel
set_option maxRecDepth 100000 in
theorem dX6_rules_128 : decode cX6_rules 128 = .ok (.aload_n 0, 1) := by decide +kernel
set_option maxRecDepth 100000 in
theorem dX6_rules_129 : decode cX6_rules 129 = .ok (.bipush (-5), 2) := by decide +kernel
set_option maxRecDepth 100000 in
theorem dX6_rules_131 : decode cX6_rules 131 = .ok (.invokevirtual 55, 3) := by decide +kernel
set_option maxRecDepth 100000 in
theorem dX6_rules_134 : decode cX6_rules 134 = .ok (.ireturn, 1) := by decide +kernel
set_option maxRecDepth 100000 in
theorem dX6_rules_135 : decode cX6_rules 135 = .ok (.aload_n 0, 1) := by decide +kernel
set_option maxRecDepth 100000 in
theorem dX6_rules_136 : decode cX6_rules 136 = .ok (.aload 4, 2) := by decide +kernel
set_option maxRecDepth 100000 in
theorem dX6_rules_138 : decode cX6_rules 138 = .ok (.getfield 122, 3) := by decide +kernel
set_option maxRecDepth 100000 in
theorem dX6_rules_141 : decode cX6_rules 141 = .ok (.invokevirtual 125, 3) := by decide +kernel
set_option maxRecDepth 100000 in
theorem dX6_rules_144 : decode cX6_rules 144 = .ok (.ifCond .eq 10, 3) := by decide +kernel
set_option maxRecDepth 100000 in
theorem dX6_rules_147 : decode cX6_rules 147 = .ok (.aload_n 0, 1) := by decide +kernel
set_option maxRecDepth 100000 in
theorem dX6_rules_148 : decode cX6_rules 148 = .ok (.bipush (-3), 2) := by decide +kernel
set_option maxRecDepth 100000 in
theorem dX6_rules_150 : decode cX6_rules 150 = .ok (.invokevirtual 55, 3) := by decide +kernel
set_option maxRecDepth 100000 in
theorem dX6_rules_153 : decode cX6_rules 153 = .ok (.ireturn, 1) := by decide +kernel
set_option maxRecDepth 100000 in
theorem dX6_rules_154 : decode cX6_rules 154 = .ok (.aload 4, 2) := by decide +kernel
set_option maxRecDepth 100000 in
theorem dX6_rules_156 : decode cX6_rules 156 = .ok (.invokevirtual 128, 3) := by decide +kernel
set_option maxRecDepth 100000 in
theorem dX6_rules_159 : decode cX6_rules 159 = .ok (.iload_n 2, 1) := by decide +kernel
set_option maxRecDepth 100000 in
theorem dX6_rules_160 : decode cX6_rules 160 = .ok (.ifCond .eq 19, 3) := by decide +kernel
set_option maxRecDepth 100000 in
theorem dX6_rules_163 : decode cX6_rules 163 = .ok (.aload_n 0, 1) := by decide +kernel
set_option maxRecDepth 100000 in
theorem dX6_rules_164 : decode cX6_rules 164 = .ok (.aload 4, 2) := by decide +kernel
set_option maxRecDepth 100000 in
theorem dX6_rules_166 : decode cX6_rules 166 = .ok (.invokevirtual 131, 3) := by decide +kernel
set_option maxRecDepth 100000 in
theorem dX6_rules_169 : decode cX6_rules 169 = .ok (.ifCond .eq 10, 3) := by decide +kernel
set_option maxRecDepth 100000 in
theorem dX6_rules_172 : decode cX6_rules 172 = .ok (.aload_n 0, 1) := by decide +kernel
set_option maxRecDepth 100000 in
theorem dX6_rules_173 : decode cX6_rules 173 = .ok (.bipush (-7), 2) := by decide +kernel
set_option maxRecDepth 100000 in
theorem dX6_rules_175 : decode cX6_rules 175 = .ok (.invokevirtual 55, 3) := by decide +kernel
set_option maxRecDepth 100000 in
theorem dX6_rules_178 : decode cX6_rules 178 = .ok (.ireturn, 1) := by decide +kernel
set_option maxRecDepth 100000 in
theorem dX6_rules_179 : decode cX6_rules 179 = .ok (.aload_n 0, 1) := by decide +kernel
set_option maxRecDepth 100000 in
theorem dX6_rules_180 : decode cX6_rules 180 = .ok (.getfield 28, 3) := by decide +kernel
set_option maxRecDepth 100000 in
theorem dX6_rules_183 : decode cX6_rules 183 = .ok (.aload_n 0, 1) := by decide +kernel
set_option maxRecDepth 100000 in
theorem dX6_rules_184 : decode cX6_rules 184 = .ok (.getfield 42, 3) := by decide +kernel
set_option maxRecDepth 100000 in
theorem dX6_rules_187 : decode cX6_rules 187 = .ok (.putfield 107, 3) := by decide +kernel
set_option maxRecDepth 100000 in
theorem dX6_rules_190 : decode cX6_rules 190 = .ok (.aload_n 0, 1) := by decide +kernel
set_option maxRecDepth 100000 in
theorem dX6_rules_191 : decode cX6_rules 191 = .ok (.aload 4, 2) := by decide +kernel
set_option maxRecDepth 100000 in
theorem dX6_rules_193 : decode cX6_rules 193 = .ok (.putfield 42, 3) := by decide +kernel
set_option maxRecDepth 100000 in
theorem dX6_rules_196 : decode cX6_rules 196 = .ok (.aload_n 0, 1) := by decide +kernel
set_option maxRecDepth 100000 in
theorem dX6_rules_197 : decode cX6_rules 197 = .ok (.getfield 42, 3) := by decide +kernel
set_option maxRecDepth 100000 in
theorem dX6_rules_200 : decode cX6_rules 200 = .ok (.getfield 122, 3) := by decide +kernel
set_option maxRecDepth 100000 in
theorem dX6_rules_203 : decode cX6_rules 203 = .ok (.ireturn, 1) := by decide +kernel
set_option maxRecDepth 100000 in
theorem dX6_name_0 : decode cX6_name 0 = .ok (.aload_n 0, 1) := by decide +kernel
set_option maxRecDepth 100000 in
theorem dX6_name_1 : decode cX6_name 1 = .ok (.iload_n 1, 1) := by decide +kernel
set_option maxRecDepth 100000 in
theorem dX6_name_2 : decode cX6_name 2 = .ok (.invokevirtual 134, 3) := by decide +kernel
set_option maxRecDepth 100000 in
theorem dX6_name_5 : decode cX6_name 5 = .ok (.ifCond .ne 9, 3) := by decide +kernel
set_option maxRecDepth 100000 in
theorem dX6_name_8 : decode cX6_name 8 = .ok (.aload_n 0, 1) := by decide +kernel
set_option maxRecDepth 100000 in
theorem dX6_name_9 : decode cX6_name 9 = .ok (.iconst (-1), 1) := by decide +kernel
set_option maxRecDepth 100000 in
theorem dX6_name_10 : decode cX6_name 10 = .ok (.invokevirtual 55, 3) := by decide +kernel
set_option maxRecDepth 100000 in
theorem dX6_name_13 : decode cX6_name 13 = .ok (.ireturn, 1) := by decide +kernel
set_option maxRecDepth 100000 in
theorem dX6_name_14 : decode cX6_name 14 = .ok (.aload_n 0, 1) := by decide +kernel
set_option maxRecDepth 100000 in
theorem dX6_name_15 : decode cX6_name 15 = .ok (.getfield 42, 3) := by decide +kernel
set_option maxRecDepth 100000 in
theorem dX6_name_18 : decode cX6_name 18 = .ok (.getfield 137, 3) := by decide +kernel
set_option maxRecDepth 100000 in
theorem dX6_name_21 : decode cX6_name 21 = .ok (.iload_n 1, 1) := by decide +kernel
set_option maxRecDepth 100000 in
theorem dX6_name_22 : decode cX6_name 22 = .ok (.iaload, 1) := by decide +kernel
set_option maxRecDepth 100000 in
theorem dX6_name_23 : decode cX6_name 23 = .ok (.ireturn, 1) := by decide +kernel
set_option maxRecDepth 100000 in
theorem dX6_hangs_0 : decode cX6_hangs 0 = .ok (.aload_n 0, 1) := by decide +kernel
set_option maxRecDepth 100000 in
theorem dX6_hangs_1 : decode cX6_hangs 1 = .ok (.iload_n 1, 1) := by decide +kernel
set_option maxRecDepth 100000 in
theorem dX6_hangs_2 : decode cX6_hangs 2 = .ok (.invokevirtual 134, 3) := by decide +kernel
set_option maxRecDepth 100000 in
theorem dX6_hangs_5 : decode cX6_hangs 5 = .ok (.ifCond .eq 11, 3) := by decide +kernel
set_option maxRecDepth 100000 in
theorem dX6_hangs_8 : decode cX6_hangs 8 = .ok (.aload_n 0, 1) := by decide +kernel
set_option maxRecDepth 100000 in
theorem dX6_hangs_9 : decode cX6_hangs 9 = .ok (.iload_n 2, 1) := by decide +kernel
set_option maxRecDepth 100000 in
theorem dX6_hangs_10 : decode cX6_hangs 10 = .ok (.invokevirtual 67, 3) := by decide +kernel
set_option maxRecDepth 100000 in
theorem dX6_hangs_13 : decode cX6_hangs 13 = .ok (.ifnonnull 9, 3) := by decide +kernel
set_option maxRecDepth 100000 in
theorem dX6_hangs_16 : decode cX6_hangs 16 = .ok (.aload_n 0, 1) := by decide +kernel
set_option maxRecDepth 100000 in
theorem dX6_hangs_17 : decode cX6_hangs 17 = .ok (.iconst (-1), 1) := by decide +kernel
set_option maxRecDepth 100000 in
theorem dX6_hangs_18 : decode cX6_hangs 18 = .ok (.invokevirtual 55, 3) := by decide +kernel
set_option maxRecDepth 100000 in
theorem dX6_hangs_21 : decode cX6_hangs 21 = .ok (.ireturn, 1) := by decide +kernel
set_option maxRecDepth 100000 in
theorem dX6_hangs_22 : decode cX6_hangs 22 = .ok (.aload_n 0, 1) := by decide +kernel
set_option maxRecDepth 100000 in
theorem dX6_hangs_23 : decode cX6_hangs 23 = .ok (.aload_n 0, 1) := by decide +kernel
set_option maxRecDepth 100000 in
theorem dX6_hangs_24 : decode cX6_hangs 24 = .ok (.getfield 42, 3) := by decide +kernel
set_option maxRecDepth 100000 in
theorem dX6_hangs_27 : decode cX6_hangs 27 = .ok (.iload_n 1, 1) := by decide +kernel
set_option maxRecDepth 100000 in
theorem dX6_hangs_28 : decode cX6_hangs 28 = .ok (.invokevirtual 140, 3) := by decide +kernel
set_option maxRecDepth 100000 in
theorem dX6_hangs_31 : decode cX6_hangs 31 = .ok (.iload_n 2, 1) := by decide +kernel
set_option maxRecDepth 100000 in
theorem dX6_hangs_32 : decode cX6_hangs 32 = .ok (.invokestatic 144, 3) := by decide +kernel
set_option maxRecDepth 100000 in
theorem dX6_hangs_35 : decode cX6_hangs 35 = .ok (.ireturn, 1) := by decide +kernel
set_option maxRecDepth 100000 in
theorem dX6_need_0 : decode cX6_need 0 = .ok (.aload_n 0, 1) := by decide +kernel
set_option maxRecDepth 100000 in
theorem dX6_need_1 : decode cX6_need 1 = .ok (.iload_n 1, 1) := by decide +kernel
set_option maxRecDepth 100000 in
theorem dX6_need_2 : decode cX6_need 2 = .ok (.invokevirtual 67, 3) := by decide +kernel
set_option maxRecDepth 100000 in
theorem dX6_need_5 : decode cX6_need 5 = .ok (.astore 4, 2) := by decide +kernel
set_option maxRecDepth 100000 in
theorem dX6_need_7 : decode cX6_need 7 = .ok (.aload 4, 2) := by decide +kernel
set_option maxRecDepth 100000 in
theorem dX6_need_9 : decode cX6_need 9 = .ok (.ifnull 16, 3) := by decide +kernel
set_option maxRecDepth 100000 in
theorem dX6_need_12 : decode cX6_need 12 = .ok (.iload_n 2, 1) := by decide +kernel
set_option maxRecDepth 100000 in
theorem dX6_need_13 : decode cX6_need 13 = .ok (.iconst (-1), 1) := by decide +kernel
set_option maxRecDepth 100000 in
theorem dX6_need_14 : decode cX6_need 14 = .ok (.if_icmp .eq 17, 3) := by decide +kernel
set_option maxRecDepth 100000 in
theorem dX6_need_17 : decode cX6_need 17 = .ok (.aload_n 0, 1) := by decide +kernel
set_option maxRecDepth 100000 in
theorem dX6_need_18 : decode cX6_need 18 = .ok (.iload_n 2, 1) := by decide +kernel
set_option maxRecDepth 100000 in
theorem dX6_need_19 : decode cX6_need 19 = .ok (.invokevirtual 134, 3) := by decide +kernel
set_option maxRecDepth 100000 in
theorem dX6_need_22 : decode cX6_need 22 = .ok (.ifCond .ne 9, 3) := by decide +kernel
set_option maxRecDepth 100000 in
theorem dX6_need_25 : decode cX6_need 25 = .ok (.aload_n 0, 1) := by decide +kernel
set_option maxRecDepth 100000 in
theorem dX6_need_26 : decode cX6_need 26 = .ok (.iconst (-1), 1) := by decide +kernel
set_option maxRecDepth 100000 in
theorem dX6_need_27 : decode cX6_need 27 = .ok (.invokevirtual 55, 3) := by decide +kernel
set_option maxRecDepth 100000 in
theorem dX6_need_30 : decode cX6_need 30 = .ok (.ireturn, 1) := by decide +kernel
set_option maxRecDepth 100000 in
theorem dX6_need_31 : decode cX6_need 31 = .ok (.iload_n 3, 1) := by decide +kernel
set_option maxRecDepth 100000 in
theorem dX6_need_32 : decode cX6_need 32 = .ok (.ifCond .ge 10, 3) := by decide +kernel
set_option maxRecDepth 100000 in
theorem dX6_need_35 : decode cX6_need 35 = .ok (.aload_n 0, 1) := by decide +kernel
set_option maxRecDepth 100000 in
theorem dX6_need_36 : decode cX6_need 36 = .ok (.bipush (-4), 2) := by decide +kernel
set_option maxRecDepth 100000 in
theorem dX6_need_38 : decode cX6_need 38 = .ok (.invokevirtual 55, 3) := by decide +kernel
set_option maxRecDepth 100000 in
theorem dX6_need_41 : decode cX6_need 41 = .ok (.ireturn, 1) := by decide +kernel
set_option maxRecDepth 100000 in
theorem dX6_need_42 : decode cX6_need 42 = .ok (.iload_n 3, 1) := by decide +kernel
set_option maxRecDepth 100000 in
theorem dX6_need_43 : decode cX6_need 43 = .ok (.sipush 9999, 3) := by decide +kernel
set_option maxRecDepth 100000 in
theorem dX6_need_46 : decode cX6_need 46 = .ok (.if_icmp .le 10, 3) := by decide +kernel
set_option maxRecDepth 100000 in
theorem dX6_need_49 : decode cX6_need 49 = .ok (.aload_n 0, 1) := by decide +kernel
set_option maxRecDepth 100000 in
theorem dX6_need_50 : decode cX6_need 50 = .ok (.bipush (-6), 2) := by decide +kernel
set_option maxRecDepth 100000 in
theorem dX6_need_52 : decode cX6_need 52 = .ok (.invokevirtual 55, 3) := by decide +kernel
set_option maxRecDepth 100000 in
theorem dX6_need_55 : decode cX6_need 55 = .ok (.ireturn, 1) := by decide +kernel
set_option maxRecDepth 100000 in
theorem dX6_need_56 : decode cX6_need 56 = .ok (.iload_n 2, 1) := by decide +kernel
set_option maxRecDepth 100000 in
theorem dX6_need_57 : decode cX6_need 57 = .ok (.iconst (-1), 1) := by decide +kernel
set_option maxRecDepth 100000 in
theorem dX6_need_58 : decode cX6_need 58 = .ok (.if_icmp .eq 27, 3) := by decide +kernel
set_option maxRecDepth 100000 in
theorem dX6_need_61 : decode cX6_need 61 = .ok (.aload_n 0, 1) := by decide +kernel
set_option maxRecDepth 100000 in
theorem dX6_need_62 : decode cX6_need 62 = .ok (.aload_n 0, 1) := by decide +kernel
set_option maxRecDepth 100000 in
theorem dX6_need_63 : decode cX6_need 63 = .ok (.getfield 42, 3) := by decide +kernel
set_option maxRecDepth 100000 in
theorem dX6_need_66 : decode cX6_need 66 = .ok (.iload_n 2, 1) := by decide +kernel
set_option maxRecDepth 100000 in
theorem dX6_need_67 : decode cX6_need 67 = .ok (.invokevirtual 140, 3) := by decide +kernel
set_option maxRecDepth 100000 in
theorem dX6_need_70 : decode cX6_need 70 = .ok (.iload_n 1, 1) := by decide +kernel
set_option maxRecDepth 100000 in
theorem dX6_need_71 : decode cX6_need 71 = .ok (.invokestatic 144, 3) := by decide +kernel
set_option maxRecDepth 100000 in
theorem dX6_need_74 : decode cX6_need 74 = .ok (.iconst 1, 1) := by decide +kernel
set_option maxRecDepth 100000 in
theorem dX6_need_75 : decode cX6_need 75 = .ok (.if_icmp .ne 10, 3) := by decide +kernel
set_option maxRecDepth 100000 in
theorem dX6_need_78 : decode cX6_need 78 = .ok (.aload_n 0, 1) := by decide +kernel
set_option maxRecDepth 100000 in
theorem dX6_need_79 : decode cX6_need 79 = .ok (.bipush (-5), 2) := by decide +kernel
set_option maxRecDepth 100000 in
theorem dX6_need_81 : decode cX6_need 81 = .ok (.invokevirtual 55, 3) := by decide +kernel
set_option maxRecDepth 100000 in
theorem dX6_need_84 : decode cX6_need 84 = .ok (.ireturn, 1) := by decide +kernel
set_option maxRecDepth 100000 in
theorem dX6_need_85 : decode cX6_need 85 = .ok (.aload 4, 2) := by decide +kernel
set_option maxRecDepth 100000 in
theorem dX6_need_87 : decode cX6_need 87 = .ok (.iload_n 2, 1) := by decide +kernel
set_option maxRecDepth 100000 in
theorem dX6_need_88 : decode cX6_need 88 = .ok (.putfield 148, 3) := by decide +kernel
set_option maxRecDepth 100000 in
theorem dX6_need_91 : decode cX6_need 91 = .ok (.aload 4, 2) := by decide +kernel
set_option maxRecDepth 100000 in
theorem dX6_need_93 : decode cX6_need 93 = .ok (.iload_n 3, 1) := by decide +kernel
set_option maxRecDepth 100000 in
theorem dX6_need_94 : decode cX6_need 94 = .ok (.putfield 151, 3) := by decide +kernel
set_option maxRecDepth 100000 in
theorem dX6_need_97 : decode cX6_need 97 = .ok (.iconst 1, 1) := by decide +kernel
set_option maxRecDepth 100000 in
theorem dX6_need_98 : decode cX6_need 98 = .ok (.ireturn, 1) := by decide +kernel
set_option maxRecDepth 100000 in
theorem dX6_opens_0 : decode cX6_opens 0 = .ok (.aload_n 0, 1) := by decide +kernel
set_option maxRecDepth 100000 in
theorem dX6_opens_1 : decode cX6_opens 1 = .ok (.iload_n 2, 1) := by decide +kernel
set_option maxRecDepth 100000 in
theorem dX6_opens_2 : decode cX6_opens 2 = .ok (.invokevirtual 67, 3) := by decide +kernel
set_option maxRecDepth 100000 in
theorem dX6_opens_5 : decode cX6_opens 5 = .ok (.astore_n 3, 1) := by decide +kernel
set_option maxRecDepth 100000 in
theorem dX6_opens_6 : decode cX6_opens 6 = .ok (.aload_n 0, 1) := by decide +kernel
set_option maxRecDepth 100000 in
theorem dX6_opens_7 : decode cX6_opens 7 = .ok (.iload_n 1, 1) := by decide +kernel
set_option maxRecDepth 100000 in
theorem dX6_opens_8 : decode cX6_opens 8 = .ok (.invokevirtual 59, 3) := by decide +kernel
set_option maxRecDepth 100000 in
theorem dX6_opens_11 : decode cX6_opens 11 = .ok (.ifCond .eq 7, 3) := by decide +kernel
set_option maxRecDepth 100000 in
theorem dX6_opens_14 : decode cX6_opens 14 = .ok (.aload_n 3, 1) := by decide +kernel
set_option maxRecDepth 100000 in
theorem dX6_opens_15 : decode cX6_opens 15 = .ok (.ifnonnull 9, 3) := by decide +kernel
set_option maxRecDepth 100000 in
theorem dX6_opens_18 : decode cX6_opens 18 = .ok (.aload_n 0, 1) := by decide +kernel
set_option maxRecDepth 100000 in
theorem dX6_opens_19 : decode cX6_opens 19 = .ok (.iconst (-1), 1) := by decide +kernel
set_option maxRecDepth 100000 in
theorem dX6_opens_20 : decode cX6_opens 20 = .ok (.invokevirtual 55, 3) := by decide +kernel
set_option maxRecDepth 100000 in
theorem dX6_opens_23 : decode cX6_opens 23 = .ok (.ireturn, 1) := by decide +kernel
set_option maxRecDepth 100000 in
theorem dX6_opens_24 : decode cX6_opens 24 = .ok (.aload_n 0, 1) := by decide +kernel
set_option maxRecDepth 100000 in
theorem dX6_opens_25 : decode cX6_opens 25 = .ok (.iload_n 1, 1) := by decide +kernel
set_option maxRecDepth 100000 in
theorem dX6_opens_26 : decode cX6_opens 26 = .ok (.aload_n 3, 1) := by decide +kernel
set_option maxRecDepth 100000 in
theorem dX6_opens_27 : decode cX6_opens 27 = .ok (.invokevirtual 154, 3) := by decide +kernel
set_option maxRecDepth 100000 in
theorem dX6_opens_30 : decode cX6_opens 30 = .ok (.ifCond .eq 7, 3) := by decide +kernel
set_option maxRecDepth 100000 in
theorem dX6_opens_33 : decode cX6_opens 33 = .ok (.iconst 1, 1) := by decide +kernel
set_option maxRecDepth 100000 in
theorem dX6_opens_34 : decode cX6_opens 34 = .ok (.goto 4, 3) := by decide +kernel
set_option maxRecDepth 100000 in
theorem dX6_opens_37 : decode cX6_opens 37 = .ok (.iconst 0, 1) := by decide +kernel
set_option maxRecDepth 100000 in
theorem dX6_opens_38 : decode cX6_opens 38 = .ok (.ireturn, 1) := by decide +kernel
set_option maxRecDepth 100000 in
theorem dX6_hand_0 : decode cX6_hand 0 = .ok (.aload_n 0, 1) := by decide +kernel
set_option maxRecDepth 100000 in
theorem dX6_hand_1 : decode cX6_hand 1 = .ok (.iload_n 2, 1) := by decide +kernel
set_option maxRecDepth 100000 in
theorem dX6_hand_2 : decode cX6_hand 2 = .ok (.invokevirtual 67, 3) := by decide +kernel
set_option maxRecDepth 100000 in
theorem dX6_hand_5 : decode cX6_hand 5 = .ok (.astore_n 3, 1) := by decide +kernel
set_option maxRecDepth 100000 in
theorem dX6_hand_6 : decode cX6_hand 6 = .ok (.aload_n 0, 1) := by decide +kernel
set_option maxRecDepth 100000 in
theorem dX6_hand_7 : decode cX6_hand 7 = .ok (.iload_n 1, 1) := by decide +kernel
set_option maxRecDepth 100000 in
theorem dX6_hand_8 : decode cX6_hand 8 = .ok (.iload_n 2, 1) := by decide +kernel
set_option maxRecDepth 100000 in
theorem dX6_hand_9 : decode cX6_hand 9 = .ok (.invokevirtual 83, 3) := by decide +kernel
set_option maxRecDepth 100000 in
theorem dX6_hand_12 : decode cX6_hand 12 = .ok (.astore 4, 2) := by decide +kernel
set_option maxRecDepth 100000 in
theorem dX6_hand_14 : decode cX6_hand 14 = .ok (.aload_n 3, 1) := by decide +kernel
set_option maxRecDepth 100000 in
theorem dX6_hand_15 : decode cX6_hand 15 = .ok (.ifnull 8, 3) := by decide +kernel
set_option maxRecDepth 100000 in
theorem dX6_hand_18 : decode cX6_hand 18 = .ok (.aload 4, 2) := by decide +kernel
set_option maxRecDepth 100000 in
theorem dX6_hand_20 : decode cX6_hand 20 = .ok (.ifnonnull 9, 3) := by decide +kernel
set_option maxRecDepth 100000 in
theorem dX6_hand_23 : decode cX6_hand 23 = .ok (.aload_n 0, 1) := by decide +kernel
set_option maxRecDepth 100000 in
theorem dX6_hand_24 : decode cX6_hand 24 = .ok (.iconst (-1), 1) := by decide +kernel
set_option maxRecDepth 100000 in
theorem dX6_hand_25 : decode cX6_hand 25 = .ok (.invokevirtual 55, 3) := by decide +kernel
set_option maxRecDepth 100000 in
theorem dX6_hand_28 : decode cX6_hand 28 = .ok (.ireturn, 1) := by decide +kernel
set_option maxRecDepth 100000 in
theorem dX6_hand_29 : decode cX6_hand 29 = .ok (.aload 4, 2) := by decide +kernel
set_option maxRecDepth 100000 in
theorem dX6_hand_31 : decode cX6_hand 31 = .ok (.getfield 90, 3) := by decide +kernel
set_option maxRecDepth 100000 in
theorem dX6_hand_34 : decode cX6_hand 34 = .ok (.ifCond .ne 24, 3) := by decide +kernel
set_option maxRecDepth 100000 in
theorem dX6_hand_37 : decode cX6_hand 37 = .ok (.aload_n 0, 1) := by decide +kernel
set_option maxRecDepth 100000 in
theorem dX6_hand_38 : decode cX6_hand 38 = .ok (.iload_n 1, 1) := by decide +kernel
set_option maxRecDepth 100000 in
theorem dX6_hand_39 : decode cX6_hand 39 = .ok (.aload_n 3, 1) := by decide +kernel
set_option maxRecDepth 100000 in
theorem dX6_hand_40 : decode cX6_hand 40 = .ok (.invokevirtual 154, 3) := by decide +kernel
set_option maxRecDepth 100000 in
theorem dX6_hand_43 : decode cX6_hand 43 = .ok (.ifCond .eq 15, 3) := by decide +kernel
set_option maxRecDepth 100000 in
theorem dX6_hand_46 : decode cX6_hand 46 = .ok (.aload 4, 2) := by decide +kernel
set_option maxRecDepth 100000 in
theorem dX6_hand_48 : decode cX6_hand 48 = .ok (.aload_n 3, 1) := by decide +kernel
set_option maxRecDepth 100000 in
theorem dX6_hand_49 : decode cX6_hand 49 = .ok (.getfield 71, 3) := by decide +kernel
set_option maxRecDepth 100000 in
theorem dX6_hand_52 : decode cX6_hand 52 = .ok (.invokevirtual 158, 3) := by decide +kernel
set_option maxRecDepth 100000 in
theorem dX6_hand_55 : decode cX6_hand 55 = .ok (.ifCond .ne 10, 3) := by decide +kernel
set_option maxRecDepth 100000 in
theorem dX6_hand_58 : decode cX6_hand 58 = .ok (.aload_n 0, 1) := by decide +kernel
set_option maxRecDepth 100000 in
theorem dX6_hand_59 : decode cX6_hand 59 = .ok (.bipush (-3), 2) := by decide +kernel
set_option maxRecDepth 100000 in
theorem dX6_hand_61 : decode cX6_hand 61 = .ok (.invokevirtual 55, 3) := by decide +kernel
set_option maxRecDepth 100000 in
theorem dX6_hand_64 : decode cX6_hand 64 = .ok (.ireturn, 1) := by decide +kernel
set_option maxRecDepth 100000 in
theorem dX6_hand_65 : decode cX6_hand 65 = .ok (.aload_n 3, 1) := by decide +kernel
set_option maxRecDepth 100000 in
theorem dX6_hand_66 : decode cX6_hand 66 = .ok (.getfield 71, 3) := by decide +kernel
set_option maxRecDepth 100000 in
theorem dX6_hand_69 : decode cX6_hand 69 = .ok (.iconst 1, 1) := by decide +kernel
set_option maxRecDepth 100000 in
theorem dX6_hand_70 : decode cX6_hand 70 = .ok (.if_icmp .ne 10, 3) := by decide +kernel
set_option maxRecDepth 100000 in
theorem dX6_hand_73 : decode cX6_hand 73 = .ok (.aload_n 0, 1) := by decide +kernel
set_option maxRecDepth 100000 in
theorem dX6_hand_74 : decode cX6_hand 74 = .ok (.iload_n 1, 1) := by decide +kernel
set_option maxRecDepth 100000 in
theorem dX6_hand_75 : decode cX6_hand 75 = .ok (.iload_n 2, 1) := by decide +kernel
set_option maxRecDepth 100000 in
theorem dX6_hand_76 : decode cX6_hand 76 = .ok (.invokevirtual 161, 3) := by decide +kernel
set_option maxRecDepth 100000 in
theorem dX6_hand_79 : decode cX6_hand 79 = .ok (.ireturn, 1) := by decide +kernel
set_option maxRecDepth 100000 in
theorem dX6_hand_80 : decode cX6_hand 80 = .ok (.aload 4, 2) := by decide +kernel
set_option maxRecDepth 100000 in
theorem dX6_hand_82 : decode cX6_hand 82 = .ok (.aload_n 3, 1) := by decide +kernel
set_option maxRecDepth 100000 in
theorem dX6_hand_83 : decode cX6_hand 83 = .ok (.getfield 71, 3) := by decide +kernel
set_option maxRecDepth 100000 in
theorem dX6_hand_86 : decode cX6_hand 86 = .ok (.aload_n 0, 1) := by decide +kernel
set_option maxRecDepth 100000 in
theorem dX6_hand_87 : decode cX6_hand 87 = .ok (.getfield 94, 3) := by decide +kernel
set_option maxRecDepth 100000 in
theorem dX6_hand_90 : decode cX6_hand 90 = .ok (.iload_n 1, 1) := by decide +kernel
set_option maxRecDepth 100000 in
theorem dX6_hand_91 : decode cX6_hand 91 = .ok (.invokevirtual 164, 3) := by decide +kernel
set_option maxRecDepth 100000 in
theorem dX6_hand_94 : decode cX6_hand 94 = .ok (.aload_n 0, 1) := by decide +kernel
set_option maxRecDepth 100000 in
theorem dX6_hand_95 : decode cX6_hand 95 = .ok (.dup, 1) := by decide +kernel
set_option maxRecDepth 100000 in
theorem dX6_hand_96 : decode cX6_hand 96 = .ok (.getfield 167, 3) := by decide +kernel
set_option maxRecDepth 100000 in
theorem dX6_hand_99 : decode cX6_hand 99 = .ok (.iconst 1, 1) := by decide +kernel
set_option maxRecDepth 100000 in
theorem dX6_hand_100 : decode cX6_hand 100 = .ok (.iadd, 1) := by decide +kernel
set_option maxRecDepth 100000 in
theorem dX6_hand_101 : decode cX6_hand 101 = .ok (.putfield 167, 3) := by decide +kernel
set_option maxRecDepth 100000 in
theorem dX6_hand_104 : decode cX6_hand 104 = .ok (.iconst 1, 1) := by decide +kernel
set_option maxRecDepth 100000 in
theorem dX6_hand_105 : decode cX6_hand 105 = .ok (.ireturn, 1) := by decide +kernel
set_option maxRecDepth 100000 in
theorem dX6_mark_0 : decode cX6_mark 0 = .ok (.aload_n 0, 1) := by decide +kernel
set_option maxRecDepth 100000 in
theorem dX6_mark_1 : decode cX6_mark 1 = .ok (.iload_n 2, 1) := by decide +kernel
set_option maxRecDepth 100000 in
theorem dX6_mark_2 : decode cX6_mark 2 = .ok (.invokevirtual 67, 3) := by decide +kernel
set_option maxRecDepth 100000 in
theorem dX6_mark_5 : decode cX6_mark 5 = .ok (.astore 4, 2) := by decide +kernel
set_option maxRecDepth 100000 in
theorem dX6_mark_7 : decode cX6_mark 7 = .ok (.aload_n 0, 1) := by decide +kernel
set_option maxRecDepth 100000 in
theorem dX6_mark_8 : decode cX6_mark 8 = .ok (.iload_n 1, 1) := by decide +kernel
set_option maxRecDepth 100000 in
theorem dX6_mark_9 : decode cX6_mark 9 = .ok (.iload_n 2, 1) := by decide +kernel
set_option maxRecDepth 100000 in
theorem dX6_mark_10 : decode cX6_mark 10 = .ok (.invokevirtual 83, 3) := by decide +kernel
set_option maxRecDepth 100000 in
theorem dX6_mark_13 : decode cX6_mark 13 = .ok (.astore 5, 2) := by decide +kernel
set_option maxRecDepth 100000 in
theorem dX6_mark_15 : decode cX6_mark 15 = .ok (.aload 4, 2) := by decide +kernel
set_option maxRecDepth 100000 in
theorem dX6_mark_17 : decode cX6_mark 17 = .ok (.ifnull 8, 3) := by decide +kernel
set_option maxRecDepth 100000 in
theorem dX6_mark_20 : decode cX6_mark 20 = .ok (.aload 5, 2) := by decide +kernel
set_option maxRecDepth 100000 in
theorem dX6_mark_22 : decode cX6_mark 22 = .ok (.ifnonnull 9, 3) := by decide +kernel
set_option maxRecDepth 100000 in
theorem dX6_mark_25 : decode cX6_mark 25 = .ok (.aload_n 0, 1) := by decide +kernel
set_option maxRecDepth 100000 in
theorem dX6_mark_26 : decode cX6_mark 26 = .ok (.iconst (-1), 1) := by decide +kernel
set_option maxRecDepth 100000 in
theorem dX6_mark_27 : decode cX6_mark 27 = .ok (.invokevirtual 55, 3) := by decide +kernel
set_option maxRecDepth 100000 in
theorem dX6_mark_30 : decode cX6_mark 30 = .ok (.ireturn, 1) := by decide +kernel
set_option maxRecDepth 100000 in
theorem dX6_mark_31 : decode cX6_mark 31 = .ok (.aload 4, 2) := by decide +kernel
set_option maxRecDepth 100000 in
theorem dX6_mark_33 : decode cX6_mark 33 = .ok (.getfield 71, 3) := by decide +kernel
set_option maxRecDepth 100000 in
theorem dX6_mark_36 : decode cX6_mark 36 = .ok (.iconst 3, 1) := by decide +kernel
set_option maxRecDepth 100000 in
theorem dX6_mark_37 : decode cX6_mark 37 = .ok (.if_icmp .eq 16, 3) := by decide +kernel
set_option maxRecDepth 100000 in
theorem dX6_mark_40 : decode cX6_mark 40 = .ok (.aload 5, 2) := by decide +kernel
set_option maxRecDepth 100000 in
theorem dX6_mark_42 : decode cX6_mark 42 = .ok (.aload 4, 2) := by decide +kernel
set_option maxRecDepth 100000 in
theorem dX6_mark_44 : decode cX6_mark 44 = .ok (.getfield 71, 3) := by decide +kernel
set_option maxRecDepth 100000 in
theorem dX6_mark_47 : decode cX6_mark 47 = .ok (.invokevirtual 170, 3) := by decide +kernel
set_option maxRecDepth 100000 in
theorem dX6_mark_50 : decode cX6_mark 50 = .ok (.ifCond .ne 10, 3) := by decide +kernel
set_option maxRecDepth 100000 in
theorem dX6_mark_53 : decode cX6_mark 53 = .ok (.aload_n 0, 1) := by decide +kernel
set_option maxRecDepth 100000 in
theorem dX6_mark_54 : decode cX6_mark 54 = .ok (.bipush (-3), 2) := by decide +kernel
set_option maxRecDepth 100000 in
theorem dX6_mark_56 : decode cX6_mark 56 = .ok (.invokevirtual 55, 3) := by decide +kernel
set_option maxRecDepth 100000 in
theorem dX6_mark_59 : decode cX6_mark 59 = .ok (.ireturn, 1) := by decide +kernel
set_option maxRecDepth 100000 in
theorem dX6_mark_60 : decode cX6_mark 60 = .ok (.iload_n 3, 1) := by decide +kernel
set_option maxRecDepth 100000 in
theorem dX6_mark_61 : decode cX6_mark 61 = .ok (.ifCond .ge 10, 3) := by decide +kernel
set_option maxRecDepth 100000 in
theorem dX6_mark_64 : decode cX6_mark 64 = .ok (.aload_n 0, 1) := by decide +kernel
set_option maxRecDepth 100000 in
theorem dX6_mark_65 : decode cX6_mark 65 = .ok (.bipush (-4), 2) := by decide +kernel
set_option maxRecDepth 100000 in
theorem dX6_mark_67 : decode cX6_mark 67 = .ok (.invokevirtual 55, 3) := by decide +kernel
set_option maxRecDepth 100000 in
theorem dX6_mark_70 : decode cX6_mark 70 = .ok (.ireturn, 1) := by decide +kernel
set_option maxRecDepth 100000 in
theorem dX6_mark_71 : decode cX6_mark 71 = .ok (.iload_n 3, 1) := by decide +kernel
set_option maxRecDepth 100000 in
theorem dX6_mark_72 : decode cX6_mark 72 = .ok (.aload 4, 2) := by decide +kernel
set_option maxRecDepth 100000 in
theorem dX6_mark_74 : decode cX6_mark 74 = .ok (.getfield 74, 3) := by decide +kernel
set_option maxRecDepth 100000 in
theorem dX6_mark_77 : decode cX6_mark 77 = .ok (.if_icmp .le 10, 3) := by decide +kernel
set_option maxRecDepth 100000 in
theorem dX6_mark_80 : decode cX6_mark 80 = .ok (.aload_n 0, 1) := by decide +kernel
set_option maxRecDepth 100000 in
theorem dX6_mark_81 : decode cX6_mark 81 = .ok (.bipush (-6), 2) := by decide +kernel
set_option maxRecDepth 100000 in
theorem dX6_mark_83 : decode cX6_mark 83 = .ok (.invokevirtual 55, 3) := by decide +kernel
set_option maxRecDepth 100000 in
theorem dX6_mark_86 : decode cX6_mark 86 = .ok (.ireturn, 1) := by decide +kernel
set_option maxRecDepth 100000 in
theorem dX6_mark_87 : decode cX6_mark 87 = .ok (.aload 4, 2) := by decide +kernel
set_option maxRecDepth 100000 in
theorem dX6_mark_89 : decode cX6_mark 89 = .ok (.getfield 71, 3) := by decide +kernel
set_option maxRecDepth 100000 in
theorem dX6_mark_92 : decode cX6_mark 92 = .ok (.iconst 1, 1) := by decide +kernel
set_option maxRecDepth 100000 in
theorem dX6_mark_93 : decode cX6_mark 93 = .ok (.if_icmp .ne 12, 3) := by decide +kernel
set_option maxRecDepth 100000 in
theorem dX6_mark_96 : decode cX6_mark 96 = .ok (.aload_n 0, 1) := by decide +kernel
set_option maxRecDepth 100000 in
theorem dX6_mark_97 : decode cX6_mark 97 = .ok (.aload 5, 2) := by decide +kernel
set_option maxRecDepth 100000 in
theorem dX6_mark_99 : decode cX6_mark 99 = .ok (.iload_n 2, 1) := by decide +kernel
set_option maxRecDepth 100000 in
theorem dX6_mark_100 : decode cX6_mark 100 = .ok (.iload_n 3, 1) := by decide +kernel
set_option maxRecDepth 100000 in
theorem dX6_mark_101 : decode cX6_mark 101 = .ok (.invokevirtual 173, 3) := by decide +kernel
set_option maxRecDepth 100000 in
theorem dX6_mark_104 : decode cX6_mark 104 = .ok (.ireturn, 1) := by decide +kernel
set_option maxRecDepth 100000 in
theorem dX6_mark_105 : decode cX6_mark 105 = .ok (.aload 5, 2) := by decide +kernel
set_option maxRecDepth 100000 in
theorem dX6_mark_107 : decode cX6_mark 107 = .ok (.aload 5, 2) := by decide +kernel
set_option maxRecDepth 100000 in
theorem dX6_mark_109 : decode cX6_mark 109 = .ok (.aload 4, 2) := by decide +kernel
set_option maxRecDepth 100000 in
theorem dX6_mark_111 : decode cX6_mark 111 = .ok (.getfield 71, 3) := by decide +kernel
set_option maxRecDepth 100000 in
theorem dX6_mark_114 : decode cX6_mark 114 = .ok (.invokevirtual 177, 3) := by decide +kernel
set_option maxRecDepth 100000 in
theorem dX6_mark_117 : decode cX6_mark 117 = .ok (.iload_n 3, 1) := by decide +kernel
set_option maxRecDepth 100000 in
theorem dX6_mark_118 : decode cX6_mark 118 = .ok (.invokevirtual 180, 3) := by decide +kernel
set_option maxRecDepth 100000 in
theorem dX6_mark_121 : decode cX6_mark 121 = .ok (.pop, 1) := by decide +kernel
set_option maxRecDepth 100000 in
theorem dX6_mark_122 : decode cX6_mark 122 = .ok (.aload_n 0, 1) := by decide +kernel
set_option maxRecDepth 100000 in
theorem dX6_mark_123 : decode cX6_mark 123 = .ok (.dup, 1) := by decide +kernel
set_option maxRecDepth 100000 in
theorem dX6_mark_124 : decode cX6_mark 124 = .ok (.getfield 183, 3) := by decide +kernel
set_option maxRecDepth 100000 in
theorem dX6_mark_127 : decode cX6_mark 127 = .ok (.iconst 1, 1) := by decide +kernel
set_option maxRecDepth 100000 in
theorem dX6_mark_128 : decode cX6_mark 128 = .ok (.iadd, 1) := by decide +kernel
set_option maxRecDepth 100000 in
theorem dX6_mark_129 : decode cX6_mark 129 = .ok (.putfield 183, 3) := by decide +kernel
set_option maxRecDepth 100000 in
theorem dX6_mark_132 : decode cX6_mark 132 = .ok (.iconst 1, 1) := by decide +kernel
set_option maxRecDepth 100000 in
theorem dX6_mark_133 : decode cX6_mark 133 = .ok (.ireturn, 1) := by decide +kernel
set_option maxRecDepth 100000 in
theorem dX6_peer_0 : decode cX6_peer 0 = .ok (.aload_n 0, 1) := by decide +kernel
set_option maxRecDepth 100000 in
theorem dX6_peer_1 : decode cX6_peer 1 = .ok (.iload_n 2, 1) := by decide +kernel
set_option maxRecDepth 100000 in
theorem dX6_peer_2 : decode cX6_peer 2 = .ok (.invokevirtual 67, 3) := by decide +kernel
set_option maxRecDepth 100000 in
theorem dX6_peer_5 : decode cX6_peer 5 = .ok (.astore 4, 2) := by decide +kernel
set_option maxRecDepth 100000 in
theorem dX6_peer_7 : decode cX6_peer 7 = .ok (.aload_n 0, 1) := by decide +kernel
set_option maxRecDepth 100000 in
theorem dX6_peer_8 : decode cX6_peer 8 = .ok (.iload_n 1, 1) := by decide +kernel
set_option maxRecDepth 100000 in
theorem dX6_peer_9 : decode cX6_peer 9 = .ok (.iload_n 2, 1) := by decide +kernel
set_option maxRecDepth 100000 in
theorem dX6_peer_10 : decode cX6_peer 10 = .ok (.invokevirtual 83, 3) := by decide +kernel
set_option maxRecDepth 100000 in
theorem dX6_peer_13 : decode cX6_peer 13 = .ok (.astore 5, 2) := by decide +kernel
set_option maxRecDepth 100000 in
theorem dX6_peer_15 : decode cX6_peer 15 = .ok (.aload 4, 2) := by decide +kernel
set_option maxRecDepth 100000 in
theorem dX6_peer_17 : decode cX6_peer 17 = .ok (.ifnull 8, 3) := by decide +kernel
set_option maxRecDepth 100000 in
theorem dX6_peer_20 : decode cX6_peer 20 = .ok (.aload 5, 2) := by decide +kernel
set_option maxRecDepth 100000 in
theorem dX6_peer_22 : decode cX6_peer 22 = .ok (.ifnonnull 9, 3) := by decide +kernel
set_option maxRecDepth 100000 in
theorem dX6_peer_25 : decode cX6_peer 25 = .ok (.aload_n 0, 1) := by decide +kernel
set_option maxRecDepth 100000 in
theorem dX6_peer_26 : decode cX6_peer 26 = .ok (.iconst (-1), 1) := by decide +kernel
set_option maxRecDepth 100000 in
theorem dX6_peer_27 : decode cX6_peer 27 = .ok (.invokevirtual 55, 3) := by decide +kernel
set_option maxRecDepth 100000 in
theorem dX6_peer_30 : decode cX6_peer 30 = .ok (.ireturn, 1) := by decide +kernel
set_option maxRecDepth 100000 in
theorem dX6_peer_31 : decode cX6_peer 31 = .ok (.aload 4, 2) := by decide +kernel
set_option maxRecDepth 100000 in
theorem dX6_peer_33 : decode cX6_peer 33 = .ok (.getfield 71, 3) := by decide +kernel
set_option maxRecDepth 100000 in
theorem dX6_peer_36 : decode cX6_peer 36 = .ok (.iconst 3, 1) := by decide +kernel
set_option maxRecDepth 100000 in
theorem dX6_peer_37 : decode cX6_peer 37 = .ok (.if_icmp .ne 11, 3) := by decide +kernel
set_option maxRecDepth 100000 in
theorem dX6_peer_40 : decode cX6_peer 40 = .ok (.aload 5, 2) := by decide +kernel
set_option maxRecDepth 100000 in
theorem dX6_peer_42 : decode cX6_peer 42 = .ok (.getfield 186, 3) := by decide +kernel
set_option maxRecDepth 100000 in
theorem dX6_peer_45 : decode cX6_peer 45 = .ok (.ifCond .ne 10, 3) := by decide +kernel
set_option maxRecDepth 100000 in
theorem dX6_peer_48 : decode cX6_peer 48 = .ok (.aload_n 0, 1) := by decide +kernel
set_option maxRecDepth 100000 in
theorem dX6_peer_49 : decode cX6_peer 49 = .ok (.bipush (-3), 2) := by decide +kernel
set_option maxRecDepth 100000 in
theorem dX6_peer_51 : decode cX6_peer 51 = .ok (.invokevirtual 55, 3) := by decide +kernel
set_option maxRecDepth 100000 in
theorem dX6_peer_54 : decode cX6_peer 54 = .ok (.ireturn, 1) := by decide +kernel
set_option maxRecDepth 100000 in
theorem dX6_peer_55 : decode cX6_peer 55 = .ok (.aload_n 0, 1) := by decide +kernel
set_option maxRecDepth 100000 in
theorem dX6_peer_56 : decode cX6_peer 56 = .ok (.iload_n 1, 1) := by decide +kernel
set_option maxRecDepth 100000 in
theorem dX6_peer_57 : decode cX6_peer 57 = .ok (.iload_n 2, 1) := by decide +kernel
set_option maxRecDepth 100000 in
theorem dX6_peer_58 : decode cX6_peer 58 = .ok (.iload_n 3, 1) := by decide +kernel
set_option maxRecDepth 100000 in
theorem dX6_peer_59 : decode cX6_peer 59 = .ok (.invokevirtual 189, 3) := by decide +kernel
set_option maxRecDepth 100000 in
theorem dX6_peer_62 : decode cX6_peer 62 = .ok (.istore 6, 2) := by decide +kernel
set_option maxRecDepth 100000 in
theorem dX6_peer_64 : decode cX6_peer 64 = .ok (.iload 6, 2) := by decide +kernel
set_option maxRecDepth 100000 in
theorem dX6_peer_66 : decode cX6_peer 66 = .ok (.ifCond .ge 8, 3) := by decide +kernel
set_option maxRecDepth 100000 in
theorem dX6_peer_69 : decode cX6_peer 69 = .ok (.bipush (-9), 2) := by decide +kernel
set_option maxRecDepth 100000 in
theorem dX6_peer_71 : decode cX6_peer 71 = .ok (.goto 5, 3) := by decide +kernel
set_option maxRecDepth 100000 in
theorem dX6_peer_74 : decode cX6_peer 74 = .ok (.iload 6, 2) := by decide +kernel
set_option maxRecDepth 100000 in
theorem dX6_peer_76 : decode cX6_peer 76 = .ok (.ireturn, 1) := by decide +kernel
set_option maxRecDepth 100000 in
theorem dX6_show_0 : decode cX6_show 0 = .ok (.aload_n 0, 1) := by decide +kernel
set_option maxRecDepth 100000 in
theorem dX6_show_1 : decode cX6_show 1 = .ok (.iload_n 3, 1) := by decide +kernel
set_option maxRecDepth 100000 in
theorem dX6_show_2 : decode cX6_show 2 = .ok (.invokevirtual 67, 3) := by decide +kernel
set_option maxRecDepth 100000 in
theorem dX6_show_5 : decode cX6_show 5 = .ok (.astore 5, 2) := by decide +kernel
set_option maxRecDepth 100000 in
theorem dX6_show_7 : decode cX6_show 7 = .ok (.aload_n 0, 1) := by decide +kernel
set_option maxRecDepth 100000 in
theorem dX6_show_8 : decode cX6_show 8 = .ok (.iload_n 2, 1) := by decide +kernel
set_option maxRecDepth 100000 in
theorem dX6_show_9 : decode cX6_show 9 = .ok (.iload_n 3, 1) := by decide +kernel
set_option maxRecDepth 100000 in
theorem dX6_show_10 : decode cX6_show 10 = .ok (.invokevirtual 83, 3) := by decide +kernel
set_option maxRecDepth 100000 in
theorem dX6_show_13 : decode cX6_show 13 = .ok (.astore 6, 2) := by decide +kernel
set_option maxRecDepth 100000 in
theorem dX6_show_15 : decode cX6_show 15 = .ok (.aload_n 0, 1) := by decide +kernel
set_option maxRecDepth 100000 in
theorem dX6_show_16 : decode cX6_show 16 = .ok (.iload_n 1, 1) := by decide +kernel
set_option maxRecDepth 100000 in
theorem dX6_show_17 : decode cX6_show 17 = .ok (.invokevirtual 59, 3) := by decide +kernel
set_option maxRecDepth 100000 in
theorem dX6_show_20 : decode cX6_show 20 = .ok (.ifCond .eq 13, 3) := by decide +kernel
set_option maxRecDepth 100000 in
theorem dX6_show_23 : decode cX6_show 23 = .ok (.aload 5, 2) := by decide +kernel
set_option maxRecDepth 100000 in
theorem dX6_show_25 : decode cX6_show 25 = .ok (.ifnull 8, 3) := by decide +kernel
set_option maxRecDepth 100000 in
theorem dX6_show_28 : decode cX6_show 28 = .ok (.aload 6, 2) := by decide +kernel
set_option maxRecDepth 100000 in
theorem dX6_show_30 : decode cX6_show 30 = .ok (.ifnonnull 9, 3) := by decide +kernel
set_option maxRecDepth 100000 in
theorem dX6_show_33 : decode cX6_show 33 = .ok (.aload_n 0, 1) := by decide +kernel
set_option maxRecDepth 100000 in
theorem dX6_show_34 : decode cX6_show 34 = .ok (.iconst (-1), 1) := by decide +kernel
set_option maxRecDepth 100000 in
theorem dX6_show_35 : decode cX6_show 35 = .ok (.invokevirtual 55, 3) := by decide +kernel
set_option maxRecDepth 100000 in
theorem dX6_show_38 : decode cX6_show 38 = .ok (.ireturn, 1) := by decide +kernel
set_option maxRecDepth 100000 in
theorem dX6_show_39 : decode cX6_show 39 = .ok (.aload 5, 2) := by decide +kernel
set_option maxRecDepth 100000 in
theorem dX6_show_41 : decode cX6_show 41 = .ok (.getfield 71, 3) := by decide +kernel
set_option maxRecDepth 100000 in
theorem dX6_show_44 : decode cX6_show 44 = .ok (.iconst 3, 1) := by decide +kernel
set_option maxRecDepth 100000 in
theorem dX6_show_45 : decode cX6_show 45 = .ok (.if_icmp .ne 30, 3) := by decide +kernel
set_option maxRecDepth 100000 in
theorem dX6_show_48 : decode cX6_show 48 = .ok (.aload 6, 2) := by decide +kernel
set_option maxRecDepth 100000 in
theorem dX6_show_50 : decode cX6_show 50 = .ok (.getfield 186, 3) := by decide +kernel
set_option maxRecDepth 100000 in
theorem dX6_show_53 : decode cX6_show 53 = .ok (.ifCond .eq 22, 3) := by decide +kernel
set_option maxRecDepth 100000 in
theorem dX6_show_56 : decode cX6_show 56 = .ok (.aload_n 0, 1) := by decide +kernel
set_option maxRecDepth 100000 in
theorem dX6_show_57 : decode cX6_show 57 = .ok (.iload_n 1, 1) := by decide +kernel
set_option maxRecDepth 100000 in
theorem dX6_show_58 : decode cX6_show 58 = .ok (.iload_n 2, 1) := by decide +kernel
set_option maxRecDepth 100000 in
theorem dX6_show_59 : decode cX6_show 59 = .ok (.iload_n 3, 1) := by decide +kernel
set_option maxRecDepth 100000 in
theorem dX6_show_60 : decode cX6_show 60 = .ok (.invokevirtual 193, 3) := by decide +kernel
set_option maxRecDepth 100000 in
theorem dX6_show_63 : decode cX6_show 63 = .ok (.ifCond .eq 12, 3) := by decide +kernel
set_option maxRecDepth 100000 in
theorem dX6_show_66 : decode cX6_show 66 = .ok (.aload 6, 2) := by decide +kernel
set_option maxRecDepth 100000 in
theorem dX6_show_68 : decode cX6_show 68 = .ok (.iload_n 1, 1) := by decide +kernel
set_option maxRecDepth 100000 in
theorem dX6_show_69 : decode cX6_show 69 = .ok (.invokevirtual 197, 3) := by decide +kernel
set_option maxRecDepth 100000 in
theorem dX6_show_72 : decode cX6_show 72 = .ok (.ifCond .eq 10, 3) := by decide +kernel
set_option maxRecDepth 100000 in
theorem dX6_show_75 : decode cX6_show 75 = .ok (.aload_n 0, 1) := by decide +kernel
set_option maxRecDepth 100000 in
theorem dX6_show_76 : decode cX6_show 76 = .ok (.bipush (-3), 2) := by decide +kernel
set_option maxRecDepth 100000 in
theorem dX6_show_78 : decode cX6_show 78 = .ok (.invokevirtual 55, 3) := by decide +kernel
set_option maxRecDepth 100000 in
theorem dX6_show_81 : decode cX6_show 81 = .ok (.ireturn, 1) := by decide +kernel
set_option maxRecDepth 100000 in
theorem dX6_show_82 : decode cX6_show 82 = .ok (.iload 4, 2) := by decide +kernel
set_option maxRecDepth 100000 in
theorem dX6_show_84 : decode cX6_show 84 = .ok (.ifCond .ge 10, 3) := by decide +kernel
set_option maxRecDepth 100000 in
theorem dX6_show_87 : decode cX6_show 87 = .ok (.aload_n 0, 1) := by decide +kernel
set_option maxRecDepth 100000 in
theorem dX6_show_88 : decode cX6_show 88 = .ok (.bipush (-4), 2) := by decide +kernel
set_option maxRecDepth 100000 in
theorem dX6_show_90 : decode cX6_show 90 = .ok (.invokevirtual 55, 3) := by decide +kernel
set_option maxRecDepth 100000 in
theorem dX6_show_93 : decode cX6_show 93 = .ok (.ireturn, 1) := by decide +kernel
set_option maxRecDepth 100000 in
theorem dX6_show_94 : decode cX6_show 94 = .ok (.iload 4, 2) := by decide +kernel
set_option maxRecDepth 100000 in
theorem dX6_show_96 : decode cX6_show 96 = .ok (.aload 5, 2) := by decide +kernel
set_option maxRecDepth 100000 in
theorem dX6_show_98 : decode cX6_show 98 = .ok (.getfield 74, 3) := by decide +kernel
set_option maxRecDepth 100000 in
theorem dX6_show_101 : decode cX6_show 101 = .ok (.if_icmp .le 10, 3) := by decide +kernel
set_option maxRecDepth 100000 in
theorem dX6_show_104 : decode cX6_show 104 = .ok (.aload_n 0, 1) := by decide +kernel
set_option maxRecDepth 100000 in
theorem dX6_show_105 : decode cX6_show 105 = .ok (.bipush (-6), 2) := by decide +kernel
set_option maxRecDepth 100000 in
theorem dX6_show_107 : decode cX6_show 107 = .ok (.invokevirtual 55, 3) := by decide +kernel
set_option maxRecDepth 100000 in
theorem dX6_show_110 : decode cX6_show 110 = .ok (.ireturn, 1) := by decide +kernel
set_option maxRecDepth 100000 in
theorem dX6_show_111 : decode cX6_show 111 = .ok (.aload_n 0, 1) := by decide +kernel
set_option maxRecDepth 100000 in
theorem dX6_show_112 : decode cX6_show 112 = .ok (.dup, 1) := by decide +kernel
set_option maxRecDepth 100000 in
theorem dX6_show_113 : decode cX6_show 113 = .ok (.getfield 183, 3) := by decide +kernel
set_option maxRecDepth 100000 in
theorem dX6_show_116 : decode cX6_show 116 = .ok (.iconst 1, 1) := by decide +kernel
set_option maxRecDepth 100000 in
theorem dX6_show_117 : decode cX6_show 117 = .ok (.iadd, 1) := by decide +kernel
set_option maxRecDepth 100000 in
theorem dX6_show_118 : decode cX6_show 118 = .ok (.putfield 183, 3) := by decide +kernel
set_option maxRecDepth 100000 in
theorem dX6_show_121 : decode cX6_show 121 = .ok (.aload 6, 2) := by decide +kernel
set_option maxRecDepth 100000 in
theorem dX6_show_123 : decode cX6_show 123 = .ok (.iload_n 1, 1) := by decide +kernel
set_option maxRecDepth 100000 in
theorem dX6_show_124 : decode cX6_show 124 = .ok (.iload 4, 2) := by decide +kernel
set_option maxRecDepth 100000 in
theorem dX6_show_126 : decode cX6_show 126 = .ok (.invokevirtual 200, 3) := by decide +kernel
set_option maxRecDepth 100000 in
theorem dX6_show_129 : decode cX6_show 129 = .ok (.ireturn, 1) := by decide +kernel
set_option maxRecDepth 100000 in
theorem dX6_appeal_0 : decode cX6_appeal 0 = .ok (.aload_n 0, 1) := by decide +kernel
set_option maxRecDepth 100000 in
theorem dX6_appeal_1 : decode cX6_appeal 1 = .ok (.iload_n 2, 1) := by decide +kernel
set_option maxRecDepth 100000 in
theorem dX6_appeal_2 : decode cX6_appeal 2 = .ok (.invokevirtual 67, 3) := by decide +kernel
set_option maxRecDepth 100000 in
theorem dX6_appeal_5 : decode cX6_appeal 5 = .ok (.astore 4, 2) := by decide +kernel
set_option maxRecDepth 100000 in
theorem dX6_appeal_7 : decode cX6_appeal 7 = .ok (.aload_n 0, 1) := by decide +kernel
set_option maxRecDepth 100000 in
theorem dX6_appeal_8 : decode cX6_appeal 8 = .ok (.iload_n 1, 1) := by decide +kernel
set_option maxRecDepth 100000 in
theorem dX6_appeal_9 : decode cX6_appeal 9 = .ok (.iload_n 2, 1) := by decide +kernel
set_option maxRecDepth 100000 in
theorem dX6_appeal_10 : decode cX6_appeal 10 = .ok (.invokevirtual 83, 3) := by decide +kernel
set_option maxRecDepth 100000 in
theorem dX6_appeal_13 : decode cX6_appeal 13 = .ok (.astore 5, 2) := by decide +kernel
set_option maxRecDepth 100000 in
theorem dX6_appeal_15 : decode cX6_appeal 15 = .ok (.aload 4, 2) := by decide +kernel
set_option maxRecDepth 100000 in
theorem dX6_appeal_17 : decode cX6_appeal 17 = .ok (.ifnull 8, 3) := by decide +kernel
set_option maxRecDepth 100000 in
theorem dX6_appeal_20 : decode cX6_appeal 20 = .ok (.aload 5, 2) := by decide +kernel
set_option maxRecDepth 100000 in
theorem dX6_appeal_22 : decode cX6_appeal 22 = .ok (.ifnonnull 9, 3) := by decide +kernel
set_option maxRecDepth 100000 in
theorem dX6_appeal_25 : decode cX6_appeal 25 = .ok (.aload_n 0, 1) := by decide +kernel
set_option maxRecDepth 100000 in
theorem dX6_appeal_26 : decode cX6_appeal 26 = .ok (.iconst (-1), 1) := by decide +kernel
set_option maxRecDepth 100000 in
theorem dX6_appeal_27 : decode cX6_appeal 27 = .ok (.invokevirtual 55, 3) := by decide +kernel
set_option maxRecDepth 100000 in
theorem dX6_appeal_30 : decode cX6_appeal 30 = .ok (.ireturn, 1) := by decide +kernel
set_option maxRecDepth 100000 in
theorem dX6_appeal_31 : decode cX6_appeal 31 = .ok (.aload 5, 2) := by decide +kernel
set_option maxRecDepth 100000 in
theorem dX6_appeal_33 : decode cX6_appeal 33 = .ok (.invokevirtual 203, 3) := by decide +kernel
set_option maxRecDepth 100000 in
theorem dX6_appeal_36 : decode cX6_appeal 36 = .ok (.istore 6, 2) := by decide +kernel
set_option maxRecDepth 100000 in
theorem dX6_appeal_38 : decode cX6_appeal 38 = .ok (.aload 4, 2) := by decide +kernel
set_option maxRecDepth 100000 in
theorem dX6_appeal_40 : decode cX6_appeal 40 = .ok (.getfield 71, 3) := by decide +kernel
set_option maxRecDepth 100000 in
theorem dX6_appeal_43 : decode cX6_appeal 43 = .ok (.iconst 3, 1) := by decide +kernel
set_option maxRecDepth 100000 in
theorem dX6_appeal_44 : decode cX6_appeal 44 = .ok (.if_icmp .eq 8, 3) := by decide +kernel
set_option maxRecDepth 100000 in
theorem dX6_appeal_47 : decode cX6_appeal 47 = .ok (.iload 6, 2) := by decide +kernel
set_option maxRecDepth 100000 in
theorem dX6_appeal_49 : decode cX6_appeal 49 = .ok (.ifCond .ge 10, 3) := by decide +kernel
set_option maxRecDepth 100000 in
theorem dX6_appeal_52 : decode cX6_appeal 52 = .ok (.aload_n 0, 1) := by decide +kernel
set_option maxRecDepth 100000 in
theorem dX6_appeal_53 : decode cX6_appeal 53 = .ok (.bipush (-3), 2) := by decide +kernel
set_option maxRecDepth 100000 in
theorem dX6_appeal_55 : decode cX6_appeal 55 = .ok (.invokevirtual 55, 3) := by decide +kernel
set_option maxRecDepth 100000 in
theorem dX6_appeal_58 : decode cX6_appeal 58 = .ok (.ireturn, 1) := by decide +kernel
set_option maxRecDepth 100000 in
theorem dX6_appeal_59 : decode cX6_appeal 59 = .ok (.iload_n 3, 1) := by decide +kernel
set_option maxRecDepth 100000 in
theorem dX6_appeal_60 : decode cX6_appeal 60 = .ok (.ifCond .ge 10, 3) := by decide +kernel
set_option maxRecDepth 100000 in
theorem dX6_appeal_63 : decode cX6_appeal 63 = .ok (.aload_n 0, 1) := by decide +kernel
set_option maxRecDepth 100000 in
theorem dX6_appeal_64 : decode cX6_appeal 64 = .ok (.bipush (-4), 2) := by decide +kernel
set_option maxRecDepth 100000 in
theorem dX6_appeal_66 : decode cX6_appeal 66 = .ok (.invokevirtual 55, 3) := by decide +kernel
set_option maxRecDepth 100000 in
theorem dX6_appeal_69 : decode cX6_appeal 69 = .ok (.ireturn, 1) := by decide +kernel
set_option maxRecDepth 100000 in
theorem dX6_appeal_70 : decode cX6_appeal 70 = .ok (.iload_n 3, 1) := by decide +kernel
set_option maxRecDepth 100000 in
theorem dX6_appeal_71 : decode cX6_appeal 71 = .ok (.aload 4, 2) := by decide +kernel
set_option maxRecDepth 100000 in
theorem dX6_appeal_73 : decode cX6_appeal 73 = .ok (.getfield 74, 3) := by decide +kernel
set_option maxRecDepth 100000 in
theorem dX6_appeal_76 : decode cX6_appeal 76 = .ok (.if_icmp .le 10, 3) := by decide +kernel
set_option maxRecDepth 100000 in
theorem dX6_appeal_79 : decode cX6_appeal 79 = .ok (.aload_n 0, 1) := by decide +kernel
set_option maxRecDepth 100000 in
theorem dX6_appeal_80 : decode cX6_appeal 80 = .ok (.bipush (-6), 2) := by decide +kernel
set_option maxRecDepth 100000 in
theorem dX6_appeal_82 : decode cX6_appeal 82 = .ok (.invokevirtual 55, 3) := by decide +kernel
set_option maxRecDepth 100000 in
theorem dX6_appeal_85 : decode cX6_appeal 85 = .ok (.ireturn, 1) := by decide +kernel
set_option maxRecDepth 100000 in
theorem dX6_appeal_86 : decode cX6_appeal 86 = .ok (.aload_n 0, 1) := by decide +kernel
set_option maxRecDepth 100000 in
theorem dX6_appeal_87 : decode cX6_appeal 87 = .ok (.dup, 1) := by decide +kernel
set_option maxRecDepth 100000 in
theorem dX6_appeal_88 : decode cX6_appeal 88 = .ok (.getfield 206, 3) := by decide +kernel
set_option maxRecDepth 100000 in
theorem dX6_appeal_91 : decode cX6_appeal 91 = .ok (.iconst 1, 1) := by decide +kernel
set_option maxRecDepth 100000 in
theorem dX6_appeal_92 : decode cX6_appeal 92 = .ok (.iadd, 1) := by decide +kernel
set_option maxRecDepth 100000 in
theorem dX6_appeal_93 : decode cX6_appeal 93 = .ok (.putfield 206, 3) := by decide +kernel
set_option maxRecDepth 100000 in
theorem dX6_appeal_96 : decode cX6_appeal 96 = .ok (.aload 5, 2) := by decide +kernel
set_option maxRecDepth 100000 in
theorem dX6_appeal_98 : decode cX6_appeal 98 = .ok (.iload 6, 2) := by decide +kernel
set_option maxRecDepth 100000 in
theorem dX6_appeal_100 : decode cX6_appeal 100 = .ok (.iload_n 3, 1) := by decide +kernel
set_option maxRecDepth 100000 in
theorem dX6_appeal_101 : decode cX6_appeal 101 = .ok (.invokevirtual 180, 3) := by decide +kernel
set_option maxRecDepth 100000 in
theorem dX6_appeal_104 : decode cX6_appeal 104 = .ok (.ireturn, 1) := by decide +kernel
set_option maxRecDepth 100000 in
theorem dX6_markOf_0 : decode cX6_markOf 0 = .ok (.aload_n 0, 1) := by decide +kernel
set_option maxRecDepth 100000 in
theorem dX6_markOf_1 : decode cX6_markOf 1 = .ok (.iload_n 2, 1) := by decide +kernel
set_option maxRecDepth 100000 in
theorem dX6_markOf_2 : decode cX6_markOf 2 = .ok (.invokevirtual 67, 3) := by decide +kernel
set_option maxRecDepth 100000 in
theorem dX6_markOf_5 : decode cX6_markOf 5 = .ok (.astore 4, 2) := by decide +kernel
set_option maxRecDepth 100000 in
theorem dX6_markOf_7 : decode cX6_markOf 7 = .ok (.aload_n 0, 1) := by decide +kernel
set_option maxRecDepth 100000 in
theorem dX6_markOf_8 : decode cX6_markOf 8 = .ok (.iload_n 1, 1) := by decide +kernel
set_option maxRecDepth 100000 in
theorem dX6_markOf_9 : decode cX6_markOf 9 = .ok (.iload_n 2, 1) := by decide +kernel
set_option maxRecDepth 100000 in
theorem dX6_markOf_10 : decode cX6_markOf 10 = .ok (.invokevirtual 83, 3) := by decide +kernel
set_option maxRecDepth 100000 in
theorem dX6_markOf_13 : decode cX6_markOf 13 = .ok (.astore 5, 2) := by decide +kernel
set_option maxRecDepth 100000 in
theorem dX6_markOf_15 : decode cX6_markOf 15 = .ok (.aload 4, 2) := by decide +kernel
set_option maxRecDepth 100000 in
theorem dX6_markOf_17 : decode cX6_markOf 17 = .ok (.ifnull 8, 3) := by decide +kernel
set_option maxRecDepth 100000 in
theorem dX6_markOf_20 : decode cX6_markOf 20 = .ok (.aload 5, 2) := by decide +kernel
set_option maxRecDepth 100000 in
theorem dX6_markOf_22 : decode cX6_markOf 22 = .ok (.ifnonnull 9, 3) := by decide +kernel
set_option maxRecDepth 100000 in
theorem dX6_markOf_25 : decode cX6_markOf 25 = .ok (.aload_n 0, 1) := by decide +kernel
set_option maxRecDepth 100000 in
theorem dX6_markOf_26 : decode cX6_markOf 26 = .ok (.iconst (-1), 1) := by decide +kernel
set_option maxRecDepth 100000 in
theorem dX6_markOf_27 : decode cX6_markOf 27 = .ok (.invokevirtual 55, 3) := by decide +kernel
set_option maxRecDepth 100000 in
theorem dX6_markOf_30 : decode cX6_markOf 30 = .ok (.ireturn, 1) := by decide +kernel
set_option maxRecDepth 100000 in
theorem dX6_markOf_31 : decode cX6_markOf 31 = .ok (.iload_n 3, 1) := by decide +kernel
set_option maxRecDepth 100000 in
theorem dX6_markOf_32 : decode cX6_markOf 32 = .ok (.tableswitch 111 0 4 #[36, 36, 48, 74, 105], 36) := by decide +kernel
set_option maxRecDepth 100000 in
theorem dX6_markOf_68 : decode cX6_markOf 68 = .ok (.aload 5, 2) := by decide +kernel
set_option maxRecDepth 100000 in
theorem dX6_markOf_70 : decode cX6_markOf 70 = .ok (.aload 4, 2) := by decide +kernel
set_option maxRecDepth 100000 in
theorem dX6_markOf_72 : decode cX6_markOf 72 = .ok (.invokevirtual 209, 3) := by decide +kernel
set_option maxRecDepth 100000 in
theorem dX6_markOf_75 : decode cX6_markOf 75 = .ok (.iload_n 3, 1) := by decide +kernel
set_option maxRecDepth 100000 in
theorem dX6_markOf_76 : decode cX6_markOf 76 = .ok (.invokestatic 213, 3) := by decide +kernel
set_option maxRecDepth 100000 in
theorem dX6_markOf_79 : decode cX6_markOf 79 = .ok (.ireturn, 1) := by decide +kernel
set_option maxRecDepth 100000 in
theorem dX6_markOf_80 : decode cX6_markOf 80 = .ok (.aload 5, 2) := by decide +kernel
set_option maxRecDepth 100000 in
theorem dX6_markOf_82 : decode cX6_markOf 82 = .ok (.getfield 90, 3) := by decide +kernel
set_option maxRecDepth 100000 in
theorem dX6_markOf_85 : decode cX6_markOf 85 = .ok (.ifCond .eq 7, 3) := by decide +kernel
set_option maxRecDepth 100000 in
theorem dX6_markOf_88 : decode cX6_markOf 88 = .ok (.iconst 0, 1) := by decide +kernel
set_option maxRecDepth 100000 in
theorem dX6_markOf_89 : decode cX6_markOf 89 = .ok (.goto 16, 3) := by decide +kernel
set_option maxRecDepth 100000 in
theorem dX6_markOf_92 : decode cX6_markOf 92 = .ok (.aload 5, 2) := by decide +kernel
set_option maxRecDepth 100000 in
theorem dX6_markOf_94 : decode cX6_markOf 94 = .ok (.invokevirtual 217, 3) := by decide +kernel
set_option maxRecDepth 100000 in
theorem dX6_markOf_97 : decode cX6_markOf 97 = .ok (.ifCond .eq 7, 3) := by decide +kernel
set_option maxRecDepth 100000 in
theorem dX6_markOf_100 : decode cX6_markOf 100 = .ok (.iconst 1, 1) := by decide +kernel
set_option maxRecDepth 100000 in
theorem dX6_markOf_101 : decode cX6_markOf 101 = .ok (.goto 4, 3) := by decide +kernel
set_option maxRecDepth 100000 in
theorem dX6_markOf_104 : decode cX6_markOf 104 = .ok (.iconst 2, 1) := by decide +kernel
set_option maxRecDepth 100000 in
theorem dX6_markOf_105 : decode cX6_markOf 105 = .ok (.ireturn, 1) := by decide +kernel
set_option maxRecDepth 100000 in
theorem dX6_markOf_106 : decode cX6_markOf 106 = .ok (.aload 5, 2) := by decide +kernel
set_option maxRecDepth 100000 in
theorem dX6_markOf_108 : decode cX6_markOf 108 = .ok (.getfield 186, 3) := by decide +kernel
set_option maxRecDepth 100000 in
theorem dX6_markOf_111 : decode cX6_markOf 111 = .ok (.ifCond .ne 8, 3) := by decide +kernel
set_option maxRecDepth 100000 in
theorem dX6_markOf_114 : decode cX6_markOf 114 = .ok (.bipush (-9), 2) := by decide +kernel
set_option maxRecDepth 100000 in
theorem dX6_markOf_116 : decode cX6_markOf 116 = .ok (.goto 20, 3) := by decide +kernel
set_option maxRecDepth 100000 in
theorem dX6_markOf_119 : decode cX6_markOf 119 = .ok (.aload 5, 2) := by decide +kernel
set_option maxRecDepth 100000 in
theorem dX6_markOf_121 : decode cX6_markOf 121 = .ok (.aload 4, 2) := by decide +kernel
set_option maxRecDepth 100000 in
theorem dX6_markOf_123 : decode cX6_markOf 123 = .ok (.aload 5, 2) := by decide +kernel
set_option maxRecDepth 100000 in
theorem dX6_markOf_125 : decode cX6_markOf 125 = .ok (.aload 4, 2) := by decide +kernel
set_option maxRecDepth 100000 in
theorem dX6_markOf_127 : decode cX6_markOf 127 = .ok (.getfield 71, 3) := by decide +kernel
set_option maxRecDepth 100000 in
theorem dX6_markOf_130 : decode cX6_markOf 130 = .ok (.invokevirtual 177, 3) := by decide +kernel
set_option maxRecDepth 100000 in
theorem dX6_markOf_133 : decode cX6_markOf 133 = .ok (.invokevirtual 221, 3) := by decide +kernel
set_option maxRecDepth 100000 in
theorem dX6_markOf_136 : decode cX6_markOf 136 = .ok (.ireturn, 1) := by decide +kernel
set_option maxRecDepth 100000 in
theorem dX6_markOf_137 : decode cX6_markOf 137 = .ok (.aload 5, 2) := by decide +kernel
set_option maxRecDepth 100000 in
theorem dX6_markOf_139 : decode cX6_markOf 139 = .ok (.getfield 186, 3) := by decide +kernel
set_option maxRecDepth 100000 in
theorem dX6_markOf_142 : decode cX6_markOf 142 = .ok (.ireturn, 1) := by decide +kernel
set_option maxRecDepth 100000 in
theorem dX6_markOf_143 : decode cX6_markOf 143 = .ok (.aload_n 0, 1) := by decide +kernel
set_option maxRecDepth 100000 in
theorem dX6_markOf_144 : decode cX6_markOf 144 = .ok (.bipush (-2), 2) := by decide +kernel
set_option maxRecDepth 100000 in
theorem dX6_markOf_146 : decode cX6_markOf 146 = .ok (.invokevirtual 55, 3) := by decide +kernel
set_option maxRecDepth 100000 in
theorem dX6_markOf_149 : decode cX6_markOf 149 = .ok (.ireturn, 1) := by decide +kernel
set_option maxRecDepth 100000 in
theorem dX6_value_0 : decode cX6_value 0 = .ok (.aload_n 0, 1) := by decide +kernel
set_option maxRecDepth 100000 in
theorem dX6_value_1 : decode cX6_value 1 = .ok (.iload_n 1, 1) := by decide +kernel
set_option maxRecDepth 100000 in
theorem dX6_value_2 : decode cX6_value 2 = .ok (.invokevirtual 59, 3) := by decide +kernel
set_option maxRecDepth 100000 in
theorem dX6_value_5 : decode cX6_value 5 = .ok (.ifCond .eq 11, 3) := by decide +kernel
set_option maxRecDepth 100000 in
theorem dX6_value_8 : decode cX6_value 8 = .ok (.aload_n 0, 1) := by decide +kernel
set_option maxRecDepth 100000 in
theorem dX6_value_9 : decode cX6_value 9 = .ok (.iload_n 2, 1) := by decide +kernel
set_option maxRecDepth 100000 in
theorem dX6_value_10 : decode cX6_value 10 = .ok (.invokevirtual 134, 3) := by decide +kernel
set_option maxRecDepth 100000 in
theorem dX6_value_13 : decode cX6_value 13 = .ok (.ifCond .ne 12, 3) := by decide +kernel
set_option maxRecDepth 100000 in
theorem dX6_value_16 : decode cX6_value 16 = .ok (.ldc 225, 2) := by decide +kernel
set_option maxRecDepth 100000 in
theorem dX6_value_18 : decode cX6_value 18 = .ok (.aload_n 0, 1) := by decide +kernel
set_option maxRecDepth 100000 in
theorem dX6_value_19 : decode cX6_value 19 = .ok (.iconst (-1), 1) := by decide +kernel
set_option maxRecDepth 100000 in
theorem dX6_value_20 : decode cX6_value 20 = .ok (.invokevirtual 55, 3) := by decide +kernel
set_option maxRecDepth 100000 in
theorem dX6_value_23 : decode cX6_value 23 = .ok (.isub, 1) := by decide +kernel
set_option maxRecDepth 100000 in
theorem dX6_value_24 : decode cX6_value 24 = .ok (.ireturn, 1) := by decide +kernel
set_option maxRecDepth 100000 in
theorem dX6_value_25 : decode cX6_value 25 = .ok (.iload_n 3, 1) := by decide +kernel
set_option maxRecDepth 100000 in
theorem dX6_value_26 : decode cX6_value 26 = .ok (.ifCond .lt 8, 3) := by decide +kernel
set_option maxRecDepth 100000 in
theorem dX6_value_29 : decode cX6_value 29 = .ok (.iload_n 3, 1) := by decide +kernel
set_option maxRecDepth 100000 in
theorem dX6_value_30 : decode cX6_value 30 = .ok (.iconst 2, 1) := by decide +kernel
set_option maxRecDepth 100000 in
theorem dX6_value_31 : decode cX6_value 31 = .ok (.if_icmp .le 13, 3) := by decide +kernel
set_option maxRecDepth 100000 in
theorem dX6_value_34 : decode cX6_value 34 = .ok (.ldc 225, 2) := by decide +kernel
set_option maxRecDepth 100000 in
theorem dX6_value_36 : decode cX6_value 36 = .ok (.aload_n 0, 1) := by decide +kernel
set_option maxRecDepth 100000 in
theorem dX6_value_37 : decode cX6_value 37 = .ok (.bipush (-2), 2) := by decide +kernel
set_option maxRecDepth 100000 in
theorem dX6_value_39 : decode cX6_value 39 = .ok (.invokevirtual 55, 3) := by decide +kernel
set_option maxRecDepth 100000 in
theorem dX6_value_42 : decode cX6_value 42 = .ok (.isub, 1) := by decide +kernel
set_option maxRecDepth 100000 in
theorem dX6_value_43 : decode cX6_value 43 = .ok (.ireturn, 1) := by decide +kernel
set_option maxRecDepth 100000 in
theorem dX6_value_44 : decode cX6_value 44 = .ok (.aload_n 0, 1) := by decide +kernel
set_option maxRecDepth 100000 in
theorem dX6_value_45 : decode cX6_value 45 = .ok (.iload_n 1, 1) := by decide +kernel
set_option maxRecDepth 100000 in
theorem dX6_value_46 : decode cX6_value 46 = .ok (.invokevirtual 226, 3) := by decide +kernel
set_option maxRecDepth 100000 in
theorem dX6_value_49 : decode cX6_value 49 = .ok (.aload_n 0, 1) := by decide +kernel
set_option maxRecDepth 100000 in
theorem dX6_value_50 : decode cX6_value 50 = .ok (.getfield 35, 3) := by decide +kernel
set_option maxRecDepth 100000 in
theorem dX6_value_53 : decode cX6_value 53 = .ok (.aload_n 0, 1) := by decide +kernel
set_option maxRecDepth 100000 in
theorem dX6_value_54 : decode cX6_value 54 = .ok (.getfield 42, 3) := by decide +kernel
set_option maxRecDepth 100000 in
theorem dX6_value_57 : decode cX6_value 57 = .ok (.aload_n 0, 1) := by decide +kernel
set_option maxRecDepth 100000 in
theorem dX6_value_58 : decode cX6_value 58 = .ok (.getfield 42, 3) := by decide +kernel
set_option maxRecDepth 100000 in
theorem dX6_value_61 : decode cX6_value 61 = .ok (.iload_n 2, 1) := by decide +kernel
set_option maxRecDepth 100000 in
theorem dX6_value_62 : decode cX6_value 62 = .ok (.invokevirtual 229, 3) := by decide +kernel
set_option maxRecDepth 100000 in
theorem dX6_value_65 : decode cX6_value 65 = .ok (.ldc 232, 2) := by decide +kernel
set_option maxRecDepth 100000 in
theorem dX6_value_67 : decode cX6_value 67 = .ok (.invokevirtual 233, 3) := by decide +kernel
set_option maxRecDepth 100000 in
theorem dX6_value_70 : decode cX6_value 70 = .ok (.aload_n 0, 1) := by decide +kernel
set_option maxRecDepth 100000 in
theorem dX6_value_71 : decode cX6_value 71 = .ok (.getfield 35, 3) := by decide +kernel
set_option maxRecDepth 100000 in
theorem dX6_value_74 : decode cX6_value 74 = .ok (.iload_n 2, 1) := by decide +kernel
set_option maxRecDepth 100000 in
theorem dX6_value_75 : decode cX6_value 75 = .ok (.invokevirtual 237, 3) := by decide +kernel
set_option maxRecDepth 100000 in
theorem dX6_value_78 : decode cX6_value 78 = .ok (.lstore 4, 2) := by decide +kernel
set_option maxRecDepth 100000 in
theorem dX6_value_80 : decode cX6_value 80 = .ok (.iload_n 3, 1) := by decide +kernel
set_option maxRecDepth 100000 in
theorem dX6_value_81 : decode cX6_value 81 = .ok (.iconst 2, 1) := by decide +kernel
set_option maxRecDepth 100000 in
theorem dX6_value_82 : decode cX6_value 82 = .ok (.if_icmp .ne 30, 3) := by decide +kernel
set_option maxRecDepth 100000 in
theorem dX6_value_85 : decode cX6_value 85 = .ok (.lload 4, 2) := by decide +kernel
set_option maxRecDepth 100000 in
theorem dX6_value_87 : decode cX6_value 87 = .ok (.invokestatic 241, 3) := by decide +kernel
set_option maxRecDepth 100000 in
theorem dX6_value_90 : decode cX6_value 90 = .ok (.ifCond .eq 7, 3) := by decide +kernel
set_option maxRecDepth 100000 in
theorem dX6_value_93 : decode cX6_value 93 = .ok (.iconst 1, 1) := by decide +kernel
set_option maxRecDepth 100000 in
theorem dX6_value_94 : decode cX6_value 94 = .ok (.goto 17, 3) := by decide +kernel
set_option maxRecDepth 100000 in
theorem dX6_value_97 : decode cX6_value 97 = .ok (.lload 4, 2) := by decide +kernel
set_option maxRecDepth 100000 in
theorem dX6_value_99 : decode cX6_value 99 = .ok (.ldc2_w 247, 3) := by decide +kernel
set_option maxRecDepth 100000 in
theorem dX6_value_102 : decode cX6_value 102 = .ok (.lcmp, 1) := by decide +kernel
set_option maxRecDepth 100000 in
theorem dX6_value_103 : decode cX6_value 103 = .ok (.ifCond .ne 7, 3) := by decide +kernel
set_option maxRecDepth 100000 in
theorem dX6_value_106 : decode cX6_value 106 = .ok (.iconst 2, 1) := by decide +kernel
set_option maxRecDepth 100000 in
theorem dX6_value_107 : decode cX6_value 107 = .ok (.goto 4, 3) := by decide +kernel
set_option maxRecDepth 100000 in
theorem dX6_value_110 : decode cX6_value 110 = .ok (.iconst 0, 1) := by decide +kernel
set_option maxRecDepth 100000 in
theorem dX6_value_111 : decode cX6_value 111 = .ok (.ireturn, 1) := by decide +kernel
set_option maxRecDepth 100000 in
theorem dX6_value_112 : decode cX6_value 112 = .ok (.lload 4, 2) := by decide +kernel
set_option maxRecDepth 100000 in
theorem dX6_value_114 : decode cX6_value 114 = .ok (.iload_n 3, 1) := by decide +kernel
set_option maxRecDepth 100000 in
theorem dX6_value_115 : decode cX6_value 115 = .ok (.invokestatic 213, 3) := by decide +kernel
set_option maxRecDepth 100000 in
theorem dX6_value_118 : decode cX6_value 118 = .ok (.ireturn, 1) := by decide +kernel
set_option maxRecDepth 100000 in
theorem dX6_range_0 : decode cX6_range 0 = .ok (.aload_n 0, 1) := by decide +kernel
set_option maxRecDepth 100000 in
theorem dX6_range_1 : decode cX6_range 1 = .ok (.iload_n 1, 1) := by decide +kernel
set_option maxRecDepth 100000 in
theorem dX6_range_2 : decode cX6_range 2 = .ok (.invokevirtual 59, 3) := by decide +kernel
set_option maxRecDepth 100000 in
theorem dX6_range_5 : decode cX6_range 5 = .ok (.ifCond .eq 11, 3) := by decide +kernel
set_option maxRecDepth 100000 in
theorem dX6_range_8 : decode cX6_range 8 = .ok (.aload_n 0, 1) := by decide +kernel
set_option maxRecDepth 100000 in
theorem dX6_range_9 : decode cX6_range 9 = .ok (.iload_n 2, 1) := by decide +kernel
set_option maxRecDepth 100000 in
theorem dX6_range_10 : decode cX6_range 10 = .ok (.invokevirtual 134, 3) := by decide +kernel
set_option maxRecDepth 100000 in
theorem dX6_range_13 : decode cX6_range 13 = .ok (.ifCond .ne 12, 3) := by decide +kernel
set_option maxRecDepth 100000 in
theorem dX6_range_16 : decode cX6_range 16 = .ok (.ldc 225, 2) := by decide +kernel
set_option maxRecDepth 100000 in
theorem dX6_range_18 : decode cX6_range 18 = .ok (.aload_n 0, 1) := by decide +kernel
set_option maxRecDepth 100000 in
theorem dX6_range_19 : decode cX6_range 19 = .ok (.iconst (-1), 1) := by decide +kernel
set_option maxRecDepth 100000 in
theorem dX6_range_20 : decode cX6_range 20 = .ok (.invokevirtual 55, 3) := by decide +kernel
set_option maxRecDepth 100000 in
theorem dX6_range_23 : decode cX6_range 23 = .ok (.isub, 1) := by decide +kernel
set_option maxRecDepth 100000 in
theorem dX6_range_24 : decode cX6_range 24 = .ok (.ireturn, 1) := by decide +kernel
set_option maxRecDepth 100000 in
theorem dX6_range_25 : decode cX6_range 25 = .ok (.iload_n 3, 1) := by decide +kernel
set_option maxRecDepth 100000 in
theorem dX6_range_26 : decode cX6_range 26 = .ok (.ifCond .lt 8, 3) := by decide +kernel
set_option maxRecDepth 100000 in
theorem dX6_range_29 : decode cX6_range 29 = .ok (.iload_n 3, 1) := by decide +kernel
set_option maxRecDepth 100000 in
theorem dX6_range_30 : decode cX6_range 30 = .ok (.iconst 4, 1) := by decide +kernel
set_option maxRecDepth 100000 in
theorem dX6_range_31 : decode cX6_range 31 = .ok (.if_icmp .le 13, 3) := by decide +kernel
set_option maxRecDepth 100000 in
theorem dX6_range_34 : decode cX6_range 34 = .ok (.ldc 225, 2) := by decide +kernel
set_option maxRecDepth 100000 in
theorem dX6_range_36 : decode cX6_range 36 = .ok (.aload_n 0, 1) := by decide +kernel
set_option maxRecDepth 100000 in
theorem dX6_range_37 : decode cX6_range 37 = .ok (.bipush (-2), 2) := by decide +kernel
set_option maxRecDepth 100000 in
theorem dX6_range_39 : decode cX6_range 39 = .ok (.invokevirtual 55, 3) := by decide +kernel
set_option maxRecDepth 100000 in
theorem dX6_range_42 : decode cX6_range 42 = .ok (.isub, 1) := by decide +kernel
set_option maxRecDepth 100000 in
theorem dX6_range_43 : decode cX6_range 43 = .ok (.ireturn, 1) := by decide +kernel
set_option maxRecDepth 100000 in
theorem dX6_range_44 : decode cX6_range 44 = .ok (.aload_n 0, 1) := by decide +kernel
set_option maxRecDepth 100000 in
theorem dX6_range_45 : decode cX6_range 45 = .ok (.iload_n 1, 1) := by decide +kernel
set_option maxRecDepth 100000 in
theorem dX6_range_46 : decode cX6_range 46 = .ok (.invokevirtual 249, 3) := by decide +kernel
set_option maxRecDepth 100000 in
theorem dX6_range_49 : decode cX6_range 49 = .ok (.aload_n 0, 1) := by decide +kernel
set_option maxRecDepth 100000 in
theorem dX6_range_50 : decode cX6_range 50 = .ok (.aload_n 0, 1) := by decide +kernel
set_option maxRecDepth 100000 in
theorem dX6_range_51 : decode cX6_range 51 = .ok (.getfield 42, 3) := by decide +kernel
set_option maxRecDepth 100000 in
theorem dX6_range_54 : decode cX6_range 54 = .ok (.iload_n 2, 1) := by decide +kernel
set_option maxRecDepth 100000 in
theorem dX6_range_55 : decode cX6_range 55 = .ok (.invokevirtual 140, 3) := by decide +kernel
set_option maxRecDepth 100000 in
theorem dX6_range_58 : decode cX6_range 58 = .ok (.iand, 1) := by decide +kernel
set_option maxRecDepth 100000 in
theorem dX6_range_59 : decode cX6_range 59 = .ok (.istore 4, 2) := by decide +kernel
set_option maxRecDepth 100000 in
theorem dX6_range_61 : decode cX6_range 61 = .ok (.iload 4, 2) := by decide +kernel
set_option maxRecDepth 100000 in
theorem dX6_range_63 : decode cX6_range 63 = .ok (.invokestatic 252, 3) := by decide +kernel
set_option maxRecDepth 100000 in
theorem dX6_range_66 : decode cX6_range 66 = .ok (.istore 5, 2) := by decide +kernel
set_option maxRecDepth 100000 in
theorem dX6_range_68 : decode cX6_range 68 = .ok (.iload_n 3, 1) := by decide +kernel
set_option maxRecDepth 100000 in
theorem dX6_range_69 : decode cX6_range 69 = .ok (.iconst 4, 1) := by decide +kernel
set_option maxRecDepth 100000 in
theorem dX6_range_70 : decode cX6_range 70 = .ok (.if_icmp .ne 6, 3) := by decide +kernel
set_option maxRecDepth 100000 in
theorem dX6_range_73 : decode cX6_range 73 = .ok (.iload 5, 2) := by decide +kernel
set_option maxRecDepth 100000 in
theorem dX6_range_75 : decode cX6_range 75 = .ok (.ireturn, 1) := by decide +kernel
set_option maxRecDepth 100000 in
theorem dX6_range_76 : decode cX6_range 76 = .ok (.aload_n 0, 1) := by decide +kernel
set_option maxRecDepth 100000 in
theorem dX6_range_77 : decode cX6_range 77 = .ok (.getfield 42, 3) := by decide +kernel
set_option maxRecDepth 100000 in
theorem dX6_range_80 : decode cX6_range 80 = .ok (.getfield 257, 3) := by decide +kernel
set_option maxRecDepth 100000 in
theorem dX6_range_83 : decode cX6_range 83 = .ok (.ifCond .eq 19, 3) := by decide +kernel
set_option maxRecDepth 100000 in
theorem dX6_range_86 : decode cX6_range 86 = .ok (.iload 5, 2) := by decide +kernel
set_option maxRecDepth 100000 in
theorem dX6_range_88 : decode cX6_range 88 = .ok (.iconst 3, 1) := by decide +kernel
set_option maxRecDepth 100000 in
theorem dX6_range_89 : decode cX6_range 89 = .ok (.if_icmp .le 13, 3) := by decide +kernel
set_option maxRecDepth 100000 in
theorem dX6_range_92 : decode cX6_range 92 = .ok (.ldc 225, 2) := by decide +kernel
set_option maxRecDepth 100000 in
theorem dX6_range_94 : decode cX6_range 94 = .ok (.aload_n 0, 1) := by decide +kernel
set_option maxRecDepth 100000 in
theorem dX6_range_95 : decode cX6_range 95 = .ok (.bipush (-3), 2) := by decide +kernel
set_option maxRecDepth 100000 in
theorem dX6_range_97 : decode cX6_range 97 = .ok (.invokevirtual 55, 3) := by decide +kernel
set_option maxRecDepth 100000 in
theorem dX6_range_100 : decode cX6_range 100 = .ok (.isub, 1) := by decide +kernel
set_option maxRecDepth 100000 in
theorem dX6_range_101 : decode cX6_range 101 = .ok (.ireturn, 1) := by decide +kernel
set_option maxRecDepth 100000 in
theorem dX6_range_102 : decode cX6_range 102 = .ok (.aload_n 0, 1) := by decide +kernel
set_option maxRecDepth 100000 in
theorem dX6_range_103 : decode cX6_range 103 = .ok (.iload_n 1, 1) := by decide +kernel
set_option maxRecDepth 100000 in
theorem dX6_range_104 : decode cX6_range 104 = .ok (.invokevirtual 226, 3) := by decide +kernel
set_option maxRecDepth 100000 in
theorem dX6_range_107 : decode cX6_range 107 = .ok (.aload_n 0, 1) := by decide +kernel
set_option maxRecDepth 100000 in
theorem dX6_range_108 : decode cX6_range 108 = .ok (.getfield 42, 3) := by decide +kernel
set_option maxRecDepth 100000 in
theorem dX6_range_111 : decode cX6_range 111 = .ok (.getfield 257, 3) := by decide +kernel
set_option maxRecDepth 100000 in
theorem dX6_range_114 : decode cX6_range 114 = .ok (.ifCond .eq 20, 3) := by decide +kernel
set_option maxRecDepth 100000 in
theorem dX6_range_117 : decode cX6_range 117 = .ok (.aload_n 0, 1) := by decide +kernel
set_option maxRecDepth 100000 in
theorem dX6_range_118 : decode cX6_range 118 = .ok (.getfield 35, 3) := by decide +kernel
set_option maxRecDepth 100000 in
theorem dX6_range_121 : decode cX6_range 121 = .ok (.aload_n 0, 1) := by decide +kernel
set_option maxRecDepth 100000 in
theorem dX6_range_122 : decode cX6_range 122 = .ok (.getfield 42, 3) := by decide +kernel
set_option maxRecDepth 100000 in
theorem dX6_range_125 : decode cX6_range 125 = .ok (.iload_n 2, 1) := by decide +kernel
set_option maxRecDepth 100000 in
theorem dX6_range_126 : decode cX6_range 126 = .ok (.iload 4, 2) := by decide +kernel
set_option maxRecDepth 100000 in
theorem dX6_range_128 : decode cX6_range 128 = .ok (.invokevirtual 260, 3) := by decide +kernel
set_option maxRecDepth 100000 in
theorem dX6_range_131 : decode cX6_range 131 = .ok (.goto 17, 3) := by decide +kernel
set_option maxRecDepth 100000 in
theorem dX6_range_134 : decode cX6_range 134 = .ok (.aload_n 0, 1) := by decide +kernel
set_option maxRecDepth 100000 in
theorem dX6_range_135 : decode cX6_range 135 = .ok (.getfield 35, 3) := by decide +kernel
set_option maxRecDepth 100000 in
theorem dX6_range_138 : decode cX6_range 138 = .ok (.aload_n 0, 1) := by decide +kernel
set_option maxRecDepth 100000 in
theorem dX6_range_139 : decode cX6_range 139 = .ok (.getfield 42, 3) := by decide +kernel
set_option maxRecDepth 100000 in
theorem dX6_range_142 : decode cX6_range 142 = .ok (.iload_n 2, 1) := by decide +kernel
set_option maxRecDepth 100000 in
theorem dX6_range_143 : decode cX6_range 143 = .ok (.iload 4, 2) := by decide +kernel
set_option maxRecDepth 100000 in
theorem dX6_range_145 : decode cX6_range 145 = .ok (.invokevirtual 263, 3) := by decide +kernel
set_option maxRecDepth 100000 in
theorem dX6_range_148 : decode cX6_range 148 = .ok (.aload_n 0, 1) := by decide +kernel
set_option maxRecDepth 100000 in
theorem dX6_range_149 : decode cX6_range 149 = .ok (.getfield 35, 3) := by decide +kernel
set_option maxRecDepth 100000 in
theorem dX6_range_152 : decode cX6_range 152 = .ok (.getfield 266, 3) := by decide +kernel
set_option maxRecDepth 100000 in
theorem dX6_range_155 : decode cX6_range 155 = .ok (.invokestatic 241, 3) := by decide +kernel
set_option maxRecDepth 100000 in
theorem dX6_range_158 : decode cX6_range 158 = .ok (.ifCond .ne 13, 3) := by decide +kernel
set_option maxRecDepth 100000 in
theorem dX6_range_161 : decode cX6_range 161 = .ok (.ldc 225, 2) := by decide +kernel
set_option maxRecDepth 100000 in
theorem dX6_range_163 : decode cX6_range 163 = .ok (.aload_n 0, 1) := by decide +kernel
set_option maxRecDepth 100000 in
theorem dX6_range_164 : decode cX6_range 164 = .ok (.bipush (-3), 2) := by decide +kernel
set_option maxRecDepth 100000 in
theorem dX6_range_166 : decode cX6_range 166 = .ok (.invokevirtual 55, 3) := by decide +kernel
set_option maxRecDepth 100000 in
theorem dX6_range_169 : decode cX6_range 169 = .ok (.isub, 1) := by decide +kernel
set_option maxRecDepth 100000 in
theorem dX6_range_170 : decode cX6_range 170 = .ok (.ireturn, 1) := by decide +kernel
set_option maxRecDepth 100000 in
theorem dX6_range_171 : decode cX6_range 171 = .ok (.iload_n 3, 1) := by decide +kernel
set_option maxRecDepth 100000 in
theorem dX6_range_172 : decode cX6_range 172 = .ok (.iconst 2, 1) := by decide +kernel
set_option maxRecDepth 100000 in
theorem dX6_range_173 : decode cX6_range 173 = .ok (.if_icmp .ge 13, 3) := by decide +kernel
set_option maxRecDepth 100000 in
theorem dX6_range_176 : decode cX6_range 176 = .ok (.aload_n 0, 1) := by decide +kernel
set_option maxRecDepth 100000 in
theorem dX6_range_177 : decode cX6_range 177 = .ok (.getfield 35, 3) := by decide +kernel
set_option maxRecDepth 100000 in
theorem dX6_range_180 : decode cX6_range 180 = .ok (.getfield 266, 3) := by decide +kernel
set_option maxRecDepth 100000 in
theorem dX6_range_183 : decode cX6_range 183 = .ok (.goto 10, 3) := by decide +kernel
set_option maxRecDepth 100000 in
theorem dX6_range_186 : decode cX6_range 186 = .ok (.aload_n 0, 1) := by decide +kernel
set_option maxRecDepth 100000 in
theorem dX6_range_187 : decode cX6_range 187 = .ok (.getfield 35, 3) := by decide +kernel
set_option maxRecDepth 100000 in
theorem dX6_range_190 : decode cX6_range 190 = .ok (.getfield 270, 3) := by decide +kernel
set_option maxRecDepth 100000 in
theorem dX6_range_193 : decode cX6_range 193 = .ok (.iload_n 3, 1) := by decide +kernel
set_option maxRecDepth 100000 in
theorem dX6_range_194 : decode cX6_range 194 = .ok (.iconst 1, 1) := by decide +kernel
set_option maxRecDepth 100000 in
theorem dX6_range_195 : decode cX6_range 195 = .ok (.iand, 1) := by decide +kernel
set_option maxRecDepth 100000 in
theorem dX6_range_196 : decode cX6_range 196 = .ok (.invokestatic 213, 3) := by decide +kernel
set_option maxRecDepth 100000 in
theorem dX6_range_199 : decode cX6_range 199 = .ok (.ireturn, 1) := by decide +kernel
set_option maxRecDepth 100000 in
theorem dX6_least_0 : decode cX6_least 0 = .ok (.aload_n 0, 1) := by decide +kernel
set_option maxRecDepth 100000 in
theorem dX6_least_1 : decode cX6_least 1 = .ok (.iload_n 3, 1) := by decide +kernel
set_option maxRecDepth 100000 in
theorem dX6_least_2 : decode cX6_least 2 = .ok (.invokevirtual 67, 3) := by decide +kernel
set_option maxRecDepth 100000 in
theorem dX6_least_5 : decode cX6_least 5 = .ok (.astore 5, 2) := by decide +kernel
set_option maxRecDepth 100000 in
theorem dX6_least_7 : decode cX6_least 7 = .ok (.aload_n 0, 1) := by decide +kernel
set_option maxRecDepth 100000 in
theorem dX6_least_8 : decode cX6_least 8 = .ok (.iload_n 1, 1) := by decide +kernel
set_option maxRecDepth 100000 in
theorem dX6_least_9 : decode cX6_least 9 = .ok (.iload_n 3, 1) := by decide +kernel
set_option maxRecDepth 100000 in
theorem dX6_least_10 : decode cX6_least 10 = .ok (.invokevirtual 83, 3) := by decide +kernel
set_option maxRecDepth 100000 in
theorem dX6_least_13 : decode cX6_least 13 = .ok (.astore 6, 2) := by decide +kernel
set_option maxRecDepth 100000 in
theorem dX6_least_15 : decode cX6_least 15 = .ok (.aload 5, 2) := by decide +kernel
set_option maxRecDepth 100000 in
theorem dX6_least_17 : decode cX6_least 17 = .ok (.ifnull 16, 3) := by decide +kernel
set_option maxRecDepth 100000 in
theorem dX6_least_20 : decode cX6_least 20 = .ok (.aload 6, 2) := by decide +kernel
set_option maxRecDepth 100000 in
theorem dX6_least_22 : decode cX6_least 22 = .ok (.ifnull 11, 3) := by decide +kernel
set_option maxRecDepth 100000 in
theorem dX6_least_25 : decode cX6_least 25 = .ok (.aload_n 0, 1) := by decide +kernel
set_option maxRecDepth 100000 in
theorem dX6_least_26 : decode cX6_least 26 = .ok (.iload_n 2, 1) := by decide +kernel
set_option maxRecDepth 100000 in
theorem dX6_least_27 : decode cX6_least 27 = .ok (.invokevirtual 134, 3) := by decide +kernel
set_option maxRecDepth 100000 in
theorem dX6_least_30 : decode cX6_least 30 = .ok (.ifCond .ne 9, 3) := by decide +kernel
set_option maxRecDepth 100000 in
theorem dX6_least_33 : decode cX6_least 33 = .ok (.aload_n 0, 1) := by decide +kernel
set_option maxRecDepth 100000 in
theorem dX6_least_34 : decode cX6_least 34 = .ok (.iconst (-1), 1) := by decide +kernel
set_option maxRecDepth 100000 in
theorem dX6_least_35 : decode cX6_least 35 = .ok (.invokevirtual 55, 3) := by decide +kernel
set_option maxRecDepth 100000 in
theorem dX6_least_38 : decode cX6_least 38 = .ok (.ireturn, 1) := by decide +kernel
set_option maxRecDepth 100000 in
theorem dX6_least_39 : decode cX6_least 39 = .ok (.aload 6, 2) := by decide +kernel
set_option maxRecDepth 100000 in
theorem dX6_least_41 : decode cX6_least 41 = .ok (.getfield 90, 3) := by decide +kernel
set_option maxRecDepth 100000 in
theorem dX6_least_44 : decode cX6_least 44 = .ok (.ifCond .ne 11, 3) := by decide +kernel
set_option maxRecDepth 100000 in
theorem dX6_least_47 : decode cX6_least 47 = .ok (.aload 6, 2) := by decide +kernel
set_option maxRecDepth 100000 in
theorem dX6_least_49 : decode cX6_least 49 = .ok (.invokevirtual 217, 3) := by decide +kernel
set_option maxRecDepth 100000 in
theorem dX6_least_52 : decode cX6_least 52 = .ok (.ifCond .eq 10, 3) := by decide +kernel
set_option maxRecDepth 100000 in
theorem dX6_least_55 : decode cX6_least 55 = .ok (.aload_n 0, 1) := by decide +kernel
set_option maxRecDepth 100000 in
theorem dX6_least_56 : decode cX6_least 56 = .ok (.bipush (-3), 2) := by decide +kernel
set_option maxRecDepth 100000 in
theorem dX6_least_58 : decode cX6_least 58 = .ok (.invokevirtual 55, 3) := by decide +kernel
set_option maxRecDepth 100000 in
theorem dX6_least_61 : decode cX6_least 61 = .ok (.ireturn, 1) := by decide +kernel
set_option maxRecDepth 100000 in
theorem dX6_least_62 : decode cX6_least 62 = .ok (.iload 4, 2) := by decide +kernel
set_option maxRecDepth 100000 in
theorem dX6_least_64 : decode cX6_least 64 = .ok (.ifCond .ge 10, 3) := by decide +kernel
set_option maxRecDepth 100000 in
theorem dX6_least_67 : decode cX6_least 67 = .ok (.aload_n 0, 1) := by decide +kernel
set_option maxRecDepth 100000 in
theorem dX6_least_68 : decode cX6_least 68 = .ok (.bipush (-4), 2) := by decide +kernel
set_option maxRecDepth 100000 in
theorem dX6_least_70 : decode cX6_least 70 = .ok (.invokevirtual 55, 3) := by decide +kernel
set_option maxRecDepth 100000 in
theorem dX6_least_73 : decode cX6_least 73 = .ok (.ireturn, 1) := by decide +kernel
set_option maxRecDepth 100000 in
theorem dX6_least_74 : decode cX6_least 74 = .ok (.iload 4, 2) := by decide +kernel
set_option maxRecDepth 100000 in
theorem dX6_least_76 : decode cX6_least 76 = .ok (.sipush 9999, 3) := by decide +kernel
set_option maxRecDepth 100000 in
theorem dX6_least_79 : decode cX6_least 79 = .ok (.if_icmp .le 10, 3) := by decide +kernel
set_option maxRecDepth 100000 in
theorem dX6_least_82 : decode cX6_least 82 = .ok (.aload_n 0, 1) := by decide +kernel
set_option maxRecDepth 100000 in
theorem dX6_least_83 : decode cX6_least 83 = .ok (.bipush (-6), 2) := by decide +kernel
set_option maxRecDepth 100000 in
theorem dX6_least_85 : decode cX6_least 85 = .ok (.invokevirtual 55, 3) := by decide +kernel
set_option maxRecDepth 100000 in
theorem dX6_least_88 : decode cX6_least 88 = .ok (.ireturn, 1) := by decide +kernel
set_option maxRecDepth 100000 in
theorem dX6_least_89 : decode cX6_least 89 = .ok (.aload_n 0, 1) := by decide +kernel
set_option maxRecDepth 100000 in
theorem dX6_least_90 : decode cX6_least 90 = .ok (.iload_n 1, 1) := by decide +kernel
set_option maxRecDepth 100000 in
theorem dX6_least_91 : decode cX6_least 91 = .ok (.invokevirtual 226, 3) := by decide +kernel
set_option maxRecDepth 100000 in
theorem dX6_least_94 : decode cX6_least 94 = .ok (.aload_n 0, 1) := by decide +kernel
set_option maxRecDepth 100000 in
theorem dX6_least_95 : decode cX6_least 95 = .ok (.getfield 35, 3) := by decide +kernel
set_option maxRecDepth 100000 in
theorem dX6_least_98 : decode cX6_least 98 = .ok (.aload_n 0, 1) := by decide +kernel
set_option maxRecDepth 100000 in
theorem dX6_least_99 : decode cX6_least 99 = .ok (.getfield 42, 3) := by decide +kernel
set_option maxRecDepth 100000 in
theorem dX6_least_102 : decode cX6_least 102 = .ok (.iload_n 2, 1) := by decide +kernel
set_option maxRecDepth 100000 in
theorem dX6_least_103 : decode cX6_least 103 = .ok (.iload_n 3, 1) := by decide +kernel
set_option maxRecDepth 100000 in
theorem dX6_least_104 : decode cX6_least 104 = .ok (.iload 4, 2) := by decide +kernel
set_option maxRecDepth 100000 in
theorem dX6_least_106 : decode cX6_least 106 = .ok (.invokevirtual 273, 3) := by decide +kernel
set_option maxRecDepth 100000 in
theorem dX6_least_109 : decode cX6_least 109 = .ok (.istore 7, 2) := by decide +kernel
set_option maxRecDepth 100000 in
theorem dX6_least_111 : decode cX6_least 111 = .ok (.iload 7, 2) := by decide +kernel
set_option maxRecDepth 100000 in
theorem dX6_least_113 : decode cX6_least 113 = .ok (.ifCond .ge 8, 3) := by decide +kernel
set_option maxRecDepth 100000 in
theorem dX6_least_116 : decode cX6_least 116 = .ok (.bipush (-9), 2) := by decide +kernel
set_option maxRecDepth 100000 in
theorem dX6_least_118 : decode cX6_least 118 = .ok (.goto 5, 3) := by decide +kernel
set_option maxRecDepth 100000 in
theorem dX6_least_121 : decode cX6_least 121 = .ok (.iload 7, 2) := by decide +kernel
set_option maxRecDepth 100000 in
theorem dX6_least_123 : decode cX6_least 123 = .ok (.ireturn, 1) := by decide +kernel
set_option maxRecDepth 100000 in
theorem dX6_count_0 : decode cX6_count 0 = .ok (.iload_n 1, 1) := by decide +kernel
set_option maxRecDepth 100000 in
theorem dX6_count_1 : decode cX6_count 1 = .ok (.tableswitch 158 0 18 #[91, 96, 101, 109, 114, 122, 127, 132, 137, 158, 158, 158, 158, 158, 158, 158, 158, 158, 153], 91) := by decide +kernel
set_option maxRecDepth 100000 in
theorem dX6_count_92 : decode cX6_count 92 = .ok (.aload_n 0, 1) := by decide +kernel
set_option maxRecDepth 100000 in
theorem dX6_count_93 : decode cX6_count 93 = .ok (.getfield 51, 3) := by decide +kernel
set_option maxRecDepth 100000 in
theorem dX6_count_96 : decode cX6_count 96 = .ok (.ireturn, 1) := by decide +kernel
set_option maxRecDepth 100000 in
theorem dX6_count_97 : decode cX6_count 97 = .ok (.aload_n 0, 1) := by decide +kernel
set_option maxRecDepth 100000 in
theorem dX6_count_98 : decode cX6_count 98 = .ok (.getfield 64, 3) := by decide +kernel
set_option maxRecDepth 100000 in
theorem dX6_count_101 : decode cX6_count 101 = .ok (.ireturn, 1) := by decide +kernel
set_option maxRecDepth 100000 in
theorem dX6_count_102 : decode cX6_count 102 = .ok (.aload_n 0, 1) := by decide +kernel
set_option maxRecDepth 100000 in
theorem dX6_count_103 : decode cX6_count 103 = .ok (.getfield 42, 3) := by decide +kernel
set_option maxRecDepth 100000 in
theorem dX6_count_106 : decode cX6_count 106 = .ok (.getfield 122, 3) := by decide +kernel
set_option maxRecDepth 100000 in
theorem dX6_count_109 : decode cX6_count 109 = .ok (.ireturn, 1) := by decide +kernel
set_option maxRecDepth 100000 in
theorem dX6_count_110 : decode cX6_count 110 = .ok (.aload_n 0, 1) := by decide +kernel
set_option maxRecDepth 100000 in
theorem dX6_count_111 : decode cX6_count 111 = .ok (.getfield 94, 3) := by decide +kernel
set_option maxRecDepth 100000 in
theorem dX6_count_114 : decode cX6_count 114 = .ok (.ireturn, 1) := by decide +kernel
set_option maxRecDepth 100000 in
theorem dX6_count_115 : decode cX6_count 115 = .ok (.aload_n 0, 1) := by decide +kernel
set_option maxRecDepth 100000 in
theorem dX6_count_116 : decode cX6_count 116 = .ok (.getfield 28, 3) := by decide +kernel
set_option maxRecDepth 100000 in
theorem dX6_count_119 : decode cX6_count 119 = .ok (.getfield 97, 3) := by decide +kernel
set_option maxRecDepth 100000 in
theorem dX6_count_122 : decode cX6_count 122 = .ok (.ireturn, 1) := by decide +kernel
set_option maxRecDepth 100000 in
theorem dX6_count_123 : decode cX6_count 123 = .ok (.aload_n 0, 1) := by decide +kernel
set_option maxRecDepth 100000 in
theorem dX6_count_124 : decode cX6_count 124 = .ok (.getfield 167, 3) := by decide +kernel
set_option maxRecDepth 100000 in
theorem dX6_count_127 : decode cX6_count 127 = .ok (.ireturn, 1) := by decide +kernel
set_option maxRecDepth 100000 in
theorem dX6_count_128 : decode cX6_count 128 = .ok (.aload_n 0, 1) := by decide +kernel
set_option maxRecDepth 100000 in
theorem dX6_count_129 : decode cX6_count 129 = .ok (.getfield 183, 3) := by decide +kernel
set_option maxRecDepth 100000 in
theorem dX6_count_132 : decode cX6_count 132 = .ok (.ireturn, 1) := by decide +kernel
set_option maxRecDepth 100000 in
theorem dX6_count_133 : decode cX6_count 133 = .ok (.aload_n 0, 1) := by decide +kernel
set_option maxRecDepth 100000 in
theorem dX6_count_134 : decode cX6_count 134 = .ok (.getfield 206, 3) := by decide +kernel
set_option maxRecDepth 100000 in
theorem dX6_count_137 : decode cX6_count 137 = .ok (.ireturn, 1) := by decide +kernel
set_option maxRecDepth 100000 in
theorem dX6_count_138 : decode cX6_count 138 = .ok (.aload_n 0, 1) := by decide +kernel
set_option maxRecDepth 100000 in
theorem dX6_count_139 : decode cX6_count 139 = .ok (.getfield 42, 3) := by decide +kernel
set_option maxRecDepth 100000 in
theorem dX6_count_142 : decode cX6_count 142 = .ok (.getfield 257, 3) := by decide +kernel
set_option maxRecDepth 100000 in
theorem dX6_count_145 : decode cX6_count 145 = .ok (.ifCond .eq 7, 3) := by decide +kernel
set_option maxRecDepth 100000 in
theorem dX6_count_148 : decode cX6_count 148 = .ok (.iconst 1, 1) := by decide +kernel
set_option maxRecDepth 100000 in
theorem dX6_count_149 : decode cX6_count 149 = .ok (.goto 4, 3) := by decide +kernel
set_option maxRecDepth 100000 in
theorem dX6_count_152 : decode cX6_count 152 = .ok (.iconst 0, 1) := by decide +kernel
set_option maxRecDepth 100000 in
theorem dX6_count_153 : decode cX6_count 153 = .ok (.ireturn, 1) := by decide +kernel
set_option maxRecDepth 100000 in
theorem dX6_count_154 : decode cX6_count 154 = .ok (.aload_n 0, 1) := by decide +kernel
set_option maxRecDepth 100000 in
theorem dX6_count_155 : decode cX6_count 155 = .ok (.getfield 277, 3) := by decide +kernel
set_option maxRecDepth 100000 in
theorem dX6_count_158 : decode cX6_count 158 = .ok (.ireturn, 1) := by decide +kernel
set_option maxRecDepth 100000 in
theorem dX6_count_159 : decode cX6_count 159 = .ok (.iload_n 1, 1) := by decide +kernel
set_option maxRecDepth 100000 in
theorem dX6_count_160 : decode cX6_count 160 = .ok (.bipush 10, 2) := by decide +kernel
set_option maxRecDepth 100000 in
theorem dX6_count_162 : decode cX6_count 162 = .ok (.isub, 1) := by decide +kernel
set_option maxRecDepth 100000 in
theorem dX6_count_163 : decode cX6_count 163 = .ok (.istore_n 2, 1) := by decide +kernel
set_option maxRecDepth 100000 in
theorem dX6_count_164 : decode cX6_count 164 = .ok (.iload_n 1, 1) := by decide +kernel
set_option maxRecDepth 100000 in
theorem dX6_count_165 : decode cX6_count 165 = .ok (.bipush 10, 2) := by decide +kernel
set_option maxRecDepth 100000 in
theorem dX6_count_167 : decode cX6_count 167 = .ok (.if_icmp .le 21, 3) := by decide +kernel
set_option maxRecDepth 100000 in
theorem dX6_count_170 : decode cX6_count 170 = .ok (.iload_n 2, 1) := by decide +kernel
set_option maxRecDepth 100000 in
theorem dX6_count_171 : decode cX6_count 171 = .ok (.aload_n 0, 1) := by decide +kernel
set_option maxRecDepth 100000 in
theorem dX6_count_172 : decode cX6_count 172 = .ok (.getfield 46, 3) := by decide +kernel
set_option maxRecDepth 100000 in
theorem dX6_count_175 : decode cX6_count 175 = .ok (.arraylength, 1) := by decide +kernel
set_option maxRecDepth 100000 in
theorem dX6_count_176 : decode cX6_count 176 = .ok (.if_icmp .ge 12, 3) := by decide +kernel
set_option maxRecDepth 100000 in
theorem dX6_count_179 : decode cX6_count 179 = .ok (.aload_n 0, 1) := by decide +kernel
set_option maxRecDepth 100000 in
theorem dX6_count_180 : decode cX6_count 180 = .ok (.getfield 46, 3) := by decide +kernel
set_option maxRecDepth 100000 in
theorem dX6_count_183 : decode cX6_count 183 = .ok (.iload_n 2, 1) := by decide +kernel
set_option maxRecDepth 100000 in
theorem dX6_count_184 : decode cX6_count 184 = .ok (.iaload, 1) := by decide +kernel
set_option maxRecDepth 100000 in
theorem dX6_count_185 : decode cX6_count 185 = .ok (.goto 5, 3) := by decide +kernel
set_option maxRecDepth 100000 in
theorem dX6_count_188 : decode cX6_count 188 = .ok (.bipush (-9), 2) := by decide +kernel
set_option maxRecDepth 100000 in
theorem dX6_count_190 : decode cX6_count 190 = .ok (.ireturn, 1) := by decide +kernel
set_option maxRecDepth 100000 in
theorem dX6_refuse_0 : decode cX6_refuse 0 = .ok (.iload_n 1, 1) := by decide +kernel
set_option maxRecDepth 100000 in
theorem dX6_refuse_1 : decode cX6_refuse 1 = .ok (.ineg, 1) := by decide +kernel
set_option maxRecDepth 100000 in
theorem dX6_refuse_2 : decode cX6_refuse 2 = .ok (.istore_n 2, 1) := by decide +kernel
set_option maxRecDepth 100000 in
theorem dX6_refuse_3 : decode cX6_refuse 3 = .ok (.iload_n 2, 1) := by decide +kernel
set_option maxRecDepth 100000 in
theorem dX6_refuse_4 : decode cX6_refuse 4 = .ok (.ifCond .lt 22, 3) := by decide +kernel
set_option maxRecDepth 100000 in
theorem dX6_refuse_7 : decode cX6_refuse 7 = .ok (.iload_n 2, 1) := by decide +kernel
set_option maxRecDepth 100000 in
theorem dX6_refuse_8 : decode cX6_refuse 8 = .ok (.aload_n 0, 1) := by decide +kernel
set_option maxRecDepth 100000 in
theorem dX6_refuse_9 : decode cX6_refuse 9 = .ok (.getfield 46, 3) := by decide +kernel
set_option maxRecDepth 100000 in
theorem dX6_refuse_12 : decode cX6_refuse 12 = .ok (.arraylength, 1) := by decide +kernel
set_option maxRecDepth 100000 in
theorem dX6_refuse_13 : decode cX6_refuse 13 = .ok (.if_icmp .ge 13, 3) := by decide +kernel
set_option maxRecDepth 100000 in
theorem dX6_refuse_16 : decode cX6_refuse 16 = .ok (.aload_n 0, 1) := by decide +kernel
set_option maxRecDepth 100000 in
theorem dX6_refuse_17 : decode cX6_refuse 17 = .ok (.getfield 46, 3) := by decide +kernel
set_option maxRecDepth 100000 in
theorem dX6_refuse_20 : decode cX6_refuse 20 = .ok (.iload_n 2, 1) := by decide +kernel
set_option maxRecDepth 100000 in
theorem dX6_refuse_21 : decode cX6_refuse 21 = .ok (.dup2, 1) := by decide +kernel
set_option maxRecDepth 100000 in
theorem dX6_refuse_22 : decode cX6_refuse 22 = .ok (.iaload, 1) := by decide +kernel
set_option maxRecDepth 100000 in
theorem dX6_refuse_23 : decode cX6_refuse 23 = .ok (.iconst 1, 1) := by decide +kernel
set_option maxRecDepth 100000 in
theorem dX6_refuse_24 : decode cX6_refuse 24 = .ok (.iadd, 1) := by decide +kernel
set_option maxRecDepth 100000 in
theorem dX6_refuse_25 : decode cX6_refuse 25 = .ok (.iastore, 1) := by decide +kernel
set_option maxRecDepth 100000 in
theorem dX6_refuse_26 : decode cX6_refuse 26 = .ok (.iload_n 1, 1) := by decide +kernel
set_option maxRecDepth 100000 in
theorem dX6_refuse_27 : decode cX6_refuse 27 = .ok (.ireturn, 1) := by decide +kernel
set_option maxRecDepth 100000 in
theorem dX6_refuseText_0 : decode cX6_refuseText 0 = .ok (.aload_n 0, 1) := by decide +kernel
set_option maxRecDepth 100000 in
theorem dX6_refuseText_1 : decode cX6_refuseText 1 = .ok (.dup, 1) := by decide +kernel
set_option maxRecDepth 100000 in
theorem dX6_refuseText_2 : decode cX6_refuseText 2 = .ok (.getfield 277, 3) := by decide +kernel
set_option maxRecDepth 100000 in
theorem dX6_refuseText_5 : decode cX6_refuseText 5 = .ok (.iconst 1, 1) := by decide +kernel
set_option maxRecDepth 100000 in
theorem dX6_refuseText_6 : decode cX6_refuseText 6 = .ok (.iadd, 1) := by decide +kernel
set_option maxRecDepth 100000 in
theorem dX6_refuseText_7 : decode cX6_refuseText 7 = .ok (.putfield 277, 3) := by decide +kernel
set_option maxRecDepth 100000 in
theorem dX6_refuseText_10 : decode cX6_refuseText 10 = .ok (.iload_n 1, 1) := by decide +kernel
set_option maxRecDepth 100000 in
theorem dX6_refuseText_11 : decode cX6_refuseText 11 = .ok (.ireturn, 1) := by decide +kernel
set_option maxRecDepth 100000 in
theorem dX6_isPupil_0 : decode cX6_isPupil 0 = .ok (.iload_n 1, 1) := by decide +kernel
set_option maxRecDepth 100000 in
theorem dX6_isPupil_1 : decode cX6_isPupil 1 = .ok (.ifCond .lt 24, 3) := by decide +kernel
set_option maxRecDepth 100000 in
theorem dX6_isPupil_4 : decode cX6_isPupil 4 = .ok (.iload_n 1, 1) := by decide +kernel
set_option maxRecDepth 100000 in
theorem dX6_isPupil_5 : decode cX6_isPupil 5 = .ok (.aload_n 0, 1) := by decide +kernel
set_option maxRecDepth 100000 in
theorem dX6_isPupil_6 : decode cX6_isPupil 6 = .ok (.getfield 51, 3) := by decide +kernel
set_option maxRecDepth 100000 in
theorem dX6_isPupil_9 : decode cX6_isPupil 9 = .ok (.if_icmp .ge 16, 3) := by decide +kernel
set_option maxRecDepth 100000 in
theorem dX6_isPupil_12 : decode cX6_isPupil 12 = .ok (.iload_n 1, 1) := by decide +kernel
set_option maxRecDepth 100000 in
theorem dX6_isPupil_13 : decode cX6_isPupil 13 = .ok (.aload_n 0, 1) := by decide +kernel
set_option maxRecDepth 100000 in
theorem dX6_isPupil_14 : decode cX6_isPupil 14 = .ok (.getfield 9, 3) := by decide +kernel
set_option maxRecDepth 100000 in
theorem dX6_isPupil_17 : decode cX6_isPupil 17 = .ok (.arraylength, 1) := by decide +kernel
set_option maxRecDepth 100000 in
theorem dX6_isPupil_18 : decode cX6_isPupil 18 = .ok (.if_icmp .ge 7, 3) := by decide +kernel
set_option maxRecDepth 100000 in
theorem dX6_isPupil_21 : decode cX6_isPupil 21 = .ok (.iconst 1, 1) := by decide +kernel
set_option maxRecDepth 100000 in
theorem dX6_isPupil_22 : decode cX6_isPupil 22 = .ok (.goto 4, 3) := by decide +kernel
set_option maxRecDepth 100000 in
theorem dX6_isPupil_25 : decode cX6_isPupil 25 = .ok (.iconst 0, 1) := by decide +kernel
set_option maxRecDepth 100000 in
theorem dX6_isPupil_26 : decode cX6_isPupil 26 = .ok (.ireturn, 1) := by decide +kernel
set_option maxRecDepth 100000 in
theorem dX6_isRule_0 : decode cX6_isRule 0 = .ok (.iload_n 1, 1) := by decide +kernel
set_option maxRecDepth 100000 in
theorem dX6_isRule_1 : decode cX6_isRule 1 = .ok (.ifCond .lt 30, 3) := by decide +kernel
set_option maxRecDepth 100000 in
theorem dX6_isRule_4 : decode cX6_isRule 4 = .ok (.iload_n 1, 1) := by decide +kernel
set_option maxRecDepth 100000 in
theorem dX6_isRule_5 : decode cX6_isRule 5 = .ok (.aload_n 0, 1) := by decide +kernel
set_option maxRecDepth 100000 in
theorem dX6_isRule_6 : decode cX6_isRule 6 = .ok (.getfield 42, 3) := by decide +kernel
set_option maxRecDepth 100000 in
theorem dX6_isRule_9 : decode cX6_isRule 9 = .ok (.getfield 122, 3) := by decide +kernel
set_option maxRecDepth 100000 in
theorem dX6_isRule_12 : decode cX6_isRule 12 = .ok (.if_icmp .ge 19, 3) := by decide +kernel
set_option maxRecDepth 100000 in
theorem dX6_isRule_15 : decode cX6_isRule 15 = .ok (.iload_n 1, 1) := by decide +kernel
set_option maxRecDepth 100000 in
theorem dX6_isRule_16 : decode cX6_isRule 16 = .ok (.aload_n 0, 1) := by decide +kernel
set_option maxRecDepth 100000 in
theorem dX6_isRule_17 : decode cX6_isRule 17 = .ok (.getfield 42, 3) := by decide +kernel
set_option maxRecDepth 100000 in
theorem dX6_isRule_20 : decode cX6_isRule 20 = .ok (.getfield 137, 3) := by decide +kernel
set_option maxRecDepth 100000 in
theorem dX6_isRule_23 : decode cX6_isRule 23 = .ok (.arraylength, 1) := by decide +kernel
set_option maxRecDepth 100000 in
theorem dX6_isRule_24 : decode cX6_isRule 24 = .ok (.if_icmp .ge 7, 3) := by decide +kernel
set_option maxRecDepth 100000 in
theorem dX6_isRule_27 : decode cX6_isRule 27 = .ok (.iconst 1, 1) := by decide +kernel
set_option maxRecDepth 100000 in
theorem dX6_isRule_28 : decode cX6_isRule 28 = .ok (.goto 4, 3) := by decide +kernel
set_option maxRecDepth 100000 in
theorem dX6_isRule_31 : decode cX6_isRule 31 = .ok (.iconst 0, 1) := by decide +kernel
set_option maxRecDepth 100000 in
theorem dX6_isRule_32 : decode cX6_isRule 32 = .ok (.ireturn, 1) := by decide +kernel
set_option maxRecDepth 100000 in
theorem dX6_workAt_0 : decode cX6_workAt 0 = .ok (.iload_n 1, 1) := by decide +kernel
set_option maxRecDepth 100000 in
theorem dX6_workAt_1 : decode cX6_workAt 1 = .ok (.ifCond .lt 29, 3) := by decide +kernel
set_option maxRecDepth 100000 in
theorem dX6_workAt_4 : decode cX6_workAt 4 = .ok (.iload_n 1, 1) := by decide +kernel
set_option maxRecDepth 100000 in
theorem dX6_workAt_5 : decode cX6_workAt 5 = .ok (.aload_n 0, 1) := by decide +kernel
set_option maxRecDepth 100000 in
theorem dX6_workAt_6 : decode cX6_workAt 6 = .ok (.getfield 64, 3) := by decide +kernel
set_option maxRecDepth 100000 in
theorem dX6_workAt_9 : decode cX6_workAt 9 = .ok (.if_icmp .ge 21, 3) := by decide +kernel
set_option maxRecDepth 100000 in
theorem dX6_workAt_12 : decode cX6_workAt 12 = .ok (.iload_n 1, 1) := by decide +kernel
set_option maxRecDepth 100000 in
theorem dX6_workAt_13 : decode cX6_workAt 13 = .ok (.aload_n 0, 1) := by decide +kernel
set_option maxRecDepth 100000 in
theorem dX6_workAt_14 : decode cX6_workAt 14 = .ok (.getfield 15, 3) := by decide +kernel
set_option maxRecDepth 100000 in
theorem dX6_workAt_17 : decode cX6_workAt 17 = .ok (.arraylength, 1) := by decide +kernel
set_option maxRecDepth 100000 in
theorem dX6_workAt_18 : decode cX6_workAt 18 = .ok (.if_icmp .ge 12, 3) := by decide +kernel
set_option maxRecDepth 100000 in
theorem dX6_workAt_21 : decode cX6_workAt 21 = .ok (.aload_n 0, 1) := by decide +kernel
set_option maxRecDepth 100000 in
theorem dX6_workAt_22 : decode cX6_workAt 22 = .ok (.getfield 15, 3) := by decide +kernel
set_option maxRecDepth 100000 in
theorem dX6_workAt_25 : decode cX6_workAt 25 = .ok (.iload_n 1, 1) := by decide +kernel
set_option maxRecDepth 100000 in
theorem dX6_workAt_26 : decode cX6_workAt 26 = .ok (.aaload, 1) := by decide +kernel
set_option maxRecDepth 100000 in
theorem dX6_workAt_27 : decode cX6_workAt 27 = .ok (.goto 4, 3) := by decide +kernel
set_option maxRecDepth 100000 in
theorem dX6_workAt_30 : decode cX6_workAt 30 = .ok (.aconst_null, 1) := by decide +kernel
set_option maxRecDepth 100000 in
theorem dX6_workAt_31 : decode cX6_workAt 31 = .ok (.areturn, 1) := by decide +kernel
set_option maxRecDepth 100000 in
theorem dX6_sheetOf_0 : decode cX6_sheetOf 0 = .ok (.aload_n 0, 1) := by decide +kernel
set_option maxRecDepth 100000 in
theorem dX6_sheetOf_1 : decode cX6_sheetOf 1 = .ok (.iload_n 1, 1) := by decide +kernel
set_option maxRecDepth 100000 in
theorem dX6_sheetOf_2 : decode cX6_sheetOf 2 = .ok (.invokevirtual 59, 3) := by decide +kernel
set_option maxRecDepth 100000 in
theorem dX6_sheetOf_5 : decode cX6_sheetOf 5 = .ok (.ifCond .eq 11, 3) := by decide +kernel
set_option maxRecDepth 100000 in
theorem dX6_sheetOf_8 : decode cX6_sheetOf 8 = .ok (.aload_n 0, 1) := by decide +kernel
set_option maxRecDepth 100000 in
theorem dX6_sheetOf_9 : decode cX6_sheetOf 9 = .ok (.iload_n 2, 1) := by decide +kernel
set_option maxRecDepth 100000 in
theorem dX6_sheetOf_10 : decode cX6_sheetOf 10 = .ok (.invokevirtual 67, 3) := by decide +kernel
set_option maxRecDepth 100000 in
theorem dX6_sheetOf_13 : decode cX6_sheetOf 13 = .ok (.ifnonnull 5, 3) := by decide +kernel
set_option maxRecDepth 100000 in
theorem dX6_sheetOf_16 : decode cX6_sheetOf 16 = .ok (.aconst_null, 1) := by decide +kernel
set_option maxRecDepth 100000 in
theorem dX6_sheetOf_17 : decode cX6_sheetOf 17 = .ok (.areturn, 1) := by decide +kernel
set_option maxRecDepth 100000 in
theorem dX6_sheetOf_18 : decode cX6_sheetOf 18 = .ok (.iload_n 1, 1) := by decide +kernel
set_option maxRecDepth 100000 in
theorem dX6_sheetOf_19 : decode cX6_sheetOf 19 = .ok (.bipush 10, 2) := by decide +kernel
set_option maxRecDepth 100000 in
theorem dX6_sheetOf_21 : decode cX6_sheetOf 21 = .ok (.imul, 1) := by decide +kernel
set_option maxRecDepth 100000 in
theorem dX6_sheetOf_22 : decode cX6_sheetOf 22 = .ok (.iload_n 2, 1) := by decide +kernel
set_option maxRecDepth 100000 in
theorem dX6_sheetOf_23 : decode cX6_sheetOf 23 = .ok (.iadd, 1) := by decide +kernel
set_option maxRecDepth 100000 in
theorem dX6_sheetOf_24 : decode cX6_sheetOf 24 = .ok (.istore_n 3, 1) := by decide +kernel
set_option maxRecDepth 100000 in
theorem dX6_sheetOf_25 : decode cX6_sheetOf 25 = .ok (.iload_n 3, 1) := by decide +kernel
set_option maxRecDepth 100000 in
theorem dX6_sheetOf_26 : decode cX6_sheetOf 26 = .ok (.ifCond .lt 21, 3) := by decide +kernel
set_option maxRecDepth 100000 in
theorem dX6_sheetOf_29 : decode cX6_sheetOf 29 = .ok (.iload_n 3, 1) := by decide +kernel
set_option maxRecDepth 100000 in
theorem dX6_sheetOf_30 : decode cX6_sheetOf 30 = .ok (.aload_n 0, 1) := by decide +kernel
set_option maxRecDepth 100000 in
theorem dX6_sheetOf_31 : decode cX6_sheetOf 31 = .ok (.getfield 21, 3) := by decide +kernel
set_option maxRecDepth 100000 in
theorem dX6_sheetOf_34 : decode cX6_sheetOf 34 = .ok (.arraylength, 1) := by decide +kernel
set_option maxRecDepth 100000 in
theorem dX6_sheetOf_35 : decode cX6_sheetOf 35 = .ok (.if_icmp .ge 12, 3) := by decide +kernel
set_option maxRecDepth 100000 in
theorem dX6_sheetOf_38 : decode cX6_sheetOf 38 = .ok (.aload_n 0, 1) := by decide +kernel
set_option maxRecDepth 100000 in
theorem dX6_sheetOf_39 : decode cX6_sheetOf 39 = .ok (.getfield 21, 3) := by decide +kernel
set_option maxRecDepth 100000 in
theorem dX6_sheetOf_42 : decode cX6_sheetOf 42 = .ok (.iload_n 3, 1) := by decide +kernel
set_option maxRecDepth 100000 in
theorem dX6_sheetOf_43 : decode cX6_sheetOf 43 = .ok (.aaload, 1) := by decide +kernel
set_option maxRecDepth 100000 in
theorem dX6_sheetOf_44 : decode cX6_sheetOf 44 = .ok (.goto 4, 3) := by decide +kernel
set_option maxRecDepth 100000 in
theorem dX6_sheetOf_47 : decode cX6_sheetOf 47 = .ok (.aconst_null, 1) := by decide +kernel
set_option maxRecDepth 100000 in
theorem dX6_sheetOf_48 : decode cX6_sheetOf 48 = .ok (.areturn, 1) := by decide +kernel
set_option maxRecDepth 100000 in
theorem dX6_bit_0 : decode cX6_bit 0 = .ok (.iload_n 0, 1) := by decide +kernel
set_option maxRecDepth 100000 in
theorem dX6_bit_1 : decode cX6_bit 1 = .ok (.iload_n 1, 1) := by decide +kernel
set_option maxRecDepth 100000 in
theorem dX6_bit_2 : decode cX6_bit 2 = .ok (.ishr, 1) := by decide +kernel
set_option maxRecDepth 100000 in
theorem dX6_bit_3 : decode cX6_bit 3 = .ok (.iconst 1, 1) := by decide +kernel
set_option maxRecDepth 100000 in
theorem dX6_bit_4 : decode cX6_bit 4 = .ok (.iand, 1) := by decide +kernel
set_option maxRecDepth 100000 in
theorem dX6_bit_5 : decode cX6_bit 5 = .ok (.ireturn, 1) := by decide +kernel
set_option maxRecDepth 100000 in
theorem dX6_part_0 : decode cX6_part 0 = .ok (.lload_n 0, 1) := by decide +kernel
set_option maxRecDepth 100000 in
theorem dX6_part_1 : decode cX6_part 1 = .ok (.invokestatic 241, 3) := by decide +kernel
set_option maxRecDepth 100000 in
theorem dX6_part_4 : decode cX6_part 4 = .ok (.ifCond .ne 5, 3) := by decide +kernel
set_option maxRecDepth 100000 in
theorem dX6_part_7 : decode cX6_part 7 = .ok (.iload_n 2, 1) := by decide +kernel
set_option maxRecDepth 100000 in
theorem dX6_part_8 : decode cX6_part 8 = .ok (.ireturn, 1) := by decide +kernel
set_option maxRecDepth 100000 in
theorem dX6_part_9 : decode cX6_part 9 = .ok (.iload_n 2, 1) := by decide +kernel
set_option maxRecDepth 100000 in
theorem dX6_part_10 : decode cX6_part 10 = .ok (.ifCond .ne 10, 3) := by decide +kernel
set_option maxRecDepth 100000 in
theorem dX6_part_13 : decode cX6_part 13 = .ok (.lload_n 0, 1) := by decide +kernel
set_option maxRecDepth 100000 in
theorem dX6_part_14 : decode cX6_part 14 = .ok (.invokestatic 280, 3) := by decide +kernel
set_option maxRecDepth 100000 in
theorem dX6_part_17 : decode cX6_part 17 = .ok (.goto 7, 3) := by decide +kernel
set_option maxRecDepth 100000 in
theorem dX6_part_20 : decode cX6_part 20 = .ok (.lload_n 0, 1) := by decide +kernel
set_option maxRecDepth 100000 in
theorem dX6_part_21 : decode cX6_part 21 = .ok (.invokestatic 284, 3) := by decide +kernel
set_option maxRecDepth 100000 in
theorem dX6_part_24 : decode cX6_part 24 = .ok (.l2i, 1) := by decide +kernel
set_option maxRecDepth 100000 in
theorem dX6_part_25 : decode cX6_part 25 = .ok (.ireturn, 1) := by decide +kernel
set_option maxRecDepth 100000 in
theorem dX6_under_0 : decode cX6_under 0 = .ok (.aload_n 1, 1) := by decide +kernel
set_option maxRecDepth 100000 in
theorem dX6_under_1 : decode cX6_under 1 = .ok (.iload_n 2, 1) := by decide +kernel
set_option maxRecDepth 100000 in
theorem dX6_under_2 : decode cX6_under 2 = .ok (.invokevirtual 287, 3) := by decide +kernel
set_option maxRecDepth 100000 in
theorem dX6_under_5 : decode cX6_under 5 = .ok (.istore_n 3, 1) := by decide +kernel
set_option maxRecDepth 100000 in
theorem dX6_under_6 : decode cX6_under 6 = .ok (.iconst 0, 1) := by decide +kernel
set_option maxRecDepth 100000 in
theorem dX6_under_7 : decode cX6_under 7 = .ok (.istore 4, 2) := by decide +kernel
set_option maxRecDepth 100000 in
theorem dX6_under_9 : decode cX6_under 9 = .ok (.iload 4, 2) := by decide +kernel
set_option maxRecDepth 100000 in
theorem dX6_under_11 : decode cX6_under 11 = .ok (.bipush 22, 2) := by decide +kernel
set_option maxRecDepth 100000 in
theorem dX6_under_13 : decode cX6_under 13 = .ok (.if_icmp .ge 142, 3) := by decide +kernel
set_option maxRecDepth 100000 in
theorem dX6_under_16 : decode cX6_under 16 = .ok (.iload_n 3, 1) := by decide +kernel
set_option maxRecDepth 100000 in
theorem dX6_under_17 : decode cX6_under 17 = .ok (.istore 5, 2) := by decide +kernel
set_option maxRecDepth 100000 in
theorem dX6_under_19 : decode cX6_under 19 = .ok (.iconst 0, 1) := by decide +kernel
set_option maxRecDepth 100000 in
theorem dX6_under_20 : decode cX6_under 20 = .ok (.istore 6, 2) := by decide +kernel
set_option maxRecDepth 100000 in
theorem dX6_under_22 : decode cX6_under 22 = .ok (.iload 6, 2) := by decide +kernel
set_option maxRecDepth 100000 in
theorem dX6_under_24 : decode cX6_under 24 = .ok (.aload_n 1, 1) := by decide +kernel
set_option maxRecDepth 100000 in
theorem dX6_under_25 : decode cX6_under 25 = .ok (.getfield 122, 3) := by decide +kernel
set_option maxRecDepth 100000 in
theorem dX6_under_28 : decode cX6_under 28 = .ok (.if_icmp .ge 33, 3) := by decide +kernel
set_option maxRecDepth 100000 in
theorem dX6_under_31 : decode cX6_under 31 = .ok (.iload_n 3, 1) := by decide +kernel
set_option maxRecDepth 100000 in
theorem dX6_under_32 : decode cX6_under 32 = .ok (.bipush 10, 2) := by decide +kernel
set_option maxRecDepth 100000 in
theorem dX6_under_34 : decode cX6_under 34 = .ok (.iload 6, 2) := by decide +kernel
set_option maxRecDepth 100000 in
theorem dX6_under_36 : decode cX6_under 36 = .ok (.iadd, 1) := by decide +kernel
set_option maxRecDepth 100000 in
theorem dX6_under_37 : decode cX6_under 37 = .ok (.invokestatic 144, 3) := by decide +kernel
set_option maxRecDepth 100000 in
theorem dX6_under_40 : decode cX6_under 40 = .ok (.iconst 1, 1) := by decide +kernel
set_option maxRecDepth 100000 in
theorem dX6_under_41 : decode cX6_under 41 = .ok (.if_icmp .ne 14, 3) := by decide +kernel
set_option maxRecDepth 100000 in
theorem dX6_under_44 : decode cX6_under 44 = .ok (.iload 5, 2) := by decide +kernel
set_option maxRecDepth 100000 in
theorem dX6_under_46 : decode cX6_under 46 = .ok (.aload_n 1, 1) := by decide +kernel
set_option maxRecDepth 100000 in
theorem dX6_under_47 : decode cX6_under 47 = .ok (.iload 6, 2) := by decide +kernel
set_option maxRecDepth 100000 in
theorem dX6_under_49 : decode cX6_under 49 = .ok (.invokevirtual 287, 3) := by decide +kernel
set_option maxRecDepth 100000 in
theorem dX6_under_52 : decode cX6_under 52 = .ok (.ior, 1) := by decide +kernel
set_option maxRecDepth 100000 in
theorem dX6_under_53 : decode cX6_under 53 = .ok (.istore 5, 2) := by decide +kernel
set_option maxRecDepth 100000 in
theorem dX6_under_55 : decode cX6_under 55 = .ok (.iinc 6 1, 3) := by decide +kernel
set_option maxRecDepth 100000 in
theorem dX6_under_58 : decode cX6_under 58 = .ok (.goto (-36), 3) := by decide +kernel
set_option maxRecDepth 100000 in
theorem dX6_under_61 : decode cX6_under 61 = .ok (.iconst 0, 1) := by decide +kernel
set_option maxRecDepth 100000 in
theorem dX6_under_62 : decode cX6_under 62 = .ok (.istore 6, 2) := by decide +kernel
set_option maxRecDepth 100000 in
theorem dX6_under_64 : decode cX6_under 64 = .ok (.iload 6, 2) := by decide +kernel
set_option maxRecDepth 100000 in
theorem dX6_under_66 : decode cX6_under 66 = .ok (.aload_n 0, 1) := by decide +kernel
set_option maxRecDepth 100000 in
theorem dX6_under_67 : decode cX6_under 67 = .ok (.getfield 64, 3) := by decide +kernel
set_option maxRecDepth 100000 in
theorem dX6_under_70 : decode cX6_under 70 = .ok (.if_icmp .ge 67, 3) := by decide +kernel
set_option maxRecDepth 100000 in
theorem dX6_under_73 : decode cX6_under 73 = .ok (.aload_n 0, 1) := by decide +kernel
set_option maxRecDepth 100000 in
theorem dX6_under_74 : decode cX6_under 74 = .ok (.iload 6, 2) := by decide +kernel
set_option maxRecDepth 100000 in
theorem dX6_under_76 : decode cX6_under 76 = .ok (.invokevirtual 67, 3) := by decide +kernel
set_option maxRecDepth 100000 in
theorem dX6_under_79 : decode cX6_under 79 = .ok (.astore 7, 2) := by decide +kernel
set_option maxRecDepth 100000 in
theorem dX6_under_81 : decode cX6_under 81 = .ok (.aload 7, 2) := by decide +kernel
set_option maxRecDepth 100000 in
theorem dX6_under_83 : decode cX6_under 83 = .ok (.ifnull 48, 3) := by decide +kernel
set_option maxRecDepth 100000 in
theorem dX6_under_86 : decode cX6_under 86 = .ok (.iload_n 3, 1) := by decide +kernel
set_option maxRecDepth 100000 in
theorem dX6_under_87 : decode cX6_under 87 = .ok (.iload 6, 2) := by decide +kernel
set_option maxRecDepth 100000 in
theorem dX6_under_89 : decode cX6_under 89 = .ok (.invokestatic 144, 3) := by decide +kernel
set_option maxRecDepth 100000 in
theorem dX6_under_92 : decode cX6_under 92 = .ok (.iconst 1, 1) := by decide +kernel
set_option maxRecDepth 100000 in
theorem dX6_under_93 : decode cX6_under 93 = .ok (.if_icmp .ne 38, 3) := by decide +kernel
set_option maxRecDepth 100000 in
theorem dX6_under_96 : decode cX6_under 96 = .ok (.aload 7, 2) := by decide +kernel
set_option maxRecDepth 100000 in
theorem dX6_under_98 : decode cX6_under 98 = .ok (.getfield 148, 3) := by decide +kernel
set_option maxRecDepth 100000 in
theorem dX6_under_101 : decode cX6_under 101 = .ok (.ifCond .lt 30, 3) := by decide +kernel
set_option maxRecDepth 100000 in
theorem dX6_under_104 : decode cX6_under 104 = .ok (.aload 7, 2) := by decide +kernel
set_option maxRecDepth 100000 in
theorem dX6_under_106 : decode cX6_under 106 = .ok (.getfield 148, 3) := by decide +kernel
set_option maxRecDepth 100000 in
theorem dX6_under_109 : decode cX6_under 109 = .ok (.aload_n 1, 1) := by decide +kernel
set_option maxRecDepth 100000 in
theorem dX6_under_110 : decode cX6_under 110 = .ok (.getfield 122, 3) := by decide +kernel
set_option maxRecDepth 100000 in
theorem dX6_under_113 : decode cX6_under 113 = .ok (.if_icmp .ge 18, 3) := by decide +kernel
set_option maxRecDepth 100000 in
theorem dX6_under_116 : decode cX6_under 116 = .ok (.iload 5, 2) := by decide +kernel
set_option maxRecDepth 100000 in
theorem dX6_under_118 : decode cX6_under 118 = .ok (.iconst 1, 1) := by decide +kernel
set_option maxRecDepth 100000 in
theorem dX6_under_119 : decode cX6_under 119 = .ok (.bipush 10, 2) := by decide +kernel
set_option maxRecDepth 100000 in
theorem dX6_under_121 : decode cX6_under 121 = .ok (.aload 7, 2) := by decide +kernel
set_option maxRecDepth 100000 in
theorem dX6_under_123 : decode cX6_under 123 = .ok (.getfield 148, 3) := by decide +kernel
set_option maxRecDepth 100000 in
theorem dX6_under_126 : decode cX6_under 126 = .ok (.iadd, 1) := by decide +kernel
set_option maxRecDepth 100000 in
theorem dX6_under_127 : decode cX6_under 127 = .ok (.ishl, 1) := by decide +kernel
set_option maxRecDepth 100000 in
theorem dX6_under_128 : decode cX6_under 128 = .ok (.ior, 1) := by decide +kernel
set_option maxRecDepth 100000 in
theorem dX6_under_129 : decode cX6_under 129 = .ok (.istore 5, 2) := by decide +kernel
set_option maxRecDepth 100000 in
theorem dX6_under_131 : decode cX6_under 131 = .ok (.iinc 6 1, 3) := by decide +kernel
set_option maxRecDepth 100000 in
theorem dX6_under_134 : decode cX6_under 134 = .ok (.goto (-70), 3) := by decide +kernel
set_option maxRecDepth 100000 in
theorem dX6_under_137 : decode cX6_under 137 = .ok (.iload 5, 2) := by decide +kernel
set_option maxRecDepth 100000 in
theorem dX6_under_139 : decode cX6_under 139 = .ok (.iload_n 3, 1) := by decide +kernel
set_option maxRecDepth 100000 in
theorem dX6_under_140 : decode cX6_under 140 = .ok (.if_icmp .ne 6, 3) := by decide +kernel
set_option maxRecDepth 100000 in
theorem dX6_under_143 : decode cX6_under 143 = .ok (.goto 12, 3) := by decide +kernel
set_option maxRecDepth 100000 in
theorem dX6_under_146 : decode cX6_under 146 = .ok (.iload 5, 2) := by decide +kernel
set_option maxRecDepth 100000 in
theorem dX6_under_148 : decode cX6_under 148 = .ok (.istore_n 3, 1) := by decide +kernel
set_option maxRecDepth 100000 in
theorem dX6_under_149 : decode cX6_under 149 = .ok (.iinc 4 1, 3) := by decide +kernel
set_option maxRecDepth 100000 in
theorem dX6_under_152 : decode cX6_under 152 = .ok (.goto (-143), 3) := by decide +kernel
set_option maxRecDepth 100000 in
theorem dX6_under_155 : decode cX6_under 155 = .ok (.iload_n 3, 1) := by decide +kernel
set_option maxRecDepth 100000 in
theorem dX6_under_156 : decode cX6_under 156 = .ok (.ireturn, 1) := by decide +kernel
set_option maxRecDepth 100000 in
theorem dX6_hasRing_0 : decode cX6_hasRing 0 = .ok (.iconst 0, 1) := by decide +kernel
set_option maxRecDepth 100000 in
theorem dX6_hasRing_1 : decode cX6_hasRing 1 = .ok (.istore_n 2, 1) := by decide +kernel
set_option maxRecDepth 100000 in
theorem dX6_hasRing_2 : decode cX6_hasRing 2 = .ok (.iload_n 2, 1) := by decide +kernel
set_option maxRecDepth 100000 in
theorem dX6_hasRing_3 : decode cX6_hasRing 3 = .ok (.aload_n 1, 1) := by decide +kernel
set_option maxRecDepth 100000 in
theorem dX6_hasRing_4 : decode cX6_hasRing 4 = .ok (.getfield 122, 3) := by decide +kernel
set_option maxRecDepth 100000 in
theorem dX6_hasRing_7 : decode cX6_hasRing 7 = .ok (.if_icmp .ge 28, 3) := by decide +kernel
set_option maxRecDepth 100000 in
theorem dX6_hasRing_10 : decode cX6_hasRing 10 = .ok (.aload_n 0, 1) := by decide +kernel
set_option maxRecDepth 100000 in
theorem dX6_hasRing_11 : decode cX6_hasRing 11 = .ok (.aload_n 1, 1) := by decide +kernel
set_option maxRecDepth 100000 in
theorem dX6_hasRing_12 : decode cX6_hasRing 12 = .ok (.iload_n 2, 1) := by decide +kernel
set_option maxRecDepth 100000 in
theorem dX6_hasRing_13 : decode cX6_hasRing 13 = .ok (.invokevirtual 140, 3) := by decide +kernel
set_option maxRecDepth 100000 in
theorem dX6_hasRing_16 : decode cX6_hasRing 16 = .ok (.bipush 10, 2) := by decide +kernel
set_option maxRecDepth 100000 in
theorem dX6_hasRing_18 : decode cX6_hasRing 18 = .ok (.iload_n 2, 1) := by decide +kernel
set_option maxRecDepth 100000 in
theorem dX6_hasRing_19 : decode cX6_hasRing 19 = .ok (.iadd, 1) := by decide +kernel
set_option maxRecDepth 100000 in
theorem dX6_hasRing_20 : decode cX6_hasRing 20 = .ok (.invokestatic 144, 3) := by decide +kernel
set_option maxRecDepth 100000 in
theorem dX6_hasRing_23 : decode cX6_hasRing 23 = .ok (.iconst 1, 1) := by decide +kernel
set_option maxRecDepth 100000 in
theorem dX6_hasRing_24 : decode cX6_hasRing 24 = .ok (.if_icmp .ne 5, 3) := by decide +kernel
set_option maxRecDepth 100000 in
theorem dX6_hasRing_27 : decode cX6_hasRing 27 = .ok (.iconst 1, 1) := by decide +kernel
set_option maxRecDepth 100000 in
theorem dX6_hasRing_28 : decode cX6_hasRing 28 = .ok (.ireturn, 1) := by decide +kernel
set_option maxRecDepth 100000 in
theorem dX6_hasRing_29 : decode cX6_hasRing 29 = .ok (.iinc 2 1, 3) := by decide +kernel
set_option maxRecDepth 100000 in
theorem dX6_hasRing_32 : decode cX6_hasRing 32 = .ok (.goto (-30), 3) := by decide +kernel
set_option maxRecDepth 100000 in
theorem dX6_hasRing_35 : decode cX6_hasRing 35 = .ok (.iconst 0, 1) := by decide +kernel
set_option maxRecDepth 100000 in
theorem dX6_hasRing_36 : decode cX6_hasRing 36 = .ok (.ireturn, 1) := by decide +kernel
set_option maxRecDepth 100000 in
theorem dX6_needsBeyond_0 : decode cX6_needsBeyond 0 = .ok (.iconst 0, 1) := by decide +kernel
set_option maxRecDepth 100000 in
theorem dX6_needsBeyond_1 : decode cX6_needsBeyond 1 = .ok (.istore_n 2, 1) := by decide +kernel
set_option maxRecDepth 100000 in
theorem dX6_needsBeyond_2 : decode cX6_needsBeyond 2 = .ok (.iload_n 2, 1) := by decide +kernel
set_option maxRecDepth 100000 in
theorem dX6_needsBeyond_3 : decode cX6_needsBeyond 3 = .ok (.aload_n 0, 1) := by decide +kernel
set_option maxRecDepth 100000 in
theorem dX6_needsBeyond_4 : decode cX6_needsBeyond 4 = .ok (.getfield 64, 3) := by decide +kernel
set_option maxRecDepth 100000 in
theorem dX6_needsBeyond_7 : decode cX6_needsBeyond 7 = .ok (.if_icmp .ge 29, 3) := by decide +kernel
set_option maxRecDepth 100000 in
theorem dX6_needsBeyond_10 : decode cX6_needsBeyond 10 = .ok (.aload_n 0, 1) := by decide +kernel
set_option maxRecDepth 100000 in
theorem dX6_needsBeyond_11 : decode cX6_needsBeyond 11 = .ok (.iload_n 2, 1) := by decide +kernel
set_option maxRecDepth 100000 in
theorem dX6_needsBeyond_12 : decode cX6_needsBeyond 12 = .ok (.invokevirtual 67, 3) := by decide +kernel
set_option maxRecDepth 100000 in
theorem dX6_needsBeyond_15 : decode cX6_needsBeyond 15 = .ok (.astore_n 3, 1) := by decide +kernel
set_option maxRecDepth 100000 in
theorem dX6_needsBeyond_16 : decode cX6_needsBeyond 16 = .ok (.aload_n 3, 1) := by decide +kernel
set_option maxRecDepth 100000 in
theorem dX6_needsBeyond_17 : decode cX6_needsBeyond 17 = .ok (.ifnull 13, 3) := by decide +kernel
set_option maxRecDepth 100000 in
theorem dX6_needsBeyond_20 : decode cX6_needsBeyond 20 = .ok (.aload_n 3, 1) := by decide +kernel
set_option maxRecDepth 100000 in
theorem dX6_needsBeyond_21 : decode cX6_needsBeyond 21 = .ok (.getfield 148, 3) := by decide +kernel
set_option maxRecDepth 100000 in
theorem dX6_needsBeyond_24 : decode cX6_needsBeyond 24 = .ok (.iload_n 1, 1) := by decide +kernel
set_option maxRecDepth 100000 in
theorem dX6_needsBeyond_25 : decode cX6_needsBeyond 25 = .ok (.if_icmp .lt 5, 3) := by decide +kernel
set_option maxRecDepth 100000 in
theorem dX6_needsBeyond_28 : decode cX6_needsBeyond 28 = .ok (.iconst 1, 1) := by decide +kernel
set_option maxRecDepth 100000 in
theorem dX6_needsBeyond_29 : decode cX6_needsBeyond 29 = .ok (.ireturn, 1) := by decide +kernel
set_option maxRecDepth 100000 in
theorem dX6_needsBeyond_30 : decode cX6_needsBeyond 30 = .ok (.iinc 2 1, 3) := by decide +kernel
set_option maxRecDepth 100000 in
theorem dX6_needsBeyond_33 : decode cX6_needsBeyond 33 = .ok (.goto (-31), 3) := by decide +kernel
set_option maxRecDepth 100000 in
theorem dX6_needsBeyond_36 : decode cX6_needsBeyond 36 = .ok (.iconst 0, 1) := by decide +kernel
set_option maxRecDepth 100000 in
theorem dX6_needsBeyond_37 : decode cX6_needsBeyond 37 = .ok (.ireturn, 1) := by decide +kernel
set_option maxRecDepth 100000 in
theorem dX6_lessens_0 : decode cX6_lessens 0 = .ok (.iconst 0, 1) := by decide +kernel
set_option maxRecDepth 100000 in
theorem dX6_lessens_1 : decode cX6_lessens 1 = .ok (.istore_n 2, 1) := by decide +kernel
set_option maxRecDepth 100000 in
theorem dX6_lessens_2 : decode cX6_lessens 2 = .ok (.iload_n 2, 1) := by decide +kernel
set_option maxRecDepth 100000 in
theorem dX6_lessens_3 : decode cX6_lessens 3 = .ok (.aload_n 0, 1) := by decide +kernel
set_option maxRecDepth 100000 in
theorem dX6_lessens_4 : decode cX6_lessens 4 = .ok (.getfield 51, 3) := by decide +kernel
set_option maxRecDepth 100000 in
theorem dX6_lessens_7 : decode cX6_lessens 7 = .ok (.if_icmp .ge 108, 3) := by decide +kernel
set_option maxRecDepth 100000 in
theorem dX6_lessens_10 : decode cX6_lessens 10 = .ok (.aload_n 0, 1) := by decide +kernel
set_option maxRecDepth 100000 in
theorem dX6_lessens_11 : decode cX6_lessens 11 = .ok (.iload_n 2, 1) := by decide +kernel
set_option maxRecDepth 100000 in
theorem dX6_lessens_12 : decode cX6_lessens 12 = .ok (.invokevirtual 226, 3) := by decide +kernel
set_option maxRecDepth 100000 in
theorem dX6_lessens_15 : decode cX6_lessens 15 = .ok (.aload_n 0, 1) := by decide +kernel
set_option maxRecDepth 100000 in
theorem dX6_lessens_16 : decode cX6_lessens 16 = .ok (.getfield 35, 3) := by decide +kernel
set_option maxRecDepth 100000 in
theorem dX6_lessens_19 : decode cX6_lessens 19 = .ok (.aload_n 0, 1) := by decide +kernel
set_option maxRecDepth 100000 in
theorem dX6_lessens_20 : decode cX6_lessens 20 = .ok (.getfield 42, 3) := by decide +kernel
set_option maxRecDepth 100000 in
theorem dX6_lessens_23 : decode cX6_lessens 23 = .ok (.ldc 232, 2) := by decide +kernel
set_option maxRecDepth 100000 in
theorem dX6_lessens_25 : decode cX6_lessens 25 = .ok (.ldc 232, 2) := by decide +kernel
set_option maxRecDepth 100000 in
theorem dX6_lessens_27 : decode cX6_lessens 27 = .ok (.invokevirtual 233, 3) := by decide +kernel
set_option maxRecDepth 100000 in
theorem dX6_lessens_30 : decode cX6_lessens 30 = .ok (.aload_n 0, 1) := by decide +kernel
set_option maxRecDepth 100000 in
theorem dX6_lessens_31 : decode cX6_lessens 31 = .ok (.getfield 35, 3) := by decide +kernel
set_option maxRecDepth 100000 in
theorem dX6_lessens_34 : decode cX6_lessens 34 = .ok (.invokevirtual 290, 3) := by decide +kernel
set_option maxRecDepth 100000 in
theorem dX6_lessens_37 : decode cX6_lessens 37 = .ok (.aload_n 0, 1) := by decide +kernel
set_option maxRecDepth 100000 in
theorem dX6_lessens_38 : decode cX6_lessens 38 = .ok (.getfield 35, 3) := by decide +kernel
set_option maxRecDepth 100000 in
theorem dX6_lessens_41 : decode cX6_lessens 41 = .ok (.aload_n 1, 1) := by decide +kernel
set_option maxRecDepth 100000 in
theorem dX6_lessens_42 : decode cX6_lessens 42 = .ok (.ldc 232, 2) := by decide +kernel
set_option maxRecDepth 100000 in
theorem dX6_lessens_44 : decode cX6_lessens 44 = .ok (.ldc 232, 2) := by decide +kernel
set_option maxRecDepth 100000 in
theorem dX6_lessens_46 : decode cX6_lessens 46 = .ok (.invokevirtual 233, 3) := by decide +kernel
set_option maxRecDepth 100000 in
theorem dX6_lessens_49 : decode cX6_lessens 49 = .ok (.iconst 0, 1) := by decide +kernel
set_option maxRecDepth 100000 in
theorem dX6_lessens_50 : decode cX6_lessens 50 = .ok (.istore_n 3, 1) := by decide +kernel
set_option maxRecDepth 100000 in
theorem dX6_lessens_51 : decode cX6_lessens 51 = .ok (.iload_n 3, 1) := by decide +kernel
set_option maxRecDepth 100000 in
theorem dX6_lessens_52 : decode cX6_lessens 52 = .ok (.aload_n 1, 1) := by decide +kernel
set_option maxRecDepth 100000 in
theorem dX6_lessens_53 : decode cX6_lessens 53 = .ok (.getfield 122, 3) := by decide +kernel
set_option maxRecDepth 100000 in
theorem dX6_lessens_56 : decode cX6_lessens 56 = .ok (.if_icmp .ge 53, 3) := by decide +kernel
set_option maxRecDepth 100000 in
theorem dX6_lessens_59 : decode cX6_lessens 59 = .ok (.aload_n 0, 1) := by decide +kernel
set_option maxRecDepth 100000 in
theorem dX6_lessens_60 : decode cX6_lessens 60 = .ok (.getfield 42, 3) := by decide +kernel
set_option maxRecDepth 100000 in
theorem dX6_lessens_63 : decode cX6_lessens 63 = .ok (.aload_n 1, 1) := by decide +kernel
set_option maxRecDepth 100000 in
theorem dX6_lessens_64 : decode cX6_lessens 64 = .ok (.iload_n 3, 1) := by decide +kernel
set_option maxRecDepth 100000 in
theorem dX6_lessens_65 : decode cX6_lessens 65 = .ok (.invokevirtual 293, 3) := by decide +kernel
set_option maxRecDepth 100000 in
theorem dX6_lessens_68 : decode cX6_lessens 68 = .ok (.invokevirtual 296, 3) := by decide +kernel
set_option maxRecDepth 100000 in
theorem dX6_lessens_71 : decode cX6_lessens 71 = .ok (.istore 4, 2) := by decide +kernel
set_option maxRecDepth 100000 in
theorem dX6_lessens_73 : decode cX6_lessens 73 = .ok (.iload 4, 2) := by decide +kernel
set_option maxRecDepth 100000 in
theorem dX6_lessens_75 : decode cX6_lessens 75 = .ok (.ifCond .lt 28, 3) := by decide +kernel
set_option maxRecDepth 100000 in
theorem dX6_lessens_78 : decode cX6_lessens 78 = .ok (.aload_n 0, 1) := by decide +kernel
set_option maxRecDepth 100000 in
theorem dX6_lessens_79 : decode cX6_lessens 79 = .ok (.getfield 35, 3) := by decide +kernel
set_option maxRecDepth 100000 in
theorem dX6_lessens_82 : decode cX6_lessens 82 = .ok (.iload_n 3, 1) := by decide +kernel
set_option maxRecDepth 100000 in
theorem dX6_lessens_83 : decode cX6_lessens 83 = .ok (.invokevirtual 237, 3) := by decide +kernel
set_option maxRecDepth 100000 in
theorem dX6_lessens_86 : decode cX6_lessens 86 = .ok (.aload_n 0, 1) := by decide +kernel
set_option maxRecDepth 100000 in
theorem dX6_lessens_87 : decode cX6_lessens 87 = .ok (.getfield 35, 3) := by decide +kernel
set_option maxRecDepth 100000 in
theorem dX6_lessens_90 : decode cX6_lessens 90 = .ok (.iload 4, 2) := by decide +kernel
set_option maxRecDepth 100000 in
theorem dX6_lessens_92 : decode cX6_lessens 92 = .ok (.invokevirtual 299, 3) := by decide +kernel
set_option maxRecDepth 100000 in
theorem dX6_lessens_95 : decode cX6_lessens 95 = .ok (.invokestatic 302, 3) := by decide +kernel
set_option maxRecDepth 100000 in
theorem dX6_lessens_98 : decode cX6_lessens 98 = .ok (.ifCond .eq 5, 3) := by decide +kernel
set_option maxRecDepth 100000 in
theorem dX6_lessens_101 : decode cX6_lessens 101 = .ok (.iconst 1, 1) := by decide +kernel
set_option maxRecDepth 100000 in
theorem dX6_lessens_102 : decode cX6_lessens 102 = .ok (.ireturn, 1) := by decide +kernel
set_option maxRecDepth 100000 in
theorem dX6_lessens_103 : decode cX6_lessens 103 = .ok (.iinc 3 1, 3) := by decide +kernel
set_option maxRecDepth 100000 in
theorem dX6_lessens_106 : decode cX6_lessens 106 = .ok (.goto (-55), 3) := by decide +kernel
set_option maxRecDepth 100000 in
theorem dX6_lessens_109 : decode cX6_lessens 109 = .ok (.iinc 2 1, 3) := by decide +kernel
set_option maxRecDepth 100000 in
theorem dX6_lessens_112 : decode cX6_lessens 112 = .ok (.goto (-110), 3) := by decide +kernel
set_option maxRecDepth 100000 in
theorem dX6_lessens_115 : decode cX6_lessens 115 = .ok (.iconst 0, 1) := by decide +kernel
set_option maxRecDepth 100000 in
theorem dX6_lessens_116 : decode cX6_lessens 116 = .ok (.ireturn, 1) := by decide +kernel
set_option maxRecDepth 100000 in
theorem dX6_load_0 : decode cX6_load 0 = .ok (.iconst 0, 1) := by decide +kernel
set_option maxRecDepth 100000 in
theorem dX6_load_1 : decode cX6_load 1 = .ok (.istore_n 2, 1) := by decide +kernel
set_option maxRecDepth 100000 in
theorem dX6_load_2 : decode cX6_load 2 = .ok (.iload_n 2, 1) := by decide +kernel
set_option maxRecDepth 100000 in
theorem dX6_load_3 : decode cX6_load 3 = .ok (.aload_n 0, 1) := by decide +kernel
set_option maxRecDepth 100000 in
theorem dX6_load_4 : decode cX6_load 4 = .ok (.getfield 64, 3) := by decide +kernel
set_option maxRecDepth 100000 in
theorem dX6_load_7 : decode cX6_load 7 = .ok (.if_icmp .ge 50, 3) := by decide +kernel
set_option maxRecDepth 100000 in
theorem dX6_load_10 : decode cX6_load 10 = .ok (.aload_n 0, 1) := by decide +kernel
set_option maxRecDepth 100000 in
theorem dX6_load_11 : decode cX6_load 11 = .ok (.iload_n 2, 1) := by decide +kernel
set_option maxRecDepth 100000 in
theorem dX6_load_12 : decode cX6_load 12 = .ok (.invokevirtual 67, 3) := by decide +kernel
set_option maxRecDepth 100000 in
theorem dX6_load_15 : decode cX6_load 15 = .ok (.astore_n 3, 1) := by decide +kernel
set_option maxRecDepth 100000 in
theorem dX6_load_16 : decode cX6_load 16 = .ok (.aload_n 0, 1) := by decide +kernel
set_option maxRecDepth 100000 in
theorem dX6_load_17 : decode cX6_load 17 = .ok (.iload_n 1, 1) := by decide +kernel
set_option maxRecDepth 100000 in
theorem dX6_load_18 : decode cX6_load 18 = .ok (.iload_n 2, 1) := by decide +kernel
set_option maxRecDepth 100000 in
theorem dX6_load_19 : decode cX6_load 19 = .ok (.invokevirtual 83, 3) := by decide +kernel
set_option maxRecDepth 100000 in
theorem dX6_load_22 : decode cX6_load 22 = .ok (.astore 4, 2) := by decide +kernel
set_option maxRecDepth 100000 in
theorem dX6_load_24 : decode cX6_load 24 = .ok (.aload_n 3, 1) := by decide +kernel
set_option maxRecDepth 100000 in
theorem dX6_load_25 : decode cX6_load 25 = .ok (.ifnull 26, 3) := by decide +kernel
set_option maxRecDepth 100000 in
theorem dX6_load_28 : decode cX6_load 28 = .ok (.aload 4, 2) := by decide +kernel
set_option maxRecDepth 100000 in
theorem dX6_load_30 : decode cX6_load 30 = .ok (.ifnull 21, 3) := by decide +kernel
set_option maxRecDepth 100000 in
theorem dX6_load_33 : decode cX6_load 33 = .ok (.aload_n 0, 1) := by decide +kernel
set_option maxRecDepth 100000 in
theorem dX6_load_34 : decode cX6_load 34 = .ok (.getfield 35, 3) := by decide +kernel
set_option maxRecDepth 100000 in
theorem dX6_load_37 : decode cX6_load 37 = .ok (.iload_n 2, 1) := by decide +kernel
set_option maxRecDepth 100000 in
theorem dX6_load_38 : decode cX6_load 38 = .ok (.aload 4, 2) := by decide +kernel
set_option maxRecDepth 100000 in
theorem dX6_load_40 : decode cX6_load 40 = .ok (.aload_n 3, 1) := by decide +kernel
set_option maxRecDepth 100000 in
theorem dX6_load_41 : decode cX6_load 41 = .ok (.invokevirtual 209, 3) := by decide +kernel
set_option maxRecDepth 100000 in
theorem dX6_load_44 : decode cX6_load 44 = .ok (.aload_n 3, 1) := by decide +kernel
set_option maxRecDepth 100000 in
theorem dX6_load_45 : decode cX6_load 45 = .ok (.getfield 74, 3) := by decide +kernel
set_option maxRecDepth 100000 in
theorem dX6_load_48 : decode cX6_load 48 = .ok (.invokevirtual 306, 3) := by decide +kernel
set_option maxRecDepth 100000 in
theorem dX6_load_51 : decode cX6_load 51 = .ok (.iinc 2 1, 3) := by decide +kernel
set_option maxRecDepth 100000 in
theorem dX6_load_54 : decode cX6_load 54 = .ok (.goto (-52), 3) := by decide +kernel
set_option maxRecDepth 100000 in
theorem dX6_load_57 : decode cX6_load 57 = .ok (.return_, 1) := by decide +kernel
set_option maxRecDepth 100000 in
theorem dX6_isOpen_0 : decode cX6_isOpen 0 = .ok (.aload_n 0, 1) := by decide +kernel
set_option maxRecDepth 100000 in
theorem dX6_isOpen_1 : decode cX6_isOpen 1 = .ok (.aload_n 2, 1) := by decide +kernel
set_option maxRecDepth 100000 in
theorem dX6_isOpen_2 : decode cX6_isOpen 2 = .ok (.getfield 148, 3) := by decide +kernel
set_option maxRecDepth 100000 in
theorem dX6_isOpen_5 : decode cX6_isOpen 5 = .ok (.invokevirtual 134, 3) := by decide +kernel
set_option maxRecDepth 100000 in
theorem dX6_isOpen_8 : decode cX6_isOpen 8 = .ok (.ifCond .ne 5, 3) := by decide +kernel
set_option maxRecDepth 100000 in
theorem dX6_isOpen_11 : decode cX6_isOpen 11 = .ok (.iconst 1, 1) := by decide +kernel
set_option maxRecDepth 100000 in
theorem dX6_isOpen_12 : decode cX6_isOpen 12 = .ok (.ireturn, 1) := by decide +kernel
set_option maxRecDepth 100000 in
theorem dX6_isOpen_13 : decode cX6_isOpen 13 = .ok (.aload_n 0, 1) := by decide +kernel
set_option maxRecDepth 100000 in
theorem dX6_isOpen_14 : decode cX6_isOpen 14 = .ok (.iload_n 1, 1) := by decide +kernel
set_option maxRecDepth 100000 in
theorem dX6_isOpen_15 : decode cX6_isOpen 15 = .ok (.invokevirtual 226, 3) := by decide +kernel
set_option maxRecDepth 100000 in
theorem dX6_isOpen_18 : decode cX6_isOpen 18 = .ok (.aload_n 0, 1) := by decide +kernel
set_option maxRecDepth 100000 in
theorem dX6_isOpen_19 : decode cX6_isOpen 19 = .ok (.getfield 35, 3) := by decide +kernel
set_option maxRecDepth 100000 in
theorem dX6_isOpen_22 : decode cX6_isOpen 22 = .ok (.aload_n 0, 1) := by decide +kernel
set_option maxRecDepth 100000 in
theorem dX6_isOpen_23 : decode cX6_isOpen 23 = .ok (.getfield 42, 3) := by decide +kernel
set_option maxRecDepth 100000 in
theorem dX6_isOpen_26 : decode cX6_isOpen 26 = .ok (.aload_n 0, 1) := by decide +kernel
set_option maxRecDepth 100000 in
theorem dX6_isOpen_27 : decode cX6_isOpen 27 = .ok (.getfield 42, 3) := by decide +kernel
set_option maxRecDepth 100000 in
theorem dX6_isOpen_30 : decode cX6_isOpen 30 = .ok (.aload_n 2, 1) := by decide +kernel
set_option maxRecDepth 100000 in
theorem dX6_isOpen_31 : decode cX6_isOpen 31 = .ok (.getfield 148, 3) := by decide +kernel
set_option maxRecDepth 100000 in
theorem dX6_isOpen_34 : decode cX6_isOpen 34 = .ok (.invokevirtual 229, 3) := by decide +kernel
set_option maxRecDepth 100000 in
theorem dX6_isOpen_37 : decode cX6_isOpen 37 = .ok (.ldc 232, 2) := by decide +kernel
set_option maxRecDepth 100000 in
theorem dX6_isOpen_39 : decode cX6_isOpen 39 = .ok (.invokevirtual 233, 3) := by decide +kernel
set_option maxRecDepth 100000 in
theorem dX6_isOpen_42 : decode cX6_isOpen 42 = .ok (.aload_n 0, 1) := by decide +kernel
set_option maxRecDepth 100000 in
theorem dX6_isOpen_43 : decode cX6_isOpen 43 = .ok (.getfield 35, 3) := by decide +kernel
set_option maxRecDepth 100000 in
theorem dX6_isOpen_46 : decode cX6_isOpen 46 = .ok (.aload_n 2, 1) := by decide +kernel
set_option maxRecDepth 100000 in
theorem dX6_isOpen_47 : decode cX6_isOpen 47 = .ok (.getfield 148, 3) := by decide +kernel
set_option maxRecDepth 100000 in
theorem dX6_isOpen_50 : decode cX6_isOpen 50 = .ok (.invokevirtual 237, 3) := by decide +kernel
set_option maxRecDepth 100000 in
theorem dX6_isOpen_53 : decode cX6_isOpen 53 = .ok (.aload_n 2, 1) := by decide +kernel
set_option maxRecDepth 100000 in
theorem dX6_isOpen_54 : decode cX6_isOpen 54 = .ok (.getfield 151, 3) := by decide +kernel
set_option maxRecDepth 100000 in
theorem dX6_isOpen_57 : decode cX6_isOpen 57 = .ok (.invokestatic 310, 3) := by decide +kernel
set_option maxRecDepth 100000 in
theorem dX6_isOpen_60 : decode cX6_isOpen 60 = .ok (.ireturn, 1) := by decide +kernel
set_option maxRecDepth 100000 in
theorem dX6_openEnded_0 : decode cX6_openEnded 0 = .ok (.iconst 0, 1) := by decide +kernel
set_option maxRecDepth 100000 in
theorem dX6_openEnded_1 : decode cX6_openEnded 1 = .ok (.istore_n 2, 1) := by decide +kernel
set_option maxRecDepth 100000 in
theorem dX6_openEnded_2 : decode cX6_openEnded 2 = .ok (.iconst 0, 1) := by decide +kernel
set_option maxRecDepth 100000 in
theorem dX6_openEnded_3 : decode cX6_openEnded 3 = .ok (.istore_n 3, 1) := by decide +kernel
set_option maxRecDepth 100000 in
theorem dX6_openEnded_4 : decode cX6_openEnded 4 = .ok (.iload_n 3, 1) := by decide +kernel
set_option maxRecDepth 100000 in
theorem dX6_openEnded_5 : decode cX6_openEnded 5 = .ok (.aload_n 0, 1) := by decide +kernel
set_option maxRecDepth 100000 in
theorem dX6_openEnded_6 : decode cX6_openEnded 6 = .ok (.getfield 64, 3) := by decide +kernel
set_option maxRecDepth 100000 in
theorem dX6_openEnded_9 : decode cX6_openEnded 9 = .ok (.if_icmp .ge 44, 3) := by decide +kernel
set_option maxRecDepth 100000 in
theorem dX6_openEnded_12 : decode cX6_openEnded 12 = .ok (.aload_n 0, 1) := by decide +kernel
set_option maxRecDepth 100000 in
theorem dX6_openEnded_13 : decode cX6_openEnded 13 = .ok (.iload_n 1, 1) := by decide +kernel
set_option maxRecDepth 100000 in
theorem dX6_openEnded_14 : decode cX6_openEnded 14 = .ok (.iload_n 3, 1) := by decide +kernel
set_option maxRecDepth 100000 in
theorem dX6_openEnded_15 : decode cX6_openEnded 15 = .ok (.invokevirtual 83, 3) := by decide +kernel
set_option maxRecDepth 100000 in
theorem dX6_openEnded_18 : decode cX6_openEnded 18 = .ok (.astore 4, 2) := by decide +kernel
set_option maxRecDepth 100000 in
theorem dX6_openEnded_20 : decode cX6_openEnded 20 = .ok (.aload 4, 2) := by decide +kernel
set_option maxRecDepth 100000 in
theorem dX6_openEnded_22 : decode cX6_openEnded 22 = .ok (.ifnull 25, 3) := by decide +kernel
set_option maxRecDepth 100000 in
theorem dX6_openEnded_25 : decode cX6_openEnded 25 = .ok (.aload 4, 2) := by decide +kernel
set_option maxRecDepth 100000 in
theorem dX6_openEnded_27 : decode cX6_openEnded 27 = .ok (.getfield 90, 3) := by decide +kernel
set_option maxRecDepth 100000 in
theorem dX6_openEnded_30 : decode cX6_openEnded 30 = .ok (.ifCond .ne 17, 3) := by decide +kernel
set_option maxRecDepth 100000 in
theorem dX6_openEnded_33 : decode cX6_openEnded 33 = .ok (.aload 4, 2) := by decide +kernel
set_option maxRecDepth 100000 in
theorem dX6_openEnded_35 : decode cX6_openEnded 35 = .ok (.invokevirtual 217, 3) := by decide +kernel
set_option maxRecDepth 100000 in
theorem dX6_openEnded_38 : decode cX6_openEnded 38 = .ok (.ifCond .ne 9, 3) := by decide +kernel
set_option maxRecDepth 100000 in
theorem dX6_openEnded_41 : decode cX6_openEnded 41 = .ok (.iload_n 2, 1) := by decide +kernel
set_option maxRecDepth 100000 in
theorem dX6_openEnded_42 : decode cX6_openEnded 42 = .ok (.iconst 1, 1) := by decide +kernel
set_option maxRecDepth 100000 in
theorem dX6_openEnded_43 : decode cX6_openEnded 43 = .ok (.iload_n 3, 1) := by decide +kernel
set_option maxRecDepth 100000 in
theorem dX6_openEnded_44 : decode cX6_openEnded 44 = .ok (.ishl, 1) := by decide +kernel
set_option maxRecDepth 100000 in
theorem dX6_openEnded_45 : decode cX6_openEnded 45 = .ok (.ior, 1) := by decide +kernel
set_option maxRecDepth 100000 in
theorem dX6_openEnded_46 : decode cX6_openEnded 46 = .ok (.istore_n 2, 1) := by decide +kernel
set_option maxRecDepth 100000 in
theorem dX6_openEnded_47 : decode cX6_openEnded 47 = .ok (.iinc 3 1, 3) := by decide +kernel
set_option maxRecDepth 100000 in
theorem dX6_openEnded_50 : decode cX6_openEnded 50 = .ok (.goto (-46), 3) := by decide +kernel
set_option maxRecDepth 100000 in
theorem dX6_openEnded_53 : decode cX6_openEnded 53 = .ok (.iload_n 2, 1) := by decide +kernel
set_option maxRecDepth 100000 in
theorem dX6_openEnded_54 : decode cX6_openEnded 54 = .ok (.sipush 1023, 3) := by decide +kernel
set_option maxRecDepth 100000 in
theorem dX6_openEnded_57 : decode cX6_openEnded 57 = .ok (.iand, 1) := by decide +kernel
set_option maxRecDepth 100000 in
theorem dX6_openEnded_58 : decode cX6_openEnded 58 = .ok (.ireturn, 1) := by decide +kernel
set_option maxRecDepth 100000 in
theorem dX6_inGroup_0 : decode cX6_inGroup 0 = .ok (.aload_n 0, 1) := by decide +kernel
set_option maxRecDepth 100000 in
theorem dX6_inGroup_1 : decode cX6_inGroup 1 = .ok (.iload_n 1, 1) := by decide +kernel
set_option maxRecDepth 100000 in
theorem dX6_inGroup_2 : decode cX6_inGroup 2 = .ok (.invokevirtual 59, 3) := by decide +kernel
set_option maxRecDepth 100000 in
theorem dX6_inGroup_5 : decode cX6_inGroup 5 = .ok (.ifCond .eq 17, 3) := by decide +kernel
set_option maxRecDepth 100000 in
theorem dX6_inGroup_8 : decode cX6_inGroup 8 = .ok (.aload_n 0, 1) := by decide +kernel
set_option maxRecDepth 100000 in
theorem dX6_inGroup_9 : decode cX6_inGroup 9 = .ok (.getfield 9, 3) := by decide +kernel
set_option maxRecDepth 100000 in
theorem dX6_inGroup_12 : decode cX6_inGroup 12 = .ok (.iload_n 1, 1) := by decide +kernel
set_option maxRecDepth 100000 in
theorem dX6_inGroup_13 : decode cX6_inGroup 13 = .ok (.iaload, 1) := by decide +kernel
set_option maxRecDepth 100000 in
theorem dX6_inGroup_14 : decode cX6_inGroup 14 = .ok (.iload_n 2, 1) := by decide +kernel
set_option maxRecDepth 100000 in
theorem dX6_inGroup_15 : decode cX6_inGroup 15 = .ok (.if_icmp .ne 7, 3) := by decide +kernel
set_option maxRecDepth 100000 in
theorem dX6_inGroup_18 : decode cX6_inGroup 18 = .ok (.iconst 1, 1) := by decide +kernel
set_option maxRecDepth 100000 in
theorem dX6_inGroup_19 : decode cX6_inGroup 19 = .ok (.goto 4, 3) := by decide +kernel
set_option maxRecDepth 100000 in
theorem dX6_inGroup_22 : decode cX6_inGroup 22 = .ok (.iconst 0, 1) := by decide +kernel
set_option maxRecDepth 100000 in
theorem dX6_inGroup_23 : decode cX6_inGroup 23 = .ok (.ireturn, 1) := by decide +kernel
set_option maxRecDepth 100000 in
theorem dX6_handGrouped_0 : decode cX6_handGrouped 0 = .ok (.aload_n 0, 1) := by decide +kernel
set_option maxRecDepth 100000 in
theorem dX6_handGrouped_1 : decode cX6_handGrouped 1 = .ok (.iload_n 1, 1) := by decide +kernel
set_option maxRecDepth 100000 in
theorem dX6_handGrouped_2 : decode cX6_handGrouped 2 = .ok (.invokevirtual 59, 3) := by decide +kernel
set_option maxRecDepth 100000 in
theorem dX6_handGrouped_5 : decode cX6_handGrouped 5 = .ok (.ifCond .eq 12, 3) := by decide +kernel
set_option maxRecDepth 100000 in
theorem dX6_handGrouped_8 : decode cX6_handGrouped 8 = .ok (.aload_n 0, 1) := by decide +kernel
set_option maxRecDepth 100000 in
theorem dX6_handGrouped_9 : decode cX6_handGrouped 9 = .ok (.getfield 9, 3) := by decide +kernel
set_option maxRecDepth 100000 in
theorem dX6_handGrouped_12 : decode cX6_handGrouped 12 = .ok (.iload_n 1, 1) := by decide +kernel
set_option maxRecDepth 100000 in
theorem dX6_handGrouped_13 : decode cX6_handGrouped 13 = .ok (.iaload, 1) := by decide +kernel
set_option maxRecDepth 100000 in
theorem dX6_handGrouped_14 : decode cX6_handGrouped 14 = .ok (.goto 4, 3) := by decide +kernel
set_option maxRecDepth 100000 in
theorem dX6_handGrouped_17 : decode cX6_handGrouped 17 = .ok (.iconst (-1), 1) := by decide +kernel
set_option maxRecDepth 100000 in
theorem dX6_handGrouped_18 : decode cX6_handGrouped 18 = .ok (.istore_n 3, 1) := by decide +kernel
set_option maxRecDepth 100000 in
theorem dX6_handGrouped_19 : decode cX6_handGrouped 19 = .ok (.iconst 0, 1) := by decide +kernel
set_option maxRecDepth 100000 in
theorem dX6_handGrouped_20 : decode cX6_handGrouped 20 = .ok (.istore 4, 2) := by decide +kernel
set_option maxRecDepth 100000 in
theorem dX6_handGrouped_22 : decode cX6_handGrouped 22 = .ok (.iload 4, 2) := by decide +kernel
set_option maxRecDepth 100000 in
theorem dX6_handGrouped_24 : decode cX6_handGrouped 24 = .ok (.aload_n 0, 1) := by decide +kernel
set_option maxRecDepth 100000 in
theorem dX6_handGrouped_25 : decode cX6_handGrouped 25 = .ok (.getfield 51, 3) := by decide +kernel
set_option maxRecDepth 100000 in
theorem dX6_handGrouped_28 : decode cX6_handGrouped 28 = .ok (.if_icmp .ge 48, 3) := by decide +kernel
set_option maxRecDepth 100000 in
theorem dX6_handGrouped_31 : decode cX6_handGrouped 31 = .ok (.aload_n 0, 1) := by decide +kernel
set_option maxRecDepth 100000 in
theorem dX6_handGrouped_32 : decode cX6_handGrouped 32 = .ok (.iload 4, 2) := by decide +kernel
set_option maxRecDepth 100000 in
theorem dX6_handGrouped_34 : decode cX6_handGrouped 34 = .ok (.iload_n 2, 1) := by decide +kernel
set_option maxRecDepth 100000 in
theorem dX6_handGrouped_35 : decode cX6_handGrouped 35 = .ok (.invokevirtual 83, 3) := by decide +kernel
set_option maxRecDepth 100000 in
theorem dX6_handGrouped_38 : decode cX6_handGrouped 38 = .ok (.astore 5, 2) := by decide +kernel
set_option maxRecDepth 100000 in
theorem dX6_handGrouped_40 : decode cX6_handGrouped 40 = .ok (.aload_n 0, 1) := by decide +kernel
set_option maxRecDepth 100000 in
theorem dX6_handGrouped_41 : decode cX6_handGrouped 41 = .ok (.iload 4, 2) := by decide +kernel
set_option maxRecDepth 100000 in
theorem dX6_handGrouped_43 : decode cX6_handGrouped 43 = .ok (.iload_n 3, 1) := by decide +kernel
set_option maxRecDepth 100000 in
theorem dX6_handGrouped_44 : decode cX6_handGrouped 44 = .ok (.invokevirtual 314, 3) := by decide +kernel
set_option maxRecDepth 100000 in
theorem dX6_handGrouped_47 : decode cX6_handGrouped 47 = .ok (.ifCond .eq 23, 3) := by decide +kernel
set_option maxRecDepth 100000 in
theorem dX6_handGrouped_50 : decode cX6_handGrouped 50 = .ok (.aload 5, 2) := by decide +kernel
set_option maxRecDepth 100000 in
theorem dX6_handGrouped_52 : decode cX6_handGrouped 52 = .ok (.ifnull 18, 3) := by decide +kernel
set_option maxRecDepth 100000 in
theorem dX6_handGrouped_55 : decode cX6_handGrouped 55 = .ok (.aload 5, 2) := by decide +kernel
set_option maxRecDepth 100000 in
theorem dX6_handGrouped_57 : decode cX6_handGrouped 57 = .ok (.invokevirtual 217, 3) := by decide +kernel
set_option maxRecDepth 100000 in
theorem dX6_handGrouped_60 : decode cX6_handGrouped 60 = .ok (.ifCond .eq 10, 3) := by decide +kernel
set_option maxRecDepth 100000 in
theorem dX6_handGrouped_63 : decode cX6_handGrouped 63 = .ok (.aload_n 0, 1) := by decide +kernel
set_option maxRecDepth 100000 in
theorem dX6_handGrouped_64 : decode cX6_handGrouped 64 = .ok (.bipush (-3), 2) := by decide +kernel
set_option maxRecDepth 100000 in
theorem dX6_handGrouped_66 : decode cX6_handGrouped 66 = .ok (.invokevirtual 55, 3) := by decide +kernel
set_option maxRecDepth 100000 in
theorem dX6_handGrouped_69 : decode cX6_handGrouped 69 = .ok (.ireturn, 1) := by decide +kernel
set_option maxRecDepth 100000 in
theorem dX6_handGrouped_70 : decode cX6_handGrouped 70 = .ok (.iinc 4 1, 3) := by decide +kernel
set_option maxRecDepth 100000 in
theorem dX6_handGrouped_73 : decode cX6_handGrouped 73 = .ok (.goto (-51), 3) := by decide +kernel
set_option maxRecDepth 100000 in
theorem dX6_handGrouped_76 : decode cX6_handGrouped 76 = .ok (.iconst 0, 1) := by decide +kernel
set_option maxRecDepth 100000 in
theorem dX6_handGrouped_77 : decode cX6_handGrouped 77 = .ok (.istore 4, 2) := by decide +kernel
set_option maxRecDepth 100000 in
theorem dX6_handGrouped_79 : decode cX6_handGrouped 79 = .ok (.iconst 0, 1) := by decide +kernel
set_option maxRecDepth 100000 in
theorem dX6_handGrouped_80 : decode cX6_handGrouped 80 = .ok (.istore 5, 2) := by decide +kernel
set_option maxRecDepth 100000 in
theorem dX6_handGrouped_82 : decode cX6_handGrouped 82 = .ok (.iload 5, 2) := by decide +kernel
set_option maxRecDepth 100000 in
theorem dX6_handGrouped_84 : decode cX6_handGrouped 84 = .ok (.aload_n 0, 1) := by decide +kernel
set_option maxRecDepth 100000 in
theorem dX6_handGrouped_85 : decode cX6_handGrouped 85 = .ok (.getfield 51, 3) := by decide +kernel
set_option maxRecDepth 100000 in
theorem dX6_handGrouped_88 : decode cX6_handGrouped 88 = .ok (.if_icmp .ge 47, 3) := by decide +kernel
set_option maxRecDepth 100000 in
theorem dX6_handGrouped_91 : decode cX6_handGrouped 91 = .ok (.aload_n 0, 1) := by decide +kernel
set_option maxRecDepth 100000 in
theorem dX6_handGrouped_92 : decode cX6_handGrouped 92 = .ok (.iload 5, 2) := by decide +kernel
set_option maxRecDepth 100000 in
theorem dX6_handGrouped_94 : decode cX6_handGrouped 94 = .ok (.iload_n 2, 1) := by decide +kernel
set_option maxRecDepth 100000 in
theorem dX6_handGrouped_95 : decode cX6_handGrouped 95 = .ok (.invokevirtual 83, 3) := by decide +kernel
set_option maxRecDepth 100000 in
theorem dX6_handGrouped_98 : decode cX6_handGrouped 98 = .ok (.astore 6, 2) := by decide +kernel
set_option maxRecDepth 100000 in
theorem dX6_handGrouped_100 : decode cX6_handGrouped 100 = .ok (.aload_n 0, 1) := by decide +kernel
set_option maxRecDepth 100000 in
theorem dX6_handGrouped_101 : decode cX6_handGrouped 101 = .ok (.iload 5, 2) := by decide +kernel
set_option maxRecDepth 100000 in
theorem dX6_handGrouped_103 : decode cX6_handGrouped 103 = .ok (.iload_n 3, 1) := by decide +kernel
set_option maxRecDepth 100000 in
theorem dX6_handGrouped_104 : decode cX6_handGrouped 104 = .ok (.invokevirtual 314, 3) := by decide +kernel
set_option maxRecDepth 100000 in
theorem dX6_handGrouped_107 : decode cX6_handGrouped 107 = .ok (.ifCond .eq 22, 3) := by decide +kernel
set_option maxRecDepth 100000 in
theorem dX6_handGrouped_110 : decode cX6_handGrouped 110 = .ok (.aload 6, 2) := by decide +kernel
set_option maxRecDepth 100000 in
theorem dX6_handGrouped_112 : decode cX6_handGrouped 112 = .ok (.ifnull 17, 3) := by decide +kernel
set_option maxRecDepth 100000 in
theorem dX6_handGrouped_115 : decode cX6_handGrouped 115 = .ok (.aload 6, 2) := by decide +kernel
set_option maxRecDepth 100000 in
theorem dX6_handGrouped_117 : decode cX6_handGrouped 117 = .ok (.iconst 1, 1) := by decide +kernel
set_option maxRecDepth 100000 in
theorem dX6_handGrouped_118 : decode cX6_handGrouped 118 = .ok (.aload_n 0, 1) := by decide +kernel
set_option maxRecDepth 100000 in
theorem dX6_handGrouped_119 : decode cX6_handGrouped 119 = .ok (.getfield 94, 3) := by decide +kernel
set_option maxRecDepth 100000 in
theorem dX6_handGrouped_122 : decode cX6_handGrouped 122 = .ok (.iload_n 1, 1) := by decide +kernel
set_option maxRecDepth 100000 in
theorem dX6_handGrouped_123 : decode cX6_handGrouped 123 = .ok (.invokevirtual 164, 3) := by decide +kernel
set_option maxRecDepth 100000 in
theorem dX6_handGrouped_126 : decode cX6_handGrouped 126 = .ok (.iinc 4 1, 3) := by decide +kernel
set_option maxRecDepth 100000 in
theorem dX6_handGrouped_129 : decode cX6_handGrouped 129 = .ok (.iinc 5 1, 3) := by decide +kernel
set_option maxRecDepth 100000 in
theorem dX6_handGrouped_132 : decode cX6_handGrouped 132 = .ok (.goto (-50), 3) := by decide +kernel
set_option maxRecDepth 100000 in
theorem dX6_handGrouped_135 : decode cX6_handGrouped 135 = .ok (.aload_n 0, 1) := by decide +kernel
set_option maxRecDepth 100000 in
theorem dX6_handGrouped_136 : decode cX6_handGrouped 136 = .ok (.dup, 1) := by decide +kernel
set_option maxRecDepth 100000 in
theorem dX6_handGrouped_137 : decode cX6_handGrouped 137 = .ok (.getfield 167, 3) := by decide +kernel
set_option maxRecDepth 100000 in
theorem dX6_handGrouped_140 : decode cX6_handGrouped 140 = .ok (.iload 4, 2) := by decide +kernel
set_option maxRecDepth 100000 in
theorem dX6_handGrouped_142 : decode cX6_handGrouped 142 = .ok (.iadd, 1) := by decide +kernel
set_option maxRecDepth 100000 in
theorem dX6_handGrouped_143 : decode cX6_handGrouped 143 = .ok (.putfield 167, 3) := by decide +kernel
set_option maxRecDepth 100000 in
theorem dX6_handGrouped_146 : decode cX6_handGrouped 146 = .ok (.iload 4, 2) := by decide +kernel
set_option maxRecDepth 100000 in
theorem dX6_handGrouped_148 : decode cX6_handGrouped 148 = .ok (.ireturn, 1) := by decide +kernel
set_option maxRecDepth 100000 in
theorem dX6_markGrouped_0 : decode cX6_markGrouped 0 = .ok (.aload_n 1, 1) := by decide +kernel
set_option maxRecDepth 100000 in
theorem dX6_markGrouped_1 : decode cX6_markGrouped 1 = .ok (.iconst 0, 1) := by decide +kernel
set_option maxRecDepth 100000 in
theorem dX6_markGrouped_2 : decode cX6_markGrouped 2 = .ok (.invokevirtual 318, 3) := by decide +kernel
set_option maxRecDepth 100000 in
theorem dX6_markGrouped_5 : decode cX6_markGrouped 5 = .ok (.istore 4, 2) := by decide +kernel
set_option maxRecDepth 100000 in
theorem dX6_markGrouped_7 : decode cX6_markGrouped 7 = .ok (.aload_n 1, 1) := by decide +kernel
set_option maxRecDepth 100000 in
theorem dX6_markGrouped_8 : decode cX6_markGrouped 8 = .ok (.getfield 321, 3) := by decide +kernel
set_option maxRecDepth 100000 in
theorem dX6_markGrouped_11 : decode cX6_markGrouped 11 = .ok (.istore 5, 2) := by decide +kernel
set_option maxRecDepth 100000 in
theorem dX6_markGrouped_13 : decode cX6_markGrouped 13 = .ok (.iconst 0, 1) := by decide +kernel
set_option maxRecDepth 100000 in
theorem dX6_markGrouped_14 : decode cX6_markGrouped 14 = .ok (.istore 6, 2) := by decide +kernel
set_option maxRecDepth 100000 in
theorem dX6_markGrouped_16 : decode cX6_markGrouped 16 = .ok (.iconst 0, 1) := by decide +kernel
set_option maxRecDepth 100000 in
theorem dX6_markGrouped_17 : decode cX6_markGrouped 17 = .ok (.istore 7, 2) := by decide +kernel
set_option maxRecDepth 100000 in
theorem dX6_markGrouped_19 : decode cX6_markGrouped 19 = .ok (.iload 7, 2) := by decide +kernel
set_option maxRecDepth 100000 in
theorem dX6_markGrouped_21 : decode cX6_markGrouped 21 = .ok (.aload_n 0, 1) := by decide +kernel
set_option maxRecDepth 100000 in
theorem dX6_markGrouped_22 : decode cX6_markGrouped 22 = .ok (.getfield 51, 3) := by decide +kernel
set_option maxRecDepth 100000 in
theorem dX6_markGrouped_25 : decode cX6_markGrouped 25 = .ok (.if_icmp .ge 64, 3) := by decide +kernel
set_option maxRecDepth 100000 in
theorem dX6_markGrouped_28 : decode cX6_markGrouped 28 = .ok (.aload_n 0, 1) := by decide +kernel
set_option maxRecDepth 100000 in
theorem dX6_markGrouped_29 : decode cX6_markGrouped 29 = .ok (.iload 7, 2) := by decide +kernel
set_option maxRecDepth 100000 in
theorem dX6_markGrouped_31 : decode cX6_markGrouped 31 = .ok (.iload_n 2, 1) := by decide +kernel
set_option maxRecDepth 100000 in
theorem dX6_markGrouped_32 : decode cX6_markGrouped 32 = .ok (.invokevirtual 83, 3) := by decide +kernel
set_option maxRecDepth 100000 in
theorem dX6_markGrouped_35 : decode cX6_markGrouped 35 = .ok (.astore 8, 2) := by decide +kernel
set_option maxRecDepth 100000 in
theorem dX6_markGrouped_37 : decode cX6_markGrouped 37 = .ok (.aload 8, 2) := by decide +kernel
set_option maxRecDepth 100000 in
theorem dX6_markGrouped_39 : decode cX6_markGrouped 39 = .ok (.ifnull 44, 3) := by decide +kernel
set_option maxRecDepth 100000 in
theorem dX6_markGrouped_42 : decode cX6_markGrouped 42 = .ok (.aload 8, 2) := by decide +kernel
set_option maxRecDepth 100000 in
theorem dX6_markGrouped_44 : decode cX6_markGrouped 44 = .ok (.iconst 1, 1) := by decide +kernel
set_option maxRecDepth 100000 in
theorem dX6_markGrouped_45 : decode cX6_markGrouped 45 = .ok (.invokevirtual 170, 3) := by decide +kernel
set_option maxRecDepth 100000 in
theorem dX6_markGrouped_48 : decode cX6_markGrouped 48 = .ok (.ifCond .eq 35, 3) := by decide +kernel
set_option maxRecDepth 100000 in
theorem dX6_markGrouped_51 : decode cX6_markGrouped 51 = .ok (.aload 8, 2) := by decide +kernel
set_option maxRecDepth 100000 in
theorem dX6_markGrouped_53 : decode cX6_markGrouped 53 = .ok (.getfield 321, 3) := by decide +kernel
set_option maxRecDepth 100000 in
theorem dX6_markGrouped_56 : decode cX6_markGrouped 56 = .ok (.iload 5, 2) := by decide +kernel
set_option maxRecDepth 100000 in
theorem dX6_markGrouped_58 : decode cX6_markGrouped 58 = .ok (.if_icmp .ne 25, 3) := by decide +kernel
set_option maxRecDepth 100000 in
theorem dX6_markGrouped_61 : decode cX6_markGrouped 61 = .ok (.aload 8, 2) := by decide +kernel
set_option maxRecDepth 100000 in
theorem dX6_markGrouped_63 : decode cX6_markGrouped 63 = .ok (.iconst 0, 1) := by decide +kernel
set_option maxRecDepth 100000 in
theorem dX6_markGrouped_64 : decode cX6_markGrouped 64 = .ok (.invokevirtual 318, 3) := by decide +kernel
set_option maxRecDepth 100000 in
theorem dX6_markGrouped_67 : decode cX6_markGrouped 67 = .ok (.iload 4, 2) := by decide +kernel
set_option maxRecDepth 100000 in
theorem dX6_markGrouped_69 : decode cX6_markGrouped 69 = .ok (.if_icmp .ne 14, 3) := by decide +kernel
set_option maxRecDepth 100000 in
theorem dX6_markGrouped_72 : decode cX6_markGrouped 72 = .ok (.aload 8, 2) := by decide +kernel
set_option maxRecDepth 100000 in
theorem dX6_markGrouped_74 : decode cX6_markGrouped 74 = .ok (.iconst 0, 1) := by decide +kernel
set_option maxRecDepth 100000 in
theorem dX6_markGrouped_75 : decode cX6_markGrouped 75 = .ok (.iload_n 3, 1) := by decide +kernel
set_option maxRecDepth 100000 in
theorem dX6_markGrouped_76 : decode cX6_markGrouped 76 = .ok (.invokevirtual 180, 3) := by decide +kernel
set_option maxRecDepth 100000 in
theorem dX6_markGrouped_79 : decode cX6_markGrouped 79 = .ok (.pop, 1) := by decide +kernel
set_option maxRecDepth 100000 in
theorem dX6_markGrouped_80 : decode cX6_markGrouped 80 = .ok (.iinc 6 1, 3) := by decide +kernel
set_option maxRecDepth 100000 in
theorem dX6_markGrouped_83 : decode cX6_markGrouped 83 = .ok (.iinc 7 1, 3) := by decide +kernel
set_option maxRecDepth 100000 in
theorem dX6_markGrouped_86 : decode cX6_markGrouped 86 = .ok (.goto (-67), 3) := by decide +kernel
set_option maxRecDepth 100000 in
theorem dX6_markGrouped_89 : decode cX6_markGrouped 89 = .ok (.aload_n 0, 1) := by decide +kernel
set_option maxRecDepth 100000 in
theorem dX6_markGrouped_90 : decode cX6_markGrouped 90 = .ok (.dup, 1) := by decide +kernel
set_option maxRecDepth 100000 in
theorem dX6_markGrouped_91 : decode cX6_markGrouped 91 = .ok (.getfield 183, 3) := by decide +kernel
set_option maxRecDepth 100000 in
theorem dX6_markGrouped_94 : decode cX6_markGrouped 94 = .ok (.iload 6, 2) := by decide +kernel
set_option maxRecDepth 100000 in
theorem dX6_markGrouped_96 : decode cX6_markGrouped 96 = .ok (.iadd, 1) := by decide +kernel
set_option maxRecDepth 100000 in
theorem dX6_markGrouped_97 : decode cX6_markGrouped 97 = .ok (.putfield 183, 3) := by decide +kernel
set_option maxRecDepth 100000 in
theorem dX6_markGrouped_100 : decode cX6_markGrouped 100 = .ok (.iload 6, 2) := by decide +kernel
set_option maxRecDepth 100000 in
theorem dX6_markGrouped_102 : decode cX6_markGrouped 102 = .ok (.ireturn, 1) := by decide +kernel
set_option maxRecDepth 100000 in
theorem dX6_peerOf_0 : decode cX6_peerOf 0 = .ok (.iload_n 3, 1) := by decide +kernel
set_option maxRecDepth 100000 in
theorem dX6_peerOf_1 : decode cX6_peerOf 1 = .ok (.ifCond .lt 8, 3) := by decide +kernel
set_option maxRecDepth 100000 in
theorem dX6_peerOf_4 : decode cX6_peerOf 4 = .ok (.iload_n 3, 1) := by decide +kernel
set_option maxRecDepth 100000 in
theorem dX6_peerOf_5 : decode cX6_peerOf 5 = .ok (.iconst 2, 1) := by decide +kernel
set_option maxRecDepth 100000 in
theorem dX6_peerOf_6 : decode cX6_peerOf 6 = .ok (.if_icmp .lt 5, 3) := by decide +kernel
set_option maxRecDepth 100000 in
theorem dX6_peerOf_9 : decode cX6_peerOf 9 = .ok (.iconst (-1), 1) := by decide +kernel
set_option maxRecDepth 100000 in
theorem dX6_peerOf_10 : decode cX6_peerOf 10 = .ok (.ireturn, 1) := by decide +kernel
set_option maxRecDepth 100000 in
theorem dX6_peerOf_11 : decode cX6_peerOf 11 = .ok (.iconst 0, 1) := by decide +kernel
set_option maxRecDepth 100000 in
theorem dX6_peerOf_12 : decode cX6_peerOf 12 = .ok (.istore 4, 2) := by decide +kernel
set_option maxRecDepth 100000 in
theorem dX6_peerOf_14 : decode cX6_peerOf 14 = .ok (.iconst 1, 1) := by decide +kernel
set_option maxRecDepth 100000 in
theorem dX6_peerOf_15 : decode cX6_peerOf 15 = .ok (.istore 5, 2) := by decide +kernel
set_option maxRecDepth 100000 in
theorem dX6_peerOf_17 : decode cX6_peerOf 17 = .ok (.iload 5, 2) := by decide +kernel
set_option maxRecDepth 100000 in
theorem dX6_peerOf_19 : decode cX6_peerOf 19 = .ok (.aload_n 0, 1) := by decide +kernel
set_option maxRecDepth 100000 in
theorem dX6_peerOf_20 : decode cX6_peerOf 20 = .ok (.getfield 51, 3) := by decide +kernel
set_option maxRecDepth 100000 in
theorem dX6_peerOf_23 : decode cX6_peerOf 23 = .ok (.if_icmp .ge 72, 3) := by decide +kernel
set_option maxRecDepth 100000 in
theorem dX6_peerOf_26 : decode cX6_peerOf 26 = .ok (.iload_n 1, 1) := by decide +kernel
set_option maxRecDepth 100000 in
theorem dX6_peerOf_27 : decode cX6_peerOf 27 = .ok (.iload 5, 2) := by decide +kernel
set_option maxRecDepth 100000 in
theorem dX6_peerOf_29 : decode cX6_peerOf 29 = .ok (.iadd, 1) := by decide +kernel
set_option maxRecDepth 100000 in
theorem dX6_peerOf_30 : decode cX6_peerOf 30 = .ok (.aload_n 0, 1) := by decide +kernel
set_option maxRecDepth 100000 in
theorem dX6_peerOf_31 : decode cX6_peerOf 31 = .ok (.getfield 51, 3) := by decide +kernel
set_option maxRecDepth 100000 in
theorem dX6_peerOf_34 : decode cX6_peerOf 34 = .ok (.if_icmp .ge 10, 3) := by decide +kernel
set_option maxRecDepth 100000 in
theorem dX6_peerOf_37 : decode cX6_peerOf 37 = .ok (.iload_n 1, 1) := by decide +kernel
set_option maxRecDepth 100000 in
theorem dX6_peerOf_38 : decode cX6_peerOf 38 = .ok (.iload 5, 2) := by decide +kernel
set_option maxRecDepth 100000 in
theorem dX6_peerOf_40 : decode cX6_peerOf 40 = .ok (.iadd, 1) := by decide +kernel
set_option maxRecDepth 100000 in
theorem dX6_peerOf_41 : decode cX6_peerOf 41 = .ok (.goto 12, 3) := by decide +kernel
set_option maxRecDepth 100000 in
theorem dX6_peerOf_44 : decode cX6_peerOf 44 = .ok (.iload_n 1, 1) := by decide +kernel
set_option maxRecDepth 100000 in
theorem dX6_peerOf_45 : decode cX6_peerOf 45 = .ok (.iload 5, 2) := by decide +kernel
set_option maxRecDepth 100000 in
theorem dX6_peerOf_47 : decode cX6_peerOf 47 = .ok (.iadd, 1) := by decide +kernel
set_option maxRecDepth 100000 in
theorem dX6_peerOf_48 : decode cX6_peerOf 48 = .ok (.aload_n 0, 1) := by decide +kernel
set_option maxRecDepth 100000 in
theorem dX6_peerOf_49 : decode cX6_peerOf 49 = .ok (.getfield 51, 3) := by decide +kernel
set_option maxRecDepth 100000 in
theorem dX6_peerOf_52 : decode cX6_peerOf 52 = .ok (.isub, 1) := by decide +kernel
set_option maxRecDepth 100000 in
theorem dX6_peerOf_53 : decode cX6_peerOf 53 = .ok (.istore 6, 2) := by decide +kernel
set_option maxRecDepth 100000 in
theorem dX6_peerOf_55 : decode cX6_peerOf 55 = .ok (.aload_n 0, 1) := by decide +kernel
set_option maxRecDepth 100000 in
theorem dX6_peerOf_56 : decode cX6_peerOf 56 = .ok (.iload 6, 2) := by decide +kernel
set_option maxRecDepth 100000 in
theorem dX6_peerOf_58 : decode cX6_peerOf 58 = .ok (.iload_n 2, 1) := by decide +kernel
set_option maxRecDepth 100000 in
theorem dX6_peerOf_59 : decode cX6_peerOf 59 = .ok (.invokevirtual 83, 3) := by decide +kernel
set_option maxRecDepth 100000 in
theorem dX6_peerOf_62 : decode cX6_peerOf 62 = .ok (.astore 7, 2) := by decide +kernel
set_option maxRecDepth 100000 in
theorem dX6_peerOf_64 : decode cX6_peerOf 64 = .ok (.aload 7, 2) := by decide +kernel
set_option maxRecDepth 100000 in
theorem dX6_peerOf_66 : decode cX6_peerOf 66 = .ok (.ifnull 23, 3) := by decide +kernel
set_option maxRecDepth 100000 in
theorem dX6_peerOf_69 : decode cX6_peerOf 69 = .ok (.aload 7, 2) := by decide +kernel
set_option maxRecDepth 100000 in
theorem dX6_peerOf_71 : decode cX6_peerOf 71 = .ok (.getfield 186, 3) := by decide +kernel
set_option maxRecDepth 100000 in
theorem dX6_peerOf_74 : decode cX6_peerOf 74 = .ok (.ifCond .le 15, 3) := by decide +kernel
set_option maxRecDepth 100000 in
theorem dX6_peerOf_77 : decode cX6_peerOf 77 = .ok (.iload 4, 2) := by decide +kernel
set_option maxRecDepth 100000 in
theorem dX6_peerOf_79 : decode cX6_peerOf 79 = .ok (.iload_n 3, 1) := by decide +kernel
set_option maxRecDepth 100000 in
theorem dX6_peerOf_80 : decode cX6_peerOf 80 = .ok (.if_icmp .ne 6, 3) := by decide +kernel
set_option maxRecDepth 100000 in
theorem dX6_peerOf_83 : decode cX6_peerOf 83 = .ok (.iload 6, 2) := by decide +kernel
set_option maxRecDepth 100000 in
theorem dX6_peerOf_85 : decode cX6_peerOf 85 = .ok (.ireturn, 1) := by decide +kernel
set_option maxRecDepth 100000 in
theorem dX6_peerOf_86 : decode cX6_peerOf 86 = .ok (.iinc 4 1, 3) := by decide +kernel
set_option maxRecDepth 100000 in
theorem dX6_peerOf_89 : decode cX6_peerOf 89 = .ok (.iinc 5 1, 3) := by decide +kernel
set_option maxRecDepth 100000 in
theorem dX6_peerOf_92 : decode cX6_peerOf 92 = .ok (.goto (-75), 3) := by decide +kernel
set_option maxRecDepth 100000 in
theorem dX6_peerOf_95 : decode cX6_peerOf 95 = .ok (.iconst (-1), 1) := by decide +kernel
set_option maxRecDepth 100000 in
theorem dX6_peerOf_96 : decode cX6_peerOf 96 = .ok (.ireturn, 1) := by decide +kernel
set_option maxRecDepth 100000 in
theorem dX6_isPeer_0 : decode cX6_isPeer 0 = .ok (.aload_n 0, 1) := by decide +kernel
set_option maxRecDepth 100000 in
theorem dX6_isPeer_1 : decode cX6_isPeer 1 = .ok (.iload_n 2, 1) := by decide +kernel
set_option maxRecDepth 100000 in
theorem dX6_isPeer_2 : decode cX6_isPeer 2 = .ok (.iload_n 3, 1) := by decide +kernel
set_option maxRecDepth 100000 in
theorem dX6_isPeer_3 : decode cX6_isPeer 3 = .ok (.iconst 0, 1) := by decide +kernel
set_option maxRecDepth 100000 in
theorem dX6_isPeer_4 : decode cX6_isPeer 4 = .ok (.invokevirtual 189, 3) := by decide +kernel
set_option maxRecDepth 100000 in
theorem dX6_isPeer_7 : decode cX6_isPeer 7 = .ok (.iload_n 1, 1) := by decide +kernel
set_option maxRecDepth 100000 in
theorem dX6_isPeer_8 : decode cX6_isPeer 8 = .ok (.if_icmp .eq 14, 3) := by decide +kernel
set_option maxRecDepth 100000 in
theorem dX6_isPeer_11 : decode cX6_isPeer 11 = .ok (.aload_n 0, 1) := by decide +kernel
set_option maxRecDepth 100000 in
theorem dX6_isPeer_12 : decode cX6_isPeer 12 = .ok (.iload_n 2, 1) := by decide +kernel
set_option maxRecDepth 100000 in
theorem dX6_isPeer_13 : decode cX6_isPeer 13 = .ok (.iload_n 3, 1) := by decide +kernel
set_option maxRecDepth 100000 in
theorem dX6_isPeer_14 : decode cX6_isPeer 14 = .ok (.iconst 1, 1) := by decide +kernel
set_option maxRecDepth 100000 in
theorem dX6_isPeer_15 : decode cX6_isPeer 15 = .ok (.invokevirtual 189, 3) := by decide +kernel
set_option maxRecDepth 100000 in
theorem dX6_isPeer_18 : decode cX6_isPeer 18 = .ok (.iload_n 1, 1) := by decide +kernel
set_option maxRecDepth 100000 in
theorem dX6_isPeer_19 : decode cX6_isPeer 19 = .ok (.if_icmp .ne 7, 3) := by decide +kernel
set_option maxRecDepth 100000 in
theorem dX6_isPeer_22 : decode cX6_isPeer 22 = .ok (.iconst 1, 1) := by decide +kernel
set_option maxRecDepth 100000 in
theorem dX6_isPeer_23 : decode cX6_isPeer 23 = .ok (.goto 4, 3) := by decide +kernel
set_option maxRecDepth 100000 in
theorem dX6_isPeer_26 : decode cX6_isPeer 26 = .ok (.iconst 0, 1) := by decide +kernel
set_option maxRecDepth 100000 in
theorem dX6_isPeer_27 : decode cX6_isPeer 27 = .ok (.ireturn, 1) := by decide +kernel
