section
/-! THE LAW: the words of its calls -/
set_option maxRecDepth 100000 in
theorem lwk_13 : Cond.methodLink "CourseHouseLaw" 13 (am_Y mX6_pupil) ∈ lw_tbl := List.mem_of_getElem? (i := 351) (by decide +kernel)
set_option maxRecDepth 100000 in
theorem lwk_17 : Cond.methodLink "CourseHouseLaw" 17 (am_Y mX7_pupil) ∈ lw_tbl := List.mem_of_getElem? (i := 1061) (by decide +kernel)
set_option maxRecDepth 100000 in
theorem lwk_18 : Cond.methodLink "CourseHouseLaw" 18 (am_Y mX6_group) ∈ lw_tbl := List.mem_of_getElem? (i := 359) (by decide +kernel)
set_option maxRecDepth 100000 in
theorem lwk_22 : Cond.methodLink "CourseHouseLaw" 22 (am_Y mX7_group) ∈ lw_tbl := List.mem_of_getElem? (i := 1069) (by decide +kernel)
set_option maxRecDepth 100000 in
theorem lwk_23 : Cond.methodLink "CourseHouseLaw" 23 (am_Y mX6_work) ∈ lw_tbl := List.mem_of_getElem? (i := 367) (by decide +kernel)
set_option maxRecDepth 100000 in
theorem lwk_27 : Cond.methodLink "CourseHouseLaw" 27 (am_Y mX7_work) ∈ lw_tbl := List.mem_of_getElem? (i := 1080) (by decide +kernel)
set_option maxRecDepth 100000 in
theorem lwk_28 : Cond.methodLink "CourseHouseLaw" 28 (am_Y mX6_leave) ∈ lw_tbl := List.mem_of_getElem? (i := 376) (by decide +kernel)
set_option maxRecDepth 100000 in
theorem lwk_32 : Cond.methodLink "CourseHouseLaw" 32 (am_Y mX7_leave) ∈ lw_tbl := List.mem_of_getElem? (i := 1085) (by decide +kernel)
set_option maxRecDepth 100000 in
theorem lwk_33 : Cond.methodLink "CourseHouseLaw" 33 (am_Y mX6_excuse) ∈ lw_tbl := List.mem_of_getElem? (i := 384) (by decide +kernel)
set_option maxRecDepth 100000 in
theorem lwk_37 : Cond.methodLink "CourseHouseLaw" 37 (am_Y mX7_excuse) ∈ lw_tbl := List.mem_of_getElem? (i := 1096) (by decide +kernel)
set_option maxRecDepth 100000 in
theorem lwk_38 : Cond.methodLink "CourseHouseLaw" 38 (am_Y mX6_tick) ∈ lw_tbl := List.mem_of_getElem? (i := 388) (by decide +kernel)
set_option maxRecDepth 100000 in
theorem lwk_42 : Cond.methodLink "CourseHouseLaw" 42 (am_Y mX7_tick) ∈ lw_tbl := List.mem_of_getElem? (i := 1100) (by decide +kernel)
set_option maxRecDepth 100000 in
theorem lwk_43 : Cond.methodLink "CourseHouseLaw" 43 (am_Y mX6_text) ∈ lw_tbl := List.mem_of_getElem? (i := 392) (by decide +kernel)
set_option maxRecDepth 100000 in
theorem lwk_47 : Cond.methodLink "CourseHouseLaw" 47 (am_Y mX7_text) ∈ lw_tbl := List.mem_of_getElem? (i := 1104) (by decide +kernel)
set_option maxRecDepth 100000 in
theorem lwk_48 : Cond.methodLink "CourseHouseLaw" 48 (am_Y mX6_rules) ∈ lw_tbl := List.mem_of_getElem? (i := 400) (by decide +kernel)
set_option maxRecDepth 100000 in
theorem lwk_52 : Cond.methodLink "CourseHouseLaw" 52 (am_Y mX7_rules) ∈ lw_tbl := List.mem_of_getElem? (i := 1108) (by decide +kernel)
set_option maxRecDepth 100000 in
theorem lwk_53 : Cond.methodLink "CourseHouseLaw" 53 (am_Y mX6_name) ∈ lw_tbl := List.mem_of_getElem? (i := 670) (by decide +kernel)
set_option maxRecDepth 100000 in
theorem lwk_56 : Cond.methodLink "CourseHouseLaw" 56 (am_Y mX7_name) ∈ lw_tbl := List.mem_of_getElem? (i := 1283) (by decide +kernel)
set_option maxRecDepth 100000 in
theorem lwk_57 : Cond.methodLink "CourseHouseLaw" 57 (am_Y mX6_hangs) ∈ lw_tbl := List.mem_of_getElem? (i := 678) (by decide +kernel)
set_option maxRecDepth 100000 in
theorem lwk_60 : Cond.methodLink "CourseHouseLaw" 60 (am_Y mX7_hangs) ∈ lw_tbl := List.mem_of_getElem? (i := 1291) (by decide +kernel)
set_option maxRecDepth 100000 in
theorem lwk_61 : Cond.methodLink "CourseHouseLaw" 61 (am_Y mX6_need) ∈ lw_tbl := List.mem_of_getElem? (i := 682) (by decide +kernel)
set_option maxRecDepth 100000 in
theorem lwk_64 : Cond.methodLink "CourseHouseLaw" 64 (am_Y mX7_need) ∈ lw_tbl := List.mem_of_getElem? (i := 1295) (by decide +kernel)
set_option maxRecDepth 100000 in
theorem lwk_65 : Cond.methodLink "CourseHouseLaw" 65 (am_Y mX6_opens) ∈ lw_tbl := List.mem_of_getElem? (i := 686) (by decide +kernel)
set_option maxRecDepth 100000 in
theorem lwk_68 : Cond.methodLink "CourseHouseLaw" 68 (am_Y mX7_opens) ∈ lw_tbl := List.mem_of_getElem? (i := 1299) (by decide +kernel)
set_option maxRecDepth 100000 in
theorem lwk_69 : Cond.methodLink "CourseHouseLaw" 69 (am_Y mX6_hand) ∈ lw_tbl := List.mem_of_getElem? (i := 699) (by decide +kernel)
set_option maxRecDepth 100000 in
theorem lwk_72 : Cond.methodLink "CourseHouseLaw" 72 (am_Y mX7_hand) ∈ lw_tbl := List.mem_of_getElem? (i := 1307) (by decide +kernel)
set_option maxRecDepth 100000 in
theorem lwk_73 : Cond.methodLink "CourseHouseLaw" 73 (am_Y mX6_mark) ∈ lw_tbl := List.mem_of_getElem? (i := 739) (by decide +kernel)
set_option maxRecDepth 100000 in
theorem lwk_76 : Cond.methodLink "CourseHouseLaw" 76 (am_Y mX7_mark) ∈ lw_tbl := List.mem_of_getElem? (i := 1319) (by decide +kernel)
set_option maxRecDepth 100000 in
theorem lwk_77 : Cond.methodLink "CourseHouseLaw" 77 (am_Y mX6_peer) ∈ lw_tbl := List.mem_of_getElem? (i := 754) (by decide +kernel)
set_option maxRecDepth 100000 in
theorem lwk_80 : Cond.methodLink "CourseHouseLaw" 80 (am_Y mX7_peer) ∈ lw_tbl := List.mem_of_getElem? (i := 1327) (by decide +kernel)
set_option maxRecDepth 100000 in
theorem lwk_81 : Cond.methodLink "CourseHouseLaw" 81 (am_Y mX6_show) ∈ lw_tbl := List.mem_of_getElem? (i := 762) (by decide +kernel)
set_option maxRecDepth 100000 in
theorem lwk_84 : Cond.methodLink "CourseHouseLaw" 84 (am_Y mX7_show) ∈ lw_tbl := List.mem_of_getElem? (i := 1339) (by decide +kernel)
set_option maxRecDepth 100000 in
theorem lwk_85 : Cond.methodLink "CourseHouseLaw" 85 (am_Y mX6_appeal) ∈ lw_tbl := List.mem_of_getElem? (i := 778) (by decide +kernel)
set_option maxRecDepth 100000 in
theorem lwk_88 : Cond.methodLink "CourseHouseLaw" 88 (am_Y mX7_appeal) ∈ lw_tbl := List.mem_of_getElem? (i := 1343) (by decide +kernel)
set_option maxRecDepth 100000 in
theorem lwk_89 : Cond.methodLink "CourseHouseLaw" 89 (am_Y mX6_markOf) ∈ lw_tbl := List.mem_of_getElem? (i := 783) (by decide +kernel)
set_option maxRecDepth 100000 in
theorem lwk_92 : Cond.methodLink "CourseHouseLaw" 92 (am_Y mX7_markOf) ∈ lw_tbl := List.mem_of_getElem? (i := 1347) (by decide +kernel)
set_option maxRecDepth 100000 in
theorem lwk_93 : Cond.methodLink "CourseHouseLaw" 93 (am_Y mX6_value) ∈ lw_tbl := List.mem_of_getElem? (i := 794) (by decide +kernel)
set_option maxRecDepth 100000 in
theorem lwk_96 : Cond.methodLink "CourseHouseLaw" 96 (am_Y mX7_value) ∈ lw_tbl := List.mem_of_getElem? (i := 1351) (by decide +kernel)
set_option maxRecDepth 100000 in
theorem lwk_97 : Cond.methodLink "CourseHouseLaw" 97 (am_Y mX6_range) ∈ lw_tbl := List.mem_of_getElem? (i := 800) (by decide +kernel)
set_option maxRecDepth 100000 in
theorem lwk_100 : Cond.methodLink "CourseHouseLaw" 100 (am_Y mX7_range) ∈ lw_tbl := List.mem_of_getElem? (i := 1360) (by decide +kernel)
set_option maxRecDepth 100000 in
theorem lwk_101 : Cond.methodLink "CourseHouseLaw" 101 (am_Y mX6_least) ∈ lw_tbl := List.mem_of_getElem? (i := 839) (by decide +kernel)
set_option maxRecDepth 100000 in
theorem lwk_104 : Cond.methodLink "CourseHouseLaw" 104 (am_Y mX7_least) ∈ lw_tbl := List.mem_of_getElem? (i := 1376) (by decide +kernel)
set_option maxRecDepth 100000 in
theorem lwk_105 : Cond.methodLink "CourseHouseLaw" 105 (am_Y mX6_count) ∈ lw_tbl := List.mem_of_getElem? (i := 848) (by decide +kernel)
set_option maxRecDepth 100000 in
theorem lwk_108 : Cond.methodLink "CourseHouseLaw" 108 (am_Y mX7_count) ∈ lw_tbl := List.mem_of_getElem? (i := 1380) (by decide +kernel)
end
