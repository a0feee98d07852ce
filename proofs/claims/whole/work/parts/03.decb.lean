theorem dX6_init_0 : decode cX6_init 0 = .ok (.aload_n 0, 1) := by decide +kernel
theorem dX6_init_1 : decode cX6_init 1 = .ok (.invokespecial 1, 3) := by decide +kernel
theorem dX6_init_4 : decode cX6_init 4 = .ok (.aload_n 0, 1) := by decide +kernel
theorem dX6_init_5 : decode cX6_init 5 = .ok (.bipush 8, 2) := by decide +kernel
theorem dX6_init_7 : decode cX6_init 7 = .ok (.newarray .int, 2) := by decide +kernel
theorem dX6_init_9 : decode cX6_init 9 = .ok (.putfield 7, 3) := by decide +kernel
theorem dX6_init_12 : decode cX6_init 12 = .ok (.aload_n 0, 1) := by decide +kernel
theorem dX6_init_13 : decode cX6_init 13 = .ok (.bipush 8, 2) := by decide +kernel
theorem dX6_init_15 : decode cX6_init 15 = .ok (.newarray .int, 2) := by decide +kernel
theorem dX6_init_17 : decode cX6_init 17 = .ok (.putfield 13, 3) := by decide +kernel
theorem dX6_init_20 : decode cX6_init 20 = .ok (.aload_n 0, 1) := by decide +kernel
theorem dX6_init_21 : decode cX6_init 21 = .ok (.bipush 8, 2) := by decide +kernel
theorem dX6_init_23 : decode cX6_init 23 = .ok (.newarray .boolean, 2) := by decide +kernel
theorem dX6_init_25 : decode cX6_init 25 = .ok (.putfield 16, 3) := by decide +kernel
theorem dX6_init_28 : decode cX6_init 28 = .ok (.aload_n 0, 1) := by decide +kernel
theorem dX6_init_29 : decode cX6_init 29 = .ok (.bipush 24, 2) := by decide +kernel
theorem dX6_init_31 : decode cX6_init 31 = .ok (.newarray .int, 2) := by decide +kernel
theorem dX6_init_33 : decode cX6_init 33 = .ok (.putfield 20, 3) := by decide +kernel
theorem dX6_init_36 : decode cX6_init 36 = .ok (.aload_n 0, 1) := by decide +kernel
theorem dX6_init_37 : decode cX6_init 37 = .ok (.iconst 2, 1) := by decide +kernel
theorem dX6_init_38 : decode cX6_init 38 = .ok (.putfield 23, 3) := by decide +kernel
theorem dX6_init_41 : decode cX6_init 41 = .ok (.aload_n 0, 1) := by decide +kernel
theorem dX6_init_42 : decode cX6_init 42 = .ok (.iconst 3, 1) := by decide +kernel
theorem dX6_init_43 : decode cX6_init 43 = .ok (.putfield 27, 3) := by decide +kernel
theorem dX6_init_46 : decode cX6_init 46 = .ok (.aload_n 0, 1) := by decide +kernel
theorem dX6_init_47 : decode cX6_init 47 = .ok (.bipush 75, 2) := by decide +kernel
theorem dX6_init_49 : decode cX6_init 49 = .ok (.putfield 30, 3) := by decide +kernel
theorem dX6_init_52 : decode cX6_init 52 = .ok (.aload_n 0, 1) := by decide +kernel
theorem dX6_init_53 : decode cX6_init 53 = .ok (.bipush 50, 2) := by decide +kernel
theorem dX6_init_55 : decode cX6_init 55 = .ok (.putfield 33, 3) := by decide +kernel
theorem dX6_init_58 : decode cX6_init 58 = .ok (.aload_n 0, 1) := by decide +kernel
theorem dX6_init_59 : decode cX6_init 59 = .ok (.iconst 2, 1) := by decide +kernel
theorem dX6_init_60 : decode cX6_init 60 = .ok (.newarray .int, 2) := by decide +kernel
theorem dX6_init_62 : decode cX6_init 62 = .ok (.putfield 36, 3) := by decide +kernel
theorem dX6_init_65 : decode cX6_init 65 = .ok (.aload_n 0, 1) := by decide +kernel
theorem dX6_init_66 : decode cX6_init 66 = .ok (.iconst 2, 1) := by decide +kernel
theorem dX6_init_67 : decode cX6_init 67 = .ok (.newarray .int, 2) := by decide +kernel
theorem dX6_init_69 : decode cX6_init 69 = .ok (.putfield 39, 3) := by decide +kernel
theorem dX6_init_72 : decode cX6_init 72 = .ok (.aload_n 0, 1) := by decide +kernel
theorem dX6_init_73 : decode cX6_init 73 = .ok (.sipush 400, 3) := by decide +kernel
theorem dX6_init_76 : decode cX6_init 76 = .ok (.newarray .int, 2) := by decide +kernel
theorem dX6_init_78 : decode cX6_init 78 = .ok (.putfield 42, 3) := by decide +kernel
theorem dX6_init_81 : decode cX6_init 81 = .ok (.aload_n 0, 1) := by decide +kernel
theorem dX6_init_82 : decode cX6_init 82 = .ok (.sipush 400, 3) := by decide +kernel
theorem dX6_init_85 : decode cX6_init 85 = .ok (.newarray .int, 2) := by decide +kernel
theorem dX6_init_87 : decode cX6_init 87 = .ok (.putfield 45, 3) := by decide +kernel
theorem dX6_init_90 : decode cX6_init 90 = .ok (.aload_n 0, 1) := by decide +kernel
theorem dX6_init_91 : decode cX6_init 91 = .ok (.sipush 400, 3) := by decide +kernel
theorem dX6_init_94 : decode cX6_init 94 = .ok (.newarray .int, 2) := by decide +kernel
theorem dX6_init_96 : decode cX6_init 96 = .ok (.putfield 48, 3) := by decide +kernel
theorem dX6_init_99 : decode cX6_init 99 = .ok (.aload_n 0, 1) := by decide +kernel
theorem dX6_init_100 : decode cX6_init 100 = .ok (.sipush 400, 3) := by decide +kernel
theorem dX6_init_103 : decode cX6_init 103 = .ok (.newarray .int, 2) := by decide +kernel
theorem dX6_init_105 : decode cX6_init 105 = .ok (.putfield 51, 3) := by decide +kernel
theorem dX6_init_108 : decode cX6_init 108 = .ok (.aload_n 0, 1) := by decide +kernel
theorem dX6_init_109 : decode cX6_init 109 = .ok (.sipush 400, 3) := by decide +kernel
theorem dX6_init_112 : decode cX6_init 112 = .ok (.newarray .int, 2) := by decide +kernel
theorem dX6_init_114 : decode cX6_init 114 = .ok (.putfield 54, 3) := by decide +kernel
theorem dX6_init_117 : decode cX6_init 117 = .ok (.aload_n 0, 1) := by decide +kernel
theorem dX6_init_118 : decode cX6_init 118 = .ok (.sipush 400, 3) := by decide +kernel
theorem dX6_init_121 : decode cX6_init 121 = .ok (.newarray .boolean, 2) := by decide +kernel
theorem dX6_init_123 : decode cX6_init 123 = .ok (.putfield 57, 3) := by decide +kernel
theorem dX6_init_126 : decode cX6_init 126 = .ok (.aload_n 0, 1) := by decide +kernel
theorem dX6_init_127 : decode cX6_init 127 = .ok (.bipush 48, 2) := by decide +kernel
theorem dX6_init_129 : decode cX6_init 129 = .ok (.newarray .int, 2) := by decide +kernel
theorem dX6_init_131 : decode cX6_init 131 = .ok (.putfield 60, 3) := by decide +kernel
theorem dX6_init_134 : decode cX6_init 134 = .ok (.aload_n 0, 1) := by decide +kernel
theorem dX6_init_135 : decode cX6_init 135 = .ok (.bipush 48, 2) := by decide +kernel
theorem dX6_init_137 : decode cX6_init 137 = .ok (.newarray .int, 2) := by decide +kernel
theorem dX6_init_139 : decode cX6_init 139 = .ok (.putfield 63, 3) := by decide +kernel
theorem dX6_init_142 : decode cX6_init 142 = .ok (.aload_n 0, 1) := by decide +kernel
theorem dX6_init_143 : decode cX6_init 143 = .ok (.bipush 48, 2) := by decide +kernel
theorem dX6_init_145 : decode cX6_init 145 = .ok (.newarray .int, 2) := by decide +kernel
theorem dX6_init_147 : decode cX6_init 147 = .ok (.putfield 66, 3) := by decide +kernel
theorem dX6_init_150 : decode cX6_init 150 = .ok (.aload_n 0, 1) := by decide +kernel
theorem dX6_init_151 : decode cX6_init 151 = .ok (.bipush 16, 2) := by decide +kernel
theorem dX6_init_153 : decode cX6_init 153 = .ok (.newarray .int, 2) := by decide +kernel
theorem dX6_init_155 : decode cX6_init 155 = .ok (.putfield 69, 3) := by decide +kernel
theorem dX6_init_158 : decode cX6_init 158 = .ok (.aload_n 0, 1) := by decide +kernel
theorem dX6_init_159 : decode cX6_init 159 = .ok (.bipush 16, 2) := by decide +kernel
theorem dX6_init_161 : decode cX6_init 161 = .ok (.newarray .int, 2) := by decide +kernel
theorem dX6_init_163 : decode cX6_init 163 = .ok (.putfield 72, 3) := by decide +kernel
theorem dX6_init_166 : decode cX6_init 166 = .ok (.aload_n 0, 1) := by decide +kernel
theorem dX6_init_167 : decode cX6_init 167 = .ok (.bipush 16, 2) := by decide +kernel
theorem dX6_init_169 : decode cX6_init 169 = .ok (.newarray .int, 2) := by decide +kernel
theorem dX6_init_171 : decode cX6_init 171 = .ok (.putfield 75, 3) := by decide +kernel
theorem dX6_init_174 : decode cX6_init 174 = .ok (.aload_n 0, 1) := by decide +kernel
theorem dX6_init_175 : decode cX6_init 175 = .ok (.iconst 2, 1) := by decide +kernel
theorem dX6_init_176 : decode cX6_init 176 = .ok (.putfield 78, 3) := by decide +kernel
theorem dX6_init_179 : decode cX6_init 179 = .ok (.return_, 1) := by decide +kernel
theorem dX6_within_0 : decode cX6_within 0 = .ok (.iload_n 0, 1) := by decide +kernel
theorem dX6_within_1 : decode cX6_within 1 = .ok (.iload_n 1, 1) := by decide +kernel
theorem dX6_within_2 : decode cX6_within 2 = .ok (.if_icmp .lt 12, 3) := by decide +kernel
theorem dX6_within_5 : decode cX6_within 5 = .ok (.iload_n 0, 1) := by decide +kernel
theorem dX6_within_6 : decode cX6_within 6 = .ok (.iload_n 2, 1) := by decide +kernel
theorem dX6_within_7 : decode cX6_within 7 = .ok (.if_icmp .gt 7, 3) := by decide +kernel
theorem dX6_within_10 : decode cX6_within 10 = .ok (.iconst 1, 1) := by decide +kernel
theorem dX6_within_11 : decode cX6_within 11 = .ok (.goto 4, 3) := by decide +kernel
theorem dX6_within_14 : decode cX6_within 14 = .ok (.iconst 0, 1) := by decide +kernel
theorem dX6_within_15 : decode cX6_within 15 = .ok (.ireturn, 1) := by decide +kernel
theorem dX6_isNode_0 : decode cX6_isNode 0 = .ok (.iload_n 1, 1) := by decide +kernel
theorem dX6_isNode_1 : decode cX6_isNode 1 = .ok (.iconst 0, 1) := by decide +kernel
theorem dX6_isNode_2 : decode cX6_isNode 2 = .ok (.aload_n 0, 1) := by decide +kernel
theorem dX6_isNode_3 : decode cX6_isNode 3 = .ok (.getfield 81, 3) := by decide +kernel
theorem dX6_isNode_6 : decode cX6_isNode 6 = .ok (.iconst 1, 1) := by decide +kernel
theorem dX6_isNode_7 : decode cX6_isNode 7 = .ok (.isub, 1) := by decide +kernel
theorem dX6_isNode_8 : decode cX6_isNode 8 = .ok (.invokestatic 84, 3) := by decide +kernel
theorem dX6_isNode_11 : decode cX6_isNode 11 = .ok (.ireturn, 1) := by decide +kernel
theorem dX6_isTask_0 : decode cX6_isTask 0 = .ok (.iload_n 1, 1) := by decide +kernel
theorem dX6_isTask_1 : decode cX6_isTask 1 = .ok (.iconst 0, 1) := by decide +kernel
theorem dX6_isTask_2 : decode cX6_isTask 2 = .ok (.aload_n 0, 1) := by decide +kernel
theorem dX6_isTask_3 : decode cX6_isTask 3 = .ok (.getfield 88, 3) := by decide +kernel
theorem dX6_isTask_6 : decode cX6_isTask 6 = .ok (.iconst 1, 1) := by decide +kernel
theorem dX6_isTask_7 : decode cX6_isTask 7 = .ok (.isub, 1) := by decide +kernel
theorem dX6_isTask_8 : decode cX6_isTask 8 = .ok (.invokestatic 84, 3) := by decide +kernel
theorem dX6_isTask_11 : decode cX6_isTask 11 = .ok (.ireturn, 1) := by decide +kernel
theorem dX6_first_0 : decode cX6_first 0 = .ok (.sipush 200, 3) := by decide +kernel
theorem dX6_first_3 : decode cX6_first 3 = .ok (.aload_n 0, 1) := by decide +kernel
theorem dX6_first_4 : decode cX6_first 4 = .ok (.getfield 91, 3) := by decide +kernel
theorem dX6_first_7 : decode cX6_first 7 = .ok (.imul, 1) := by decide +kernel
theorem dX6_first_8 : decode cX6_first 8 = .ok (.ireturn, 1) := by decide +kernel
theorem dX6_last_0 : decode cX6_last 0 = .ok (.sipush 200, 3) := by decide +kernel
theorem dX6_last_3 : decode cX6_last 3 = .ok (.aload_n 0, 1) := by decide +kernel
theorem dX6_last_4 : decode cX6_last 4 = .ok (.getfield 91, 3) := by decide +kernel
theorem dX6_last_7 : decode cX6_last 7 = .ok (.imul, 1) := by decide +kernel
theorem dX6_last_8 : decode cX6_last 8 = .ok (.aload_n 0, 1) := by decide +kernel
theorem dX6_last_9 : decode cX6_last 9 = .ok (.getfield 36, 3) := by decide +kernel
theorem dX6_last_12 : decode cX6_last 12 = .ok (.aload_n 0, 1) := by decide +kernel
theorem dX6_last_13 : decode cX6_last 13 = .ok (.getfield 91, 3) := by decide +kernel
theorem dX6_last_16 : decode cX6_last 16 = .ok (.iaload, 1) := by decide +kernel
theorem dX6_last_17 : decode cX6_last 17 = .ok (.iadd, 1) := by decide +kernel
theorem dX6_last_18 : decode cX6_last 18 = .ok (.ireturn, 1) := by decide +kernel
theorem dX6_addNode_0 : decode cX6_addNode 0 = .ok (.iload_n 1, 1) := by decide +kernel
theorem dX6_addNode_1 : decode cX6_addNode 1 = .ok (.iconst 0, 1) := by decide +kernel
theorem dX6_addNode_2 : decode cX6_addNode 2 = .ok (.bipush 100, 2) := by decide +kernel
theorem dX6_addNode_4 : decode cX6_addNode 4 = .ok (.invokestatic 84, 3) := by decide +kernel
theorem dX6_addNode_7 : decode cX6_addNode 7 = .ok (.ifCond .eq 12, 3) := by decide +kernel
theorem dX6_addNode_10 : decode cX6_addNode 10 = .ok (.iload_n 2, 1) := by decide +kernel
theorem dX6_addNode_11 : decode cX6_addNode 11 = .ok (.iconst 1, 1) := by decide +kernel
theorem dX6_addNode_12 : decode cX6_addNode 12 = .ok (.iconst 4, 1) := by decide +kernel
theorem dX6_addNode_13 : decode cX6_addNode 13 = .ok (.invokestatic 84, 3) := by decide +kernel
theorem dX6_addNode_16 : decode cX6_addNode 16 = .ok (.ifCond .ne 6, 3) := by decide +kernel
theorem dX6_addNode_19 : decode cX6_addNode 19 = .ok (.bipush (-4), 2) := by decide +kernel
theorem dX6_addNode_21 : decode cX6_addNode 21 = .ok (.ireturn, 1) := by decide +kernel
theorem dX6_addNode_22 : decode cX6_addNode 22 = .ok (.aload_n 0, 1) := by decide +kernel
theorem dX6_addNode_23 : decode cX6_addNode 23 = .ok (.getfield 81, 3) := by decide +kernel
theorem dX6_addNode_26 : decode cX6_addNode 26 = .ok (.bipush 8, 2) := by decide +kernel
theorem dX6_addNode_28 : decode cX6_addNode 28 = .ok (.if_icmp .ne 6, 3) := by decide +kernel
theorem dX6_addNode_31 : decode cX6_addNode 31 = .ok (.bipush (-5), 2) := by decide +kernel
theorem dX6_addNode_33 : decode cX6_addNode 33 = .ok (.ireturn, 1) := by decide +kernel
theorem dX6_addNode_34 : decode cX6_addNode 34 = .ok (.aload_n 0, 1) := by decide +kernel
theorem dX6_addNode_35 : decode cX6_addNode 35 = .ok (.getfield 7, 3) := by decide +kernel
theorem dX6_addNode_38 : decode cX6_addNode 38 = .ok (.aload_n 0, 1) := by decide +kernel
theorem dX6_addNode_39 : decode cX6_addNode 39 = .ok (.getfield 81, 3) := by decide +kernel
theorem dX6_addNode_42 : decode cX6_addNode 42 = .ok (.iload_n 1, 1) := by decide +kernel
theorem dX6_addNode_43 : decode cX6_addNode 43 = .ok (.iastore, 1) := by decide +kernel
theorem dX6_addNode_44 : decode cX6_addNode 44 = .ok (.aload_n 0, 1) := by decide +kernel
theorem dX6_addNode_45 : decode cX6_addNode 45 = .ok (.getfield 13, 3) := by decide +kernel
theorem dX6_addNode_48 : decode cX6_addNode 48 = .ok (.aload_n 0, 1) := by decide +kernel
theorem dX6_addNode_49 : decode cX6_addNode 49 = .ok (.getfield 81, 3) := by decide +kernel
theorem dX6_addNode_52 : decode cX6_addNode 52 = .ok (.iload_n 2, 1) := by decide +kernel
theorem dX6_addNode_53 : decode cX6_addNode 53 = .ok (.iastore, 1) := by decide +kernel
theorem dX6_addNode_54 : decode cX6_addNode 54 = .ok (.aload_n 0, 1) := by decide +kernel
theorem dX6_addNode_55 : decode cX6_addNode 55 = .ok (.getfield 16, 3) := by decide +kernel
theorem dX6_addNode_58 : decode cX6_addNode 58 = .ok (.aload_n 0, 1) := by decide +kernel
theorem dX6_addNode_59 : decode cX6_addNode 59 = .ok (.getfield 81, 3) := by decide +kernel
theorem dX6_addNode_62 : decode cX6_addNode 62 = .ok (.iconst 1, 1) := by decide +kernel
theorem dX6_addNode_63 : decode cX6_addNode 63 = .ok (.bastore, 1) := by decide +kernel
theorem dX6_addNode_64 : decode cX6_addNode 64 = .ok (.aload_n 0, 1) := by decide +kernel
theorem dX6_addNode_65 : decode cX6_addNode 65 = .ok (.dup, 1) := by decide +kernel
theorem dX6_addNode_66 : decode cX6_addNode 66 = .ok (.getfield 81, 3) := by decide +kernel
theorem dX6_addNode_69 : decode cX6_addNode 69 = .ok (.iconst 1, 1) := by decide +kernel
theorem dX6_addNode_70 : decode cX6_addNode 70 = .ok (.iadd, 1) := by decide +kernel
theorem dX6_addNode_71 : decode cX6_addNode 71 = .ok (.putfield 81, 3) := by decide +kernel
theorem dX6_addNode_74 : decode cX6_addNode 74 = .ok (.aload_n 0, 1) := by decide +kernel
theorem dX6_addNode_75 : decode cX6_addNode 75 = .ok (.getfield 81, 3) := by decide +kernel
theorem dX6_addNode_78 : decode cX6_addNode 78 = .ok (.iconst 1, 1) := by decide +kernel
theorem dX6_addNode_79 : decode cX6_addNode 79 = .ok (.isub, 1) := by decide +kernel
theorem dX6_addNode_80 : decode cX6_addNode 80 = .ok (.ireturn, 1) := by decide +kernel
theorem dX6_setSpeed_0 : decode cX6_setSpeed 0 = .ok (.aload_n 0, 1) := by decide +kernel
theorem dX6_setSpeed_1 : decode cX6_setSpeed 1 = .ok (.iload_n 1, 1) := by decide +kernel
theorem dX6_setSpeed_2 : decode cX6_setSpeed 2 = .ok (.invokevirtual 94, 3) := by decide +kernel
theorem dX6_setSpeed_5 : decode cX6_setSpeed 5 = .ok (.ifCond .ne 5, 3) := by decide +kernel
theorem dX6_setSpeed_8 : decode cX6_setSpeed 8 = .ok (.iconst (-1), 1) := by decide +kernel
theorem dX6_setSpeed_9 : decode cX6_setSpeed 9 = .ok (.ireturn, 1) := by decide +kernel
theorem dX6_setSpeed_10 : decode cX6_setSpeed 10 = .ok (.iload_n 2, 1) := by decide +kernel
theorem dX6_setSpeed_11 : decode cX6_setSpeed 11 = .ok (.iconst 0, 1) := by decide +kernel
theorem dX6_setSpeed_12 : decode cX6_setSpeed 12 = .ok (.bipush 100, 2) := by decide +kernel
theorem dX6_setSpeed_14 : decode cX6_setSpeed 14 = .ok (.invokestatic 84, 3) := by decide +kernel
theorem dX6_setSpeed_17 : decode cX6_setSpeed 17 = .ok (.ifCond .ne 6, 3) := by decide +kernel
theorem dX6_setSpeed_20 : decode cX6_setSpeed 20 = .ok (.bipush (-4), 2) := by decide +kernel
theorem dX6_setSpeed_22 : decode cX6_setSpeed 22 = .ok (.ireturn, 1) := by decide +kernel
theorem dX6_setSpeed_23 : decode cX6_setSpeed 23 = .ok (.aload_n 0, 1) := by decide +kernel
theorem dX6_setSpeed_24 : decode cX6_setSpeed 24 = .ok (.getfield 7, 3) := by decide +kernel
theorem dX6_setSpeed_27 : decode cX6_setSpeed 27 = .ok (.iload_n 1, 1) := by decide +kernel
theorem dX6_setSpeed_28 : decode cX6_setSpeed 28 = .ok (.iaload, 1) := by decide +kernel
theorem dX6_setSpeed_29 : decode cX6_setSpeed 29 = .ok (.istore_n 3, 1) := by decide +kernel
theorem dX6_setSpeed_30 : decode cX6_setSpeed 30 = .ok (.aload_n 0, 1) := by decide +kernel
theorem dX6_setSpeed_31 : decode cX6_setSpeed 31 = .ok (.getfield 7, 3) := by decide +kernel
theorem dX6_setSpeed_34 : decode cX6_setSpeed 34 = .ok (.iload_n 1, 1) := by decide +kernel
theorem dX6_setSpeed_35 : decode cX6_setSpeed 35 = .ok (.iload_n 2, 1) := by decide +kernel
theorem dX6_setSpeed_36 : decode cX6_setSpeed 36 = .ok (.iastore, 1) := by decide +kernel
theorem dX6_setSpeed_37 : decode cX6_setSpeed 37 = .ok (.iload_n 3, 1) := by decide +kernel
theorem dX6_setSpeed_38 : decode cX6_setSpeed 38 = .ok (.ireturn, 1) := by decide +kernel
theorem dX6_stops_0 : decode cX6_stops 0 = .ok (.aload_n 0, 1) := by decide +kernel
theorem dX6_stops_1 : decode cX6_stops 1 = .ok (.getfield 54, 3) := by decide +kernel
theorem dX6_stops_4 : decode cX6_stops 4 = .ok (.iload_n 1, 1) := by decide +kernel
theorem dX6_stops_5 : decode cX6_stops 5 = .ok (.iload_n 2, 1) := by decide +kernel
theorem dX6_stops_6 : decode cX6_stops 6 = .ok (.iastore, 1) := by decide +kernel
theorem dX6_stops_7 : decode cX6_stops 7 = .ok (.aload_n 0, 1) := by decide +kernel
theorem dX6_stops_8 : decode cX6_stops 8 = .ok (.getfield 66, 3) := by decide +kernel
theorem dX6_stops_11 : decode cX6_stops 11 = .ok (.bipush 24, 2) := by decide +kernel
theorem dX6_stops_13 : decode cX6_stops 13 = .ok (.aload_n 0, 1) := by decide +kernel
theorem dX6_stops_14 : decode cX6_stops 14 = .ok (.getfield 91, 3) := by decide +kernel
theorem dX6_stops_17 : decode cX6_stops 17 = .ok (.imul, 1) := by decide +kernel
theorem dX6_stops_18 : decode cX6_stops 18 = .ok (.aload_n 0, 1) := by decide +kernel
theorem dX6_stops_19 : decode cX6_stops 19 = .ok (.getfield 42, 3) := by decide +kernel
theorem dX6_stops_22 : decode cX6_stops 22 = .ok (.iload_n 1, 1) := by decide +kernel
theorem dX6_stops_23 : decode cX6_stops 23 = .ok (.iaload, 1) := by decide +kernel
theorem dX6_stops_24 : decode cX6_stops 24 = .ok (.iadd, 1) := by decide +kernel
theorem dX6_stops_25 : decode cX6_stops 25 = .ok (.dup2, 1) := by decide +kernel
theorem dX6_stops_26 : decode cX6_stops 26 = .ok (.iaload, 1) := by decide +kernel
theorem dX6_stops_27 : decode cX6_stops 27 = .ok (.iconst 1, 1) := by decide +kernel
theorem dX6_stops_28 : decode cX6_stops 28 = .ok (.isub, 1) := by decide +kernel
theorem dX6_stops_29 : decode cX6_stops 29 = .ok (.iastore, 1) := by decide +kernel
theorem dX6_stops_30 : decode cX6_stops 30 = .ok (.aload_n 0, 1) := by decide +kernel
theorem dX6_stops_31 : decode cX6_stops 31 = .ok (.getfield 69, 3) := by decide +kernel
theorem dX6_stops_34 : decode cX6_stops 34 = .ok (.bipush 8, 2) := by decide +kernel
theorem dX6_stops_36 : decode cX6_stops 36 = .ok (.aload_n 0, 1) := by decide +kernel
theorem dX6_stops_37 : decode cX6_stops 37 = .ok (.getfield 91, 3) := by decide +kernel
theorem dX6_stops_40 : decode cX6_stops 40 = .ok (.imul, 1) := by decide +kernel
theorem dX6_stops_41 : decode cX6_stops 41 = .ok (.aload_n 0, 1) := by decide +kernel
theorem dX6_stops_42 : decode cX6_stops 42 = .ok (.getfield 45, 3) := by decide +kernel
theorem dX6_stops_45 : decode cX6_stops 45 = .ok (.iload_n 1, 1) := by decide +kernel
theorem dX6_stops_46 : decode cX6_stops 46 = .ok (.iaload, 1) := by decide +kernel
theorem dX6_stops_47 : decode cX6_stops 47 = .ok (.iadd, 1) := by decide +kernel
theorem dX6_stops_48 : decode cX6_stops 48 = .ok (.dup2, 1) := by decide +kernel
theorem dX6_stops_49 : decode cX6_stops 49 = .ok (.iaload, 1) := by decide +kernel
theorem dX6_stops_50 : decode cX6_stops 50 = .ok (.iconst 1, 1) := by decide +kernel
theorem dX6_stops_51 : decode cX6_stops 51 = .ok (.isub, 1) := by decide +kernel
theorem dX6_stops_52 : decode cX6_stops 52 = .ok (.iastore, 1) := by decide +kernel
theorem dX6_stops_53 : decode cX6_stops 53 = .ok (.return_, 1) := by decide +kernel
theorem dX6_failNode_0 : decode cX6_failNode 0 = .ok (.aload_n 0, 1) := by decide +kernel
theorem dX6_failNode_1 : decode cX6_failNode 1 = .ok (.iload_n 1, 1) := by decide +kernel
theorem dX6_failNode_2 : decode cX6_failNode 2 = .ok (.invokevirtual 94, 3) := by decide +kernel
theorem dX6_failNode_5 : decode cX6_failNode 5 = .ok (.ifCond .ne 5, 3) := by decide +kernel
theorem dX6_failNode_8 : decode cX6_failNode 8 = .ok (.iconst (-1), 1) := by decide +kernel
theorem dX6_failNode_9 : decode cX6_failNode 9 = .ok (.ireturn, 1) := by decide +kernel
theorem dX6_failNode_10 : decode cX6_failNode 10 = .ok (.aload_n 0, 1) := by decide +kernel
theorem dX6_failNode_11 : decode cX6_failNode 11 = .ok (.getfield 16, 3) := by decide +kernel
theorem dX6_failNode_14 : decode cX6_failNode 14 = .ok (.iload_n 1, 1) := by decide +kernel
theorem dX6_failNode_15 : decode cX6_failNode 15 = .ok (.baload, 1) := by decide +kernel
theorem dX6_failNode_16 : decode cX6_failNode 16 = .ok (.ifCond .ne 6, 3) := by decide +kernel
theorem dX6_failNode_19 : decode cX6_failNode 19 = .ok (.bipush (-6), 2) := by decide +kernel
theorem dX6_failNode_21 : decode cX6_failNode 21 = .ok (.ireturn, 1) := by decide +kernel
theorem dX6_failNode_22 : decode cX6_failNode 22 = .ok (.aload_n 0, 1) := by decide +kernel
theorem dX6_failNode_23 : decode cX6_failNode 23 = .ok (.getfield 16, 3) := by decide +kernel
theorem dX6_failNode_26 : decode cX6_failNode 26 = .ok (.iload_n 1, 1) := by decide +kernel
theorem dX6_failNode_27 : decode cX6_failNode 27 = .ok (.iconst 0, 1) := by decide +kernel
theorem dX6_failNode_28 : decode cX6_failNode 28 = .ok (.bastore, 1) := by decide +kernel
theorem dX6_failNode_29 : decode cX6_failNode 29 = .ok (.iconst 0, 1) := by decide +kernel
theorem dX6_failNode_30 : decode cX6_failNode 30 = .ok (.istore_n 2, 1) := by decide +kernel
theorem dX6_failNode_31 : decode cX6_failNode 31 = .ok (.iconst 0, 1) := by decide +kernel
theorem dX6_failNode_32 : decode cX6_failNode 32 = .ok (.istore_n 3, 1) := by decide +kernel
theorem dX6_failNode_33 : decode cX6_failNode 33 = .ok (.iload_n 3, 1) := by decide +kernel
theorem dX6_failNode_34 : decode cX6_failNode 34 = .ok (.aload_n 0, 1) := by decide +kernel
theorem dX6_failNode_35 : decode cX6_failNode 35 = .ok (.getfield 36, 3) := by decide +kernel
theorem dX6_failNode_38 : decode cX6_failNode 38 = .ok (.iconst 0, 1) := by decide +kernel
theorem dX6_failNode_39 : decode cX6_failNode 39 = .ok (.iaload, 1) := by decide +kernel
theorem dX6_failNode_40 : decode cX6_failNode 40 = .ok (.if_icmp .ge 38, 3) := by decide +kernel
theorem dX6_failNode_43 : decode cX6_failNode 43 = .ok (.aload_n 0, 1) := by decide +kernel
theorem dX6_failNode_44 : decode cX6_failNode 44 = .ok (.getfield 54, 3) := by decide +kernel
theorem dX6_failNode_47 : decode cX6_failNode 47 = .ok (.iload_n 3, 1) := by decide +kernel
theorem dX6_failNode_48 : decode cX6_failNode 48 = .ok (.iaload, 1) := by decide +kernel
theorem dX6_failNode_49 : decode cX6_failNode 49 = .ok (.iconst 1, 1) := by decide +kernel
theorem dX6_failNode_50 : decode cX6_failNode 50 = .ok (.if_icmp .ne 22, 3) := by decide +kernel
theorem dX6_failNode_53 : decode cX6_failNode 53 = .ok (.aload_n 0, 1) := by decide +kernel
theorem dX6_failNode_54 : decode cX6_failNode 54 = .ok (.getfield 45, 3) := by decide +kernel
theorem dX6_failNode_57 : decode cX6_failNode 57 = .ok (.iload_n 3, 1) := by decide +kernel
theorem dX6_failNode_58 : decode cX6_failNode 58 = .ok (.iaload, 1) := by decide +kernel
theorem dX6_failNode_59 : decode cX6_failNode 59 = .ok (.iload_n 1, 1) := by decide +kernel
theorem dX6_failNode_60 : decode cX6_failNode 60 = .ok (.if_icmp .ne 12, 3) := by decide +kernel
theorem dX6_failNode_63 : decode cX6_failNode 63 = .ok (.aload_n 0, 1) := by decide +kernel
theorem dX6_failNode_64 : decode cX6_failNode 64 = .ok (.iload_n 3, 1) := by decide +kernel
theorem dX6_failNode_65 : decode cX6_failNode 65 = .ok (.iconst 4, 1) := by decide +kernel
theorem dX6_failNode_66 : decode cX6_failNode 66 = .ok (.invokevirtual 98, 3) := by decide +kernel
theorem dX6_failNode_69 : decode cX6_failNode 69 = .ok (.iinc 2 1, 3) := by decide +kernel
theorem dX6_failNode_72 : decode cX6_failNode 72 = .ok (.iinc 3 1, 3) := by decide +kernel
theorem dX6_failNode_75 : decode cX6_failNode 75 = .ok (.goto (-42), 3) := by decide +kernel
theorem dX6_failNode_78 : decode cX6_failNode 78 = .ok (.iload_n 2, 1) := by decide +kernel
theorem dX6_failNode_79 : decode cX6_failNode 79 = .ok (.ireturn, 1) := by decide +kernel
theorem dX6_repairNode_0 : decode cX6_repairNode 0 = .ok (.aload_n 0, 1) := by decide +kernel
theorem dX6_repairNode_1 : decode cX6_repairNode 1 = .ok (.iload_n 1, 1) := by decide +kernel
theorem dX6_repairNode_2 : decode cX6_repairNode 2 = .ok (.invokevirtual 94, 3) := by decide +kernel
theorem dX6_repairNode_5 : decode cX6_repairNode 5 = .ok (.ifCond .ne 5, 3) := by decide +kernel
theorem dX6_repairNode_8 : decode cX6_repairNode 8 = .ok (.iconst (-1), 1) := by decide +kernel
theorem dX6_repairNode_9 : decode cX6_repairNode 9 = .ok (.ireturn, 1) := by decide +kernel
theorem dX6_repairNode_10 : decode cX6_repairNode 10 = .ok (.aload_n 0, 1) := by decide +kernel
theorem dX6_repairNode_11 : decode cX6_repairNode 11 = .ok (.getfield 16, 3) := by decide +kernel
theorem dX6_repairNode_14 : decode cX6_repairNode 14 = .ok (.iload_n 1, 1) := by decide +kernel
theorem dX6_repairNode_15 : decode cX6_repairNode 15 = .ok (.baload, 1) := by decide +kernel
theorem dX6_repairNode_16 : decode cX6_repairNode 16 = .ok (.ifCond .eq 7, 3) := by decide +kernel
theorem dX6_repairNode_19 : decode cX6_repairNode 19 = .ok (.iconst 0, 1) := by decide +kernel
theorem dX6_repairNode_20 : decode cX6_repairNode 20 = .ok (.goto 4, 3) := by decide +kernel
theorem dX6_repairNode_23 : decode cX6_repairNode 23 = .ok (.iconst 1, 1) := by decide +kernel
theorem dX6_repairNode_24 : decode cX6_repairNode 24 = .ok (.istore_n 2, 1) := by decide +kernel
theorem dX6_repairNode_25 : decode cX6_repairNode 25 = .ok (.aload_n 0, 1) := by decide +kernel
theorem dX6_repairNode_26 : decode cX6_repairNode 26 = .ok (.getfield 16, 3) := by decide +kernel
theorem dX6_repairNode_29 : decode cX6_repairNode 29 = .ok (.iload_n 1, 1) := by decide +kernel
theorem dX6_repairNode_30 : decode cX6_repairNode 30 = .ok (.iconst 1, 1) := by decide +kernel
theorem dX6_repairNode_31 : decode cX6_repairNode 31 = .ok (.bastore, 1) := by decide +kernel
theorem dX6_repairNode_32 : decode cX6_repairNode 32 = .ok (.iload_n 2, 1) := by decide +kernel
theorem dX6_repairNode_33 : decode cX6_repairNode 33 = .ok (.ireturn, 1) := by decide +kernel
theorem dX6_addTask_0 : decode cX6_addTask 0 = .ok (.iload_n 1, 1) := by decide +kernel
theorem dX6_addTask_1 : decode cX6_addTask 1 = .ok (.iconst 1, 1) := by decide +kernel
theorem dX6_addTask_2 : decode cX6_addTask 2 = .ok (.sipush 10000, 3) := by decide +kernel
theorem dX6_addTask_5 : decode cX6_addTask 5 = .ok (.invokestatic 84, 3) := by decide +kernel
theorem dX6_addTask_8 : decode cX6_addTask 8 = .ok (.ifCond .ne 6, 3) := by decide +kernel
theorem dX6_addTask_11 : decode cX6_addTask 11 = .ok (.bipush (-4), 2) := by decide +kernel
theorem dX6_addTask_13 : decode cX6_addTask 13 = .ok (.ireturn, 1) := by decide +kernel
theorem dX6_addTask_14 : decode cX6_addTask 14 = .ok (.aload_n 0, 1) := by decide +kernel
theorem dX6_addTask_15 : decode cX6_addTask 15 = .ok (.getfield 88, 3) := by decide +kernel
theorem dX6_addTask_18 : decode cX6_addTask 18 = .ok (.bipush 24, 2) := by decide +kernel
theorem dX6_addTask_20 : decode cX6_addTask 20 = .ok (.if_icmp .ne 6, 3) := by decide +kernel
theorem dX6_addTask_23 : decode cX6_addTask 23 = .ok (.bipush (-5), 2) := by decide +kernel
theorem dX6_addTask_25 : decode cX6_addTask 25 = .ok (.ireturn, 1) := by decide +kernel
theorem dX6_addTask_26 : decode cX6_addTask 26 = .ok (.aload_n 0, 1) := by decide +kernel
theorem dX6_addTask_27 : decode cX6_addTask 27 = .ok (.getfield 20, 3) := by decide +kernel
theorem dX6_addTask_30 : decode cX6_addTask 30 = .ok (.aload_n 0, 1) := by decide +kernel
theorem dX6_addTask_31 : decode cX6_addTask 31 = .ok (.getfield 88, 3) := by decide +kernel
theorem dX6_addTask_34 : decode cX6_addTask 34 = .ok (.iload_n 1, 1) := by decide +kernel
theorem dX6_addTask_35 : decode cX6_addTask 35 = .ok (.iastore, 1) := by decide +kernel
theorem dX6_addTask_36 : decode cX6_addTask 36 = .ok (.aload_n 0, 1) := by decide +kernel
theorem dX6_addTask_37 : decode cX6_addTask 37 = .ok (.getfield 60, 3) := by decide +kernel
theorem dX6_addTask_40 : decode cX6_addTask 40 = .ok (.aload_n 0, 1) := by decide +kernel
theorem dX6_addTask_41 : decode cX6_addTask 41 = .ok (.getfield 88, 3) := by decide +kernel
theorem dX6_addTask_44 : decode cX6_addTask 44 = .ok (.bipush (-6), 2) := by decide +kernel
theorem dX6_addTask_46 : decode cX6_addTask 46 = .ok (.iastore, 1) := by decide +kernel
theorem dX6_addTask_47 : decode cX6_addTask 47 = .ok (.aload_n 0, 1) := by decide +kernel
theorem dX6_addTask_48 : decode cX6_addTask 48 = .ok (.getfield 63, 3) := by decide +kernel
theorem dX6_addTask_51 : decode cX6_addTask 51 = .ok (.aload_n 0, 1) := by decide +kernel
theorem dX6_addTask_52 : decode cX6_addTask 52 = .ok (.getfield 88, 3) := by decide +kernel
theorem dX6_addTask_55 : decode cX6_addTask 55 = .ok (.bipush (-6), 2) := by decide +kernel
theorem dX6_addTask_57 : decode cX6_addTask 57 = .ok (.iastore, 1) := by decide +kernel
theorem dX6_addTask_58 : decode cX6_addTask 58 = .ok (.aload_n 0, 1) := by decide +kernel
theorem dX6_addTask_59 : decode cX6_addTask 59 = .ok (.dup, 1) := by decide +kernel
theorem dX6_addTask_60 : decode cX6_addTask 60 = .ok (.getfield 88, 3) := by decide +kernel
theorem dX6_addTask_63 : decode cX6_addTask 63 = .ok (.iconst 1, 1) := by decide +kernel
theorem dX6_addTask_64 : decode cX6_addTask 64 = .ok (.iadd, 1) := by decide +kernel
theorem dX6_addTask_65 : decode cX6_addTask 65 = .ok (.putfield 88, 3) := by decide +kernel
theorem dX6_addTask_68 : decode cX6_addTask 68 = .ok (.aload_n 0, 1) := by decide +kernel
theorem dX6_addTask_69 : decode cX6_addTask 69 = .ok (.getfield 88, 3) := by decide +kernel
theorem dX6_addTask_72 : decode cX6_addTask 72 = .ok (.iconst 1, 1) := by decide +kernel
theorem dX6_addTask_73 : decode cX6_addTask 73 = .ok (.isub, 1) := by decide +kernel
theorem dX6_addTask_74 : decode cX6_addTask 74 = .ok (.ireturn, 1) := by decide +kernel
theorem dX6_setPolicy_0 : decode cX6_setPolicy 0 = .ok (.iload_n 1, 1) := by decide +kernel
theorem dX6_setPolicy_1 : decode cX6_setPolicy 1 = .ok (.iconst 0, 1) := by decide +kernel
theorem dX6_setPolicy_2 : decode cX6_setPolicy 2 = .ok (.iconst 2, 1) := by decide +kernel
theorem dX6_setPolicy_3 : decode cX6_setPolicy 3 = .ok (.invokestatic 84, 3) := by decide +kernel
theorem dX6_setPolicy_6 : decode cX6_setPolicy 6 = .ok (.ifCond .ne 6, 3) := by decide +kernel
theorem dX6_setPolicy_9 : decode cX6_setPolicy 9 = .ok (.bipush (-4), 2) := by decide +kernel
theorem dX6_setPolicy_11 : decode cX6_setPolicy 11 = .ok (.ireturn, 1) := by decide +kernel
theorem dX6_setPolicy_12 : decode cX6_setPolicy 12 = .ok (.aload_n 0, 1) := by decide +kernel
theorem dX6_setPolicy_13 : decode cX6_setPolicy 13 = .ok (.getfield 78, 3) := by decide +kernel
theorem dX6_setPolicy_16 : decode cX6_setPolicy 16 = .ok (.istore_n 2, 1) := by decide +kernel
theorem dX6_setPolicy_17 : decode cX6_setPolicy 17 = .ok (.aload_n 0, 1) := by decide +kernel
theorem dX6_setPolicy_18 : decode cX6_setPolicy 18 = .ok (.iload_n 1, 1) := by decide +kernel
theorem dX6_setPolicy_19 : decode cX6_setPolicy 19 = .ok (.putfield 78, 3) := by decide +kernel
theorem dX6_setPolicy_22 : decode cX6_setPolicy 22 = .ok (.iload_n 2, 1) := by decide +kernel
theorem dX6_setPolicy_23 : decode cX6_setPolicy 23 = .ok (.ireturn, 1) := by decide +kernel
theorem dX6_setLimits_0 : decode cX6_setLimits 0 = .ok (.iload_n 1, 1) := by decide +kernel
theorem dX6_setLimits_1 : decode cX6_setLimits 1 = .ok (.iconst 0, 1) := by decide +kernel
theorem dX6_setLimits_2 : decode cX6_setLimits 2 = .ok (.bipush 32, 2) := by decide +kernel
theorem dX6_setLimits_4 : decode cX6_setLimits 4 = .ok (.invokestatic 84, 3) := by decide +kernel
theorem dX6_setLimits_7 : decode cX6_setLimits 7 = .ok (.ifCond .eq 13, 3) := by decide +kernel
theorem dX6_setLimits_10 : decode cX6_setLimits 10 = .ok (.iload_n 2, 1) := by decide +kernel
theorem dX6_setLimits_11 : decode cX6_setLimits 11 = .ok (.iconst 0, 1) := by decide +kernel
theorem dX6_setLimits_12 : decode cX6_setLimits 12 = .ok (.bipush 100, 2) := by decide +kernel
theorem dX6_setLimits_14 : decode cX6_setLimits 14 = .ok (.invokestatic 84, 3) := by decide +kernel
theorem dX6_setLimits_17 : decode cX6_setLimits 17 = .ok (.ifCond .ne 6, 3) := by decide +kernel
theorem dX6_setLimits_20 : decode cX6_setLimits 20 = .ok (.bipush (-4), 2) := by decide +kernel
theorem dX6_setLimits_22 : decode cX6_setLimits 22 = .ok (.ireturn, 1) := by decide +kernel
theorem dX6_setLimits_23 : decode cX6_setLimits 23 = .ok (.aload_n 0, 1) := by decide +kernel
theorem dX6_setLimits_24 : decode cX6_setLimits 24 = .ok (.getfield 23, 3) := by decide +kernel
theorem dX6_setLimits_27 : decode cX6_setLimits 27 = .ok (.iload_n 1, 1) := by decide +kernel
theorem dX6_setLimits_28 : decode cX6_setLimits 28 = .ok (.if_icmp .ne 15, 3) := by decide +kernel
theorem dX6_setLimits_31 : decode cX6_setLimits 31 = .ok (.aload_n 0, 1) := by decide +kernel
theorem dX6_setLimits_32 : decode cX6_setLimits 32 = .ok (.getfield 27, 3) := by decide +kernel
theorem dX6_setLimits_35 : decode cX6_setLimits 35 = .ok (.iload_n 2, 1) := by decide +kernel
theorem dX6_setLimits_36 : decode cX6_setLimits 36 = .ok (.if_icmp .ne 7, 3) := by decide +kernel
theorem dX6_setLimits_39 : decode cX6_setLimits 39 = .ok (.iconst 1, 1) := by decide +kernel
theorem dX6_setLimits_40 : decode cX6_setLimits 40 = .ok (.goto 4, 3) := by decide +kernel
theorem dX6_setLimits_43 : decode cX6_setLimits 43 = .ok (.iconst 0, 1) := by decide +kernel
theorem dX6_setLimits_44 : decode cX6_setLimits 44 = .ok (.istore_n 3, 1) := by decide +kernel
theorem dX6_setLimits_45 : decode cX6_setLimits 45 = .ok (.aload_n 0, 1) := by decide +kernel
theorem dX6_setLimits_46 : decode cX6_setLimits 46 = .ok (.iload_n 1, 1) := by decide +kernel
theorem dX6_setLimits_47 : decode cX6_setLimits 47 = .ok (.putfield 23, 3) := by decide +kernel
theorem dX6_setLimits_50 : decode cX6_setLimits 50 = .ok (.aload_n 0, 1) := by decide +kernel
theorem dX6_setLimits_51 : decode cX6_setLimits 51 = .ok (.iload_n 2, 1) := by decide +kernel
theorem dX6_setLimits_52 : decode cX6_setLimits 52 = .ok (.putfield 27, 3) := by decide +kernel
theorem dX6_setLimits_55 : decode cX6_setLimits 55 = .ok (.iload_n 3, 1) := by decide +kernel
theorem dX6_setLimits_56 : decode cX6_setLimits 56 = .ok (.ifCond .eq 7, 3) := by decide +kernel
theorem dX6_setLimits_59 : decode cX6_setLimits 59 = .ok (.iconst 0, 1) := by decide +kernel
theorem dX6_setLimits_60 : decode cX6_setLimits 60 = .ok (.goto 4, 3) := by decide +kernel
theorem dX6_setLimits_63 : decode cX6_setLimits 63 = .ok (.iconst 1, 1) := by decide +kernel
theorem dX6_setLimits_64 : decode cX6_setLimits 64 = .ok (.ireturn, 1) := by decide +kernel
theorem dX6_setThresholds_0 : decode cX6_setThresholds 0 = .ok (.iload_n 1, 1) := by decide +kernel
theorem dX6_setThresholds_1 : decode cX6_setThresholds 1 = .ok (.iconst 1, 1) := by decide +kernel
theorem dX6_setThresholds_2 : decode cX6_setThresholds 2 = .ok (.sipush 200, 3) := by decide +kernel
theorem dX6_setThresholds_5 : decode cX6_setThresholds 5 = .ok (.invokestatic 84, 3) := by decide +kernel
theorem dX6_setThresholds_8 : decode cX6_setThresholds 8 = .ok (.ifCond .eq 14, 3) := by decide +kernel
theorem dX6_setThresholds_11 : decode cX6_setThresholds 11 = .ok (.iload_n 2, 1) := by decide +kernel
theorem dX6_setThresholds_12 : decode cX6_setThresholds 12 = .ok (.iconst 1, 1) := by decide +kernel
theorem dX6_setThresholds_13 : decode cX6_setThresholds 13 = .ok (.sipush 200, 3) := by decide +kernel
theorem dX6_setThresholds_16 : decode cX6_setThresholds 16 = .ok (.invokestatic 84, 3) := by decide +kernel
theorem dX6_setThresholds_19 : decode cX6_setThresholds 19 = .ok (.ifCond .ne 6, 3) := by decide +kernel
theorem dX6_setThresholds_22 : decode cX6_setThresholds 22 = .ok (.bipush (-4), 2) := by decide +kernel
theorem dX6_setThresholds_24 : decode cX6_setThresholds 24 = .ok (.ireturn, 1) := by decide +kernel
theorem dX6_setThresholds_25 : decode cX6_setThresholds 25 = .ok (.aload_n 0, 1) := by decide +kernel
theorem dX6_setThresholds_26 : decode cX6_setThresholds 26 = .ok (.getfield 30, 3) := by decide +kernel
theorem dX6_setThresholds_29 : decode cX6_setThresholds 29 = .ok (.iload_n 1, 1) := by decide +kernel
theorem dX6_setThresholds_30 : decode cX6_setThresholds 30 = .ok (.if_icmp .ne 15, 3) := by decide +kernel
theorem dX6_setThresholds_33 : decode cX6_setThresholds 33 = .ok (.aload_n 0, 1) := by decide +kernel
theorem dX6_setThresholds_34 : decode cX6_setThresholds 34 = .ok (.getfield 33, 3) := by decide +kernel
theorem dX6_setThresholds_37 : decode cX6_setThresholds 37 = .ok (.iload_n 2, 1) := by decide +kernel
theorem dX6_setThresholds_38 : decode cX6_setThresholds 38 = .ok (.if_icmp .ne 7, 3) := by decide +kernel
theorem dX6_setThresholds_41 : decode cX6_setThresholds 41 = .ok (.iconst 1, 1) := by decide +kernel
theorem dX6_setThresholds_42 : decode cX6_setThresholds 42 = .ok (.goto 4, 3) := by decide +kernel
theorem dX6_setThresholds_45 : decode cX6_setThresholds 45 = .ok (.iconst 0, 1) := by decide +kernel
theorem dX6_setThresholds_46 : decode cX6_setThresholds 46 = .ok (.istore_n 3, 1) := by decide +kernel
theorem dX6_setThresholds_47 : decode cX6_setThresholds 47 = .ok (.aload_n 0, 1) := by decide +kernel
theorem dX6_setThresholds_48 : decode cX6_setThresholds 48 = .ok (.iload_n 1, 1) := by decide +kernel
theorem dX6_setThresholds_49 : decode cX6_setThresholds 49 = .ok (.putfield 30, 3) := by decide +kernel
theorem dX6_setThresholds_52 : decode cX6_setThresholds 52 = .ok (.aload_n 0, 1) := by decide +kernel
theorem dX6_setThresholds_53 : decode cX6_setThresholds 53 = .ok (.iload_n 2, 1) := by decide +kernel
theorem dX6_setThresholds_54 : decode cX6_setThresholds 54 = .ok (.putfield 33, 3) := by decide +kernel
theorem dX6_setThresholds_57 : decode cX6_setThresholds 57 = .ok (.iload_n 3, 1) := by decide +kernel
theorem dX6_setThresholds_58 : decode cX6_setThresholds 58 = .ok (.ifCond .eq 7, 3) := by decide +kernel
theorem dX6_setThresholds_61 : decode cX6_setThresholds 61 = .ok (.iconst 0, 1) := by decide +kernel
theorem dX6_setThresholds_62 : decode cX6_setThresholds 62 = .ok (.goto 4, 3) := by decide +kernel
theorem dX6_setThresholds_65 : decode cX6_setThresholds 65 = .ok (.iconst 1, 1) := by decide +kernel
theorem dX6_setThresholds_66 : decode cX6_setThresholds 66 = .ok (.ireturn, 1) := by decide +kernel
theorem dX6_progressOf_0 : decode cX6_progressOf 0 = .ok (.aload_n 0, 1) := by decide +kernel
theorem dX6_progressOf_1 : decode cX6_progressOf 1 = .ok (.getfield 51, 3) := by decide +kernel
theorem dX6_progressOf_4 : decode cX6_progressOf 4 = .ok (.iload_n 1, 1) := by decide +kernel
theorem dX6_progressOf_5 : decode cX6_progressOf 5 = .ok (.iaload, 1) := by decide +kernel
theorem dX6_progressOf_6 : decode cX6_progressOf 6 = .ok (.sipush 1000, 3) := by decide +kernel
theorem dX6_progressOf_9 : decode cX6_progressOf 9 = .ok (.imul, 1) := by decide +kernel
theorem dX6_progressOf_10 : decode cX6_progressOf 10 = .ok (.aload_n 0, 1) := by decide +kernel
theorem dX6_progressOf_11 : decode cX6_progressOf 11 = .ok (.getfield 20, 3) := by decide +kernel
theorem dX6_progressOf_14 : decode cX6_progressOf 14 = .ok (.aload_n 0, 1) := by decide +kernel
theorem dX6_progressOf_15 : decode cX6_progressOf 15 = .ok (.getfield 42, 3) := by decide +kernel
theorem dX6_progressOf_18 : decode cX6_progressOf 18 = .ok (.iload_n 1, 1) := by decide +kernel
theorem dX6_progressOf_19 : decode cX6_progressOf 19 = .ok (.iaload, 1) := by decide +kernel
theorem dX6_progressOf_20 : decode cX6_progressOf 20 = .ok (.iaload, 1) := by decide +kernel
theorem dX6_progressOf_21 : decode cX6_progressOf 21 = .ok (.idiv, 1) := by decide +kernel
theorem dX6_progressOf_22 : decode cX6_progressOf 22 = .ok (.istore_n 2, 1) := by decide +kernel
theorem dX6_progressOf_23 : decode cX6_progressOf 23 = .ok (.iload_n 2, 1) := by decide +kernel
theorem dX6_progressOf_24 : decode cX6_progressOf 24 = .ok (.sipush 1000, 3) := by decide +kernel
theorem dX6_progressOf_27 : decode cX6_progressOf 27 = .ok (.if_icmp .le 9, 3) := by decide +kernel
theorem dX6_progressOf_30 : decode cX6_progressOf 30 = .ok (.sipush 1000, 3) := by decide +kernel
theorem dX6_progressOf_33 : decode cX6_progressOf 33 = .ok (.goto 4, 3) := by decide +kernel
theorem dX6_progressOf_36 : decode cX6_progressOf 36 = .ok (.iload_n 2, 1) := by decide +kernel
theorem dX6_progressOf_37 : decode cX6_progressOf 37 = .ok (.ireturn, 1) := by decide +kernel
theorem dX6_rateOf_0 : decode cX6_rateOf 0 = .ok (.aload_n 0, 1) := by decide +kernel
theorem dX6_rateOf_1 : decode cX6_rateOf 1 = .ok (.getfield 48, 3) := by decide +kernel
theorem dX6_rateOf_4 : decode cX6_rateOf 4 = .ok (.iload_n 1, 1) := by decide +kernel
theorem dX6_rateOf_5 : decode cX6_rateOf 5 = .ok (.iaload, 1) := by decide +kernel
theorem dX6_rateOf_6 : decode cX6_rateOf 6 = .ok (.ifCond .ne 7, 3) := by decide +kernel
theorem dX6_rateOf_9 : decode cX6_rateOf 9 = .ok (.iconst 0, 1) := by decide +kernel
theorem dX6_rateOf_10 : decode cX6_rateOf 10 = .ok (.goto 15, 3) := by decide +kernel
theorem dX6_rateOf_13 : decode cX6_rateOf 13 = .ok (.aload_n 0, 1) := by decide +kernel
theorem dX6_rateOf_14 : decode cX6_rateOf 14 = .ok (.iload_n 1, 1) := by decide +kernel
theorem dX6_rateOf_15 : decode cX6_rateOf 15 = .ok (.invokevirtual 102, 3) := by decide +kernel
theorem dX6_rateOf_18 : decode cX6_rateOf 18 = .ok (.aload_n 0, 1) := by decide +kernel
theorem dX6_rateOf_19 : decode cX6_rateOf 19 = .ok (.getfield 48, 3) := by decide +kernel
theorem dX6_rateOf_22 : decode cX6_rateOf 22 = .ok (.iload_n 1, 1) := by decide +kernel
theorem dX6_rateOf_23 : decode cX6_rateOf 23 = .ok (.iaload, 1) := by decide +kernel
theorem dX6_rateOf_24 : decode cX6_rateOf 24 = .ok (.idiv, 1) := by decide +kernel
theorem dX6_rateOf_25 : decode cX6_rateOf 25 = .ok (.ireturn, 1) := by decide +kernel
theorem dX6_remainingOf_0 : decode cX6_remainingOf 0 = .ok (.aload_n 0, 1) := by decide +kernel
theorem dX6_remainingOf_1 : decode cX6_remainingOf 1 = .ok (.iload_n 1, 1) := by decide +kernel
theorem dX6_remainingOf_2 : decode cX6_remainingOf 2 = .ok (.invokevirtual 102, 3) := by decide +kernel
theorem dX6_remainingOf_5 : decode cX6_remainingOf 5 = .ok (.istore_n 2, 1) := by decide +kernel
theorem dX6_remainingOf_6 : decode cX6_remainingOf 6 = .ok (.iload_n 2, 1) := by decide +kernel
theorem dX6_remainingOf_7 : decode cX6_remainingOf 7 = .ok (.ifCond .ne 8, 3) := by decide +kernel
theorem dX6_remainingOf_10 : decode cX6_remainingOf 10 = .ok (.ldc 106, 2) := by decide +kernel
theorem dX6_remainingOf_12 : decode cX6_remainingOf 12 = .ok (.goto 21, 3) := by decide +kernel
theorem dX6_remainingOf_15 : decode cX6_remainingOf 15 = .ok (.ldc2_w 107, 3) := by decide +kernel
theorem dX6_remainingOf_18 : decode cX6_remainingOf 18 = .ok (.iload_n 2, 1) := by decide +kernel
theorem dX6_remainingOf_19 : decode cX6_remainingOf 19 = .ok (.i2l, 1) := by decide +kernel
theorem dX6_remainingOf_20 : decode cX6_remainingOf 20 = .ok (.lsub, 1) := by decide +kernel
theorem dX6_remainingOf_21 : decode cX6_remainingOf 21 = .ok (.aload_n 0, 1) := by decide +kernel
theorem dX6_remainingOf_22 : decode cX6_remainingOf 22 = .ok (.getfield 48, 3) := by decide +kernel
theorem dX6_remainingOf_25 : decode cX6_remainingOf 25 = .ok (.iload_n 1, 1) := by decide +kernel
theorem dX6_remainingOf_26 : decode cX6_remainingOf 26 = .ok (.iaload, 1) := by decide +kernel
theorem dX6_remainingOf_27 : decode cX6_remainingOf 27 = .ok (.i2l, 1) := by decide +kernel
theorem dX6_remainingOf_28 : decode cX6_remainingOf 28 = .ok (.lmul, 1) := by decide +kernel
theorem dX6_remainingOf_29 : decode cX6_remainingOf 29 = .ok (.iload_n 2, 1) := by decide +kernel
theorem dX6_remainingOf_30 : decode cX6_remainingOf 30 = .ok (.i2l, 1) := by decide +kernel
theorem dX6_remainingOf_31 : decode cX6_remainingOf 31 = .ok (.ldiv, 1) := by decide +kernel
theorem dX6_remainingOf_32 : decode cX6_remainingOf 32 = .ok (.l2i, 1) := by decide +kernel
theorem dX6_remainingOf_33 : decode cX6_remainingOf 33 = .ok (.ireturn, 1) := by decide +kernel
theorem dX6_scoreOf_0 : decode cX6_scoreOf 0 = .ok (.aload_n 0, 1) := by decide +kernel
theorem dX6_scoreOf_1 : decode cX6_scoreOf 1 = .ok (.getfield 72, 3) := by decide +kernel
theorem dX6_scoreOf_4 : decode cX6_scoreOf 4 = .ok (.bipush 8, 2) := by decide +kernel
theorem dX6_scoreOf_6 : decode cX6_scoreOf 6 = .ok (.aload_n 0, 1) := by decide +kernel
theorem dX6_scoreOf_7 : decode cX6_scoreOf 7 = .ok (.getfield 91, 3) := by decide +kernel
theorem dX6_scoreOf_10 : decode cX6_scoreOf 10 = .ok (.imul, 1) := by decide +kernel
theorem dX6_scoreOf_11 : decode cX6_scoreOf 11 = .ok (.iload_n 1, 1) := by decide +kernel
theorem dX6_scoreOf_12 : decode cX6_scoreOf 12 = .ok (.iadd, 1) := by decide +kernel
theorem dX6_scoreOf_13 : decode cX6_scoreOf 13 = .ok (.iaload, 1) := by decide +kernel
theorem dX6_scoreOf_14 : decode cX6_scoreOf 14 = .ok (.istore_n 2, 1) := by decide +kernel
theorem dX6_scoreOf_15 : decode cX6_scoreOf 15 = .ok (.iload_n 2, 1) := by decide +kernel
theorem dX6_scoreOf_16 : decode cX6_scoreOf 16 = .ok (.ifCond .ne 7, 3) := by decide +kernel
theorem dX6_scoreOf_19 : decode cX6_scoreOf 19 = .ok (.iconst 0, 1) := by decide +kernel
theorem dX6_scoreOf_20 : decode cX6_scoreOf 20 = .ok (.goto 19, 3) := by decide +kernel
theorem dX6_scoreOf_23 : decode cX6_scoreOf 23 = .ok (.aload_n 0, 1) := by decide +kernel
theorem dX6_scoreOf_24 : decode cX6_scoreOf 24 = .ok (.getfield 75, 3) := by decide +kernel
theorem dX6_scoreOf_27 : decode cX6_scoreOf 27 = .ok (.bipush 8, 2) := by decide +kernel
theorem dX6_scoreOf_29 : decode cX6_scoreOf 29 = .ok (.aload_n 0, 1) := by decide +kernel
theorem dX6_scoreOf_30 : decode cX6_scoreOf 30 = .ok (.getfield 91, 3) := by decide +kernel
theorem dX6_scoreOf_33 : decode cX6_scoreOf 33 = .ok (.imul, 1) := by decide +kernel
theorem dX6_scoreOf_34 : decode cX6_scoreOf 34 = .ok (.iload_n 1, 1) := by decide +kernel
theorem dX6_scoreOf_35 : decode cX6_scoreOf 35 = .ok (.iadd, 1) := by decide +kernel
theorem dX6_scoreOf_36 : decode cX6_scoreOf 36 = .ok (.iaload, 1) := by decide +kernel
theorem dX6_scoreOf_37 : decode cX6_scoreOf 37 = .ok (.iload_n 2, 1) := by decide +kernel
theorem dX6_scoreOf_38 : decode cX6_scoreOf 38 = .ok (.idiv, 1) := by decide +kernel
theorem dX6_scoreOf_39 : decode cX6_scoreOf 39 = .ok (.ireturn, 1) := by decide +kernel
theorem dX6_meanRate_0 : decode cX6_meanRate 0 = .ok (.iconst 0, 1) := by decide +kernel
theorem dX6_meanRate_1 : decode cX6_meanRate 1 = .ok (.istore_n 1, 1) := by decide +kernel
theorem dX6_meanRate_2 : decode cX6_meanRate 2 = .ok (.iconst 0, 1) := by decide +kernel
theorem dX6_meanRate_3 : decode cX6_meanRate 3 = .ok (.istore_n 2, 1) := by decide +kernel
theorem dX6_meanRate_4 : decode cX6_meanRate 4 = .ok (.aload_n 0, 1) := by decide +kernel
theorem dX6_meanRate_5 : decode cX6_meanRate 5 = .ok (.invokevirtual 109, 3) := by decide +kernel
theorem dX6_meanRate_8 : decode cX6_meanRate 8 = .ok (.istore_n 3, 1) := by decide +kernel
theorem dX6_meanRate_9 : decode cX6_meanRate 9 = .ok (.iload_n 3, 1) := by decide +kernel
theorem dX6_meanRate_10 : decode cX6_meanRate 10 = .ok (.aload_n 0, 1) := by decide +kernel
theorem dX6_meanRate_11 : decode cX6_meanRate 11 = .ok (.invokevirtual 113, 3) := by decide +kernel
theorem dX6_meanRate_14 : decode cX6_meanRate 14 = .ok (.if_icmp .ge 30, 3) := by decide +kernel
theorem dX6_meanRate_17 : decode cX6_meanRate 17 = .ok (.aload_n 0, 1) := by decide +kernel
theorem dX6_meanRate_18 : decode cX6_meanRate 18 = .ok (.getfield 54, 3) := by decide +kernel
theorem dX6_meanRate_21 : decode cX6_meanRate 21 = .ok (.iload_n 3, 1) := by decide +kernel
theorem dX6_meanRate_22 : decode cX6_meanRate 22 = .ok (.iaload, 1) := by decide +kernel
theorem dX6_meanRate_23 : decode cX6_meanRate 23 = .ok (.iconst 1, 1) := by decide +kernel
theorem dX6_meanRate_24 : decode cX6_meanRate 24 = .ok (.if_icmp .ne 14, 3) := by decide +kernel
theorem dX6_meanRate_27 : decode cX6_meanRate 27 = .ok (.iload_n 1, 1) := by decide +kernel
theorem dX6_meanRate_28 : decode cX6_meanRate 28 = .ok (.aload_n 0, 1) := by decide +kernel
theorem dX6_meanRate_29 : decode cX6_meanRate 29 = .ok (.iload_n 3, 1) := by decide +kernel
theorem dX6_meanRate_30 : decode cX6_meanRate 30 = .ok (.invokevirtual 116, 3) := by decide +kernel
theorem dX6_meanRate_33 : decode cX6_meanRate 33 = .ok (.iadd, 1) := by decide +kernel
theorem dX6_meanRate_34 : decode cX6_meanRate 34 = .ok (.istore_n 1, 1) := by decide +kernel
theorem dX6_meanRate_35 : decode cX6_meanRate 35 = .ok (.iinc 2 1, 3) := by decide +kernel
theorem dX6_meanRate_38 : decode cX6_meanRate 38 = .ok (.iinc 3 1, 3) := by decide +kernel
theorem dX6_meanRate_41 : decode cX6_meanRate 41 = .ok (.goto (-32), 3) := by decide +kernel
theorem dX6_meanRate_44 : decode cX6_meanRate 44 = .ok (.iload_n 2, 1) := by decide +kernel
theorem dX6_meanRate_45 : decode cX6_meanRate 45 = .ok (.ifCond .ne 7, 3) := by decide +kernel
theorem dX6_meanRate_48 : decode cX6_meanRate 48 = .ok (.iconst 0, 1) := by decide +kernel
theorem dX6_meanRate_49 : decode cX6_meanRate 49 = .ok (.goto 6, 3) := by decide +kernel
theorem dX6_meanRate_52 : decode cX6_meanRate 52 = .ok (.iload_n 1, 1) := by decide +kernel
theorem dX6_meanRate_53 : decode cX6_meanRate 53 = .ok (.iload_n 2, 1) := by decide +kernel
theorem dX6_meanRate_54 : decode cX6_meanRate 54 = .ok (.idiv, 1) := by decide +kernel
theorem dX6_meanRate_55 : decode cX6_meanRate 55 = .ok (.ireturn, 1) := by decide +kernel
theorem dX6_meanProgress_0 : decode cX6_meanProgress 0 = .ok (.iconst 0, 1) := by decide +kernel
theorem dX6_meanProgress_1 : decode cX6_meanProgress 1 = .ok (.istore_n 1, 1) := by decide +kernel
theorem dX6_meanProgress_2 : decode cX6_meanProgress 2 = .ok (.iconst 0, 1) := by decide +kernel
theorem dX6_meanProgress_3 : decode cX6_meanProgress 3 = .ok (.istore_n 2, 1) := by decide +kernel
theorem dX6_meanProgress_4 : decode cX6_meanProgress 4 = .ok (.aload_n 0, 1) := by decide +kernel
theorem dX6_meanProgress_5 : decode cX6_meanProgress 5 = .ok (.invokevirtual 109, 3) := by decide +kernel
theorem dX6_meanProgress_8 : decode cX6_meanProgress 8 = .ok (.istore_n 3, 1) := by decide +kernel
theorem dX6_meanProgress_9 : decode cX6_meanProgress 9 = .ok (.iload_n 3, 1) := by decide +kernel
theorem dX6_meanProgress_10 : decode cX6_meanProgress 10 = .ok (.aload_n 0, 1) := by decide +kernel
theorem dX6_meanProgress_11 : decode cX6_meanProgress 11 = .ok (.invokevirtual 113, 3) := by decide +kernel
theorem dX6_meanProgress_14 : decode cX6_meanProgress 14 = .ok (.if_icmp .ge 30, 3) := by decide +kernel
theorem dX6_meanProgress_17 : decode cX6_meanProgress 17 = .ok (.aload_n 0, 1) := by decide +kernel
theorem dX6_meanProgress_18 : decode cX6_meanProgress 18 = .ok (.getfield 54, 3) := by decide +kernel
theorem dX6_meanProgress_21 : decode cX6_meanProgress 21 = .ok (.iload_n 3, 1) := by decide +kernel
theorem dX6_meanProgress_22 : decode cX6_meanProgress 22 = .ok (.iaload, 1) := by decide +kernel
theorem dX6_meanProgress_23 : decode cX6_meanProgress 23 = .ok (.iconst 1, 1) := by decide +kernel
theorem dX6_meanProgress_24 : decode cX6_meanProgress 24 = .ok (.if_icmp .ne 14, 3) := by decide +kernel
theorem dX6_meanProgress_27 : decode cX6_meanProgress 27 = .ok (.iload_n 1, 1) := by decide +kernel
theorem dX6_meanProgress_28 : decode cX6_meanProgress 28 = .ok (.aload_n 0, 1) := by decide +kernel
theorem dX6_meanProgress_29 : decode cX6_meanProgress 29 = .ok (.iload_n 3, 1) := by decide +kernel
theorem dX6_meanProgress_30 : decode cX6_meanProgress 30 = .ok (.invokevirtual 102, 3) := by decide +kernel
theorem dX6_meanProgress_33 : decode cX6_meanProgress 33 = .ok (.iadd, 1) := by decide +kernel
theorem dX6_meanProgress_34 : decode cX6_meanProgress 34 = .ok (.istore_n 1, 1) := by decide +kernel
theorem dX6_meanProgress_35 : decode cX6_meanProgress 35 = .ok (.iinc 2 1, 3) := by decide +kernel
theorem dX6_meanProgress_38 : decode cX6_meanProgress 38 = .ok (.iinc 3 1, 3) := by decide +kernel
theorem dX6_meanProgress_41 : decode cX6_meanProgress 41 = .ok (.goto (-32), 3) := by decide +kernel
theorem dX6_meanProgress_44 : decode cX6_meanProgress 44 = .ok (.iload_n 2, 1) := by decide +kernel
theorem dX6_meanProgress_45 : decode cX6_meanProgress 45 = .ok (.ifCond .ne 7, 3) := by decide +kernel
theorem dX6_meanProgress_48 : decode cX6_meanProgress 48 = .ok (.iconst 0, 1) := by decide +kernel
theorem dX6_meanProgress_49 : decode cX6_meanProgress 49 = .ok (.goto 6, 3) := by decide +kernel
theorem dX6_meanProgress_52 : decode cX6_meanProgress 52 = .ok (.iload_n 1, 1) := by decide +kernel
theorem dX6_meanProgress_53 : decode cX6_meanProgress 53 = .ok (.iload_n 2, 1) := by decide +kernel
theorem dX6_meanProgress_54 : decode cX6_meanProgress 54 = .ok (.idiv, 1) := by decide +kernel
theorem dX6_meanProgress_55 : decode cX6_meanProgress 55 = .ok (.ireturn, 1) := by decide +kernel
theorem dX6_meanScore_0 : decode cX6_meanScore 0 = .ok (.iconst 0, 1) := by decide +kernel
theorem dX6_meanScore_1 : decode cX6_meanScore 1 = .ok (.istore_n 1, 1) := by decide +kernel
theorem dX6_meanScore_2 : decode cX6_meanScore 2 = .ok (.iconst 0, 1) := by decide +kernel
theorem dX6_meanScore_3 : decode cX6_meanScore 3 = .ok (.istore_n 2, 1) := by decide +kernel
theorem dX6_meanScore_4 : decode cX6_meanScore 4 = .ok (.iconst 0, 1) := by decide +kernel
theorem dX6_meanScore_5 : decode cX6_meanScore 5 = .ok (.istore_n 3, 1) := by decide +kernel
theorem dX6_meanScore_6 : decode cX6_meanScore 6 = .ok (.iload_n 3, 1) := by decide +kernel
theorem dX6_meanScore_7 : decode cX6_meanScore 7 = .ok (.aload_n 0, 1) := by decide +kernel
theorem dX6_meanScore_8 : decode cX6_meanScore 8 = .ok (.getfield 81, 3) := by decide +kernel
theorem dX6_meanScore_11 : decode cX6_meanScore 11 = .ok (.if_icmp .ge 46, 3) := by decide +kernel
theorem dX6_meanScore_14 : decode cX6_meanScore 14 = .ok (.aload_n 0, 1) := by decide +kernel
theorem dX6_meanScore_15 : decode cX6_meanScore 15 = .ok (.getfield 16, 3) := by decide +kernel
theorem dX6_meanScore_18 : decode cX6_meanScore 18 = .ok (.iload_n 3, 1) := by decide +kernel
theorem dX6_meanScore_19 : decode cX6_meanScore 19 = .ok (.baload, 1) := by decide +kernel
theorem dX6_meanScore_20 : decode cX6_meanScore 20 = .ok (.ifCond .eq 31, 3) := by decide +kernel
theorem dX6_meanScore_23 : decode cX6_meanScore 23 = .ok (.aload_n 0, 1) := by decide +kernel
theorem dX6_meanScore_24 : decode cX6_meanScore 24 = .ok (.getfield 72, 3) := by decide +kernel
theorem dX6_meanScore_27 : decode cX6_meanScore 27 = .ok (.bipush 8, 2) := by decide +kernel
theorem dX6_meanScore_29 : decode cX6_meanScore 29 = .ok (.aload_n 0, 1) := by decide +kernel
theorem dX6_meanScore_30 : decode cX6_meanScore 30 = .ok (.getfield 91, 3) := by decide +kernel
theorem dX6_meanScore_33 : decode cX6_meanScore 33 = .ok (.imul, 1) := by decide +kernel
theorem dX6_meanScore_34 : decode cX6_meanScore 34 = .ok (.iload_n 3, 1) := by decide +kernel
theorem dX6_meanScore_35 : decode cX6_meanScore 35 = .ok (.iadd, 1) := by decide +kernel
theorem dX6_meanScore_36 : decode cX6_meanScore 36 = .ok (.iaload, 1) := by decide +kernel
theorem dX6_meanScore_37 : decode cX6_meanScore 37 = .ok (.ifCond .le 14, 3) := by decide +kernel
theorem dX6_meanScore_40 : decode cX6_meanScore 40 = .ok (.iload_n 1, 1) := by decide +kernel
theorem dX6_meanScore_41 : decode cX6_meanScore 41 = .ok (.aload_n 0, 1) := by decide +kernel
theorem dX6_meanScore_42 : decode cX6_meanScore 42 = .ok (.iload_n 3, 1) := by decide +kernel
theorem dX6_meanScore_43 : decode cX6_meanScore 43 = .ok (.invokevirtual 119, 3) := by decide +kernel
theorem dX6_meanScore_46 : decode cX6_meanScore 46 = .ok (.iadd, 1) := by decide +kernel
theorem dX6_meanScore_47 : decode cX6_meanScore 47 = .ok (.istore_n 1, 1) := by decide +kernel
theorem dX6_meanScore_48 : decode cX6_meanScore 48 = .ok (.iinc 2 1, 3) := by decide +kernel
theorem dX6_meanScore_51 : decode cX6_meanScore 51 = .ok (.iinc 3 1, 3) := by decide +kernel
theorem dX6_meanScore_54 : decode cX6_meanScore 54 = .ok (.goto (-48), 3) := by decide +kernel
theorem dX6_meanScore_57 : decode cX6_meanScore 57 = .ok (.iload_n 2, 1) := by decide +kernel
theorem dX6_meanScore_58 : decode cX6_meanScore 58 = .ok (.ifCond .ne 7, 3) := by decide +kernel
theorem dX6_meanScore_61 : decode cX6_meanScore 61 = .ok (.iconst 0, 1) := by decide +kernel
theorem dX6_meanScore_62 : decode cX6_meanScore 62 = .ok (.goto 6, 3) := by decide +kernel
theorem dX6_meanScore_65 : decode cX6_meanScore 65 = .ok (.iload_n 1, 1) := by decide +kernel
theorem dX6_meanScore_66 : decode cX6_meanScore 66 = .ok (.iload_n 2, 1) := by decide +kernel
theorem dX6_meanScore_67 : decode cX6_meanScore 67 = .ok (.idiv, 1) := by decide +kernel
theorem dX6_meanScore_68 : decode cX6_meanScore 68 = .ok (.ireturn, 1) := by decide +kernel
theorem dX6_isSlow_0 : decode cX6_isSlow 0 = .ok (.aload_n 0, 1) := by decide +kernel
theorem dX6_isSlow_1 : decode cX6_isSlow 1 = .ok (.getfield 72, 3) := by decide +kernel
theorem dX6_isSlow_4 : decode cX6_isSlow 4 = .ok (.bipush 8, 2) := by decide +kernel
theorem dX6_isSlow_6 : decode cX6_isSlow 6 = .ok (.aload_n 0, 1) := by decide +kernel
theorem dX6_isSlow_7 : decode cX6_isSlow 7 = .ok (.getfield 91, 3) := by decide +kernel
theorem dX6_isSlow_10 : decode cX6_isSlow 10 = .ok (.imul, 1) := by decide +kernel
theorem dX6_isSlow_11 : decode cX6_isSlow 11 = .ok (.iload_n 1, 1) := by decide +kernel
theorem dX6_isSlow_12 : decode cX6_isSlow 12 = .ok (.iadd, 1) := by decide +kernel
theorem dX6_isSlow_13 : decode cX6_isSlow 13 = .ok (.iaload, 1) := by decide +kernel
theorem dX6_isSlow_14 : decode cX6_isSlow 14 = .ok (.ifCond .le 27, 3) := by decide +kernel
theorem dX6_isSlow_17 : decode cX6_isSlow 17 = .ok (.aload_n 0, 1) := by decide +kernel
theorem dX6_isSlow_18 : decode cX6_isSlow 18 = .ok (.iload_n 1, 1) := by decide +kernel
theorem dX6_isSlow_19 : decode cX6_isSlow 19 = .ok (.invokevirtual 119, 3) := by decide +kernel
theorem dX6_isSlow_22 : decode cX6_isSlow 22 = .ok (.bipush 100, 2) := by decide +kernel
theorem dX6_isSlow_24 : decode cX6_isSlow 24 = .ok (.imul, 1) := by decide +kernel
theorem dX6_isSlow_25 : decode cX6_isSlow 25 = .ok (.aload_n 0, 1) := by decide +kernel
theorem dX6_isSlow_26 : decode cX6_isSlow 26 = .ok (.invokevirtual 122, 3) := by decide +kernel
theorem dX6_isSlow_29 : decode cX6_isSlow 29 = .ok (.aload_n 0, 1) := by decide +kernel
theorem dX6_isSlow_30 : decode cX6_isSlow 30 = .ok (.getfield 33, 3) := by decide +kernel
theorem dX6_isSlow_33 : decode cX6_isSlow 33 = .ok (.imul, 1) := by decide +kernel
theorem dX6_isSlow_34 : decode cX6_isSlow 34 = .ok (.if_icmp .ge 7, 3) := by decide +kernel
theorem dX6_isSlow_37 : decode cX6_isSlow 37 = .ok (.iconst 1, 1) := by decide +kernel
theorem dX6_isSlow_38 : decode cX6_isSlow 38 = .ok (.goto 4, 3) := by decide +kernel
theorem dX6_isSlow_41 : decode cX6_isSlow 41 = .ok (.iconst 0, 1) := by decide +kernel
theorem dX6_isSlow_42 : decode cX6_isSlow 42 = .ok (.ireturn, 1) := by decide +kernel
theorem dX6_isCandidate_0 : decode cX6_isCandidate 0 = .ok (.aload_n 0, 1) := by decide +kernel
theorem dX6_isCandidate_1 : decode cX6_isCandidate 1 = .ok (.getfield 54, 3) := by decide +kernel
theorem dX6_isCandidate_4 : decode cX6_isCandidate 4 = .ok (.iload_n 1, 1) := by decide +kernel
theorem dX6_isCandidate_5 : decode cX6_isCandidate 5 = .ok (.iaload, 1) := by decide +kernel
theorem dX6_isCandidate_6 : decode cX6_isCandidate 6 = .ok (.iconst 1, 1) := by decide +kernel
theorem dX6_isCandidate_7 : decode cX6_isCandidate 7 = .ok (.if_icmp .ne 43, 3) := by decide +kernel
theorem dX6_isCandidate_10 : decode cX6_isCandidate 10 = .ok (.aload_n 0, 1) := by decide +kernel
theorem dX6_isCandidate_11 : decode cX6_isCandidate 11 = .ok (.getfield 66, 3) := by decide +kernel
theorem dX6_isCandidate_14 : decode cX6_isCandidate 14 = .ok (.bipush 24, 2) := by decide +kernel
theorem dX6_isCandidate_16 : decode cX6_isCandidate 16 = .ok (.aload_n 0, 1) := by decide +kernel
theorem dX6_isCandidate_17 : decode cX6_isCandidate 17 = .ok (.getfield 91, 3) := by decide +kernel
theorem dX6_isCandidate_20 : decode cX6_isCandidate 20 = .ok (.imul, 1) := by decide +kernel
theorem dX6_isCandidate_21 : decode cX6_isCandidate 21 = .ok (.aload_n 0, 1) := by decide +kernel
theorem dX6_isCandidate_22 : decode cX6_isCandidate 22 = .ok (.getfield 42, 3) := by decide +kernel
theorem dX6_isCandidate_25 : decode cX6_isCandidate 25 = .ok (.iload_n 1, 1) := by decide +kernel
theorem dX6_isCandidate_26 : decode cX6_isCandidate 26 = .ok (.iaload, 1) := by decide +kernel
theorem dX6_isCandidate_27 : decode cX6_isCandidate 27 = .ok (.iadd, 1) := by decide +kernel
theorem dX6_isCandidate_28 : decode cX6_isCandidate 28 = .ok (.iaload, 1) := by decide +kernel
theorem dX6_isCandidate_29 : decode cX6_isCandidate 29 = .ok (.iconst 1, 1) := by decide +kernel
theorem dX6_isCandidate_30 : decode cX6_isCandidate 30 = .ok (.if_icmp .ne 20, 3) := by decide +kernel
theorem dX6_isCandidate_33 : decode cX6_isCandidate 33 = .ok (.aload_n 0, 1) := by decide +kernel
theorem dX6_isCandidate_34 : decode cX6_isCandidate 34 = .ok (.getfield 48, 3) := by decide +kernel
theorem dX6_isCandidate_37 : decode cX6_isCandidate 37 = .ok (.iload_n 1, 1) := by decide +kernel
theorem dX6_isCandidate_38 : decode cX6_isCandidate 38 = .ok (.iaload, 1) := by decide +kernel
theorem dX6_isCandidate_39 : decode cX6_isCandidate 39 = .ok (.aload_n 0, 1) := by decide +kernel
theorem dX6_isCandidate_40 : decode cX6_isCandidate 40 = .ok (.getfield 27, 3) := by decide +kernel
theorem dX6_isCandidate_43 : decode cX6_isCandidate 43 = .ok (.if_icmp .lt 7, 3) := by decide +kernel
theorem dX6_isCandidate_46 : decode cX6_isCandidate 46 = .ok (.iconst 1, 1) := by decide +kernel
theorem dX6_isCandidate_47 : decode cX6_isCandidate 47 = .ok (.goto 4, 3) := by decide +kernel
theorem dX6_isCandidate_50 : decode cX6_isCandidate 50 = .ok (.iconst 0, 1) := by decide +kernel
theorem dX6_isCandidate_51 : decode cX6_isCandidate 51 = .ok (.ireturn, 1) := by decide +kernel
theorem dX6_naiveStraggler_0 : decode cX6_naiveStraggler 0 = .ok (.bipush (-6), 2) := by decide +kernel
theorem dX6_naiveStraggler_2 : decode cX6_naiveStraggler 2 = .ok (.istore_n 1, 1) := by decide +kernel
theorem dX6_naiveStraggler_3 : decode cX6_naiveStraggler 3 = .ok (.aload_n 0, 1) := by decide +kernel
theorem dX6_naiveStraggler_4 : decode cX6_naiveStraggler 4 = .ok (.invokevirtual 109, 3) := by decide +kernel
theorem dX6_naiveStraggler_7 : decode cX6_naiveStraggler 7 = .ok (.istore_n 2, 1) := by decide +kernel
theorem dX6_naiveStraggler_8 : decode cX6_naiveStraggler 8 = .ok (.iload_n 2, 1) := by decide +kernel
theorem dX6_naiveStraggler_9 : decode cX6_naiveStraggler 9 = .ok (.aload_n 0, 1) := by decide +kernel
theorem dX6_naiveStraggler_10 : decode cX6_naiveStraggler 10 = .ok (.invokevirtual 113, 3) := by decide +kernel
theorem dX6_naiveStraggler_13 : decode cX6_naiveStraggler 13 = .ok (.if_icmp .ge 42, 3) := by decide +kernel
theorem dX6_naiveStraggler_16 : decode cX6_naiveStraggler 16 = .ok (.aload_n 0, 1) := by decide +kernel
theorem dX6_naiveStraggler_17 : decode cX6_naiveStraggler 17 = .ok (.iload_n 2, 1) := by decide +kernel
theorem dX6_naiveStraggler_18 : decode cX6_naiveStraggler 18 = .ok (.invokevirtual 125, 3) := by decide +kernel
theorem dX6_naiveStraggler_21 : decode cX6_naiveStraggler 21 = .ok (.ifCond .eq 26, 3) := by decide +kernel
theorem dX6_naiveStraggler_24 : decode cX6_naiveStraggler 24 = .ok (.iload_n 1, 1) := by decide +kernel
theorem dX6_naiveStraggler_25 : decode cX6_naiveStraggler 25 = .ok (.bipush (-6), 2) := by decide +kernel
theorem dX6_naiveStraggler_27 : decode cX6_naiveStraggler 27 = .ok (.if_icmp .eq 16, 3) := by decide +kernel
theorem dX6_naiveStraggler_30 : decode cX6_naiveStraggler 30 = .ok (.aload_n 0, 1) := by decide +kernel
theorem dX6_naiveStraggler_31 : decode cX6_naiveStraggler 31 = .ok (.iload_n 2, 1) := by decide +kernel
theorem dX6_naiveStraggler_32 : decode cX6_naiveStraggler 32 = .ok (.invokevirtual 102, 3) := by decide +kernel
theorem dX6_naiveStraggler_35 : decode cX6_naiveStraggler 35 = .ok (.aload_n 0, 1) := by decide +kernel
theorem dX6_naiveStraggler_36 : decode cX6_naiveStraggler 36 = .ok (.iload_n 1, 1) := by decide +kernel
theorem dX6_naiveStraggler_37 : decode cX6_naiveStraggler 37 = .ok (.invokevirtual 102, 3) := by decide +kernel
theorem dX6_naiveStraggler_40 : decode cX6_naiveStraggler 40 = .ok (.if_icmp .ge 7, 3) := by decide +kernel
theorem dX6_naiveStraggler_43 : decode cX6_naiveStraggler 43 = .ok (.iload_n 2, 1) := by decide +kernel
theorem dX6_naiveStraggler_44 : decode cX6_naiveStraggler 44 = .ok (.goto 4, 3) := by decide +kernel
theorem dX6_naiveStraggler_47 : decode cX6_naiveStraggler 47 = .ok (.iload_n 1, 1) := by decide +kernel
theorem dX6_naiveStraggler_48 : decode cX6_naiveStraggler 48 = .ok (.istore_n 1, 1) := by decide +kernel
theorem dX6_naiveStraggler_49 : decode cX6_naiveStraggler 49 = .ok (.iinc 2 1, 3) := by decide +kernel
theorem dX6_naiveStraggler_52 : decode cX6_naiveStraggler 52 = .ok (.goto (-44), 3) := by decide +kernel
theorem dX6_naiveStraggler_55 : decode cX6_naiveStraggler 55 = .ok (.iload_n 1, 1) := by decide +kernel
theorem dX6_naiveStraggler_56 : decode cX6_naiveStraggler 56 = .ok (.bipush (-6), 2) := by decide +kernel
theorem dX6_naiveStraggler_58 : decode cX6_naiveStraggler 58 = .ok (.if_icmp .eq 23, 3) := by decide +kernel
theorem dX6_naiveStraggler_61 : decode cX6_naiveStraggler 61 = .ok (.aload_n 0, 1) := by decide +kernel
theorem dX6_naiveStraggler_62 : decode cX6_naiveStraggler 62 = .ok (.iload_n 1, 1) := by decide +kernel
theorem dX6_naiveStraggler_63 : decode cX6_naiveStraggler 63 = .ok (.invokevirtual 102, 3) := by decide +kernel
theorem dX6_naiveStraggler_66 : decode cX6_naiveStraggler 66 = .ok (.sipush 200, 3) := by decide +kernel
theorem dX6_naiveStraggler_69 : decode cX6_naiveStraggler 69 = .ok (.iadd, 1) := by decide +kernel
theorem dX6_naiveStraggler_70 : decode cX6_naiveStraggler 70 = .ok (.aload_n 0, 1) := by decide +kernel
theorem dX6_naiveStraggler_71 : decode cX6_naiveStraggler 71 = .ok (.invokevirtual 128, 3) := by decide +kernel
theorem dX6_naiveStraggler_74 : decode cX6_naiveStraggler 74 = .ok (.if_icmp .ge 7, 3) := by decide +kernel
theorem dX6_naiveStraggler_77 : decode cX6_naiveStraggler 77 = .ok (.iload_n 1, 1) := by decide +kernel
theorem dX6_naiveStraggler_78 : decode cX6_naiveStraggler 78 = .ok (.goto 5, 3) := by decide +kernel
theorem dX6_naiveStraggler_81 : decode cX6_naiveStraggler 81 = .ok (.bipush (-6), 2) := by decide +kernel
theorem dX6_naiveStraggler_83 : decode cX6_naiveStraggler 83 = .ok (.ireturn, 1) := by decide +kernel
theorem dX6_lateStraggler_0 : decode cX6_lateStraggler 0 = .ok (.aload_n 0, 1) := by decide +kernel
theorem dX6_lateStraggler_1 : decode cX6_lateStraggler 1 = .ok (.invokevirtual 131, 3) := by decide +kernel
theorem dX6_lateStraggler_4 : decode cX6_lateStraggler 4 = .ok (.aload_n 0, 1) := by decide +kernel
theorem dX6_lateStraggler_5 : decode cX6_lateStraggler 5 = .ok (.getfield 30, 3) := by decide +kernel
theorem dX6_lateStraggler_8 : decode cX6_lateStraggler 8 = .ok (.imul, 1) := by decide +kernel
theorem dX6_lateStraggler_9 : decode cX6_lateStraggler 9 = .ok (.istore_n 1, 1) := by decide +kernel
theorem dX6_lateStraggler_10 : decode cX6_lateStraggler 10 = .ok (.bipush (-6), 2) := by decide +kernel
theorem dX6_lateStraggler_12 : decode cX6_lateStraggler 12 = .ok (.istore_n 2, 1) := by decide +kernel
theorem dX6_lateStraggler_13 : decode cX6_lateStraggler 13 = .ok (.aload_n 0, 1) := by decide +kernel
theorem dX6_lateStraggler_14 : decode cX6_lateStraggler 14 = .ok (.invokevirtual 109, 3) := by decide +kernel
theorem dX6_lateStraggler_17 : decode cX6_lateStraggler 17 = .ok (.istore_n 3, 1) := by decide +kernel
theorem dX6_lateStraggler_18 : decode cX6_lateStraggler 18 = .ok (.iload_n 3, 1) := by decide +kernel
theorem dX6_lateStraggler_19 : decode cX6_lateStraggler 19 = .ok (.aload_n 0, 1) := by decide +kernel
theorem dX6_lateStraggler_20 : decode cX6_lateStraggler 20 = .ok (.invokevirtual 113, 3) := by decide +kernel
theorem dX6_lateStraggler_23 : decode cX6_lateStraggler 23 = .ok (.if_icmp .ge 66, 3) := by decide +kernel
theorem dX6_lateStraggler_26 : decode cX6_lateStraggler 26 = .ok (.aload_n 0, 1) := by decide +kernel
theorem dX6_lateStraggler_27 : decode cX6_lateStraggler 27 = .ok (.iload_n 3, 1) := by decide +kernel
theorem dX6_lateStraggler_28 : decode cX6_lateStraggler 28 = .ok (.invokevirtual 125, 3) := by decide +kernel
theorem dX6_lateStraggler_31 : decode cX6_lateStraggler 31 = .ok (.ifCond .eq 19, 3) := by decide +kernel
theorem dX6_lateStraggler_34 : decode cX6_lateStraggler 34 = .ok (.aload_n 0, 1) := by decide +kernel
theorem dX6_lateStraggler_35 : decode cX6_lateStraggler 35 = .ok (.iload_n 3, 1) := by decide +kernel
theorem dX6_lateStraggler_36 : decode cX6_lateStraggler 36 = .ok (.invokevirtual 116, 3) := by decide +kernel
theorem dX6_lateStraggler_39 : decode cX6_lateStraggler 39 = .ok (.bipush 100, 2) := by decide +kernel
theorem dX6_lateStraggler_41 : decode cX6_lateStraggler 41 = .ok (.imul, 1) := by decide +kernel
theorem dX6_lateStraggler_42 : decode cX6_lateStraggler 42 = .ok (.iload_n 1, 1) := by decide +kernel
theorem dX6_lateStraggler_43 : decode cX6_lateStraggler 43 = .ok (.if_icmp .ge 7, 3) := by decide +kernel
theorem dX6_lateStraggler_46 : decode cX6_lateStraggler 46 = .ok (.iconst 1, 1) := by decide +kernel
theorem dX6_lateStraggler_47 : decode cX6_lateStraggler 47 = .ok (.goto 4, 3) := by decide +kernel
theorem dX6_lateStraggler_50 : decode cX6_lateStraggler 50 = .ok (.iconst 0, 1) := by decide +kernel
theorem dX6_lateStraggler_51 : decode cX6_lateStraggler 51 = .ok (.istore 4, 2) := by decide +kernel
theorem dX6_lateStraggler_53 : decode cX6_lateStraggler 53 = .ok (.iload 4, 2) := by decide +kernel
theorem dX6_lateStraggler_55 : decode cX6_lateStraggler 55 = .ok (.ifCond .eq 26, 3) := by decide +kernel
theorem dX6_lateStraggler_58 : decode cX6_lateStraggler 58 = .ok (.iload_n 2, 1) := by decide +kernel
theorem dX6_lateStraggler_59 : decode cX6_lateStraggler 59 = .ok (.bipush (-6), 2) := by decide +kernel
theorem dX6_lateStraggler_61 : decode cX6_lateStraggler 61 = .ok (.if_icmp .eq 16, 3) := by decide +kernel
theorem dX6_lateStraggler_64 : decode cX6_lateStraggler 64 = .ok (.aload_n 0, 1) := by decide +kernel
theorem dX6_lateStraggler_65 : decode cX6_lateStraggler 65 = .ok (.iload_n 3, 1) := by decide +kernel
theorem dX6_lateStraggler_66 : decode cX6_lateStraggler 66 = .ok (.invokevirtual 134, 3) := by decide +kernel
theorem dX6_lateStraggler_69 : decode cX6_lateStraggler 69 = .ok (.aload_n 0, 1) := by decide +kernel
theorem dX6_lateStraggler_70 : decode cX6_lateStraggler 70 = .ok (.iload_n 2, 1) := by decide +kernel
theorem dX6_lateStraggler_71 : decode cX6_lateStraggler 71 = .ok (.invokevirtual 134, 3) := by decide +kernel
theorem dX6_lateStraggler_74 : decode cX6_lateStraggler 74 = .ok (.if_icmp .le 7, 3) := by decide +kernel
theorem dX6_lateStraggler_77 : decode cX6_lateStraggler 77 = .ok (.iload_n 3, 1) := by decide +kernel
theorem dX6_lateStraggler_78 : decode cX6_lateStraggler 78 = .ok (.goto 4, 3) := by decide +kernel
theorem dX6_lateStraggler_81 : decode cX6_lateStraggler 81 = .ok (.iload_n 2, 1) := by decide +kernel
theorem dX6_lateStraggler_82 : decode cX6_lateStraggler 82 = .ok (.istore_n 2, 1) := by decide +kernel
theorem dX6_lateStraggler_83 : decode cX6_lateStraggler 83 = .ok (.iinc 3 1, 3) := by decide +kernel
theorem dX6_lateStraggler_86 : decode cX6_lateStraggler 86 = .ok (.goto (-68), 3) := by decide +kernel
theorem dX6_lateStraggler_89 : decode cX6_lateStraggler 89 = .ok (.iload_n 2, 1) := by decide +kernel
theorem dX6_lateStraggler_90 : decode cX6_lateStraggler 90 = .ok (.ireturn, 1) := by decide +kernel
theorem dX6_stragglerBy_0 : decode cX6_stragglerBy 0 = .ok (.iload_n 1, 1) := by decide +kernel
theorem dX6_stragglerBy_1 : decode cX6_stragglerBy 1 = .ok (.iconst 1, 1) := by decide +kernel
theorem dX6_stragglerBy_2 : decode cX6_stragglerBy 2 = .ok (.if_icmp .ne 10, 3) := by decide +kernel
theorem dX6_stragglerBy_5 : decode cX6_stragglerBy 5 = .ok (.aload_n 0, 1) := by decide +kernel
theorem dX6_stragglerBy_6 : decode cX6_stragglerBy 6 = .ok (.invokevirtual 137, 3) := by decide +kernel
theorem dX6_stragglerBy_9 : decode cX6_stragglerBy 9 = .ok (.goto 17, 3) := by decide +kernel
theorem dX6_stragglerBy_12 : decode cX6_stragglerBy 12 = .ok (.iload_n 1, 1) := by decide +kernel
theorem dX6_stragglerBy_13 : decode cX6_stragglerBy 13 = .ok (.iconst 2, 1) := by decide +kernel
theorem dX6_stragglerBy_14 : decode cX6_stragglerBy 14 = .ok (.if_icmp .ne 10, 3) := by decide +kernel
theorem dX6_stragglerBy_17 : decode cX6_stragglerBy 17 = .ok (.aload_n 0, 1) := by decide +kernel
theorem dX6_stragglerBy_18 : decode cX6_stragglerBy 18 = .ok (.invokevirtual 140, 3) := by decide +kernel
theorem dX6_stragglerBy_21 : decode cX6_stragglerBy 21 = .ok (.goto 5, 3) := by decide +kernel
theorem dX6_stragglerBy_24 : decode cX6_stragglerBy 24 = .ok (.bipush (-6), 2) := by decide +kernel
theorem dX6_stragglerBy_26 : decode cX6_stragglerBy 26 = .ok (.ireturn, 1) := by decide +kernel
theorem dX6_speculative_0 : decode cX6_speculative 0 = .ok (.iconst 0, 1) := by decide +kernel
theorem dX6_speculative_1 : decode cX6_speculative 1 = .ok (.istore_n 1, 1) := by decide +kernel
theorem dX6_speculative_2 : decode cX6_speculative 2 = .ok (.aload_n 0, 1) := by decide +kernel
theorem dX6_speculative_3 : decode cX6_speculative 3 = .ok (.invokevirtual 109, 3) := by decide +kernel
theorem dX6_speculative_6 : decode cX6_speculative 6 = .ok (.istore_n 2, 1) := by decide +kernel
theorem dX6_speculative_7 : decode cX6_speculative 7 = .ok (.iload_n 2, 1) := by decide +kernel
theorem dX6_speculative_8 : decode cX6_speculative 8 = .ok (.aload_n 0, 1) := by decide +kernel
theorem dX6_speculative_9 : decode cX6_speculative 9 = .ok (.invokevirtual 113, 3) := by decide +kernel
theorem dX6_speculative_12 : decode cX6_speculative 12 = .ok (.if_icmp .ge 36, 3) := by decide +kernel
theorem dX6_speculative_15 : decode cX6_speculative 15 = .ok (.iload_n 1, 1) := by decide +kernel
theorem dX6_speculative_16 : decode cX6_speculative 16 = .ok (.aload_n 0, 1) := by decide +kernel
theorem dX6_speculative_17 : decode cX6_speculative 17 = .ok (.getfield 54, 3) := by decide +kernel
theorem dX6_speculative_20 : decode cX6_speculative 20 = .ok (.iload_n 2, 1) := by decide +kernel
theorem dX6_speculative_21 : decode cX6_speculative 21 = .ok (.iaload, 1) := by decide +kernel
theorem dX6_speculative_22 : decode cX6_speculative 22 = .ok (.iconst 1, 1) := by decide +kernel
theorem dX6_speculative_23 : decode cX6_speculative 23 = .ok (.if_icmp .ne 16, 3) := by decide +kernel
theorem dX6_speculative_26 : decode cX6_speculative 26 = .ok (.aload_n 0, 1) := by decide +kernel
theorem dX6_speculative_27 : decode cX6_speculative 27 = .ok (.getfield 57, 3) := by decide +kernel
theorem dX6_speculative_30 : decode cX6_speculative 30 = .ok (.iload_n 2, 1) := by decide +kernel
theorem dX6_speculative_31 : decode cX6_speculative 31 = .ok (.baload, 1) := by decide +kernel
theorem dX6_speculative_32 : decode cX6_speculative 32 = .ok (.ifCond .eq 7, 3) := by decide +kernel
theorem dX6_speculative_35 : decode cX6_speculative 35 = .ok (.iconst 1, 1) := by decide +kernel
theorem dX6_speculative_36 : decode cX6_speculative 36 = .ok (.goto 4, 3) := by decide +kernel
theorem dX6_speculative_39 : decode cX6_speculative 39 = .ok (.iconst 0, 1) := by decide +kernel
theorem dX6_speculative_40 : decode cX6_speculative 40 = .ok (.iadd, 1) := by decide +kernel
theorem dX6_speculative_41 : decode cX6_speculative 41 = .ok (.istore_n 1, 1) := by decide +kernel
theorem dX6_speculative_42 : decode cX6_speculative 42 = .ok (.iinc 2 1, 3) := by decide +kernel
theorem dX6_speculative_45 : decode cX6_speculative 45 = .ok (.goto (-38), 3) := by decide +kernel
theorem dX6_speculative_48 : decode cX6_speculative 48 = .ok (.iload_n 1, 1) := by decide +kernel
theorem dX6_speculative_49 : decode cX6_speculative 49 = .ok (.ireturn, 1) := by decide +kernel
theorem dX6_stateOfTask_0 : decode cX6_stateOfTask 0 = .ok (.bipush 24, 2) := by decide +kernel
theorem dX6_stateOfTask_2 : decode cX6_stateOfTask 2 = .ok (.aload_n 0, 1) := by decide +kernel
theorem dX6_stateOfTask_3 : decode cX6_stateOfTask 3 = .ok (.getfield 91, 3) := by decide +kernel
theorem dX6_stateOfTask_6 : decode cX6_stateOfTask 6 = .ok (.imul, 1) := by decide +kernel
theorem dX6_stateOfTask_7 : decode cX6_stateOfTask 7 = .ok (.iload_n 1, 1) := by decide +kernel
theorem dX6_stateOfTask_8 : decode cX6_stateOfTask 8 = .ok (.iadd, 1) := by decide +kernel
theorem dX6_stateOfTask_9 : decode cX6_stateOfTask 9 = .ok (.istore_n 2, 1) := by decide +kernel
theorem dX6_stateOfTask_10 : decode cX6_stateOfTask 10 = .ok (.aload_n 0, 1) := by decide +kernel
theorem dX6_stateOfTask_11 : decode cX6_stateOfTask 11 = .ok (.getfield 60, 3) := by decide +kernel
theorem dX6_stateOfTask_14 : decode cX6_stateOfTask 14 = .ok (.iload_n 2, 1) := by decide +kernel
theorem dX6_stateOfTask_15 : decode cX6_stateOfTask 15 = .ok (.iaload, 1) := by decide +kernel
theorem dX6_stateOfTask_16 : decode cX6_stateOfTask 16 = .ok (.bipush (-6), 2) := by decide +kernel
theorem dX6_stateOfTask_18 : decode cX6_stateOfTask 18 = .ok (.if_icmp .eq 7, 3) := by decide +kernel
theorem dX6_stateOfTask_21 : decode cX6_stateOfTask 21 = .ok (.iconst 2, 1) := by decide +kernel
theorem dX6_stateOfTask_22 : decode cX6_stateOfTask 22 = .ok (.goto 17, 3) := by decide +kernel
theorem dX6_stateOfTask_25 : decode cX6_stateOfTask 25 = .ok (.aload_n 0, 1) := by decide +kernel
theorem dX6_stateOfTask_26 : decode cX6_stateOfTask 26 = .ok (.getfield 66, 3) := by decide +kernel
theorem dX6_stateOfTask_29 : decode cX6_stateOfTask 29 = .ok (.iload_n 2, 1) := by decide +kernel
theorem dX6_stateOfTask_30 : decode cX6_stateOfTask 30 = .ok (.iaload, 1) := by decide +kernel
theorem dX6_stateOfTask_31 : decode cX6_stateOfTask 31 = .ok (.ifCond .le 7, 3) := by decide +kernel
theorem dX6_stateOfTask_34 : decode cX6_stateOfTask 34 = .ok (.iconst 1, 1) := by decide +kernel
theorem dX6_stateOfTask_35 : decode cX6_stateOfTask 35 = .ok (.goto 4, 3) := by decide +kernel
theorem dX6_stateOfTask_38 : decode cX6_stateOfTask 38 = .ok (.iconst 0, 1) := by decide +kernel
theorem dX6_stateOfTask_39 : decode cX6_stateOfTask 39 = .ok (.ireturn, 1) := by decide +kernel
theorem dX6_firstWaiting_0 : decode cX6_firstWaiting 0 = .ok (.iconst 0, 1) := by decide +kernel
theorem dX6_firstWaiting_1 : decode cX6_firstWaiting 1 = .ok (.istore_n 1, 1) := by decide +kernel
theorem dX6_firstWaiting_2 : decode cX6_firstWaiting 2 = .ok (.iload_n 1, 1) := by decide +kernel
theorem dX6_firstWaiting_3 : decode cX6_firstWaiting 3 = .ok (.aload_n 0, 1) := by decide +kernel
theorem dX6_firstWaiting_4 : decode cX6_firstWaiting 4 = .ok (.getfield 88, 3) := by decide +kernel
theorem dX6_firstWaiting_7 : decode cX6_firstWaiting 7 = .ok (.if_icmp .ge 19, 3) := by decide +kernel
theorem dX6_firstWaiting_10 : decode cX6_firstWaiting 10 = .ok (.aload_n 0, 1) := by decide +kernel
theorem dX6_firstWaiting_11 : decode cX6_firstWaiting 11 = .ok (.iload_n 1, 1) := by decide +kernel
theorem dX6_firstWaiting_12 : decode cX6_firstWaiting 12 = .ok (.invokevirtual 143, 3) := by decide +kernel
theorem dX6_firstWaiting_15 : decode cX6_firstWaiting 15 = .ok (.ifCond .ne 5, 3) := by decide +kernel
theorem dX6_firstWaiting_18 : decode cX6_firstWaiting 18 = .ok (.iload_n 1, 1) := by decide +kernel
theorem dX6_firstWaiting_19 : decode cX6_firstWaiting 19 = .ok (.ireturn, 1) := by decide +kernel
theorem dX6_firstWaiting_20 : decode cX6_firstWaiting 20 = .ok (.iinc 1 1, 3) := by decide +kernel
theorem dX6_firstWaiting_23 : decode cX6_firstWaiting 23 = .ok (.goto (-21), 3) := by decide +kernel
theorem dX6_firstWaiting_26 : decode cX6_firstWaiting 26 = .ok (.bipush (-6), 2) := by decide +kernel
theorem dX6_firstWaiting_28 : decode cX6_firstWaiting 28 = .ok (.ireturn, 1) := by decide +kernel
theorem dX6_starts_0 : decode cX6_starts 0 = .ok (.aload_n 0, 1) := by decide +kernel
theorem dX6_starts_1 : decode cX6_starts 1 = .ok (.invokevirtual 113, 3) := by decide +kernel
theorem dX6_starts_4 : decode cX6_starts 4 = .ok (.istore_n 3, 1) := by decide +kernel
theorem dX6_starts_5 : decode cX6_starts 5 = .ok (.aload_n 0, 1) := by decide +kernel
theorem dX6_starts_6 : decode cX6_starts 6 = .ok (.getfield 42, 3) := by decide +kernel
theorem dX6_starts_9 : decode cX6_starts 9 = .ok (.iload_n 3, 1) := by decide +kernel
theorem dX6_starts_10 : decode cX6_starts 10 = .ok (.iload_n 1, 1) := by decide +kernel
theorem dX6_starts_11 : decode cX6_starts 11 = .ok (.iastore, 1) := by decide +kernel
theorem dX6_starts_12 : decode cX6_starts 12 = .ok (.aload_n 0, 1) := by decide +kernel
theorem dX6_starts_13 : decode cX6_starts 13 = .ok (.getfield 45, 3) := by decide +kernel
theorem dX6_starts_16 : decode cX6_starts 16 = .ok (.iload_n 3, 1) := by decide +kernel
theorem dX6_starts_17 : decode cX6_starts 17 = .ok (.iload_n 2, 1) := by decide +kernel
theorem dX6_starts_18 : decode cX6_starts 18 = .ok (.iastore, 1) := by decide +kernel
theorem dX6_starts_19 : decode cX6_starts 19 = .ok (.aload_n 0, 1) := by decide +kernel
theorem dX6_starts_20 : decode cX6_starts 20 = .ok (.getfield 48, 3) := by decide +kernel
theorem dX6_starts_23 : decode cX6_starts 23 = .ok (.iload_n 3, 1) := by decide +kernel
theorem dX6_starts_24 : decode cX6_starts 24 = .ok (.iconst 0, 1) := by decide +kernel
theorem dX6_starts_25 : decode cX6_starts 25 = .ok (.iastore, 1) := by decide +kernel
theorem dX6_starts_26 : decode cX6_starts 26 = .ok (.aload_n 0, 1) := by decide +kernel
theorem dX6_starts_27 : decode cX6_starts 27 = .ok (.getfield 51, 3) := by decide +kernel
theorem dX6_starts_30 : decode cX6_starts 30 = .ok (.iload_n 3, 1) := by decide +kernel
theorem dX6_starts_31 : decode cX6_starts 31 = .ok (.iconst 0, 1) := by decide +kernel
theorem dX6_starts_32 : decode cX6_starts 32 = .ok (.iastore, 1) := by decide +kernel
theorem dX6_starts_33 : decode cX6_starts 33 = .ok (.aload_n 0, 1) := by decide +kernel
theorem dX6_starts_34 : decode cX6_starts 34 = .ok (.getfield 54, 3) := by decide +kernel
theorem dX6_starts_37 : decode cX6_starts 37 = .ok (.iload_n 3, 1) := by decide +kernel
theorem dX6_starts_38 : decode cX6_starts 38 = .ok (.iconst 1, 1) := by decide +kernel
theorem dX6_starts_39 : decode cX6_starts 39 = .ok (.iastore, 1) := by decide +kernel
theorem dX6_starts_40 : decode cX6_starts 40 = .ok (.aload_n 0, 1) := by decide +kernel
theorem dX6_starts_41 : decode cX6_starts 41 = .ok (.getfield 57, 3) := by decide +kernel
theorem dX6_starts_44 : decode cX6_starts 44 = .ok (.iload_n 3, 1) := by decide +kernel
theorem dX6_starts_45 : decode cX6_starts 45 = .ok (.aload_n 0, 1) := by decide +kernel
theorem dX6_starts_46 : decode cX6_starts 46 = .ok (.getfield 66, 3) := by decide +kernel
theorem dX6_starts_49 : decode cX6_starts 49 = .ok (.bipush 24, 2) := by decide +kernel
theorem dX6_starts_51 : decode cX6_starts 51 = .ok (.aload_n 0, 1) := by decide +kernel
theorem dX6_starts_52 : decode cX6_starts 52 = .ok (.getfield 91, 3) := by decide +kernel
theorem dX6_starts_55 : decode cX6_starts 55 = .ok (.imul, 1) := by decide +kernel
theorem dX6_starts_56 : decode cX6_starts 56 = .ok (.iload_n 1, 1) := by decide +kernel
theorem dX6_starts_57 : decode cX6_starts 57 = .ok (.iadd, 1) := by decide +kernel
theorem dX6_starts_58 : decode cX6_starts 58 = .ok (.iaload, 1) := by decide +kernel
theorem dX6_starts_59 : decode cX6_starts 59 = .ok (.ifCond .le 7, 3) := by decide +kernel
theorem dX6_starts_62 : decode cX6_starts 62 = .ok (.iconst 1, 1) := by decide +kernel
theorem dX6_starts_63 : decode cX6_starts 63 = .ok (.goto 4, 3) := by decide +kernel
theorem dX6_starts_66 : decode cX6_starts 66 = .ok (.iconst 0, 1) := by decide +kernel
theorem dX6_starts_67 : decode cX6_starts 67 = .ok (.bastore, 1) := by decide +kernel
theorem dX6_starts_68 : decode cX6_starts 68 = .ok (.aload_n 0, 1) := by decide +kernel
theorem dX6_starts_69 : decode cX6_starts 69 = .ok (.getfield 66, 3) := by decide +kernel
theorem dX6_starts_72 : decode cX6_starts 72 = .ok (.bipush 24, 2) := by decide +kernel
theorem dX6_starts_74 : decode cX6_starts 74 = .ok (.aload_n 0, 1) := by decide +kernel
theorem dX6_starts_75 : decode cX6_starts 75 = .ok (.getfield 91, 3) := by decide +kernel
theorem dX6_starts_78 : decode cX6_starts 78 = .ok (.imul, 1) := by decide +kernel
theorem dX6_starts_79 : decode cX6_starts 79 = .ok (.iload_n 1, 1) := by decide +kernel
theorem dX6_starts_80 : decode cX6_starts 80 = .ok (.iadd, 1) := by decide +kernel
theorem dX6_starts_81 : decode cX6_starts 81 = .ok (.dup2, 1) := by decide +kernel
theorem dX6_starts_82 : decode cX6_starts 82 = .ok (.iaload, 1) := by decide +kernel
theorem dX6_starts_83 : decode cX6_starts 83 = .ok (.iconst 1, 1) := by decide +kernel
theorem dX6_starts_84 : decode cX6_starts 84 = .ok (.iadd, 1) := by decide +kernel
theorem dX6_starts_85 : decode cX6_starts 85 = .ok (.iastore, 1) := by decide +kernel
theorem dX6_starts_86 : decode cX6_starts 86 = .ok (.aload_n 0, 1) := by decide +kernel
theorem dX6_starts_87 : decode cX6_starts 87 = .ok (.getfield 69, 3) := by decide +kernel
theorem dX6_starts_90 : decode cX6_starts 90 = .ok (.bipush 8, 2) := by decide +kernel
theorem dX6_starts_92 : decode cX6_starts 92 = .ok (.aload_n 0, 1) := by decide +kernel
theorem dX6_starts_93 : decode cX6_starts 93 = .ok (.getfield 91, 3) := by decide +kernel
theorem dX6_starts_96 : decode cX6_starts 96 = .ok (.imul, 1) := by decide +kernel
theorem dX6_starts_97 : decode cX6_starts 97 = .ok (.iload_n 2, 1) := by decide +kernel
theorem dX6_starts_98 : decode cX6_starts 98 = .ok (.iadd, 1) := by decide +kernel
theorem dX6_starts_99 : decode cX6_starts 99 = .ok (.dup2, 1) := by decide +kernel
theorem dX6_starts_100 : decode cX6_starts 100 = .ok (.iaload, 1) := by decide +kernel
theorem dX6_starts_101 : decode cX6_starts 101 = .ok (.iconst 1, 1) := by decide +kernel
theorem dX6_starts_102 : decode cX6_starts 102 = .ok (.iadd, 1) := by decide +kernel
theorem dX6_starts_103 : decode cX6_starts 103 = .ok (.iastore, 1) := by decide +kernel
theorem dX6_starts_104 : decode cX6_starts 104 = .ok (.aload_n 0, 1) := by decide +kernel
theorem dX6_starts_105 : decode cX6_starts 105 = .ok (.getfield 36, 3) := by decide +kernel
theorem dX6_starts_108 : decode cX6_starts 108 = .ok (.aload_n 0, 1) := by decide +kernel
theorem dX6_starts_109 : decode cX6_starts 109 = .ok (.getfield 91, 3) := by decide +kernel
theorem dX6_starts_112 : decode cX6_starts 112 = .ok (.dup2, 1) := by decide +kernel
theorem dX6_starts_113 : decode cX6_starts 113 = .ok (.iaload, 1) := by decide +kernel
theorem dX6_starts_114 : decode cX6_starts 114 = .ok (.iconst 1, 1) := by decide +kernel
theorem dX6_starts_115 : decode cX6_starts 115 = .ok (.iadd, 1) := by decide +kernel
theorem dX6_starts_116 : decode cX6_starts 116 = .ok (.iastore, 1) := by decide +kernel
theorem dX6_starts_117 : decode cX6_starts 117 = .ok (.return_, 1) := by decide +kernel
theorem dX6_startsOn_0 : decode cX6_startsOn 0 = .ok (.aload_n 0, 1) := by decide +kernel
theorem dX6_startsOn_1 : decode cX6_startsOn 1 = .ok (.invokevirtual 146, 3) := by decide +kernel
theorem dX6_startsOn_4 : decode cX6_startsOn 4 = .ok (.istore_n 3, 1) := by decide +kernel
theorem dX6_startsOn_5 : decode cX6_startsOn 5 = .ok (.iload_n 3, 1) := by decide +kernel
theorem dX6_startsOn_6 : decode cX6_startsOn 6 = .ok (.bipush (-6), 2) := by decide +kernel
theorem dX6_startsOn_8 : decode cX6_startsOn 8 = .ok (.if_icmp .ne 74, 3) := by decide +kernel
theorem dX6_startsOn_11 : decode cX6_startsOn 11 = .ok (.aload_n 0, 1) := by decide +kernel
theorem dX6_startsOn_12 : decode cX6_startsOn 12 = .ok (.iload_n 2, 1) := by decide +kernel
theorem dX6_startsOn_13 : decode cX6_startsOn 13 = .ok (.invokevirtual 149, 3) := by decide +kernel
theorem dX6_startsOn_16 : decode cX6_startsOn 16 = .ok (.istore 4, 2) := by decide +kernel
theorem dX6_startsOn_18 : decode cX6_startsOn 18 = .ok (.iload 4, 2) := by decide +kernel
theorem dX6_startsOn_20 : decode cX6_startsOn 20 = .ok (.bipush (-6), 2) := by decide +kernel
theorem dX6_startsOn_22 : decode cX6_startsOn 22 = .ok (.if_icmp .eq 42, 3) := by decide +kernel
theorem dX6_startsOn_25 : decode cX6_startsOn 25 = .ok (.aload_n 0, 1) := by decide +kernel
theorem dX6_startsOn_26 : decode cX6_startsOn 26 = .ok (.getfield 45, 3) := by decide +kernel
theorem dX6_startsOn_29 : decode cX6_startsOn 29 = .ok (.iload 4, 2) := by decide +kernel
theorem dX6_startsOn_31 : decode cX6_startsOn 31 = .ok (.iaload, 1) := by decide +kernel
theorem dX6_startsOn_32 : decode cX6_startsOn 32 = .ok (.iload_n 1, 1) := by decide +kernel
theorem dX6_startsOn_33 : decode cX6_startsOn 33 = .ok (.if_icmp .eq 31, 3) := by decide +kernel
theorem dX6_startsOn_36 : decode cX6_startsOn 36 = .ok (.aload_n 0, 1) := by decide +kernel
theorem dX6_startsOn_37 : decode cX6_startsOn 37 = .ok (.invokevirtual 152, 3) := by decide +kernel
theorem dX6_startsOn_40 : decode cX6_startsOn 40 = .ok (.aload_n 0, 1) := by decide +kernel
theorem dX6_startsOn_41 : decode cX6_startsOn 41 = .ok (.getfield 23, 3) := by decide +kernel
theorem dX6_startsOn_44 : decode cX6_startsOn 44 = .ok (.if_icmp .ge 20, 3) := by decide +kernel
theorem dX6_startsOn_47 : decode cX6_startsOn 47 = .ok (.iload_n 2, 1) := by decide +kernel
theorem dX6_startsOn_48 : decode cX6_startsOn 48 = .ok (.iconst 2, 1) := by decide +kernel
theorem dX6_startsOn_49 : decode cX6_startsOn 49 = .ok (.if_icmp .ne 11, 3) := by decide +kernel
theorem dX6_startsOn_52 : decode cX6_startsOn 52 = .ok (.aload_n 0, 1) := by decide +kernel
theorem dX6_startsOn_53 : decode cX6_startsOn 53 = .ok (.iload_n 1, 1) := by decide +kernel
theorem dX6_startsOn_54 : decode cX6_startsOn 54 = .ok (.invokevirtual 155, 3) := by decide +kernel
theorem dX6_startsOn_57 : decode cX6_startsOn 57 = .ok (.ifCond .ne 7, 3) := by decide +kernel
theorem dX6_startsOn_60 : decode cX6_startsOn 60 = .ok (.iconst 1, 1) := by decide +kernel
theorem dX6_startsOn_61 : decode cX6_startsOn 61 = .ok (.goto 4, 3) := by decide +kernel
theorem dX6_startsOn_64 : decode cX6_startsOn 64 = .ok (.iconst 0, 1) := by decide +kernel
theorem dX6_startsOn_65 : decode cX6_startsOn 65 = .ok (.istore 5, 2) := by decide +kernel
theorem dX6_startsOn_67 : decode cX6_startsOn 67 = .ok (.iload 5, 2) := by decide +kernel
theorem dX6_startsOn_69 : decode cX6_startsOn 69 = .ok (.ifCond .ne 5, 3) := by decide +kernel
theorem dX6_startsOn_72 : decode cX6_startsOn 72 = .ok (.iconst 0, 1) := by decide +kernel
theorem dX6_startsOn_73 : decode cX6_startsOn 73 = .ok (.ireturn, 1) := by decide +kernel
theorem dX6_startsOn_74 : decode cX6_startsOn 74 = .ok (.aload_n 0, 1) := by decide +kernel
theorem dX6_startsOn_75 : decode cX6_startsOn 75 = .ok (.getfield 42, 3) := by decide +kernel
theorem dX6_startsOn_78 : decode cX6_startsOn 78 = .ok (.iload 4, 2) := by decide +kernel
theorem dX6_startsOn_80 : decode cX6_startsOn 80 = .ok (.iaload, 1) := by decide +kernel
theorem dX6_startsOn_81 : decode cX6_startsOn 81 = .ok (.istore_n 3, 1) := by decide +kernel
theorem dX6_startsOn_82 : decode cX6_startsOn 82 = .ok (.aload_n 0, 1) := by decide +kernel
theorem dX6_startsOn_83 : decode cX6_startsOn 83 = .ok (.iload_n 3, 1) := by decide +kernel
theorem dX6_startsOn_84 : decode cX6_startsOn 84 = .ok (.iload_n 1, 1) := by decide +kernel
theorem dX6_startsOn_85 : decode cX6_startsOn 85 = .ok (.invokevirtual 158, 3) := by decide +kernel
theorem dX6_startsOn_88 : decode cX6_startsOn 88 = .ok (.iconst 1, 1) := by decide +kernel
theorem dX6_startsOn_89 : decode cX6_startsOn 89 = .ok (.ireturn, 1) := by decide +kernel
theorem dX6_hasSlot_0 : decode cX6_hasSlot 0 = .ok (.aload_n 0, 1) := by decide +kernel
theorem dX6_hasSlot_1 : decode cX6_hasSlot 1 = .ok (.getfield 16, 3) := by decide +kernel
theorem dX6_hasSlot_4 : decode cX6_hasSlot 4 = .ok (.iload_n 1, 1) := by decide +kernel
theorem dX6_hasSlot_5 : decode cX6_hasSlot 5 = .ok (.baload, 1) := by decide +kernel
theorem dX6_hasSlot_6 : decode cX6_hasSlot 6 = .ok (.ifCond .eq 45, 3) := by decide +kernel
theorem dX6_hasSlot_9 : decode cX6_hasSlot 9 = .ok (.aload_n 0, 1) := by decide +kernel
theorem dX6_hasSlot_10 : decode cX6_hasSlot 10 = .ok (.getfield 69, 3) := by decide +kernel
theorem dX6_hasSlot_13 : decode cX6_hasSlot 13 = .ok (.bipush 8, 2) := by decide +kernel
theorem dX6_hasSlot_15 : decode cX6_hasSlot 15 = .ok (.aload_n 0, 1) := by decide +kernel
theorem dX6_hasSlot_16 : decode cX6_hasSlot 16 = .ok (.getfield 91, 3) := by decide +kernel
theorem dX6_hasSlot_19 : decode cX6_hasSlot 19 = .ok (.imul, 1) := by decide +kernel
theorem dX6_hasSlot_20 : decode cX6_hasSlot 20 = .ok (.iload_n 1, 1) := by decide +kernel
theorem dX6_hasSlot_21 : decode cX6_hasSlot 21 = .ok (.iadd, 1) := by decide +kernel
theorem dX6_hasSlot_22 : decode cX6_hasSlot 22 = .ok (.iaload, 1) := by decide +kernel
theorem dX6_hasSlot_23 : decode cX6_hasSlot 23 = .ok (.aload_n 0, 1) := by decide +kernel
theorem dX6_hasSlot_24 : decode cX6_hasSlot 24 = .ok (.getfield 13, 3) := by decide +kernel
theorem dX6_hasSlot_27 : decode cX6_hasSlot 27 = .ok (.iload_n 1, 1) := by decide +kernel
theorem dX6_hasSlot_28 : decode cX6_hasSlot 28 = .ok (.iaload, 1) := by decide +kernel
theorem dX6_hasSlot_29 : decode cX6_hasSlot 29 = .ok (.if_icmp .ge 22, 3) := by decide +kernel
theorem dX6_hasSlot_32 : decode cX6_hasSlot 32 = .ok (.aload_n 0, 1) := by decide +kernel
theorem dX6_hasSlot_33 : decode cX6_hasSlot 33 = .ok (.getfield 36, 3) := by decide +kernel
theorem dX6_hasSlot_36 : decode cX6_hasSlot 36 = .ok (.aload_n 0, 1) := by decide +kernel
theorem dX6_hasSlot_37 : decode cX6_hasSlot 37 = .ok (.getfield 91, 3) := by decide +kernel
theorem dX6_hasSlot_40 : decode cX6_hasSlot 40 = .ok (.iaload, 1) := by decide +kernel
theorem dX6_hasSlot_41 : decode cX6_hasSlot 41 = .ok (.sipush 200, 3) := by decide +kernel
theorem dX6_hasSlot_44 : decode cX6_hasSlot 44 = .ok (.if_icmp .ge 7, 3) := by decide +kernel
theorem dX6_hasSlot_47 : decode cX6_hasSlot 47 = .ok (.iconst 1, 1) := by decide +kernel
theorem dX6_hasSlot_48 : decode cX6_hasSlot 48 = .ok (.goto 4, 3) := by decide +kernel
theorem dX6_hasSlot_51 : decode cX6_hasSlot 51 = .ok (.iconst 0, 1) := by decide +kernel
theorem dX6_hasSlot_52 : decode cX6_hasSlot 52 = .ok (.ireturn, 1) := by decide +kernel
theorem dX6_works_0 : decode cX6_works 0 = .ok (.aload_n 0, 1) := by decide +kernel
theorem dX6_works_1 : decode cX6_works 1 = .ok (.invokevirtual 109, 3) := by decide +kernel
theorem dX6_works_4 : decode cX6_works 4 = .ok (.istore_n 1, 1) := by decide +kernel
theorem dX6_works_5 : decode cX6_works 5 = .ok (.iload_n 1, 1) := by decide +kernel
theorem dX6_works_6 : decode cX6_works 6 = .ok (.aload_n 0, 1) := by decide +kernel
theorem dX6_works_7 : decode cX6_works 7 = .ok (.invokevirtual 113, 3) := by decide +kernel
theorem dX6_works_10 : decode cX6_works 10 = .ok (.if_icmp .ge 92, 3) := by decide +kernel
theorem dX6_works_13 : decode cX6_works 13 = .ok (.aload_n 0, 1) := by decide +kernel
theorem dX6_works_14 : decode cX6_works 14 = .ok (.getfield 54, 3) := by decide +kernel
theorem dX6_works_17 : decode cX6_works 17 = .ok (.iload_n 1, 1) := by decide +kernel
theorem dX6_works_18 : decode cX6_works 18 = .ok (.iaload, 1) := by decide +kernel
theorem dX6_works_19 : decode cX6_works 19 = .ok (.iconst 1, 1) := by decide +kernel
theorem dX6_works_20 : decode cX6_works 20 = .ok (.if_icmp .ne 76, 3) := by decide +kernel
theorem dX6_works_23 : decode cX6_works 23 = .ok (.aload_n 0, 1) := by decide +kernel
theorem dX6_works_24 : decode cX6_works 24 = .ok (.getfield 45, 3) := by decide +kernel
theorem dX6_works_27 : decode cX6_works 27 = .ok (.iload_n 1, 1) := by decide +kernel
theorem dX6_works_28 : decode cX6_works 28 = .ok (.iaload, 1) := by decide +kernel
theorem dX6_works_29 : decode cX6_works 29 = .ok (.istore_n 2, 1) := by decide +kernel
theorem dX6_works_30 : decode cX6_works 30 = .ok (.aload_n 0, 1) := by decide +kernel
theorem dX6_works_31 : decode cX6_works 31 = .ok (.getfield 48, 3) := by decide +kernel
theorem dX6_works_34 : decode cX6_works 34 = .ok (.iload_n 1, 1) := by decide +kernel
theorem dX6_works_35 : decode cX6_works 35 = .ok (.dup2, 1) := by decide +kernel
theorem dX6_works_36 : decode cX6_works 36 = .ok (.iaload, 1) := by decide +kernel
theorem dX6_works_37 : decode cX6_works 37 = .ok (.iconst 1, 1) := by decide +kernel
theorem dX6_works_38 : decode cX6_works 38 = .ok (.iadd, 1) := by decide +kernel
theorem dX6_works_39 : decode cX6_works 39 = .ok (.iastore, 1) := by decide +kernel
theorem dX6_works_40 : decode cX6_works 40 = .ok (.aload_n 0, 1) := by decide +kernel
theorem dX6_works_41 : decode cX6_works 41 = .ok (.getfield 51, 3) := by decide +kernel
theorem dX6_works_44 : decode cX6_works 44 = .ok (.iload_n 1, 1) := by decide +kernel
theorem dX6_works_45 : decode cX6_works 45 = .ok (.dup2, 1) := by decide +kernel
theorem dX6_works_46 : decode cX6_works 46 = .ok (.iaload, 1) := by decide +kernel
theorem dX6_works_47 : decode cX6_works 47 = .ok (.aload_n 0, 1) := by decide +kernel
theorem dX6_works_48 : decode cX6_works 48 = .ok (.getfield 7, 3) := by decide +kernel
theorem dX6_works_51 : decode cX6_works 51 = .ok (.iload_n 2, 1) := by decide +kernel
theorem dX6_works_52 : decode cX6_works 52 = .ok (.iaload, 1) := by decide +kernel
theorem dX6_works_53 : decode cX6_works 53 = .ok (.iadd, 1) := by decide +kernel
theorem dX6_works_54 : decode cX6_works 54 = .ok (.iastore, 1) := by decide +kernel
theorem dX6_works_55 : decode cX6_works 55 = .ok (.aload_n 0, 1) := by decide +kernel
theorem dX6_works_56 : decode cX6_works 56 = .ok (.getfield 72, 3) := by decide +kernel
theorem dX6_works_59 : decode cX6_works 59 = .ok (.bipush 8, 2) := by decide +kernel
theorem dX6_works_61 : decode cX6_works 61 = .ok (.aload_n 0, 1) := by decide +kernel
theorem dX6_works_62 : decode cX6_works 62 = .ok (.getfield 91, 3) := by decide +kernel
theorem dX6_works_65 : decode cX6_works 65 = .ok (.imul, 1) := by decide +kernel
theorem dX6_works_66 : decode cX6_works 66 = .ok (.iload_n 2, 1) := by decide +kernel
theorem dX6_works_67 : decode cX6_works 67 = .ok (.iadd, 1) := by decide +kernel
theorem dX6_works_68 : decode cX6_works 68 = .ok (.dup2, 1) := by decide +kernel
theorem dX6_works_69 : decode cX6_works 69 = .ok (.iaload, 1) := by decide +kernel
theorem dX6_works_70 : decode cX6_works 70 = .ok (.iconst 1, 1) := by decide +kernel
theorem dX6_works_71 : decode cX6_works 71 = .ok (.iadd, 1) := by decide +kernel
theorem dX6_works_72 : decode cX6_works 72 = .ok (.iastore, 1) := by decide +kernel
theorem dX6_works_73 : decode cX6_works 73 = .ok (.aload_n 0, 1) := by decide +kernel
theorem dX6_works_74 : decode cX6_works 74 = .ok (.getfield 75, 3) := by decide +kernel
theorem dX6_works_77 : decode cX6_works 77 = .ok (.bipush 8, 2) := by decide +kernel
theorem dX6_works_79 : decode cX6_works 79 = .ok (.aload_n 0, 1) := by decide +kernel
theorem dX6_works_80 : decode cX6_works 80 = .ok (.getfield 91, 3) := by decide +kernel
theorem dX6_works_83 : decode cX6_works 83 = .ok (.imul, 1) := by decide +kernel
theorem dX6_works_84 : decode cX6_works 84 = .ok (.iload_n 2, 1) := by decide +kernel
theorem dX6_works_85 : decode cX6_works 85 = .ok (.iadd, 1) := by decide +kernel
theorem dX6_works_86 : decode cX6_works 86 = .ok (.dup2, 1) := by decide +kernel
theorem dX6_works_87 : decode cX6_works 87 = .ok (.iaload, 1) := by decide +kernel
theorem dX6_works_88 : decode cX6_works 88 = .ok (.aload_n 0, 1) := by decide +kernel
theorem dX6_works_89 : decode cX6_works 89 = .ok (.getfield 7, 3) := by decide +kernel
theorem dX6_works_92 : decode cX6_works 92 = .ok (.iload_n 2, 1) := by decide +kernel
theorem dX6_works_93 : decode cX6_works 93 = .ok (.iaload, 1) := by decide +kernel
theorem dX6_works_94 : decode cX6_works 94 = .ok (.iadd, 1) := by decide +kernel
theorem dX6_works_95 : decode cX6_works 95 = .ok (.iastore, 1) := by decide +kernel
theorem dX6_works_96 : decode cX6_works 96 = .ok (.iinc 1 1, 3) := by decide +kernel
theorem dX6_works_99 : decode cX6_works 99 = .ok (.goto (-94), 3) := by decide +kernel
theorem dX6_works_102 : decode cX6_works 102 = .ok (.return_, 1) := by decide +kernel
theorem dX6_killsOther_0 : decode cX6_killsOther 0 = .ok (.aload_n 0, 1) := by decide +kernel
theorem dX6_killsOther_1 : decode cX6_killsOther 1 = .ok (.invokevirtual 109, 3) := by decide +kernel
theorem dX6_killsOther_4 : decode cX6_killsOther 4 = .ok (.istore_n 2, 1) := by decide +kernel
theorem dX6_killsOther_5 : decode cX6_killsOther 5 = .ok (.iload_n 2, 1) := by decide +kernel
theorem dX6_killsOther_6 : decode cX6_killsOther 6 = .ok (.aload_n 0, 1) := by decide +kernel
theorem dX6_killsOther_7 : decode cX6_killsOther 7 = .ok (.invokevirtual 113, 3) := by decide +kernel
theorem dX6_killsOther_10 : decode cX6_killsOther 10 = .ok (.if_icmp .ge 40, 3) := by decide +kernel
theorem dX6_killsOther_13 : decode cX6_killsOther 13 = .ok (.aload_n 0, 1) := by decide +kernel
theorem dX6_killsOther_14 : decode cX6_killsOther 14 = .ok (.getfield 54, 3) := by decide +kernel
theorem dX6_killsOther_17 : decode cX6_killsOther 17 = .ok (.iload_n 2, 1) := by decide +kernel
theorem dX6_killsOther_18 : decode cX6_killsOther 18 = .ok (.iaload, 1) := by decide +kernel
theorem dX6_killsOther_19 : decode cX6_killsOther 19 = .ok (.iconst 1, 1) := by decide +kernel
theorem dX6_killsOther_20 : decode cX6_killsOther 20 = .ok (.if_icmp .ne 24, 3) := by decide +kernel
theorem dX6_killsOther_23 : decode cX6_killsOther 23 = .ok (.aload_n 0, 1) := by decide +kernel
theorem dX6_killsOther_24 : decode cX6_killsOther 24 = .ok (.getfield 42, 3) := by decide +kernel
theorem dX6_killsOther_27 : decode cX6_killsOther 27 = .ok (.iload_n 2, 1) := by decide +kernel
theorem dX6_killsOther_28 : decode cX6_killsOther 28 = .ok (.iaload, 1) := by decide +kernel
theorem dX6_killsOther_29 : decode cX6_killsOther 29 = .ok (.aload_n 0, 1) := by decide +kernel
theorem dX6_killsOther_30 : decode cX6_killsOther 30 = .ok (.getfield 42, 3) := by decide +kernel
theorem dX6_killsOther_33 : decode cX6_killsOther 33 = .ok (.iload_n 1, 1) := by decide +kernel
theorem dX6_killsOther_34 : decode cX6_killsOther 34 = .ok (.iaload, 1) := by decide +kernel
theorem dX6_killsOther_35 : decode cX6_killsOther 35 = .ok (.if_icmp .ne 9, 3) := by decide +kernel
theorem dX6_killsOther_38 : decode cX6_killsOther 38 = .ok (.aload_n 0, 1) := by decide +kernel
theorem dX6_killsOther_39 : decode cX6_killsOther 39 = .ok (.iload_n 2, 1) := by decide +kernel
theorem dX6_killsOther_40 : decode cX6_killsOther 40 = .ok (.iconst 3, 1) := by decide +kernel
theorem dX6_killsOther_41 : decode cX6_killsOther 41 = .ok (.invokevirtual 98, 3) := by decide +kernel
theorem dX6_killsOther_44 : decode cX6_killsOther 44 = .ok (.iinc 2 1, 3) := by decide +kernel
theorem dX6_killsOther_47 : decode cX6_killsOther 47 = .ok (.goto (-42), 3) := by decide +kernel
theorem dX6_killsOther_50 : decode cX6_killsOther 50 = .ok (.return_, 1) := by decide +kernel
theorem dX6_commits_0 : decode cX6_commits 0 = .ok (.iconst 0, 1) := by decide +kernel
theorem dX6_commits_1 : decode cX6_commits 1 = .ok (.istore_n 1, 1) := by decide +kernel
theorem dX6_commits_2 : decode cX6_commits 2 = .ok (.aload_n 0, 1) := by decide +kernel
theorem dX6_commits_3 : decode cX6_commits 3 = .ok (.invokevirtual 109, 3) := by decide +kernel
theorem dX6_commits_6 : decode cX6_commits 6 = .ok (.istore_n 2, 1) := by decide +kernel
theorem dX6_commits_7 : decode cX6_commits 7 = .ok (.iload_n 2, 1) := by decide +kernel
theorem dX6_commits_8 : decode cX6_commits 8 = .ok (.aload_n 0, 1) := by decide +kernel
theorem dX6_commits_9 : decode cX6_commits 9 = .ok (.invokevirtual 113, 3) := by decide +kernel
theorem dX6_commits_12 : decode cX6_commits 12 = .ok (.if_icmp .ge 108, 3) := by decide +kernel
theorem dX6_commits_15 : decode cX6_commits 15 = .ok (.aload_n 0, 1) := by decide +kernel
theorem dX6_commits_16 : decode cX6_commits 16 = .ok (.getfield 54, 3) := by decide +kernel
theorem dX6_commits_19 : decode cX6_commits 19 = .ok (.iload_n 2, 1) := by decide +kernel
theorem dX6_commits_20 : decode cX6_commits 20 = .ok (.iaload, 1) := by decide +kernel
theorem dX6_commits_21 : decode cX6_commits 21 = .ok (.iconst 1, 1) := by decide +kernel
theorem dX6_commits_22 : decode cX6_commits 22 = .ok (.if_icmp .ne 92, 3) := by decide +kernel
theorem dX6_commits_25 : decode cX6_commits 25 = .ok (.aload_n 0, 1) := by decide +kernel
theorem dX6_commits_26 : decode cX6_commits 26 = .ok (.getfield 51, 3) := by decide +kernel
theorem dX6_commits_29 : decode cX6_commits 29 = .ok (.iload_n 2, 1) := by decide +kernel
theorem dX6_commits_30 : decode cX6_commits 30 = .ok (.iaload, 1) := by decide +kernel
theorem dX6_commits_31 : decode cX6_commits 31 = .ok (.aload_n 0, 1) := by decide +kernel
theorem dX6_commits_32 : decode cX6_commits 32 = .ok (.getfield 20, 3) := by decide +kernel
theorem dX6_commits_35 : decode cX6_commits 35 = .ok (.aload_n 0, 1) := by decide +kernel
theorem dX6_commits_36 : decode cX6_commits 36 = .ok (.getfield 42, 3) := by decide +kernel
theorem dX6_commits_39 : decode cX6_commits 39 = .ok (.iload_n 2, 1) := by decide +kernel
theorem dX6_commits_40 : decode cX6_commits 40 = .ok (.iaload, 1) := by decide +kernel
theorem dX6_commits_41 : decode cX6_commits 41 = .ok (.iaload, 1) := by decide +kernel
theorem dX6_commits_42 : decode cX6_commits 42 = .ok (.if_icmp .lt 72, 3) := by decide +kernel
theorem dX6_commits_45 : decode cX6_commits 45 = .ok (.aload_n 0, 1) := by decide +kernel
theorem dX6_commits_46 : decode cX6_commits 46 = .ok (.iload_n 2, 1) := by decide +kernel
theorem dX6_commits_47 : decode cX6_commits 47 = .ok (.iconst 2, 1) := by decide +kernel
theorem dX6_commits_48 : decode cX6_commits 48 = .ok (.invokevirtual 98, 3) := by decide +kernel
theorem dX6_commits_51 : decode cX6_commits 51 = .ok (.aload_n 0, 1) := by decide +kernel
theorem dX6_commits_52 : decode cX6_commits 52 = .ok (.iload_n 2, 1) := by decide +kernel
theorem dX6_commits_53 : decode cX6_commits 53 = .ok (.invokevirtual 161, 3) := by decide +kernel
theorem dX6_commits_56 : decode cX6_commits 56 = .ok (.aload_n 0, 1) := by decide +kernel
theorem dX6_commits_57 : decode cX6_commits 57 = .ok (.getfield 60, 3) := by decide +kernel
theorem dX6_commits_60 : decode cX6_commits 60 = .ok (.bipush 24, 2) := by decide +kernel
theorem dX6_commits_62 : decode cX6_commits 62 = .ok (.aload_n 0, 1) := by decide +kernel
theorem dX6_commits_63 : decode cX6_commits 63 = .ok (.getfield 91, 3) := by decide +kernel
theorem dX6_commits_66 : decode cX6_commits 66 = .ok (.imul, 1) := by decide +kernel
theorem dX6_commits_67 : decode cX6_commits 67 = .ok (.aload_n 0, 1) := by decide +kernel
theorem dX6_commits_68 : decode cX6_commits 68 = .ok (.getfield 42, 3) := by decide +kernel
theorem dX6_commits_71 : decode cX6_commits 71 = .ok (.iload_n 2, 1) := by decide +kernel
theorem dX6_commits_72 : decode cX6_commits 72 = .ok (.iaload, 1) := by decide +kernel
theorem dX6_commits_73 : decode cX6_commits 73 = .ok (.iadd, 1) := by decide +kernel
theorem dX6_commits_74 : decode cX6_commits 74 = .ok (.iload_n 2, 1) := by decide +kernel
theorem dX6_commits_75 : decode cX6_commits 75 = .ok (.aload_n 0, 1) := by decide +kernel
theorem dX6_commits_76 : decode cX6_commits 76 = .ok (.invokevirtual 109, 3) := by decide +kernel
theorem dX6_commits_79 : decode cX6_commits 79 = .ok (.isub, 1) := by decide +kernel
theorem dX6_commits_80 : decode cX6_commits 80 = .ok (.iastore, 1) := by decide +kernel
theorem dX6_commits_81 : decode cX6_commits 81 = .ok (.aload_n 0, 1) := by decide +kernel
theorem dX6_commits_82 : decode cX6_commits 82 = .ok (.getfield 63, 3) := by decide +kernel
theorem dX6_commits_85 : decode cX6_commits 85 = .ok (.bipush 24, 2) := by decide +kernel
theorem dX6_commits_87 : decode cX6_commits 87 = .ok (.aload_n 0, 1) := by decide +kernel
theorem dX6_commits_88 : decode cX6_commits 88 = .ok (.getfield 91, 3) := by decide +kernel
theorem dX6_commits_91 : decode cX6_commits 91 = .ok (.imul, 1) := by decide +kernel
theorem dX6_commits_92 : decode cX6_commits 92 = .ok (.aload_n 0, 1) := by decide +kernel
theorem dX6_commits_93 : decode cX6_commits 93 = .ok (.getfield 42, 3) := by decide +kernel
theorem dX6_commits_96 : decode cX6_commits 96 = .ok (.iload_n 2, 1) := by decide +kernel
theorem dX6_commits_97 : decode cX6_commits 97 = .ok (.iaload, 1) := by decide +kernel
theorem dX6_commits_98 : decode cX6_commits 98 = .ok (.iadd, 1) := by decide +kernel
theorem dX6_commits_99 : decode cX6_commits 99 = .ok (.aload_n 0, 1) := by decide +kernel
theorem dX6_commits_100 : decode cX6_commits 100 = .ok (.getfield 39, 3) := by decide +kernel
theorem dX6_commits_103 : decode cX6_commits 103 = .ok (.aload_n 0, 1) := by decide +kernel
theorem dX6_commits_104 : decode cX6_commits 104 = .ok (.getfield 91, 3) := by decide +kernel
theorem dX6_commits_107 : decode cX6_commits 107 = .ok (.iaload, 1) := by decide +kernel
theorem dX6_commits_108 : decode cX6_commits 108 = .ok (.iconst 1, 1) := by decide +kernel
theorem dX6_commits_109 : decode cX6_commits 109 = .ok (.iadd, 1) := by decide +kernel
theorem dX6_commits_110 : decode cX6_commits 110 = .ok (.iastore, 1) := by decide +kernel
theorem dX6_commits_111 : decode cX6_commits 111 = .ok (.iinc 1 1, 3) := by decide +kernel
theorem dX6_commits_114 : decode cX6_commits 114 = .ok (.iinc 2 1, 3) := by decide +kernel
theorem dX6_commits_117 : decode cX6_commits 117 = .ok (.goto (-110), 3) := by decide +kernel
theorem dX6_commits_120 : decode cX6_commits 120 = .ok (.iload_n 1, 1) := by decide +kernel
theorem dX6_commits_121 : decode cX6_commits 121 = .ok (.ireturn, 1) := by decide +kernel
theorem dX6_passes_0 : decode cX6_passes 0 = .ok (.iconst 0, 1) := by decide +kernel
theorem dX6_passes_1 : decode cX6_passes 1 = .ok (.istore_n 2, 1) := by decide +kernel
theorem dX6_passes_2 : decode cX6_passes 2 = .ok (.iload_n 2, 1) := by decide +kernel
theorem dX6_passes_3 : decode cX6_passes 3 = .ok (.aload_n 0, 1) := by decide +kernel
theorem dX6_passes_4 : decode cX6_passes 4 = .ok (.getfield 81, 3) := by decide +kernel
theorem dX6_passes_7 : decode cX6_passes 7 = .ok (.if_icmp .ge 33, 3) := by decide +kernel
theorem dX6_passes_10 : decode cX6_passes 10 = .ok (.iconst 1, 1) := by decide +kernel
theorem dX6_passes_11 : decode cX6_passes 11 = .ok (.istore_n 3, 1) := by decide +kernel
theorem dX6_passes_12 : decode cX6_passes 12 = .ok (.iload_n 3, 1) := by decide +kernel
theorem dX6_passes_13 : decode cX6_passes 13 = .ok (.ifCond .eq 21, 3) := by decide +kernel
theorem dX6_passes_16 : decode cX6_passes 16 = .ok (.aload_n 0, 1) := by decide +kernel
theorem dX6_passes_17 : decode cX6_passes 17 = .ok (.iload_n 2, 1) := by decide +kernel
theorem dX6_passes_18 : decode cX6_passes 18 = .ok (.invokevirtual 165, 3) := by decide +kernel
theorem dX6_passes_21 : decode cX6_passes 21 = .ok (.ifCond .eq 13, 3) := by decide +kernel
theorem dX6_passes_24 : decode cX6_passes 24 = .ok (.aload_n 0, 1) := by decide +kernel
theorem dX6_passes_25 : decode cX6_passes 25 = .ok (.iload_n 2, 1) := by decide +kernel
theorem dX6_passes_26 : decode cX6_passes 26 = .ok (.iload_n 1, 1) := by decide +kernel
theorem dX6_passes_27 : decode cX6_passes 27 = .ok (.invokevirtual 168, 3) := by decide +kernel
theorem dX6_passes_30 : decode cX6_passes 30 = .ok (.istore_n 3, 1) := by decide +kernel
theorem dX6_passes_31 : decode cX6_passes 31 = .ok (.goto (-19), 3) := by decide +kernel
theorem dX6_passes_34 : decode cX6_passes 34 = .ok (.iinc 2 1, 3) := by decide +kernel
theorem dX6_passes_37 : decode cX6_passes 37 = .ok (.goto (-35), 3) := by decide +kernel
theorem dX6_passes_40 : decode cX6_passes 40 = .ok (.aload_n 0, 1) := by decide +kernel
theorem dX6_passes_41 : decode cX6_passes 41 = .ok (.invokevirtual 172, 3) := by decide +kernel
theorem dX6_passes_44 : decode cX6_passes 44 = .ok (.aload_n 0, 1) := by decide +kernel
theorem dX6_passes_45 : decode cX6_passes 45 = .ok (.invokevirtual 175, 3) := by decide +kernel
theorem dX6_passes_48 : decode cX6_passes 48 = .ok (.istore_n 2, 1) := by decide +kernel
theorem dX6_passes_49 : decode cX6_passes 49 = .ok (.aload_n 0, 1) := by decide +kernel
theorem dX6_passes_50 : decode cX6_passes 50 = .ok (.getfield 39, 3) := by decide +kernel
theorem dX6_passes_53 : decode cX6_passes 53 = .ok (.aload_n 0, 1) := by decide +kernel
theorem dX6_passes_54 : decode cX6_passes 54 = .ok (.getfield 91, 3) := by decide +kernel
theorem dX6_passes_57 : decode cX6_passes 57 = .ok (.dup2, 1) := by decide +kernel
theorem dX6_passes_58 : decode cX6_passes 58 = .ok (.iaload, 1) := by decide +kernel
theorem dX6_passes_59 : decode cX6_passes 59 = .ok (.iconst 1, 1) := by decide +kernel
theorem dX6_passes_60 : decode cX6_passes 60 = .ok (.iadd, 1) := by decide +kernel
theorem dX6_passes_61 : decode cX6_passes 61 = .ok (.iastore, 1) := by decide +kernel
theorem dX6_passes_62 : decode cX6_passes 62 = .ok (.iload_n 2, 1) := by decide +kernel
theorem dX6_passes_63 : decode cX6_passes 63 = .ok (.ireturn, 1) := by decide +kernel
theorem dX6_tick_0 : decode cX6_tick 0 = .ok (.iload_n 1, 1) := by decide +kernel
theorem dX6_tick_1 : decode cX6_tick 1 = .ok (.iconst 1, 1) := by decide +kernel
theorem dX6_tick_2 : decode cX6_tick 2 = .ok (.sipush 500, 3) := by decide +kernel
theorem dX6_tick_5 : decode cX6_tick 5 = .ok (.invokestatic 84, 3) := by decide +kernel
theorem dX6_tick_8 : decode cX6_tick 8 = .ok (.ifCond .ne 6, 3) := by decide +kernel
theorem dX6_tick_11 : decode cX6_tick 11 = .ok (.bipush (-4), 2) := by decide +kernel
theorem dX6_tick_13 : decode cX6_tick 13 = .ok (.ireturn, 1) := by decide +kernel
theorem dX6_tick_14 : decode cX6_tick 14 = .ok (.iconst 0, 1) := by decide +kernel
theorem dX6_tick_15 : decode cX6_tick 15 = .ok (.istore_n 2, 1) := by decide +kernel
theorem dX6_tick_16 : decode cX6_tick 16 = .ok (.iconst 0, 1) := by decide +kernel
theorem dX6_tick_17 : decode cX6_tick 17 = .ok (.istore_n 3, 1) := by decide +kernel
theorem dX6_tick_18 : decode cX6_tick 18 = .ok (.iload_n 3, 1) := by decide +kernel
theorem dX6_tick_19 : decode cX6_tick 19 = .ok (.iload_n 1, 1) := by decide +kernel
theorem dX6_tick_20 : decode cX6_tick 20 = .ok (.if_icmp .ge 20, 3) := by decide +kernel
theorem dX6_tick_23 : decode cX6_tick 23 = .ok (.iload_n 2, 1) := by decide +kernel
theorem dX6_tick_24 : decode cX6_tick 24 = .ok (.aload_n 0, 1) := by decide +kernel
theorem dX6_tick_25 : decode cX6_tick 25 = .ok (.aload_n 0, 1) := by decide +kernel
theorem dX6_tick_26 : decode cX6_tick 26 = .ok (.getfield 78, 3) := by decide +kernel
theorem dX6_tick_29 : decode cX6_tick 29 = .ok (.invokevirtual 178, 3) := by decide +kernel
theorem dX6_tick_32 : decode cX6_tick 32 = .ok (.iadd, 1) := by decide +kernel
theorem dX6_tick_33 : decode cX6_tick 33 = .ok (.istore_n 2, 1) := by decide +kernel
theorem dX6_tick_34 : decode cX6_tick 34 = .ok (.iinc 3 1, 3) := by decide +kernel
theorem dX6_tick_37 : decode cX6_tick 37 = .ok (.goto (-19), 3) := by decide +kernel
theorem dX6_tick_40 : decode cX6_tick 40 = .ok (.iload_n 2, 1) := by decide +kernel
theorem dX6_tick_41 : decode cX6_tick 41 = .ok (.ireturn, 1) := by decide +kernel
theorem dX6_time_0 : decode cX6_time 0 = .ok (.aload_n 0, 1) := by decide +kernel
theorem dX6_time_1 : decode cX6_time 1 = .ok (.getfield 39, 3) := by decide +kernel
theorem dX6_time_4 : decode cX6_time 4 = .ok (.iconst 0, 1) := by decide +kernel
theorem dX6_time_5 : decode cX6_time 5 = .ok (.iaload, 1) := by decide +kernel
theorem dX6_time_6 : decode cX6_time 6 = .ok (.ireturn, 1) := by decide +kernel
theorem dX6_taskState_0 : decode cX6_taskState 0 = .ok (.aload_n 0, 1) := by decide +kernel
theorem dX6_taskState_1 : decode cX6_taskState 1 = .ok (.iload_n 1, 1) := by decide +kernel
theorem dX6_taskState_2 : decode cX6_taskState 2 = .ok (.invokevirtual 181, 3) := by decide +kernel
theorem dX6_taskState_5 : decode cX6_taskState 5 = .ok (.ifCond .eq 11, 3) := by decide +kernel
theorem dX6_taskState_8 : decode cX6_taskState 8 = .ok (.aload_n 0, 1) := by decide +kernel
theorem dX6_taskState_9 : decode cX6_taskState 9 = .ok (.iload_n 1, 1) := by decide +kernel
theorem dX6_taskState_10 : decode cX6_taskState 10 = .ok (.invokevirtual 143, 3) := by decide +kernel
theorem dX6_taskState_13 : decode cX6_taskState 13 = .ok (.goto 5, 3) := by decide +kernel
theorem dX6_taskState_16 : decode cX6_taskState 16 = .ok (.bipush (-2), 2) := by decide +kernel
theorem dX6_taskState_18 : decode cX6_taskState 18 = .ok (.ireturn, 1) := by decide +kernel
theorem dX6_committedAttempt_0 : decode cX6_committedAttempt 0 = .ok (.aload_n 0, 1) := by decide +kernel
theorem dX6_committedAttempt_1 : decode cX6_committedAttempt 1 = .ok (.iload_n 1, 1) := by decide +kernel
theorem dX6_committedAttempt_2 : decode cX6_committedAttempt 2 = .ok (.invokevirtual 181, 3) := by decide +kernel
theorem dX6_committedAttempt_5 : decode cX6_committedAttempt 5 = .ok (.ifCond .eq 12, 3) := by decide +kernel
theorem dX6_committedAttempt_8 : decode cX6_committedAttempt 8 = .ok (.aload_n 0, 1) := by decide +kernel
theorem dX6_committedAttempt_9 : decode cX6_committedAttempt 9 = .ok (.getfield 60, 3) := by decide +kernel
theorem dX6_committedAttempt_12 : decode cX6_committedAttempt 12 = .ok (.iload_n 1, 1) := by decide +kernel
theorem dX6_committedAttempt_13 : decode cX6_committedAttempt 13 = .ok (.iaload, 1) := by decide +kernel
theorem dX6_committedAttempt_14 : decode cX6_committedAttempt 14 = .ok (.goto 5, 3) := by decide +kernel
theorem dX6_committedAttempt_17 : decode cX6_committedAttempt 17 = .ok (.bipush (-2), 2) := by decide +kernel
theorem dX6_committedAttempt_19 : decode cX6_committedAttempt 19 = .ok (.ireturn, 1) := by decide +kernel
theorem dX6_finishTime_0 : decode cX6_finishTime 0 = .ok (.aload_n 0, 1) := by decide +kernel
theorem dX6_finishTime_1 : decode cX6_finishTime 1 = .ok (.iload_n 1, 1) := by decide +kernel
theorem dX6_finishTime_2 : decode cX6_finishTime 2 = .ok (.invokevirtual 181, 3) := by decide +kernel
theorem dX6_finishTime_5 : decode cX6_finishTime 5 = .ok (.ifCond .eq 12, 3) := by decide +kernel
theorem dX6_finishTime_8 : decode cX6_finishTime 8 = .ok (.aload_n 0, 1) := by decide +kernel
theorem dX6_finishTime_9 : decode cX6_finishTime 9 = .ok (.getfield 63, 3) := by decide +kernel
theorem dX6_finishTime_12 : decode cX6_finishTime 12 = .ok (.iload_n 1, 1) := by decide +kernel
theorem dX6_finishTime_13 : decode cX6_finishTime 13 = .ok (.iaload, 1) := by decide +kernel
theorem dX6_finishTime_14 : decode cX6_finishTime 14 = .ok (.goto 5, 3) := by decide +kernel
theorem dX6_finishTime_17 : decode cX6_finishTime 17 = .ok (.bipush (-2), 2) := by decide +kernel
theorem dX6_finishTime_19 : decode cX6_finishTime 19 = .ok (.ireturn, 1) := by decide +kernel
theorem dX6_greatestFinish_0 : decode cX6_greatestFinish 0 = .ok (.bipush (-6), 2) := by decide +kernel
theorem dX6_greatestFinish_2 : decode cX6_greatestFinish 2 = .ok (.istore_n 1, 1) := by decide +kernel
theorem dX6_greatestFinish_3 : decode cX6_greatestFinish 3 = .ok (.iconst 0, 1) := by decide +kernel
theorem dX6_greatestFinish_4 : decode cX6_greatestFinish 4 = .ok (.istore_n 2, 1) := by decide +kernel
theorem dX6_greatestFinish_5 : decode cX6_greatestFinish 5 = .ok (.iload_n 2, 1) := by decide +kernel
theorem dX6_greatestFinish_6 : decode cX6_greatestFinish 6 = .ok (.aload_n 0, 1) := by decide +kernel
theorem dX6_greatestFinish_7 : decode cX6_greatestFinish 7 = .ok (.getfield 88, 3) := by decide +kernel
theorem dX6_greatestFinish_10 : decode cX6_greatestFinish 10 = .ok (.if_icmp .ge 44, 3) := by decide +kernel
theorem dX6_greatestFinish_13 : decode cX6_greatestFinish 13 = .ok (.aload_n 0, 1) := by decide +kernel
theorem dX6_greatestFinish_14 : decode cX6_greatestFinish 14 = .ok (.getfield 63, 3) := by decide +kernel
theorem dX6_greatestFinish_17 : decode cX6_greatestFinish 17 = .ok (.bipush 24, 2) := by decide +kernel
theorem dX6_greatestFinish_19 : decode cX6_greatestFinish 19 = .ok (.aload_n 0, 1) := by decide +kernel
theorem dX6_greatestFinish_20 : decode cX6_greatestFinish 20 = .ok (.getfield 91, 3) := by decide +kernel
theorem dX6_greatestFinish_23 : decode cX6_greatestFinish 23 = .ok (.imul, 1) := by decide +kernel
theorem dX6_greatestFinish_24 : decode cX6_greatestFinish 24 = .ok (.iload_n 2, 1) := by decide +kernel
theorem dX6_greatestFinish_25 : decode cX6_greatestFinish 25 = .ok (.iadd, 1) := by decide +kernel
theorem dX6_greatestFinish_26 : decode cX6_greatestFinish 26 = .ok (.iaload, 1) := by decide +kernel
theorem dX6_greatestFinish_27 : decode cX6_greatestFinish 27 = .ok (.istore_n 3, 1) := by decide +kernel
theorem dX6_greatestFinish_28 : decode cX6_greatestFinish 28 = .ok (.iload_n 3, 1) := by decide +kernel
theorem dX6_greatestFinish_29 : decode cX6_greatestFinish 29 = .ok (.bipush (-6), 2) := by decide +kernel
theorem dX6_greatestFinish_31 : decode cX6_greatestFinish 31 = .ok (.if_icmp .ne 6, 3) := by decide +kernel
theorem dX6_greatestFinish_34 : decode cX6_greatestFinish 34 = .ok (.bipush (-6), 2) := by decide +kernel
theorem dX6_greatestFinish_36 : decode cX6_greatestFinish 36 = .ok (.ireturn, 1) := by decide +kernel
theorem dX6_greatestFinish_37 : decode cX6_greatestFinish 37 = .ok (.iload_n 3, 1) := by decide +kernel
theorem dX6_greatestFinish_38 : decode cX6_greatestFinish 38 = .ok (.iload_n 1, 1) := by decide +kernel
theorem dX6_greatestFinish_39 : decode cX6_greatestFinish 39 = .ok (.if_icmp .le 7, 3) := by decide +kernel
theorem dX6_greatestFinish_42 : decode cX6_greatestFinish 42 = .ok (.iload_n 3, 1) := by decide +kernel
theorem dX6_greatestFinish_43 : decode cX6_greatestFinish 43 = .ok (.goto 4, 3) := by decide +kernel
theorem dX6_greatestFinish_46 : decode cX6_greatestFinish 46 = .ok (.iload_n 1, 1) := by decide +kernel
theorem dX6_greatestFinish_47 : decode cX6_greatestFinish 47 = .ok (.istore_n 1, 1) := by decide +kernel
theorem dX6_greatestFinish_48 : decode cX6_greatestFinish 48 = .ok (.iinc 2 1, 3) := by decide +kernel
theorem dX6_greatestFinish_51 : decode cX6_greatestFinish 51 = .ok (.goto (-46), 3) := by decide +kernel
theorem dX6_greatestFinish_54 : decode cX6_greatestFinish 54 = .ok (.iload_n 1, 1) := by decide +kernel
theorem dX6_greatestFinish_55 : decode cX6_greatestFinish 55 = .ok (.ireturn, 1) := by decide +kernel
theorem dX6_makespan_0 : decode cX6_makespan 0 = .ok (.aload_n 0, 1) := by decide +kernel
theorem dX6_makespan_1 : decode cX6_makespan 1 = .ok (.invokevirtual 184, 3) := by decide +kernel
theorem dX6_makespan_4 : decode cX6_makespan 4 = .ok (.ireturn, 1) := by decide +kernel
theorem dX6_isAttempt_0 : decode cX6_isAttempt 0 = .ok (.iload_n 1, 1) := by decide +kernel
theorem dX6_isAttempt_1 : decode cX6_isAttempt 1 = .ok (.iconst 0, 1) := by decide +kernel
theorem dX6_isAttempt_2 : decode cX6_isAttempt 2 = .ok (.aload_n 0, 1) := by decide +kernel
theorem dX6_isAttempt_3 : decode cX6_isAttempt 3 = .ok (.getfield 36, 3) := by decide +kernel
theorem dX6_isAttempt_6 : decode cX6_isAttempt 6 = .ok (.iconst 0, 1) := by decide +kernel
theorem dX6_isAttempt_7 : decode cX6_isAttempt 7 = .ok (.iaload, 1) := by decide +kernel
theorem dX6_isAttempt_8 : decode cX6_isAttempt 8 = .ok (.iconst 1, 1) := by decide +kernel
theorem dX6_isAttempt_9 : decode cX6_isAttempt 9 = .ok (.isub, 1) := by decide +kernel
theorem dX6_isAttempt_10 : decode cX6_isAttempt 10 = .ok (.invokestatic 84, 3) := by decide +kernel
theorem dX6_isAttempt_13 : decode cX6_isAttempt 13 = .ok (.ireturn, 1) := by decide +kernel
theorem dX6_attemptCount_0 : decode cX6_attemptCount 0 = .ok (.aload_n 0, 1) := by decide +kernel
theorem dX6_attemptCount_1 : decode cX6_attemptCount 1 = .ok (.getfield 36, 3) := by decide +kernel
theorem dX6_attemptCount_4 : decode cX6_attemptCount 4 = .ok (.iconst 0, 1) := by decide +kernel
theorem dX6_attemptCount_5 : decode cX6_attemptCount 5 = .ok (.iaload, 1) := by decide +kernel
theorem dX6_attemptCount_6 : decode cX6_attemptCount 6 = .ok (.ireturn, 1) := by decide +kernel
theorem dX6_attemptTask_0 : decode cX6_attemptTask 0 = .ok (.aload_n 0, 1) := by decide +kernel
theorem dX6_attemptTask_1 : decode cX6_attemptTask 1 = .ok (.iload_n 1, 1) := by decide +kernel
theorem dX6_attemptTask_2 : decode cX6_attemptTask 2 = .ok (.invokevirtual 187, 3) := by decide +kernel
theorem dX6_attemptTask_5 : decode cX6_attemptTask 5 = .ok (.ifCond .eq 12, 3) := by decide +kernel
theorem dX6_attemptTask_8 : decode cX6_attemptTask 8 = .ok (.aload_n 0, 1) := by decide +kernel
theorem dX6_attemptTask_9 : decode cX6_attemptTask 9 = .ok (.getfield 42, 3) := by decide +kernel
theorem dX6_attemptTask_12 : decode cX6_attemptTask 12 = .ok (.iload_n 1, 1) := by decide +kernel
theorem dX6_attemptTask_13 : decode cX6_attemptTask 13 = .ok (.iaload, 1) := by decide +kernel
theorem dX6_attemptTask_14 : decode cX6_attemptTask 14 = .ok (.goto 5, 3) := by decide +kernel
theorem dX6_attemptTask_17 : decode cX6_attemptTask 17 = .ok (.bipush (-3), 2) := by decide +kernel
theorem dX6_attemptTask_19 : decode cX6_attemptTask 19 = .ok (.ireturn, 1) := by decide +kernel
theorem dX6_attemptNode_0 : decode cX6_attemptNode 0 = .ok (.aload_n 0, 1) := by decide +kernel
theorem dX6_attemptNode_1 : decode cX6_attemptNode 1 = .ok (.iload_n 1, 1) := by decide +kernel
theorem dX6_attemptNode_2 : decode cX6_attemptNode 2 = .ok (.invokevirtual 187, 3) := by decide +kernel
theorem dX6_attemptNode_5 : decode cX6_attemptNode 5 = .ok (.ifCond .eq 12, 3) := by decide +kernel
theorem dX6_attemptNode_8 : decode cX6_attemptNode 8 = .ok (.aload_n 0, 1) := by decide +kernel
theorem dX6_attemptNode_9 : decode cX6_attemptNode 9 = .ok (.getfield 45, 3) := by decide +kernel
theorem dX6_attemptNode_12 : decode cX6_attemptNode 12 = .ok (.iload_n 1, 1) := by decide +kernel
theorem dX6_attemptNode_13 : decode cX6_attemptNode 13 = .ok (.iaload, 1) := by decide +kernel
theorem dX6_attemptNode_14 : decode cX6_attemptNode 14 = .ok (.goto 5, 3) := by decide +kernel
theorem dX6_attemptNode_17 : decode cX6_attemptNode 17 = .ok (.bipush (-3), 2) := by decide +kernel
theorem dX6_attemptNode_19 : decode cX6_attemptNode 19 = .ok (.ireturn, 1) := by decide +kernel
theorem dX6_attemptState_0 : decode cX6_attemptState 0 = .ok (.aload_n 0, 1) := by decide +kernel
theorem dX6_attemptState_1 : decode cX6_attemptState 1 = .ok (.iload_n 1, 1) := by decide +kernel
theorem dX6_attemptState_2 : decode cX6_attemptState 2 = .ok (.invokevirtual 187, 3) := by decide +kernel
theorem dX6_attemptState_5 : decode cX6_attemptState 5 = .ok (.ifCond .eq 12, 3) := by decide +kernel
theorem dX6_attemptState_8 : decode cX6_attemptState 8 = .ok (.aload_n 0, 1) := by decide +kernel
theorem dX6_attemptState_9 : decode cX6_attemptState 9 = .ok (.getfield 54, 3) := by decide +kernel
theorem dX6_attemptState_12 : decode cX6_attemptState 12 = .ok (.iload_n 1, 1) := by decide +kernel
theorem dX6_attemptState_13 : decode cX6_attemptState 13 = .ok (.iaload, 1) := by decide +kernel
theorem dX6_attemptState_14 : decode cX6_attemptState 14 = .ok (.goto 5, 3) := by decide +kernel
theorem dX6_attemptState_17 : decode cX6_attemptState 17 = .ok (.bipush (-3), 2) := by decide +kernel
theorem dX6_attemptState_19 : decode cX6_attemptState 19 = .ok (.ireturn, 1) := by decide +kernel
theorem dX6_isSpeculative_0 : decode cX6_isSpeculative 0 = .ok (.aload_n 0, 1) := by decide +kernel
theorem dX6_isSpeculative_1 : decode cX6_isSpeculative 1 = .ok (.iload_n 1, 1) := by decide +kernel
theorem dX6_isSpeculative_2 : decode cX6_isSpeculative 2 = .ok (.invokevirtual 187, 3) := by decide +kernel
theorem dX6_isSpeculative_5 : decode cX6_isSpeculative 5 = .ok (.ifCond .ne 8, 3) := by decide +kernel
theorem dX6_isSpeculative_8 : decode cX6_isSpeculative 8 = .ok (.bipush (-3), 2) := by decide +kernel
theorem dX6_isSpeculative_10 : decode cX6_isSpeculative 10 = .ok (.goto 17, 3) := by decide +kernel
theorem dX6_isSpeculative_13 : decode cX6_isSpeculative 13 = .ok (.aload_n 0, 1) := by decide +kernel
theorem dX6_isSpeculative_14 : decode cX6_isSpeculative 14 = .ok (.getfield 57, 3) := by decide +kernel
theorem dX6_isSpeculative_17 : decode cX6_isSpeculative 17 = .ok (.iload_n 1, 1) := by decide +kernel
theorem dX6_isSpeculative_18 : decode cX6_isSpeculative 18 = .ok (.baload, 1) := by decide +kernel
theorem dX6_isSpeculative_19 : decode cX6_isSpeculative 19 = .ok (.ifCond .eq 7, 3) := by decide +kernel
theorem dX6_isSpeculative_22 : decode cX6_isSpeculative 22 = .ok (.iconst 1, 1) := by decide +kernel
theorem dX6_isSpeculative_23 : decode cX6_isSpeculative 23 = .ok (.goto 4, 3) := by decide +kernel
theorem dX6_isSpeculative_26 : decode cX6_isSpeculative 26 = .ok (.iconst 0, 1) := by decide +kernel
theorem dX6_isSpeculative_27 : decode cX6_isSpeculative 27 = .ok (.ireturn, 1) := by decide +kernel
theorem dX6_progress_0 : decode cX6_progress 0 = .ok (.aload_n 0, 1) := by decide +kernel
theorem dX6_progress_1 : decode cX6_progress 1 = .ok (.iload_n 1, 1) := by decide +kernel
theorem dX6_progress_2 : decode cX6_progress 2 = .ok (.invokevirtual 187, 3) := by decide +kernel
theorem dX6_progress_5 : decode cX6_progress 5 = .ok (.ifCond .eq 11, 3) := by decide +kernel
theorem dX6_progress_8 : decode cX6_progress 8 = .ok (.aload_n 0, 1) := by decide +kernel
theorem dX6_progress_9 : decode cX6_progress 9 = .ok (.iload_n 1, 1) := by decide +kernel
theorem dX6_progress_10 : decode cX6_progress 10 = .ok (.invokevirtual 102, 3) := by decide +kernel
theorem dX6_progress_13 : decode cX6_progress 13 = .ok (.goto 5, 3) := by decide +kernel
theorem dX6_progress_16 : decode cX6_progress 16 = .ok (.bipush (-3), 2) := by decide +kernel
theorem dX6_progress_18 : decode cX6_progress 18 = .ok (.ireturn, 1) := by decide +kernel
theorem dX6_remainingTime_0 : decode cX6_remainingTime 0 = .ok (.aload_n 0, 1) := by decide +kernel
theorem dX6_remainingTime_1 : decode cX6_remainingTime 1 = .ok (.iload_n 1, 1) := by decide +kernel
theorem dX6_remainingTime_2 : decode cX6_remainingTime 2 = .ok (.invokevirtual 187, 3) := by decide +kernel
theorem dX6_remainingTime_5 : decode cX6_remainingTime 5 = .ok (.ifCond .ne 6, 3) := by decide +kernel
theorem dX6_remainingTime_8 : decode cX6_remainingTime 8 = .ok (.bipush (-3), 2) := by decide +kernel
theorem dX6_remainingTime_10 : decode cX6_remainingTime 10 = .ok (.ireturn, 1) := by decide +kernel
theorem dX6_remainingTime_11 : decode cX6_remainingTime 11 = .ok (.aload_n 0, 1) := by decide +kernel
theorem dX6_remainingTime_12 : decode cX6_remainingTime 12 = .ok (.getfield 54, 3) := by decide +kernel
theorem dX6_remainingTime_15 : decode cX6_remainingTime 15 = .ok (.iload_n 1, 1) := by decide +kernel
theorem dX6_remainingTime_16 : decode cX6_remainingTime 16 = .ok (.iaload, 1) := by decide +kernel
theorem dX6_remainingTime_17 : decode cX6_remainingTime 17 = .ok (.iconst 1, 1) := by decide +kernel
theorem dX6_remainingTime_18 : decode cX6_remainingTime 18 = .ok (.if_icmp .ne 11, 3) := by decide +kernel
theorem dX6_remainingTime_21 : decode cX6_remainingTime 21 = .ok (.aload_n 0, 1) := by decide +kernel
theorem dX6_remainingTime_22 : decode cX6_remainingTime 22 = .ok (.iload_n 1, 1) := by decide +kernel
theorem dX6_remainingTime_23 : decode cX6_remainingTime 23 = .ok (.invokevirtual 134, 3) := by decide +kernel
theorem dX6_remainingTime_26 : decode cX6_remainingTime 26 = .ok (.goto 5, 3) := by decide +kernel
theorem dX6_remainingTime_29 : decode cX6_remainingTime 29 = .ok (.bipush (-6), 2) := by decide +kernel
theorem dX6_remainingTime_31 : decode cX6_remainingTime 31 = .ok (.ireturn, 1) := by decide +kernel
theorem dX6_nodeScore_0 : decode cX6_nodeScore 0 = .ok (.aload_n 0, 1) := by decide +kernel
theorem dX6_nodeScore_1 : decode cX6_nodeScore 1 = .ok (.iload_n 1, 1) := by decide +kernel
theorem dX6_nodeScore_2 : decode cX6_nodeScore 2 = .ok (.invokevirtual 94, 3) := by decide +kernel
theorem dX6_nodeScore_5 : decode cX6_nodeScore 5 = .ok (.ifCond .eq 11, 3) := by decide +kernel
theorem dX6_nodeScore_8 : decode cX6_nodeScore 8 = .ok (.aload_n 0, 1) := by decide +kernel
theorem dX6_nodeScore_9 : decode cX6_nodeScore 9 = .ok (.iload_n 1, 1) := by decide +kernel
theorem dX6_nodeScore_10 : decode cX6_nodeScore 10 = .ok (.invokevirtual 119, 3) := by decide +kernel
theorem dX6_nodeScore_13 : decode cX6_nodeScore 13 = .ok (.goto 4, 3) := by decide +kernel
theorem dX6_nodeScore_16 : decode cX6_nodeScore 16 = .ok (.iconst (-1), 1) := by decide +kernel
theorem dX6_nodeScore_17 : decode cX6_nodeScore 17 = .ok (.ireturn, 1) := by decide +kernel
theorem dX6_isSlowNode_0 : decode cX6_isSlowNode 0 = .ok (.aload_n 0, 1) := by decide +kernel
theorem dX6_isSlowNode_1 : decode cX6_isSlowNode 1 = .ok (.iload_n 1, 1) := by decide +kernel
theorem dX6_isSlowNode_2 : decode cX6_isSlowNode 2 = .ok (.invokevirtual 94, 3) := by decide +kernel
theorem dX6_isSlowNode_5 : decode cX6_isSlowNode 5 = .ok (.ifCond .ne 7, 3) := by decide +kernel
theorem dX6_isSlowNode_8 : decode cX6_isSlowNode 8 = .ok (.iconst (-1), 1) := by decide +kernel
theorem dX6_isSlowNode_9 : decode cX6_isSlowNode 9 = .ok (.goto 16, 3) := by decide +kernel
theorem dX6_isSlowNode_12 : decode cX6_isSlowNode 12 = .ok (.aload_n 0, 1) := by decide +kernel
theorem dX6_isSlowNode_13 : decode cX6_isSlowNode 13 = .ok (.iload_n 1, 1) := by decide +kernel
theorem dX6_isSlowNode_14 : decode cX6_isSlowNode 14 = .ok (.invokevirtual 155, 3) := by decide +kernel
theorem dX6_isSlowNode_17 : decode cX6_isSlowNode 17 = .ok (.ifCond .eq 7, 3) := by decide +kernel
theorem dX6_isSlowNode_20 : decode cX6_isSlowNode 20 = .ok (.iconst 1, 1) := by decide +kernel
theorem dX6_isSlowNode_21 : decode cX6_isSlowNode 21 = .ok (.goto 4, 3) := by decide +kernel
theorem dX6_isSlowNode_24 : decode cX6_isSlowNode 24 = .ok (.iconst 0, 1) := by decide +kernel
theorem dX6_isSlowNode_25 : decode cX6_isSlowNode 25 = .ok (.ireturn, 1) := by decide +kernel
theorem dX6_runningOn_0 : decode cX6_runningOn 0 = .ok (.aload_n 0, 1) := by decide +kernel
theorem dX6_runningOn_1 : decode cX6_runningOn 1 = .ok (.iload_n 1, 1) := by decide +kernel
theorem dX6_runningOn_2 : decode cX6_runningOn 2 = .ok (.invokevirtual 94, 3) := by decide +kernel
theorem dX6_runningOn_5 : decode cX6_runningOn 5 = .ok (.ifCond .eq 12, 3) := by decide +kernel
theorem dX6_runningOn_8 : decode cX6_runningOn 8 = .ok (.aload_n 0, 1) := by decide +kernel
theorem dX6_runningOn_9 : decode cX6_runningOn 9 = .ok (.getfield 69, 3) := by decide +kernel
theorem dX6_runningOn_12 : decode cX6_runningOn 12 = .ok (.iload_n 1, 1) := by decide +kernel
theorem dX6_runningOn_13 : decode cX6_runningOn 13 = .ok (.iaload, 1) := by decide +kernel
theorem dX6_runningOn_14 : decode cX6_runningOn 14 = .ok (.goto 4, 3) := by decide +kernel
theorem dX6_runningOn_17 : decode cX6_runningOn 17 = .ok (.iconst (-1), 1) := by decide +kernel
theorem dX6_runningOn_18 : decode cX6_runningOn 18 = .ok (.ireturn, 1) := by decide +kernel
theorem dX6_straggler_0 : decode cX6_straggler 0 = .ok (.aload_n 0, 1) := by decide +kernel
theorem dX6_straggler_1 : decode cX6_straggler 1 = .ok (.aload_n 0, 1) := by decide +kernel
theorem dX6_straggler_2 : decode cX6_straggler 2 = .ok (.getfield 78, 3) := by decide +kernel
theorem dX6_straggler_5 : decode cX6_straggler 5 = .ok (.invokevirtual 149, 3) := by decide +kernel
theorem dX6_straggler_8 : decode cX6_straggler 8 = .ok (.ireturn, 1) := by decide +kernel
theorem dX6_runningSpeculative_0 : decode cX6_runningSpeculative 0 = .ok (.aload_n 0, 1) := by decide +kernel
theorem dX6_runningSpeculative_1 : decode cX6_runningSpeculative 1 = .ok (.invokevirtual 152, 3) := by decide +kernel
theorem dX6_runningSpeculative_4 : decode cX6_runningSpeculative 4 = .ok (.ireturn, 1) := by decide +kernel
theorem dX6_wastedWork_0 : decode cX6_wastedWork 0 = .ok (.iconst 0, 1) := by decide +kernel
theorem dX6_wastedWork_1 : decode cX6_wastedWork 1 = .ok (.istore_n 1, 1) := by decide +kernel
theorem dX6_wastedWork_2 : decode cX6_wastedWork 2 = .ok (.iconst 0, 1) := by decide +kernel
theorem dX6_wastedWork_3 : decode cX6_wastedWork 3 = .ok (.istore_n 2, 1) := by decide +kernel
theorem dX6_wastedWork_4 : decode cX6_wastedWork 4 = .ok (.iload_n 2, 1) := by decide +kernel
theorem dX6_wastedWork_5 : decode cX6_wastedWork 5 = .ok (.aload_n 0, 1) := by decide +kernel
theorem dX6_wastedWork_6 : decode cX6_wastedWork 6 = .ok (.getfield 36, 3) := by decide +kernel
theorem dX6_wastedWork_9 : decode cX6_wastedWork 9 = .ok (.iconst 0, 1) := by decide +kernel
theorem dX6_wastedWork_10 : decode cX6_wastedWork 10 = .ok (.iaload, 1) := by decide +kernel
theorem dX6_wastedWork_11 : decode cX6_wastedWork 11 = .ok (.if_icmp .ge 42, 3) := by decide +kernel
theorem dX6_wastedWork_14 : decode cX6_wastedWork 14 = .ok (.iload_n 1, 1) := by decide +kernel
theorem dX6_wastedWork_15 : decode cX6_wastedWork 15 = .ok (.aload_n 0, 1) := by decide +kernel
theorem dX6_wastedWork_16 : decode cX6_wastedWork 16 = .ok (.getfield 54, 3) := by decide +kernel
theorem dX6_wastedWork_19 : decode cX6_wastedWork 19 = .ok (.iload_n 2, 1) := by decide +kernel
theorem dX6_wastedWork_20 : decode cX6_wastedWork 20 = .ok (.iaload, 1) := by decide +kernel
theorem dX6_wastedWork_21 : decode cX6_wastedWork 21 = .ok (.iconst 3, 1) := by decide +kernel
theorem dX6_wastedWork_22 : decode cX6_wastedWork 22 = .ok (.if_icmp .eq 13, 3) := by decide +kernel
theorem dX6_wastedWork_25 : decode cX6_wastedWork 25 = .ok (.aload_n 0, 1) := by decide +kernel
theorem dX6_wastedWork_26 : decode cX6_wastedWork 26 = .ok (.getfield 54, 3) := by decide +kernel
theorem dX6_wastedWork_29 : decode cX6_wastedWork 29 = .ok (.iload_n 2, 1) := by decide +kernel
theorem dX6_wastedWork_30 : decode cX6_wastedWork 30 = .ok (.iaload, 1) := by decide +kernel
theorem dX6_wastedWork_31 : decode cX6_wastedWork 31 = .ok (.iconst 4, 1) := by decide +kernel
theorem dX6_wastedWork_32 : decode cX6_wastedWork 32 = .ok (.if_icmp .ne 12, 3) := by decide +kernel
theorem dX6_wastedWork_35 : decode cX6_wastedWork 35 = .ok (.aload_n 0, 1) := by decide +kernel
theorem dX6_wastedWork_36 : decode cX6_wastedWork 36 = .ok (.getfield 51, 3) := by decide +kernel
theorem dX6_wastedWork_39 : decode cX6_wastedWork 39 = .ok (.iload_n 2, 1) := by decide +kernel
theorem dX6_wastedWork_40 : decode cX6_wastedWork 40 = .ok (.iaload, 1) := by decide +kernel
theorem dX6_wastedWork_41 : decode cX6_wastedWork 41 = .ok (.goto 4, 3) := by decide +kernel
theorem dX6_wastedWork_44 : decode cX6_wastedWork 44 = .ok (.iconst 0, 1) := by decide +kernel
theorem dX6_wastedWork_45 : decode cX6_wastedWork 45 = .ok (.iadd, 1) := by decide +kernel
theorem dX6_wastedWork_46 : decode cX6_wastedWork 46 = .ok (.istore_n 1, 1) := by decide +kernel
theorem dX6_wastedWork_47 : decode cX6_wastedWork 47 = .ok (.iinc 2 1, 3) := by decide +kernel
theorem dX6_wastedWork_50 : decode cX6_wastedWork 50 = .ok (.goto (-46), 3) := by decide +kernel
theorem dX6_wastedWork_53 : decode cX6_wastedWork 53 = .ok (.iload_n 1, 1) := by decide +kernel
theorem dX6_wastedWork_54 : decode cX6_wastedWork 54 = .ok (.ireturn, 1) := by decide +kernel
theorem dX6_clears_0 : decode cX6_clears 0 = .ok (.aload_n 0, 1) := by decide +kernel
theorem dX6_clears_1 : decode cX6_clears 1 = .ok (.getfield 36, 3) := by decide +kernel
theorem dX6_clears_4 : decode cX6_clears 4 = .ok (.iconst 1, 1) := by decide +kernel
theorem dX6_clears_5 : decode cX6_clears 5 = .ok (.iconst 0, 1) := by decide +kernel
theorem dX6_clears_6 : decode cX6_clears 6 = .ok (.iastore, 1) := by decide +kernel
theorem dX6_clears_7 : decode cX6_clears 7 = .ok (.aload_n 0, 1) := by decide +kernel
theorem dX6_clears_8 : decode cX6_clears 8 = .ok (.getfield 39, 3) := by decide +kernel
theorem dX6_clears_11 : decode cX6_clears 11 = .ok (.iconst 1, 1) := by decide +kernel
theorem dX6_clears_12 : decode cX6_clears 12 = .ok (.iconst 0, 1) := by decide +kernel
theorem dX6_clears_13 : decode cX6_clears 13 = .ok (.iastore, 1) := by decide +kernel
theorem dX6_clears_14 : decode cX6_clears 14 = .ok (.bipush 24, 2) := by decide +kernel
theorem dX6_clears_16 : decode cX6_clears 16 = .ok (.istore_n 1, 1) := by decide +kernel
theorem dX6_clears_17 : decode cX6_clears 17 = .ok (.iload_n 1, 1) := by decide +kernel
theorem dX6_clears_18 : decode cX6_clears 18 = .ok (.bipush 48, 2) := by decide +kernel
theorem dX6_clears_20 : decode cX6_clears 20 = .ok (.if_icmp .ge 32, 3) := by decide +kernel
theorem dX6_clears_23 : decode cX6_clears 23 = .ok (.aload_n 0, 1) := by decide +kernel
theorem dX6_clears_24 : decode cX6_clears 24 = .ok (.getfield 60, 3) := by decide +kernel
theorem dX6_clears_27 : decode cX6_clears 27 = .ok (.iload_n 1, 1) := by decide +kernel
theorem dX6_clears_28 : decode cX6_clears 28 = .ok (.bipush (-6), 2) := by decide +kernel
theorem dX6_clears_30 : decode cX6_clears 30 = .ok (.iastore, 1) := by decide +kernel
theorem dX6_clears_31 : decode cX6_clears 31 = .ok (.aload_n 0, 1) := by decide +kernel
theorem dX6_clears_32 : decode cX6_clears 32 = .ok (.getfield 63, 3) := by decide +kernel
theorem dX6_clears_35 : decode cX6_clears 35 = .ok (.iload_n 1, 1) := by decide +kernel
theorem dX6_clears_36 : decode cX6_clears 36 = .ok (.bipush (-6), 2) := by decide +kernel
theorem dX6_clears_38 : decode cX6_clears 38 = .ok (.iastore, 1) := by decide +kernel
theorem dX6_clears_39 : decode cX6_clears 39 = .ok (.aload_n 0, 1) := by decide +kernel
theorem dX6_clears_40 : decode cX6_clears 40 = .ok (.getfield 66, 3) := by decide +kernel
theorem dX6_clears_43 : decode cX6_clears 43 = .ok (.iload_n 1, 1) := by decide +kernel
theorem dX6_clears_44 : decode cX6_clears 44 = .ok (.iconst 0, 1) := by decide +kernel
theorem dX6_clears_45 : decode cX6_clears 45 = .ok (.iastore, 1) := by decide +kernel
theorem dX6_clears_46 : decode cX6_clears 46 = .ok (.iinc 1 1, 3) := by decide +kernel
theorem dX6_clears_49 : decode cX6_clears 49 = .ok (.goto (-32), 3) := by decide +kernel
theorem dX6_clears_52 : decode cX6_clears 52 = .ok (.bipush 8, 2) := by decide +kernel
theorem dX6_clears_54 : decode cX6_clears 54 = .ok (.istore_n 1, 1) := by decide +kernel
theorem dX6_clears_55 : decode cX6_clears 55 = .ok (.iload_n 1, 1) := by decide +kernel
theorem dX6_clears_56 : decode cX6_clears 56 = .ok (.bipush 16, 2) := by decide +kernel
theorem dX6_clears_58 : decode cX6_clears 58 = .ok (.if_icmp .ge 30, 3) := by decide +kernel
theorem dX6_clears_61 : decode cX6_clears 61 = .ok (.aload_n 0, 1) := by decide +kernel
theorem dX6_clears_62 : decode cX6_clears 62 = .ok (.getfield 69, 3) := by decide +kernel
theorem dX6_clears_65 : decode cX6_clears 65 = .ok (.iload_n 1, 1) := by decide +kernel
theorem dX6_clears_66 : decode cX6_clears 66 = .ok (.iconst 0, 1) := by decide +kernel
theorem dX6_clears_67 : decode cX6_clears 67 = .ok (.iastore, 1) := by decide +kernel
theorem dX6_clears_68 : decode cX6_clears 68 = .ok (.aload_n 0, 1) := by decide +kernel
theorem dX6_clears_69 : decode cX6_clears 69 = .ok (.getfield 72, 3) := by decide +kernel
theorem dX6_clears_72 : decode cX6_clears 72 = .ok (.iload_n 1, 1) := by decide +kernel
theorem dX6_clears_73 : decode cX6_clears 73 = .ok (.iconst 0, 1) := by decide +kernel
theorem dX6_clears_74 : decode cX6_clears 74 = .ok (.iastore, 1) := by decide +kernel
theorem dX6_clears_75 : decode cX6_clears 75 = .ok (.aload_n 0, 1) := by decide +kernel
theorem dX6_clears_76 : decode cX6_clears 76 = .ok (.getfield 75, 3) := by decide +kernel
theorem dX6_clears_79 : decode cX6_clears 79 = .ok (.iload_n 1, 1) := by decide +kernel
theorem dX6_clears_80 : decode cX6_clears 80 = .ok (.iconst 0, 1) := by decide +kernel
theorem dX6_clears_81 : decode cX6_clears 81 = .ok (.iastore, 1) := by decide +kernel
theorem dX6_clears_82 : decode cX6_clears 82 = .ok (.iinc 1 1, 3) := by decide +kernel
theorem dX6_clears_85 : decode cX6_clears 85 = .ok (.goto (-30), 3) := by decide +kernel
theorem dX6_clears_88 : decode cX6_clears 88 = .ok (.return_, 1) := by decide +kernel
theorem dX6_simulatedMakespan_0 : decode cX6_simulatedMakespan 0 = .ok (.iload_n 1, 1) := by decide +kernel
theorem dX6_simulatedMakespan_1 : decode cX6_simulatedMakespan 1 = .ok (.iconst 0, 1) := by decide +kernel
theorem dX6_simulatedMakespan_2 : decode cX6_simulatedMakespan 2 = .ok (.iconst 2, 1) := by decide +kernel
theorem dX6_simulatedMakespan_3 : decode cX6_simulatedMakespan 3 = .ok (.invokestatic 84, 3) := by decide +kernel
theorem dX6_simulatedMakespan_6 : decode cX6_simulatedMakespan 6 = .ok (.ifCond .ne 6, 3) := by decide +kernel
theorem dX6_simulatedMakespan_9 : decode cX6_simulatedMakespan 9 = .ok (.bipush (-4), 2) := by decide +kernel
theorem dX6_simulatedMakespan_11 : decode cX6_simulatedMakespan 11 = .ok (.ireturn, 1) := by decide +kernel
theorem dX6_simulatedMakespan_12 : decode cX6_simulatedMakespan 12 = .ok (.aload_n 0, 1) := by decide +kernel
theorem dX6_simulatedMakespan_13 : decode cX6_simulatedMakespan 13 = .ok (.iconst 1, 1) := by decide +kernel
theorem dX6_simulatedMakespan_14 : decode cX6_simulatedMakespan 14 = .ok (.putfield 91, 3) := by decide +kernel
theorem dX6_simulatedMakespan_17 : decode cX6_simulatedMakespan 17 = .ok (.aload_n 0, 1) := by decide +kernel
theorem dX6_simulatedMakespan_18 : decode cX6_simulatedMakespan 18 = .ok (.invokevirtual 190, 3) := by decide +kernel
theorem dX6_simulatedMakespan_21 : decode cX6_simulatedMakespan 21 = .ok (.aload_n 0, 1) := by decide +kernel
theorem dX6_simulatedMakespan_22 : decode cX6_simulatedMakespan 22 = .ok (.getfield 88, 3) := by decide +kernel
theorem dX6_simulatedMakespan_25 : decode cX6_simulatedMakespan 25 = .ok (.ifCond .le 33, 3) := by decide +kernel
theorem dX6_simulatedMakespan_28 : decode cX6_simulatedMakespan 28 = .ok (.aload_n 0, 1) := by decide +kernel
theorem dX6_simulatedMakespan_29 : decode cX6_simulatedMakespan 29 = .ok (.invokevirtual 184, 3) := by decide +kernel
theorem dX6_simulatedMakespan_32 : decode cX6_simulatedMakespan 32 = .ok (.bipush (-6), 2) := by decide +kernel
theorem dX6_simulatedMakespan_34 : decode cX6_simulatedMakespan 34 = .ok (.if_icmp .ne 24, 3) := by decide +kernel
theorem dX6_simulatedMakespan_37 : decode cX6_simulatedMakespan 37 = .ok (.aload_n 0, 1) := by decide +kernel
theorem dX6_simulatedMakespan_38 : decode cX6_simulatedMakespan 38 = .ok (.getfield 39, 3) := by decide +kernel
theorem dX6_simulatedMakespan_41 : decode cX6_simulatedMakespan 41 = .ok (.iconst 1, 1) := by decide +kernel
theorem dX6_simulatedMakespan_42 : decode cX6_simulatedMakespan 42 = .ok (.iaload, 1) := by decide +kernel
theorem dX6_simulatedMakespan_43 : decode cX6_simulatedMakespan 43 = .ok (.sipush 2000, 3) := by decide +kernel
theorem dX6_simulatedMakespan_46 : decode cX6_simulatedMakespan 46 = .ok (.if_icmp .ge 12, 3) := by decide +kernel
theorem dX6_simulatedMakespan_49 : decode cX6_simulatedMakespan 49 = .ok (.aload_n 0, 1) := by decide +kernel
theorem dX6_simulatedMakespan_50 : decode cX6_simulatedMakespan 50 = .ok (.iload_n 1, 1) := by decide +kernel
theorem dX6_simulatedMakespan_51 : decode cX6_simulatedMakespan 51 = .ok (.invokevirtual 178, 3) := by decide +kernel
theorem dX6_simulatedMakespan_54 : decode cX6_simulatedMakespan 54 = .ok (.pop, 1) := by decide +kernel
theorem dX6_simulatedMakespan_55 : decode cX6_simulatedMakespan 55 = .ok (.goto (-34), 3) := by decide +kernel
theorem dX6_simulatedMakespan_58 : decode cX6_simulatedMakespan 58 = .ok (.aload_n 0, 1) := by decide +kernel
theorem dX6_simulatedMakespan_59 : decode cX6_simulatedMakespan 59 = .ok (.invokevirtual 184, 3) := by decide +kernel
theorem dX6_simulatedMakespan_62 : decode cX6_simulatedMakespan 62 = .ok (.istore_n 2, 1) := by decide +kernel
theorem dX6_simulatedMakespan_63 : decode cX6_simulatedMakespan 63 = .ok (.aload_n 0, 1) := by decide +kernel
theorem dX6_simulatedMakespan_64 : decode cX6_simulatedMakespan 64 = .ok (.iconst 0, 1) := by decide +kernel
theorem dX6_simulatedMakespan_65 : decode cX6_simulatedMakespan 65 = .ok (.putfield 91, 3) := by decide +kernel
theorem dX6_simulatedMakespan_68 : decode cX6_simulatedMakespan 68 = .ok (.iload_n 2, 1) := by decide +kernel
theorem dX6_simulatedMakespan_69 : decode cX6_simulatedMakespan 69 = .ok (.ireturn, 1) := by decide +kernel
