theorem dX0_init_0 : decode cX0_init 0 = .ok (.aload_n 0, 1) := by decide +kernel
theorem dX0_init_1 : decode cX0_init 1 = .ok (.invokespecial 3, 3) := by decide +kernel
theorem dX0_init_4 : decode cX0_init 4 = .ok (.aload_n 0, 1) := by decide +kernel
theorem dX0_init_5 : decode cX0_init 5 = .ok (.iconst 0, 1) := by decide +kernel
theorem dX0_init_6 : decode cX0_init 6 = .ok (.putfield 9, 3) := by decide +kernel
theorem dX0_init_9 : decode cX0_init 9 = .ok (.aload_n 0, 1) := by decide +kernel
theorem dX0_init_10 : decode cX0_init 10 = .ok (.iconst 0, 1) := by decide +kernel
theorem dX0_init_11 : decode cX0_init 11 = .ok (.putfield 15, 3) := by decide +kernel
theorem dX0_init_14 : decode cX0_init 14 = .ok (.aload_n 0, 1) := by decide +kernel
theorem dX0_init_15 : decode cX0_init 15 = .ok (.iconst 0, 1) := by decide +kernel
theorem dX0_init_16 : decode cX0_init 16 = .ok (.putfield 18, 3) := by decide +kernel
theorem dX0_init_19 : decode cX0_init 19 = .ok (.aload_n 0, 1) := by decide +kernel
theorem dX0_init_20 : decode cX0_init 20 = .ok (.iconst 1, 1) := by decide +kernel
theorem dX0_init_21 : decode cX0_init 21 = .ok (.putfield 21, 3) := by decide +kernel
theorem dX0_init_24 : decode cX0_init 24 = .ok (.aload_n 0, 1) := by decide +kernel
theorem dX0_init_25 : decode cX0_init 25 = .ok (.iconst 5, 1) := by decide +kernel
theorem dX0_init_26 : decode cX0_init 26 = .ok (.newarray .int, 2) := by decide +kernel
theorem dX0_init_28 : decode cX0_init 28 = .ok (.putfield 24, 3) := by decide +kernel
theorem dX0_init_31 : decode cX0_init 31 = .ok (.aload_n 0, 1) := by decide +kernel
theorem dX0_init_32 : decode cX0_init 32 = .ok (.iconst 5, 1) := by decide +kernel
theorem dX0_init_33 : decode cX0_init 33 = .ok (.newarray .int, 2) := by decide +kernel
theorem dX0_init_35 : decode cX0_init 35 = .ok (.putfield 28, 3) := by decide +kernel
theorem dX0_init_38 : decode cX0_init 38 = .ok (.aload_n 0, 1) := by decide +kernel
theorem dX0_init_39 : decode cX0_init 39 = .ok (.bipush 24, 2) := by decide +kernel
theorem dX0_init_41 : decode cX0_init 41 = .ok (.newarray .int, 2) := by decide +kernel
theorem dX0_init_43 : decode cX0_init 43 = .ok (.putfield 31, 3) := by decide +kernel
theorem dX0_init_46 : decode cX0_init 46 = .ok (.aload_n 0, 1) := by decide +kernel
theorem dX0_init_47 : decode cX0_init 47 = .ok (.bipush 24, 2) := by decide +kernel
theorem dX0_init_49 : decode cX0_init 49 = .ok (.newarray .int, 2) := by decide +kernel
theorem dX0_init_51 : decode cX0_init 51 = .ok (.putfield 34, 3) := by decide +kernel
theorem dX0_init_54 : decode cX0_init 54 = .ok (.aload_n 0, 1) := by decide +kernel
theorem dX0_init_55 : decode cX0_init 55 = .ok (.bipush 32, 2) := by decide +kernel
theorem dX0_init_57 : decode cX0_init 57 = .ok (.newarray .int, 2) := by decide +kernel
theorem dX0_init_59 : decode cX0_init 59 = .ok (.putfield 37, 3) := by decide +kernel
theorem dX0_init_62 : decode cX0_init 62 = .ok (.aload_n 0, 1) := by decide +kernel
theorem dX0_init_63 : decode cX0_init 63 = .ok (.bipush 32, 2) := by decide +kernel
theorem dX0_init_65 : decode cX0_init 65 = .ok (.newarray .int, 2) := by decide +kernel
theorem dX0_init_67 : decode cX0_init 67 = .ok (.putfield 40, 3) := by decide +kernel
theorem dX0_init_70 : decode cX0_init 70 = .ok (.aload_n 0, 1) := by decide +kernel
theorem dX0_init_71 : decode cX0_init 71 = .ok (.bipush 32, 2) := by decide +kernel
theorem dX0_init_73 : decode cX0_init 73 = .ok (.newarray .int, 2) := by decide +kernel
theorem dX0_init_75 : decode cX0_init 75 = .ok (.putfield 43, 3) := by decide +kernel
theorem dX0_init_78 : decode cX0_init 78 = .ok (.aload_n 0, 1) := by decide +kernel
theorem dX0_init_79 : decode cX0_init 79 = .ok (.bipush 96, 2) := by decide +kernel
theorem dX0_init_81 : decode cX0_init 81 = .ok (.newarray .long, 2) := by decide +kernel
theorem dX0_init_83 : decode cX0_init 83 = .ok (.putfield 46, 3) := by decide +kernel
theorem dX0_init_86 : decode cX0_init 86 = .ok (.return_, 1) := by decide +kernel
theorem dX0_copy_0 : decode cX0_copy 0 = .ok (.aload_n 0, 1) := by decide +kernel
theorem dX0_copy_1 : decode cX0_copy 1 = .ok (.aload_n 1, 1) := by decide +kernel
theorem dX0_copy_2 : decode cX0_copy 2 = .ok (.getfield 9, 3) := by decide +kernel
theorem dX0_copy_5 : decode cX0_copy 5 = .ok (.putfield 9, 3) := by decide +kernel
theorem dX0_copy_8 : decode cX0_copy 8 = .ok (.aload_n 0, 1) := by decide +kernel
theorem dX0_copy_9 : decode cX0_copy 9 = .ok (.aload_n 1, 1) := by decide +kernel
theorem dX0_copy_10 : decode cX0_copy 10 = .ok (.getfield 15, 3) := by decide +kernel
theorem dX0_copy_13 : decode cX0_copy 13 = .ok (.putfield 15, 3) := by decide +kernel
theorem dX0_copy_16 : decode cX0_copy 16 = .ok (.aload_n 0, 1) := by decide +kernel
theorem dX0_copy_17 : decode cX0_copy 17 = .ok (.aload_n 1, 1) := by decide +kernel
theorem dX0_copy_18 : decode cX0_copy 18 = .ok (.getfield 18, 3) := by decide +kernel
theorem dX0_copy_21 : decode cX0_copy 21 = .ok (.putfield 18, 3) := by decide +kernel
theorem dX0_copy_24 : decode cX0_copy 24 = .ok (.aload_n 0, 1) := by decide +kernel
theorem dX0_copy_25 : decode cX0_copy 25 = .ok (.aload_n 1, 1) := by decide +kernel
theorem dX0_copy_26 : decode cX0_copy 26 = .ok (.getfield 21, 3) := by decide +kernel
theorem dX0_copy_29 : decode cX0_copy 29 = .ok (.putfield 21, 3) := by decide +kernel
theorem dX0_copy_32 : decode cX0_copy 32 = .ok (.aload_n 1, 1) := by decide +kernel
theorem dX0_copy_33 : decode cX0_copy 33 = .ok (.getfield 24, 3) := by decide +kernel
theorem dX0_copy_36 : decode cX0_copy 36 = .ok (.iconst 0, 1) := by decide +kernel
theorem dX0_copy_37 : decode cX0_copy 37 = .ok (.aload_n 0, 1) := by decide +kernel
theorem dX0_copy_38 : decode cX0_copy 38 = .ok (.getfield 24, 3) := by decide +kernel
theorem dX0_copy_41 : decode cX0_copy 41 = .ok (.iconst 0, 1) := by decide +kernel
theorem dX0_copy_42 : decode cX0_copy 42 = .ok (.aload_n 0, 1) := by decide +kernel
theorem dX0_copy_43 : decode cX0_copy 43 = .ok (.getfield 9, 3) := by decide +kernel
theorem dX0_copy_46 : decode cX0_copy 46 = .ok (.invokestatic 50, 3) := by decide +kernel
theorem dX0_copy_49 : decode cX0_copy 49 = .ok (.aload_n 1, 1) := by decide +kernel
theorem dX0_copy_50 : decode cX0_copy 50 = .ok (.getfield 28, 3) := by decide +kernel
theorem dX0_copy_53 : decode cX0_copy 53 = .ok (.iconst 0, 1) := by decide +kernel
theorem dX0_copy_54 : decode cX0_copy 54 = .ok (.aload_n 0, 1) := by decide +kernel
theorem dX0_copy_55 : decode cX0_copy 55 = .ok (.getfield 28, 3) := by decide +kernel
theorem dX0_copy_58 : decode cX0_copy 58 = .ok (.iconst 0, 1) := by decide +kernel
theorem dX0_copy_59 : decode cX0_copy 59 = .ok (.aload_n 0, 1) := by decide +kernel
theorem dX0_copy_60 : decode cX0_copy 60 = .ok (.getfield 9, 3) := by decide +kernel
theorem dX0_copy_63 : decode cX0_copy 63 = .ok (.invokestatic 50, 3) := by decide +kernel
theorem dX0_copy_66 : decode cX0_copy 66 = .ok (.aload_n 1, 1) := by decide +kernel
theorem dX0_copy_67 : decode cX0_copy 67 = .ok (.getfield 31, 3) := by decide +kernel
theorem dX0_copy_70 : decode cX0_copy 70 = .ok (.iconst 0, 1) := by decide +kernel
theorem dX0_copy_71 : decode cX0_copy 71 = .ok (.aload_n 0, 1) := by decide +kernel
theorem dX0_copy_72 : decode cX0_copy 72 = .ok (.getfield 31, 3) := by decide +kernel
theorem dX0_copy_75 : decode cX0_copy 75 = .ok (.iconst 0, 1) := by decide +kernel
theorem dX0_copy_76 : decode cX0_copy 76 = .ok (.aload_n 0, 1) := by decide +kernel
theorem dX0_copy_77 : decode cX0_copy 77 = .ok (.getfield 15, 3) := by decide +kernel
theorem dX0_copy_80 : decode cX0_copy 80 = .ok (.invokestatic 50, 3) := by decide +kernel
theorem dX0_copy_83 : decode cX0_copy 83 = .ok (.aload_n 1, 1) := by decide +kernel
theorem dX0_copy_84 : decode cX0_copy 84 = .ok (.getfield 34, 3) := by decide +kernel
theorem dX0_copy_87 : decode cX0_copy 87 = .ok (.iconst 0, 1) := by decide +kernel
theorem dX0_copy_88 : decode cX0_copy 88 = .ok (.aload_n 0, 1) := by decide +kernel
theorem dX0_copy_89 : decode cX0_copy 89 = .ok (.getfield 34, 3) := by decide +kernel
theorem dX0_copy_92 : decode cX0_copy 92 = .ok (.iconst 0, 1) := by decide +kernel
theorem dX0_copy_93 : decode cX0_copy 93 = .ok (.aload_n 0, 1) := by decide +kernel
theorem dX0_copy_94 : decode cX0_copy 94 = .ok (.getfield 15, 3) := by decide +kernel
theorem dX0_copy_97 : decode cX0_copy 97 = .ok (.invokestatic 50, 3) := by decide +kernel
theorem dX0_copy_100 : decode cX0_copy 100 = .ok (.aload_n 1, 1) := by decide +kernel
theorem dX0_copy_101 : decode cX0_copy 101 = .ok (.getfield 37, 3) := by decide +kernel
theorem dX0_copy_104 : decode cX0_copy 104 = .ok (.iconst 0, 1) := by decide +kernel
theorem dX0_copy_105 : decode cX0_copy 105 = .ok (.aload_n 0, 1) := by decide +kernel
theorem dX0_copy_106 : decode cX0_copy 106 = .ok (.getfield 37, 3) := by decide +kernel
theorem dX0_copy_109 : decode cX0_copy 109 = .ok (.iconst 0, 1) := by decide +kernel
theorem dX0_copy_110 : decode cX0_copy 110 = .ok (.aload_n 0, 1) := by decide +kernel
theorem dX0_copy_111 : decode cX0_copy 111 = .ok (.getfield 18, 3) := by decide +kernel
theorem dX0_copy_114 : decode cX0_copy 114 = .ok (.invokestatic 50, 3) := by decide +kernel
theorem dX0_copy_117 : decode cX0_copy 117 = .ok (.aload_n 1, 1) := by decide +kernel
theorem dX0_copy_118 : decode cX0_copy 118 = .ok (.getfield 40, 3) := by decide +kernel
theorem dX0_copy_121 : decode cX0_copy 121 = .ok (.iconst 0, 1) := by decide +kernel
theorem dX0_copy_122 : decode cX0_copy 122 = .ok (.aload_n 0, 1) := by decide +kernel
theorem dX0_copy_123 : decode cX0_copy 123 = .ok (.getfield 40, 3) := by decide +kernel
theorem dX0_copy_126 : decode cX0_copy 126 = .ok (.iconst 0, 1) := by decide +kernel
theorem dX0_copy_127 : decode cX0_copy 127 = .ok (.aload_n 0, 1) := by decide +kernel
theorem dX0_copy_128 : decode cX0_copy 128 = .ok (.getfield 18, 3) := by decide +kernel
theorem dX0_copy_131 : decode cX0_copy 131 = .ok (.invokestatic 50, 3) := by decide +kernel
theorem dX0_copy_134 : decode cX0_copy 134 = .ok (.aload_n 1, 1) := by decide +kernel
theorem dX0_copy_135 : decode cX0_copy 135 = .ok (.getfield 43, 3) := by decide +kernel
theorem dX0_copy_138 : decode cX0_copy 138 = .ok (.iconst 0, 1) := by decide +kernel
theorem dX0_copy_139 : decode cX0_copy 139 = .ok (.aload_n 0, 1) := by decide +kernel
theorem dX0_copy_140 : decode cX0_copy 140 = .ok (.getfield 43, 3) := by decide +kernel
theorem dX0_copy_143 : decode cX0_copy 143 = .ok (.iconst 0, 1) := by decide +kernel
theorem dX0_copy_144 : decode cX0_copy 144 = .ok (.aload_n 0, 1) := by decide +kernel
theorem dX0_copy_145 : decode cX0_copy 145 = .ok (.getfield 18, 3) := by decide +kernel
theorem dX0_copy_148 : decode cX0_copy 148 = .ok (.invokestatic 50, 3) := by decide +kernel
theorem dX0_copy_151 : decode cX0_copy 151 = .ok (.aload_n 1, 1) := by decide +kernel
theorem dX0_copy_152 : decode cX0_copy 152 = .ok (.getfield 46, 3) := by decide +kernel
theorem dX0_copy_155 : decode cX0_copy 155 = .ok (.iconst 0, 1) := by decide +kernel
theorem dX0_copy_156 : decode cX0_copy 156 = .ok (.aload_n 0, 1) := by decide +kernel
theorem dX0_copy_157 : decode cX0_copy 157 = .ok (.getfield 46, 3) := by decide +kernel
theorem dX0_copy_160 : decode cX0_copy 160 = .ok (.iconst 0, 1) := by decide +kernel
theorem dX0_copy_161 : decode cX0_copy 161 = .ok (.aload_n 0, 1) := by decide +kernel
theorem dX0_copy_162 : decode cX0_copy 162 = .ok (.getfield 18, 3) := by decide +kernel
theorem dX0_copy_165 : decode cX0_copy 165 = .ok (.iconst 3, 1) := by decide +kernel
theorem dX0_copy_166 : decode cX0_copy 166 = .ok (.imul, 1) := by decide +kernel
theorem dX0_copy_167 : decode cX0_copy 167 = .ok (.invokestatic 50, 3) := by decide +kernel
theorem dX0_copy_170 : decode cX0_copy 170 = .ok (.return_, 1) := by decide +kernel
theorem dX0_isProc_0 : decode cX0_isProc 0 = .ok (.iload_n 1, 1) := by decide +kernel
theorem dX0_isProc_1 : decode cX0_isProc 1 = .ok (.ifCond .lt 15, 3) := by decide +kernel
theorem dX0_isProc_4 : decode cX0_isProc 4 = .ok (.iload_n 1, 1) := by decide +kernel
theorem dX0_isProc_5 : decode cX0_isProc 5 = .ok (.aload_n 0, 1) := by decide +kernel
theorem dX0_isProc_6 : decode cX0_isProc 6 = .ok (.getfield 9, 3) := by decide +kernel
theorem dX0_isProc_9 : decode cX0_isProc 9 = .ok (.if_icmp .ge 7, 3) := by decide +kernel
theorem dX0_isProc_12 : decode cX0_isProc 12 = .ok (.iconst 1, 1) := by decide +kernel
theorem dX0_isProc_13 : decode cX0_isProc 13 = .ok (.goto 4, 3) := by decide +kernel
theorem dX0_isProc_16 : decode cX0_isProc 16 = .ok (.iconst 0, 1) := by decide +kernel
theorem dX0_isProc_17 : decode cX0_isProc 17 = .ok (.ireturn, 1) := by decide +kernel
theorem dX0_isNode_0 : decode cX0_isNode 0 = .ok (.iload_n 1, 1) := by decide +kernel
theorem dX0_isNode_1 : decode cX0_isNode 1 = .ok (.ifCond .lt 15, 3) := by decide +kernel
theorem dX0_isNode_4 : decode cX0_isNode 4 = .ok (.iload_n 1, 1) := by decide +kernel
theorem dX0_isNode_5 : decode cX0_isNode 5 = .ok (.aload_n 0, 1) := by decide +kernel
theorem dX0_isNode_6 : decode cX0_isNode 6 = .ok (.getfield 15, 3) := by decide +kernel
theorem dX0_isNode_9 : decode cX0_isNode 9 = .ok (.if_icmp .ge 7, 3) := by decide +kernel
theorem dX0_isNode_12 : decode cX0_isNode 12 = .ok (.iconst 1, 1) := by decide +kernel
theorem dX0_isNode_13 : decode cX0_isNode 13 = .ok (.goto 4, 3) := by decide +kernel
theorem dX0_isNode_16 : decode cX0_isNode 16 = .ok (.iconst 0, 1) := by decide +kernel
theorem dX0_isNode_17 : decode cX0_isNode 17 = .ok (.ireturn, 1) := by decide +kernel
theorem dX0_isEdge_0 : decode cX0_isEdge 0 = .ok (.iload_n 1, 1) := by decide +kernel
theorem dX0_isEdge_1 : decode cX0_isEdge 1 = .ok (.ifCond .lt 15, 3) := by decide +kernel
theorem dX0_isEdge_4 : decode cX0_isEdge 4 = .ok (.iload_n 1, 1) := by decide +kernel
theorem dX0_isEdge_5 : decode cX0_isEdge 5 = .ok (.aload_n 0, 1) := by decide +kernel
theorem dX0_isEdge_6 : decode cX0_isEdge 6 = .ok (.getfield 18, 3) := by decide +kernel
theorem dX0_isEdge_9 : decode cX0_isEdge 9 = .ok (.if_icmp .ge 7, 3) := by decide +kernel
theorem dX0_isEdge_12 : decode cX0_isEdge 12 = .ok (.iconst 1, 1) := by decide +kernel
theorem dX0_isEdge_13 : decode cX0_isEdge 13 = .ok (.goto 4, 3) := by decide +kernel
theorem dX0_isEdge_16 : decode cX0_isEdge 16 = .ok (.iconst 0, 1) := by decide +kernel
theorem dX0_isEdge_17 : decode cX0_isEdge 17 = .ok (.ireturn, 1) := by decide +kernel
theorem dX0_joins_0 : decode cX0_joins 0 = .ok (.aload_n 0, 1) := by decide +kernel
theorem dX0_joins_1 : decode cX0_joins 1 = .ok (.iload_n 1, 1) := by decide +kernel
theorem dX0_joins_2 : decode cX0_joins 2 = .ok (.invokevirtual 56, 3) := by decide +kernel
theorem dX0_joins_5 : decode cX0_joins 5 = .ok (.ifCond .eq 49, 3) := by decide +kernel
theorem dX0_joins_8 : decode cX0_joins 8 = .ok (.aload_n 0, 1) := by decide +kernel
theorem dX0_joins_9 : decode cX0_joins 9 = .ok (.iload_n 2, 1) := by decide +kernel
theorem dX0_joins_10 : decode cX0_joins 10 = .ok (.invokevirtual 56, 3) := by decide +kernel
theorem dX0_joins_13 : decode cX0_joins 13 = .ok (.ifCond .eq 41, 3) := by decide +kernel
theorem dX0_joins_16 : decode cX0_joins 16 = .ok (.aload_n 0, 1) := by decide +kernel
theorem dX0_joins_17 : decode cX0_joins 17 = .ok (.getfield 31, 3) := by decide +kernel
theorem dX0_joins_20 : decode cX0_joins 20 = .ok (.iload_n 1, 1) := by decide +kernel
theorem dX0_joins_21 : decode cX0_joins 21 = .ok (.iaload, 1) := by decide +kernel
theorem dX0_joins_22 : decode cX0_joins 22 = .ok (.aload_n 0, 1) := by decide +kernel
theorem dX0_joins_23 : decode cX0_joins 23 = .ok (.getfield 31, 3) := by decide +kernel
theorem dX0_joins_26 : decode cX0_joins 26 = .ok (.iload_n 2, 1) := by decide +kernel
theorem dX0_joins_27 : decode cX0_joins 27 = .ok (.iaload, 1) := by decide +kernel
theorem dX0_joins_28 : decode cX0_joins 28 = .ok (.if_icmp .ne 26, 3) := by decide +kernel
theorem dX0_joins_31 : decode cX0_joins 31 = .ok (.aload_n 0, 1) := by decide +kernel
theorem dX0_joins_32 : decode cX0_joins 32 = .ok (.getfield 34, 3) := by decide +kernel
theorem dX0_joins_35 : decode cX0_joins 35 = .ok (.iload_n 1, 1) := by decide +kernel
theorem dX0_joins_36 : decode cX0_joins 36 = .ok (.iaload, 1) := by decide +kernel
theorem dX0_joins_37 : decode cX0_joins 37 = .ok (.iconst 1, 1) := by decide +kernel
theorem dX0_joins_38 : decode cX0_joins 38 = .ok (.if_icmp .eq 16, 3) := by decide +kernel
theorem dX0_joins_41 : decode cX0_joins 41 = .ok (.aload_n 0, 1) := by decide +kernel
theorem dX0_joins_42 : decode cX0_joins 42 = .ok (.getfield 34, 3) := by decide +kernel
theorem dX0_joins_45 : decode cX0_joins 45 = .ok (.iload_n 2, 1) := by decide +kernel
theorem dX0_joins_46 : decode cX0_joins 46 = .ok (.iaload, 1) := by decide +kernel
theorem dX0_joins_47 : decode cX0_joins 47 = .ok (.ifCond .eq 7, 3) := by decide +kernel
theorem dX0_joins_50 : decode cX0_joins 50 = .ok (.iconst 1, 1) := by decide +kernel
theorem dX0_joins_51 : decode cX0_joins 51 = .ok (.goto 4, 3) := by decide +kernel
theorem dX0_joins_54 : decode cX0_joins 54 = .ok (.iconst 0, 1) := by decide +kernel
theorem dX0_joins_55 : decode cX0_joins 55 = .ok (.ireturn, 1) := by decide +kernel
theorem dX0_flowsOf_0 : decode cX0_flowsOf 0 = .ok (.aload_n 0, 1) := by decide +kernel
theorem dX0_flowsOf_1 : decode cX0_flowsOf 1 = .ok (.getfield 43, 3) := by decide +kernel
theorem dX0_flowsOf_4 : decode cX0_flowsOf 4 = .ok (.iload_n 1, 1) := by decide +kernel
theorem dX0_flowsOf_5 : decode cX0_flowsOf 5 = .ok (.iaload, 1) := by decide +kernel
theorem dX0_flowsOf_6 : decode cX0_flowsOf 6 = .ok (.iconst (-1), 1) := by decide +kernel
theorem dX0_flowsOf_7 : decode cX0_flowsOf 7 = .ok (.if_icmp .ne 7, 3) := by decide +kernel
theorem dX0_flowsOf_10 : decode cX0_flowsOf 10 = .ok (.iconst 1, 1) := by decide +kernel
theorem dX0_flowsOf_11 : decode cX0_flowsOf 11 = .ok (.goto 4, 3) := by decide +kernel
theorem dX0_flowsOf_14 : decode cX0_flowsOf 14 = .ok (.iconst 3, 1) := by decide +kernel
theorem dX0_flowsOf_15 : decode cX0_flowsOf 15 = .ok (.ireturn, 1) := by decide +kernel
theorem dX0_hasFlow_0 : decode cX0_hasFlow 0 = .ok (.aload_n 0, 1) := by decide +kernel
theorem dX0_hasFlow_1 : decode cX0_hasFlow 1 = .ok (.iload_n 1, 1) := by decide +kernel
theorem dX0_hasFlow_2 : decode cX0_hasFlow 2 = .ok (.invokevirtual 60, 3) := by decide +kernel
theorem dX0_hasFlow_5 : decode cX0_hasFlow 5 = .ok (.ifCond .eq 20, 3) := by decide +kernel
theorem dX0_hasFlow_8 : decode cX0_hasFlow 8 = .ok (.iload_n 2, 1) := by decide +kernel
theorem dX0_hasFlow_9 : decode cX0_hasFlow 9 = .ok (.ifCond .lt 16, 3) := by decide +kernel
theorem dX0_hasFlow_12 : decode cX0_hasFlow 12 = .ok (.iload_n 2, 1) := by decide +kernel
theorem dX0_hasFlow_13 : decode cX0_hasFlow 13 = .ok (.aload_n 0, 1) := by decide +kernel
theorem dX0_hasFlow_14 : decode cX0_hasFlow 14 = .ok (.iload_n 1, 1) := by decide +kernel
theorem dX0_hasFlow_15 : decode cX0_hasFlow 15 = .ok (.invokevirtual 63, 3) := by decide +kernel
theorem dX0_hasFlow_18 : decode cX0_hasFlow 18 = .ok (.if_icmp .ge 7, 3) := by decide +kernel
theorem dX0_hasFlow_21 : decode cX0_hasFlow 21 = .ok (.iconst 1, 1) := by decide +kernel
theorem dX0_hasFlow_22 : decode cX0_hasFlow 22 = .ok (.goto 4, 3) := by decide +kernel
theorem dX0_hasFlow_25 : decode cX0_hasFlow 25 = .ok (.iconst 0, 1) := by decide +kernel
theorem dX0_hasFlow_26 : decode cX0_hasFlow 26 = .ok (.ireturn, 1) := by decide +kernel
theorem dX0_reach_0 : decode cX0_reach 0 = .ok (.aload_n 0, 1) := by decide +kernel
theorem dX0_reach_1 : decode cX0_reach 1 = .ok (.getfield 46, 3) := by decide +kernel
theorem dX0_reach_4 : decode cX0_reach 4 = .ok (.iload_n 1, 1) := by decide +kernel
theorem dX0_reach_5 : decode cX0_reach 5 = .ok (.iconst 3, 1) := by decide +kernel
theorem dX0_reach_6 : decode cX0_reach 6 = .ok (.imul, 1) := by decide +kernel
theorem dX0_reach_7 : decode cX0_reach 7 = .ok (.iload_n 2, 1) := by decide +kernel
theorem dX0_reach_8 : decode cX0_reach 8 = .ok (.iadd, 1) := by decide +kernel
theorem dX0_reach_9 : decode cX0_reach 9 = .ok (.laload, 1) := by decide +kernel
theorem dX0_reach_10 : decode cX0_reach 10 = .ok (.iload_n 3, 1) := by decide +kernel
theorem dX0_reach_11 : decode cX0_reach 11 = .ok (.bipush 8, 2) := by decide +kernel
theorem dX0_reach_13 : decode cX0_reach 13 = .ok (.imul, 1) := by decide +kernel
theorem dX0_reach_14 : decode cX0_reach 14 = .ok (.lushr, 1) := by decide +kernel
theorem dX0_reach_15 : decode cX0_reach 15 = .ok (.l2i, 1) := by decide +kernel
theorem dX0_reach_16 : decode cX0_reach 16 = .ok (.sipush 255, 3) := by decide +kernel
theorem dX0_reach_19 : decode cX0_reach 19 = .ok (.iand, 1) := by decide +kernel
theorem dX0_reach_20 : decode cX0_reach 20 = .ok (.ireturn, 1) := by decide +kernel
theorem dX0_carry_0 : decode cX0_carry 0 = .ok (.iconst 0, 1) := by decide +kernel
theorem dX0_carry_1 : decode cX0_carry 1 = .ok (.istore 4, 2) := by decide +kernel
theorem dX0_carry_3 : decode cX0_carry 3 = .ok (.iconst 0, 1) := by decide +kernel
theorem dX0_carry_4 : decode cX0_carry 4 = .ok (.istore 5, 2) := by decide +kernel
theorem dX0_carry_6 : decode cX0_carry 6 = .ok (.iload 5, 2) := by decide +kernel
theorem dX0_carry_8 : decode cX0_carry 8 = .ok (.bipush 8, 2) := by decide +kernel
theorem dX0_carry_10 : decode cX0_carry 10 = .ok (.if_icmp .ge 31, 3) := by decide +kernel
theorem dX0_carry_13 : decode cX0_carry 13 = .ok (.iload_n 3, 1) := by decide +kernel
theorem dX0_carry_14 : decode cX0_carry 14 = .ok (.iload 5, 2) := by decide +kernel
theorem dX0_carry_16 : decode cX0_carry 16 = .ok (.invokestatic 67, 3) := by decide +kernel
theorem dX0_carry_19 : decode cX0_carry 19 = .ok (.ifCond .eq 16, 3) := by decide +kernel
theorem dX0_carry_22 : decode cX0_carry 22 = .ok (.iload 4, 2) := by decide +kernel
theorem dX0_carry_24 : decode cX0_carry 24 = .ok (.aload_n 0, 1) := by decide +kernel
theorem dX0_carry_25 : decode cX0_carry 25 = .ok (.iload_n 1, 1) := by decide +kernel
theorem dX0_carry_26 : decode cX0_carry 26 = .ok (.iload_n 2, 1) := by decide +kernel
theorem dX0_carry_27 : decode cX0_carry 27 = .ok (.iload 5, 2) := by decide +kernel
theorem dX0_carry_29 : decode cX0_carry 29 = .ok (.invokevirtual 71, 3) := by decide +kernel
theorem dX0_carry_32 : decode cX0_carry 32 = .ok (.ior, 1) := by decide +kernel
theorem dX0_carry_33 : decode cX0_carry 33 = .ok (.istore 4, 2) := by decide +kernel
theorem dX0_carry_35 : decode cX0_carry 35 = .ok (.iinc 5 1, 3) := by decide +kernel
theorem dX0_carry_38 : decode cX0_carry 38 = .ok (.goto (-32), 3) := by decide +kernel
theorem dX0_carry_41 : decode cX0_carry 41 = .ok (.iload 4, 2) := by decide +kernel
theorem dX0_carry_43 : decode cX0_carry 43 = .ok (.ireturn, 1) := by decide +kernel
theorem dX0_addProc_0 : decode cX0_addProc 0 = .ok (.aload_n 0, 1) := by decide +kernel
theorem dX0_addProc_1 : decode cX0_addProc 1 = .ok (.getfield 9, 3) := by decide +kernel
theorem dX0_addProc_4 : decode cX0_addProc 4 = .ok (.iconst 5, 1) := by decide +kernel
theorem dX0_addProc_5 : decode cX0_addProc 5 = .ok (.if_icmp .ge 14, 3) := by decide +kernel
theorem dX0_addProc_8 : decode cX0_addProc 8 = .ok (.aload_n 0, 1) := by decide +kernel
theorem dX0_addProc_9 : decode cX0_addProc 9 = .ok (.getfield 15, 3) := by decide +kernel
theorem dX0_addProc_12 : decode cX0_addProc 12 = .ok (.iconst 2, 1) := by decide +kernel
theorem dX0_addProc_13 : decode cX0_addProc 13 = .ok (.iadd, 1) := by decide +kernel
theorem dX0_addProc_14 : decode cX0_addProc 14 = .ok (.bipush 24, 2) := by decide +kernel
theorem dX0_addProc_16 : decode cX0_addProc 16 = .ok (.if_icmp .le 6, 3) := by decide +kernel
theorem dX0_addProc_19 : decode cX0_addProc 19 = .ok (.bipush (-4), 2) := by decide +kernel
theorem dX0_addProc_21 : decode cX0_addProc 21 = .ok (.ireturn, 1) := by decide +kernel
theorem dX0_addProc_22 : decode cX0_addProc 22 = .ok (.aload_n 0, 1) := by decide +kernel
theorem dX0_addProc_23 : decode cX0_addProc 23 = .ok (.getfield 24, 3) := by decide +kernel
theorem dX0_addProc_26 : decode cX0_addProc 26 = .ok (.aload_n 0, 1) := by decide +kernel
theorem dX0_addProc_27 : decode cX0_addProc 27 = .ok (.getfield 9, 3) := by decide +kernel
theorem dX0_addProc_30 : decode cX0_addProc 30 = .ok (.aload_n 0, 1) := by decide +kernel
theorem dX0_addProc_31 : decode cX0_addProc 31 = .ok (.getfield 15, 3) := by decide +kernel
theorem dX0_addProc_34 : decode cX0_addProc 34 = .ok (.iastore, 1) := by decide +kernel
theorem dX0_addProc_35 : decode cX0_addProc 35 = .ok (.aload_n 0, 1) := by decide +kernel
theorem dX0_addProc_36 : decode cX0_addProc 36 = .ok (.aload_n 0, 1) := by decide +kernel
theorem dX0_addProc_37 : decode cX0_addProc 37 = .ok (.getfield 9, 3) := by decide +kernel
theorem dX0_addProc_40 : decode cX0_addProc 40 = .ok (.iconst 0, 1) := by decide +kernel
theorem dX0_addProc_41 : decode cX0_addProc 41 = .ok (.invokevirtual 75, 3) := by decide +kernel
theorem dX0_addProc_44 : decode cX0_addProc 44 = .ok (.pop, 1) := by decide +kernel
theorem dX0_addProc_45 : decode cX0_addProc 45 = .ok (.aload_n 0, 1) := by decide +kernel
theorem dX0_addProc_46 : decode cX0_addProc 46 = .ok (.getfield 28, 3) := by decide +kernel
theorem dX0_addProc_49 : decode cX0_addProc 49 = .ok (.aload_n 0, 1) := by decide +kernel
theorem dX0_addProc_50 : decode cX0_addProc 50 = .ok (.getfield 9, 3) := by decide +kernel
theorem dX0_addProc_53 : decode cX0_addProc 53 = .ok (.aload_n 0, 1) := by decide +kernel
theorem dX0_addProc_54 : decode cX0_addProc 54 = .ok (.getfield 15, 3) := by decide +kernel
theorem dX0_addProc_57 : decode cX0_addProc 57 = .ok (.iastore, 1) := by decide +kernel
theorem dX0_addProc_58 : decode cX0_addProc 58 = .ok (.aload_n 0, 1) := by decide +kernel
theorem dX0_addProc_59 : decode cX0_addProc 59 = .ok (.aload_n 0, 1) := by decide +kernel
theorem dX0_addProc_60 : decode cX0_addProc 60 = .ok (.getfield 9, 3) := by decide +kernel
theorem dX0_addProc_63 : decode cX0_addProc 63 = .ok (.iconst 1, 1) := by decide +kernel
theorem dX0_addProc_64 : decode cX0_addProc 64 = .ok (.invokevirtual 75, 3) := by decide +kernel
theorem dX0_addProc_67 : decode cX0_addProc 67 = .ok (.pop, 1) := by decide +kernel
theorem dX0_addProc_68 : decode cX0_addProc 68 = .ok (.aload_n 0, 1) := by decide +kernel
theorem dX0_addProc_69 : decode cX0_addProc 69 = .ok (.dup, 1) := by decide +kernel
theorem dX0_addProc_70 : decode cX0_addProc 70 = .ok (.getfield 9, 3) := by decide +kernel
theorem dX0_addProc_73 : decode cX0_addProc 73 = .ok (.dup_x1, 1) := by decide +kernel
theorem dX0_addProc_74 : decode cX0_addProc 74 = .ok (.iconst 1, 1) := by decide +kernel
theorem dX0_addProc_75 : decode cX0_addProc 75 = .ok (.iadd, 1) := by decide +kernel
theorem dX0_addProc_76 : decode cX0_addProc 76 = .ok (.putfield 9, 3) := by decide +kernel
theorem dX0_addProc_79 : decode cX0_addProc 79 = .ok (.ireturn, 1) := by decide +kernel
theorem dX0_addNode_0 : decode cX0_addNode 0 = .ok (.aload_n 0, 1) := by decide +kernel
theorem dX0_addNode_1 : decode cX0_addNode 1 = .ok (.iload_n 1, 1) := by decide +kernel
theorem dX0_addNode_2 : decode cX0_addNode 2 = .ok (.invokevirtual 79, 3) := by decide +kernel
theorem dX0_addNode_5 : decode cX0_addNode 5 = .ok (.ifCond .ne 6, 3) := by decide +kernel
theorem dX0_addNode_8 : decode cX0_addNode 8 = .ok (.bipush (-2), 2) := by decide +kernel
theorem dX0_addNode_10 : decode cX0_addNode 10 = .ok (.ireturn, 1) := by decide +kernel
theorem dX0_addNode_11 : decode cX0_addNode 11 = .ok (.aload_n 0, 1) := by decide +kernel
theorem dX0_addNode_12 : decode cX0_addNode 12 = .ok (.getfield 15, 3) := by decide +kernel
theorem dX0_addNode_15 : decode cX0_addNode 15 = .ok (.bipush 24, 2) := by decide +kernel
theorem dX0_addNode_17 : decode cX0_addNode 17 = .ok (.if_icmp .lt 6, 3) := by decide +kernel
theorem dX0_addNode_20 : decode cX0_addNode 20 = .ok (.bipush (-4), 2) := by decide +kernel
theorem dX0_addNode_22 : decode cX0_addNode 22 = .ok (.ireturn, 1) := by decide +kernel
theorem dX0_addNode_23 : decode cX0_addNode 23 = .ok (.aload_n 0, 1) := by decide +kernel
theorem dX0_addNode_24 : decode cX0_addNode 24 = .ok (.iload_n 1, 1) := by decide +kernel
theorem dX0_addNode_25 : decode cX0_addNode 25 = .ok (.iconst 2, 1) := by decide +kernel
theorem dX0_addNode_26 : decode cX0_addNode 26 = .ok (.invokevirtual 75, 3) := by decide +kernel
theorem dX0_addNode_29 : decode cX0_addNode 29 = .ok (.ireturn, 1) := by decide +kernel
theorem dX0_placeNode_0 : decode cX0_placeNode 0 = .ok (.aload_n 0, 1) := by decide +kernel
theorem dX0_placeNode_1 : decode cX0_placeNode 1 = .ok (.getfield 31, 3) := by decide +kernel
theorem dX0_placeNode_4 : decode cX0_placeNode 4 = .ok (.aload_n 0, 1) := by decide +kernel
theorem dX0_placeNode_5 : decode cX0_placeNode 5 = .ok (.getfield 15, 3) := by decide +kernel
theorem dX0_placeNode_8 : decode cX0_placeNode 8 = .ok (.iload_n 1, 1) := by decide +kernel
theorem dX0_placeNode_9 : decode cX0_placeNode 9 = .ok (.iastore, 1) := by decide +kernel
theorem dX0_placeNode_10 : decode cX0_placeNode 10 = .ok (.aload_n 0, 1) := by decide +kernel
theorem dX0_placeNode_11 : decode cX0_placeNode 11 = .ok (.getfield 34, 3) := by decide +kernel
theorem dX0_placeNode_14 : decode cX0_placeNode 14 = .ok (.aload_n 0, 1) := by decide +kernel
theorem dX0_placeNode_15 : decode cX0_placeNode 15 = .ok (.getfield 15, 3) := by decide +kernel
theorem dX0_placeNode_18 : decode cX0_placeNode 18 = .ok (.iload_n 2, 1) := by decide +kernel
theorem dX0_placeNode_19 : decode cX0_placeNode 19 = .ok (.iastore, 1) := by decide +kernel
theorem dX0_placeNode_20 : decode cX0_placeNode 20 = .ok (.aload_n 0, 1) := by decide +kernel
theorem dX0_placeNode_21 : decode cX0_placeNode 21 = .ok (.dup, 1) := by decide +kernel
theorem dX0_placeNode_22 : decode cX0_placeNode 22 = .ok (.getfield 15, 3) := by decide +kernel
theorem dX0_placeNode_25 : decode cX0_placeNode 25 = .ok (.dup_x1, 1) := by decide +kernel
theorem dX0_placeNode_26 : decode cX0_placeNode 26 = .ok (.iconst 1, 1) := by decide +kernel
theorem dX0_placeNode_27 : decode cX0_placeNode 27 = .ok (.iadd, 1) := by decide +kernel
theorem dX0_placeNode_28 : decode cX0_placeNode 28 = .ok (.putfield 15, 3) := by decide +kernel
theorem dX0_placeNode_31 : decode cX0_placeNode 31 = .ok (.ireturn, 1) := by decide +kernel
theorem dX0_addPlain_0 : decode cX0_addPlain 0 = .ok (.aload_n 0, 1) := by decide +kernel
theorem dX0_addPlain_1 : decode cX0_addPlain 1 = .ok (.iload_n 1, 1) := by decide +kernel
theorem dX0_addPlain_2 : decode cX0_addPlain 2 = .ok (.iload_n 2, 1) := by decide +kernel
theorem dX0_addPlain_3 : decode cX0_addPlain 3 = .ok (.invokevirtual 82, 3) := by decide +kernel
theorem dX0_addPlain_6 : decode cX0_addPlain 6 = .ok (.ifCond .eq 13, 3) := by decide +kernel
theorem dX0_addPlain_9 : decode cX0_addPlain 9 = .ok (.aload_n 0, 1) := by decide +kernel
theorem dX0_addPlain_10 : decode cX0_addPlain 10 = .ok (.iload_n 1, 1) := by decide +kernel
theorem dX0_addPlain_11 : decode cX0_addPlain 11 = .ok (.iconst (-1), 1) := by decide +kernel
theorem dX0_addPlain_12 : decode cX0_addPlain 12 = .ok (.iload_n 2, 1) := by decide +kernel
theorem dX0_addPlain_13 : decode cX0_addPlain 13 = .ok (.invokevirtual 85, 3) := by decide +kernel
theorem dX0_addPlain_16 : decode cX0_addPlain 16 = .ok (.goto 5, 3) := by decide +kernel
theorem dX0_addPlain_19 : decode cX0_addPlain 19 = .ok (.bipush (-2), 2) := by decide +kernel
theorem dX0_addPlain_21 : decode cX0_addPlain 21 = .ok (.ireturn, 1) := by decide +kernel
theorem dX0_addCall_0 : decode cX0_addCall 0 = .ok (.aload_n 0, 1) := by decide +kernel
theorem dX0_addCall_1 : decode cX0_addCall 1 = .ok (.iload_n 2, 1) := by decide +kernel
theorem dX0_addCall_2 : decode cX0_addCall 2 = .ok (.invokevirtual 79, 3) := by decide +kernel
theorem dX0_addCall_5 : decode cX0_addCall 5 = .ok (.ifCond .eq 22, 3) := by decide +kernel
theorem dX0_addCall_8 : decode cX0_addCall 8 = .ok (.aload_n 0, 1) := by decide +kernel
theorem dX0_addCall_9 : decode cX0_addCall 9 = .ok (.iload_n 1, 1) := by decide +kernel
theorem dX0_addCall_10 : decode cX0_addCall 10 = .ok (.iload_n 3, 1) := by decide +kernel
theorem dX0_addCall_11 : decode cX0_addCall 11 = .ok (.invokevirtual 82, 3) := by decide +kernel
theorem dX0_addCall_14 : decode cX0_addCall 14 = .ok (.ifCond .eq 13, 3) := by decide +kernel
theorem dX0_addCall_17 : decode cX0_addCall 17 = .ok (.aload_n 0, 1) := by decide +kernel
theorem dX0_addCall_18 : decode cX0_addCall 18 = .ok (.iload_n 1, 1) := by decide +kernel
theorem dX0_addCall_19 : decode cX0_addCall 19 = .ok (.iload_n 2, 1) := by decide +kernel
theorem dX0_addCall_20 : decode cX0_addCall 20 = .ok (.iload_n 3, 1) := by decide +kernel
theorem dX0_addCall_21 : decode cX0_addCall 21 = .ok (.invokevirtual 85, 3) := by decide +kernel
theorem dX0_addCall_24 : decode cX0_addCall 24 = .ok (.goto 5, 3) := by decide +kernel
theorem dX0_addCall_27 : decode cX0_addCall 27 = .ok (.bipush (-2), 2) := by decide +kernel
theorem dX0_addCall_29 : decode cX0_addCall 29 = .ok (.ireturn, 1) := by decide +kernel
theorem dX0_addEdge_0 : decode cX0_addEdge 0 = .ok (.aload_n 0, 1) := by decide +kernel
theorem dX0_addEdge_1 : decode cX0_addEdge 1 = .ok (.getfield 18, 3) := by decide +kernel
theorem dX0_addEdge_4 : decode cX0_addEdge 4 = .ok (.bipush 32, 2) := by decide +kernel
theorem dX0_addEdge_6 : decode cX0_addEdge 6 = .ok (.if_icmp .lt 6, 3) := by decide +kernel
theorem dX0_addEdge_9 : decode cX0_addEdge 9 = .ok (.bipush (-4), 2) := by decide +kernel
theorem dX0_addEdge_11 : decode cX0_addEdge 11 = .ok (.ireturn, 1) := by decide +kernel
theorem dX0_addEdge_12 : decode cX0_addEdge 12 = .ok (.aload_n 0, 1) := by decide +kernel
theorem dX0_addEdge_13 : decode cX0_addEdge 13 = .ok (.getfield 37, 3) := by decide +kernel
theorem dX0_addEdge_16 : decode cX0_addEdge 16 = .ok (.aload_n 0, 1) := by decide +kernel
theorem dX0_addEdge_17 : decode cX0_addEdge 17 = .ok (.getfield 18, 3) := by decide +kernel
theorem dX0_addEdge_20 : decode cX0_addEdge 20 = .ok (.iload_n 1, 1) := by decide +kernel
theorem dX0_addEdge_21 : decode cX0_addEdge 21 = .ok (.iastore, 1) := by decide +kernel
theorem dX0_addEdge_22 : decode cX0_addEdge 22 = .ok (.aload_n 0, 1) := by decide +kernel
theorem dX0_addEdge_23 : decode cX0_addEdge 23 = .ok (.getfield 40, 3) := by decide +kernel
theorem dX0_addEdge_26 : decode cX0_addEdge 26 = .ok (.aload_n 0, 1) := by decide +kernel
theorem dX0_addEdge_27 : decode cX0_addEdge 27 = .ok (.getfield 18, 3) := by decide +kernel
theorem dX0_addEdge_30 : decode cX0_addEdge 30 = .ok (.iload_n 3, 1) := by decide +kernel
theorem dX0_addEdge_31 : decode cX0_addEdge 31 = .ok (.iastore, 1) := by decide +kernel
theorem dX0_addEdge_32 : decode cX0_addEdge 32 = .ok (.aload_n 0, 1) := by decide +kernel
theorem dX0_addEdge_33 : decode cX0_addEdge 33 = .ok (.getfield 43, 3) := by decide +kernel
theorem dX0_addEdge_36 : decode cX0_addEdge 36 = .ok (.aload_n 0, 1) := by decide +kernel
theorem dX0_addEdge_37 : decode cX0_addEdge 37 = .ok (.getfield 18, 3) := by decide +kernel
theorem dX0_addEdge_40 : decode cX0_addEdge 40 = .ok (.iload_n 2, 1) := by decide +kernel
theorem dX0_addEdge_41 : decode cX0_addEdge 41 = .ok (.iastore, 1) := by decide +kernel
theorem dX0_addEdge_42 : decode cX0_addEdge 42 = .ok (.iconst 0, 1) := by decide +kernel
theorem dX0_addEdge_43 : decode cX0_addEdge 43 = .ok (.istore 4, 2) := by decide +kernel
theorem dX0_addEdge_45 : decode cX0_addEdge 45 = .ok (.iload 4, 2) := by decide +kernel
theorem dX0_addEdge_47 : decode cX0_addEdge 47 = .ok (.iconst 3, 1) := by decide +kernel
theorem dX0_addEdge_48 : decode cX0_addEdge 48 = .ok (.if_icmp .ge 26, 3) := by decide +kernel
theorem dX0_addEdge_51 : decode cX0_addEdge 51 = .ok (.aload_n 0, 1) := by decide +kernel
theorem dX0_addEdge_52 : decode cX0_addEdge 52 = .ok (.getfield 46, 3) := by decide +kernel
theorem dX0_addEdge_55 : decode cX0_addEdge 55 = .ok (.aload_n 0, 1) := by decide +kernel
theorem dX0_addEdge_56 : decode cX0_addEdge 56 = .ok (.getfield 18, 3) := by decide +kernel
theorem dX0_addEdge_59 : decode cX0_addEdge 59 = .ok (.iconst 3, 1) := by decide +kernel
theorem dX0_addEdge_60 : decode cX0_addEdge 60 = .ok (.imul, 1) := by decide +kernel
theorem dX0_addEdge_61 : decode cX0_addEdge 61 = .ok (.iload 4, 2) := by decide +kernel
theorem dX0_addEdge_63 : decode cX0_addEdge 63 = .ok (.iadd, 1) := by decide +kernel
theorem dX0_addEdge_64 : decode cX0_addEdge 64 = .ok (.ldc2_w 88, 3) := by decide +kernel
theorem dX0_addEdge_67 : decode cX0_addEdge 67 = .ok (.lastore, 1) := by decide +kernel
theorem dX0_addEdge_68 : decode cX0_addEdge 68 = .ok (.iinc 4 1, 3) := by decide +kernel
theorem dX0_addEdge_71 : decode cX0_addEdge 71 = .ok (.goto (-26), 3) := by decide +kernel
theorem dX0_addEdge_74 : decode cX0_addEdge 74 = .ok (.aload_n 0, 1) := by decide +kernel
theorem dX0_addEdge_75 : decode cX0_addEdge 75 = .ok (.dup, 1) := by decide +kernel
theorem dX0_addEdge_76 : decode cX0_addEdge 76 = .ok (.getfield 18, 3) := by decide +kernel
theorem dX0_addEdge_79 : decode cX0_addEdge 79 = .ok (.dup_x1, 1) := by decide +kernel
theorem dX0_addEdge_80 : decode cX0_addEdge 80 = .ok (.iconst 1, 1) := by decide +kernel
theorem dX0_addEdge_81 : decode cX0_addEdge 81 = .ok (.iadd, 1) := by decide +kernel
theorem dX0_addEdge_82 : decode cX0_addEdge 82 = .ok (.putfield 18, 3) := by decide +kernel
theorem dX0_addEdge_85 : decode cX0_addEdge 85 = .ok (.ireturn, 1) := by decide +kernel
theorem dX0_setFlow_0 : decode cX0_setFlow 0 = .ok (.aload_n 0, 1) := by decide +kernel
theorem dX0_setFlow_1 : decode cX0_setFlow 1 = .ok (.iload_n 1, 1) := by decide +kernel
theorem dX0_setFlow_2 : decode cX0_setFlow 2 = .ok (.iload_n 2, 1) := by decide +kernel
theorem dX0_setFlow_3 : decode cX0_setFlow 3 = .ok (.invokevirtual 90, 3) := by decide +kernel
theorem dX0_setFlow_6 : decode cX0_setFlow 6 = .ok (.ifCond .eq 36, 3) := by decide +kernel
theorem dX0_setFlow_9 : decode cX0_setFlow 9 = .ok (.iload_n 3, 1) := by decide +kernel
theorem dX0_setFlow_10 : decode cX0_setFlow 10 = .ok (.invokestatic 93, 3) := by decide +kernel
theorem dX0_setFlow_13 : decode cX0_setFlow 13 = .ok (.ifCond .eq 29, 3) := by decide +kernel
theorem dX0_setFlow_16 : decode cX0_setFlow 16 = .ok (.iload 4, 2) := by decide +kernel
theorem dX0_setFlow_18 : decode cX0_setFlow 18 = .ok (.invokestatic 96, 3) := by decide +kernel
theorem dX0_setFlow_21 : decode cX0_setFlow 21 = .ok (.ifCond .eq 21, 3) := by decide +kernel
theorem dX0_setFlow_24 : decode cX0_setFlow 24 = .ok (.iload 4, 2) := by decide +kernel
theorem dX0_setFlow_26 : decode cX0_setFlow 26 = .ok (.iconst 0, 1) := by decide +kernel
theorem dX0_setFlow_27 : decode cX0_setFlow 27 = .ok (.invokestatic 67, 3) := by decide +kernel
theorem dX0_setFlow_30 : decode cX0_setFlow 30 = .ok (.iload_n 3, 1) := by decide +kernel
theorem dX0_setFlow_31 : decode cX0_setFlow 31 = .ok (.ifCond .ne 7, 3) := by decide +kernel
theorem dX0_setFlow_34 : decode cX0_setFlow 34 = .ok (.iconst 1, 1) := by decide +kernel
theorem dX0_setFlow_35 : decode cX0_setFlow 35 = .ok (.goto 4, 3) := by decide +kernel
theorem dX0_setFlow_38 : decode cX0_setFlow 38 = .ok (.iconst 0, 1) := by decide +kernel
theorem dX0_setFlow_39 : decode cX0_setFlow 39 = .ok (.if_icmp .eq 6, 3) := by decide +kernel
theorem dX0_setFlow_42 : decode cX0_setFlow 42 = .ok (.bipush (-2), 2) := by decide +kernel
theorem dX0_setFlow_44 : decode cX0_setFlow 44 = .ok (.ireturn, 1) := by decide +kernel
theorem dX0_setFlow_45 : decode cX0_setFlow 45 = .ok (.aload_n 0, 1) := by decide +kernel
theorem dX0_setFlow_46 : decode cX0_setFlow 46 = .ok (.iload_n 1, 1) := by decide +kernel
theorem dX0_setFlow_47 : decode cX0_setFlow 47 = .ok (.iload_n 2, 1) := by decide +kernel
theorem dX0_setFlow_48 : decode cX0_setFlow 48 = .ok (.iload_n 3, 1) := by decide +kernel
theorem dX0_setFlow_49 : decode cX0_setFlow 49 = .ok (.invokevirtual 71, 3) := by decide +kernel
theorem dX0_setFlow_52 : decode cX0_setFlow 52 = .ok (.istore 5, 2) := by decide +kernel
theorem dX0_setFlow_54 : decode cX0_setFlow 54 = .ok (.iload_n 3, 1) := by decide +kernel
theorem dX0_setFlow_55 : decode cX0_setFlow 55 = .ok (.bipush 8, 2) := by decide +kernel
theorem dX0_setFlow_57 : decode cX0_setFlow 57 = .ok (.imul, 1) := by decide +kernel
theorem dX0_setFlow_58 : decode cX0_setFlow 58 = .ok (.istore 6, 2) := by decide +kernel
theorem dX0_setFlow_60 : decode cX0_setFlow 60 = .ok (.aload_n 0, 1) := by decide +kernel
theorem dX0_setFlow_61 : decode cX0_setFlow 61 = .ok (.getfield 46, 3) := by decide +kernel
theorem dX0_setFlow_64 : decode cX0_setFlow 64 = .ok (.iload_n 1, 1) := by decide +kernel
theorem dX0_setFlow_65 : decode cX0_setFlow 65 = .ok (.iconst 3, 1) := by decide +kernel
theorem dX0_setFlow_66 : decode cX0_setFlow 66 = .ok (.imul, 1) := by decide +kernel
theorem dX0_setFlow_67 : decode cX0_setFlow 67 = .ok (.iload_n 2, 1) := by decide +kernel
theorem dX0_setFlow_68 : decode cX0_setFlow 68 = .ok (.iadd, 1) := by decide +kernel
theorem dX0_setFlow_69 : decode cX0_setFlow 69 = .ok (.laload, 1) := by decide +kernel
theorem dX0_setFlow_70 : decode cX0_setFlow 70 = .ok (.ldc2_w 99, 3) := by decide +kernel
theorem dX0_setFlow_73 : decode cX0_setFlow 73 = .ok (.iload 6, 2) := by decide +kernel
theorem dX0_setFlow_75 : decode cX0_setFlow 75 = .ok (.lshl, 1) := by decide +kernel
theorem dX0_setFlow_76 : decode cX0_setFlow 76 = .ok (.ldc2_w 101, 3) := by decide +kernel
theorem dX0_setFlow_79 : decode cX0_setFlow 79 = .ok (.lxor, 1) := by decide +kernel
theorem dX0_setFlow_80 : decode cX0_setFlow 80 = .ok (.land, 1) := by decide +kernel
theorem dX0_setFlow_81 : decode cX0_setFlow 81 = .ok (.lstore 7, 2) := by decide +kernel
theorem dX0_setFlow_83 : decode cX0_setFlow 83 = .ok (.aload_n 0, 1) := by decide +kernel
theorem dX0_setFlow_84 : decode cX0_setFlow 84 = .ok (.getfield 46, 3) := by decide +kernel
theorem dX0_setFlow_87 : decode cX0_setFlow 87 = .ok (.iload_n 1, 1) := by decide +kernel
theorem dX0_setFlow_88 : decode cX0_setFlow 88 = .ok (.iconst 3, 1) := by decide +kernel
theorem dX0_setFlow_89 : decode cX0_setFlow 89 = .ok (.imul, 1) := by decide +kernel
theorem dX0_setFlow_90 : decode cX0_setFlow 90 = .ok (.iload_n 2, 1) := by decide +kernel
theorem dX0_setFlow_91 : decode cX0_setFlow 91 = .ok (.iadd, 1) := by decide +kernel
theorem dX0_setFlow_92 : decode cX0_setFlow 92 = .ok (.lload 7, 2) := by decide +kernel
theorem dX0_setFlow_94 : decode cX0_setFlow 94 = .ok (.iload 4, 2) := by decide +kernel
theorem dX0_setFlow_96 : decode cX0_setFlow 96 = .ok (.i2l, 1) := by decide +kernel
theorem dX0_setFlow_97 : decode cX0_setFlow 97 = .ok (.iload 6, 2) := by decide +kernel
theorem dX0_setFlow_99 : decode cX0_setFlow 99 = .ok (.lshl, 1) := by decide +kernel
theorem dX0_setFlow_100 : decode cX0_setFlow 100 = .ok (.lor, 1) := by decide +kernel
theorem dX0_setFlow_101 : decode cX0_setFlow 101 = .ok (.lastore, 1) := by decide +kernel
theorem dX0_setFlow_102 : decode cX0_setFlow 102 = .ok (.iload 5, 2) := by decide +kernel
theorem dX0_setFlow_104 : decode cX0_setFlow 104 = .ok (.ireturn, 1) := by decide +kernel
theorem dX0_setStart_0 : decode cX0_setStart 0 = .ok (.iload_n 1, 1) := by decide +kernel
theorem dX0_setStart_1 : decode cX0_setStart 1 = .ok (.invokestatic 96, 3) := by decide +kernel
theorem dX0_setStart_4 : decode cX0_setStart 4 = .ok (.ifCond .eq 11, 3) := by decide +kernel
theorem dX0_setStart_7 : decode cX0_setStart 7 = .ok (.iload_n 1, 1) := by decide +kernel
theorem dX0_setStart_8 : decode cX0_setStart 8 = .ok (.iconst 0, 1) := by decide +kernel
theorem dX0_setStart_9 : decode cX0_setStart 9 = .ok (.invokestatic 67, 3) := by decide +kernel
theorem dX0_setStart_12 : decode cX0_setStart 12 = .ok (.ifCond .ne 6, 3) := by decide +kernel
theorem dX0_setStart_15 : decode cX0_setStart 15 = .ok (.bipush (-2), 2) := by decide +kernel
theorem dX0_setStart_17 : decode cX0_setStart 17 = .ok (.ireturn, 1) := by decide +kernel
theorem dX0_setStart_18 : decode cX0_setStart 18 = .ok (.aload_n 0, 1) := by decide +kernel
theorem dX0_setStart_19 : decode cX0_setStart 19 = .ok (.getfield 21, 3) := by decide +kernel
theorem dX0_setStart_22 : decode cX0_setStart 22 = .ok (.istore_n 2, 1) := by decide +kernel
theorem dX0_setStart_23 : decode cX0_setStart 23 = .ok (.aload_n 0, 1) := by decide +kernel
theorem dX0_setStart_24 : decode cX0_setStart 24 = .ok (.iload_n 1, 1) := by decide +kernel
theorem dX0_setStart_25 : decode cX0_setStart 25 = .ok (.putfield 21, 3) := by decide +kernel
theorem dX0_setStart_28 : decode cX0_setStart 28 = .ok (.iload_n 2, 1) := by decide +kernel
theorem dX0_setStart_29 : decode cX0_setStart 29 = .ok (.ireturn, 1) := by decide +kernel
theorem dX0_cutEdge_0 : decode cX0_cutEdge 0 = .ok (.aload_n 0, 1) := by decide +kernel
theorem dX0_cutEdge_1 : decode cX0_cutEdge 1 = .ok (.iload_n 1, 1) := by decide +kernel
theorem dX0_cutEdge_2 : decode cX0_cutEdge 2 = .ok (.invokevirtual 60, 3) := by decide +kernel
theorem dX0_cutEdge_5 : decode cX0_cutEdge 5 = .ok (.ifCond .ne 6, 3) := by decide +kernel
theorem dX0_cutEdge_8 : decode cX0_cutEdge 8 = .ok (.bipush (-2), 2) := by decide +kernel
theorem dX0_cutEdge_10 : decode cX0_cutEdge 10 = .ok (.ireturn, 1) := by decide +kernel
theorem dX0_cutEdge_11 : decode cX0_cutEdge 11 = .ok (.aload_n 0, 1) := by decide +kernel
theorem dX0_cutEdge_12 : decode cX0_cutEdge 12 = .ok (.dup, 1) := by decide +kernel
theorem dX0_cutEdge_13 : decode cX0_cutEdge 13 = .ok (.getfield 18, 3) := by decide +kernel
theorem dX0_cutEdge_16 : decode cX0_cutEdge 16 = .ok (.iconst 1, 1) := by decide +kernel
theorem dX0_cutEdge_17 : decode cX0_cutEdge 17 = .ok (.isub, 1) := by decide +kernel
theorem dX0_cutEdge_18 : decode cX0_cutEdge 18 = .ok (.putfield 18, 3) := by decide +kernel
theorem dX0_cutEdge_21 : decode cX0_cutEdge 21 = .ok (.iload_n 1, 1) := by decide +kernel
theorem dX0_cutEdge_22 : decode cX0_cutEdge 22 = .ok (.istore_n 2, 1) := by decide +kernel
theorem dX0_cutEdge_23 : decode cX0_cutEdge 23 = .ok (.iload_n 2, 1) := by decide +kernel
theorem dX0_cutEdge_24 : decode cX0_cutEdge 24 = .ok (.aload_n 0, 1) := by decide +kernel
theorem dX0_cutEdge_25 : decode cX0_cutEdge 25 = .ok (.getfield 18, 3) := by decide +kernel
theorem dX0_cutEdge_28 : decode cX0_cutEdge 28 = .ok (.if_icmp .ge 86, 3) := by decide +kernel
theorem dX0_cutEdge_31 : decode cX0_cutEdge 31 = .ok (.aload_n 0, 1) := by decide +kernel
theorem dX0_cutEdge_32 : decode cX0_cutEdge 32 = .ok (.getfield 37, 3) := by decide +kernel
theorem dX0_cutEdge_35 : decode cX0_cutEdge 35 = .ok (.iload_n 2, 1) := by decide +kernel
theorem dX0_cutEdge_36 : decode cX0_cutEdge 36 = .ok (.aload_n 0, 1) := by decide +kernel
theorem dX0_cutEdge_37 : decode cX0_cutEdge 37 = .ok (.getfield 37, 3) := by decide +kernel
theorem dX0_cutEdge_40 : decode cX0_cutEdge 40 = .ok (.iload_n 2, 1) := by decide +kernel
theorem dX0_cutEdge_41 : decode cX0_cutEdge 41 = .ok (.iconst 1, 1) := by decide +kernel
theorem dX0_cutEdge_42 : decode cX0_cutEdge 42 = .ok (.iadd, 1) := by decide +kernel
theorem dX0_cutEdge_43 : decode cX0_cutEdge 43 = .ok (.iaload, 1) := by decide +kernel
theorem dX0_cutEdge_44 : decode cX0_cutEdge 44 = .ok (.iastore, 1) := by decide +kernel
theorem dX0_cutEdge_45 : decode cX0_cutEdge 45 = .ok (.aload_n 0, 1) := by decide +kernel
theorem dX0_cutEdge_46 : decode cX0_cutEdge 46 = .ok (.getfield 40, 3) := by decide +kernel
theorem dX0_cutEdge_49 : decode cX0_cutEdge 49 = .ok (.iload_n 2, 1) := by decide +kernel
theorem dX0_cutEdge_50 : decode cX0_cutEdge 50 = .ok (.aload_n 0, 1) := by decide +kernel
theorem dX0_cutEdge_51 : decode cX0_cutEdge 51 = .ok (.getfield 40, 3) := by decide +kernel
theorem dX0_cutEdge_54 : decode cX0_cutEdge 54 = .ok (.iload_n 2, 1) := by decide +kernel
theorem dX0_cutEdge_55 : decode cX0_cutEdge 55 = .ok (.iconst 1, 1) := by decide +kernel
theorem dX0_cutEdge_56 : decode cX0_cutEdge 56 = .ok (.iadd, 1) := by decide +kernel
theorem dX0_cutEdge_57 : decode cX0_cutEdge 57 = .ok (.iaload, 1) := by decide +kernel
theorem dX0_cutEdge_58 : decode cX0_cutEdge 58 = .ok (.iastore, 1) := by decide +kernel
theorem dX0_cutEdge_59 : decode cX0_cutEdge 59 = .ok (.aload_n 0, 1) := by decide +kernel
theorem dX0_cutEdge_60 : decode cX0_cutEdge 60 = .ok (.getfield 43, 3) := by decide +kernel
theorem dX0_cutEdge_63 : decode cX0_cutEdge 63 = .ok (.iload_n 2, 1) := by decide +kernel
theorem dX0_cutEdge_64 : decode cX0_cutEdge 64 = .ok (.aload_n 0, 1) := by decide +kernel
theorem dX0_cutEdge_65 : decode cX0_cutEdge 65 = .ok (.getfield 43, 3) := by decide +kernel
theorem dX0_cutEdge_68 : decode cX0_cutEdge 68 = .ok (.iload_n 2, 1) := by decide +kernel
theorem dX0_cutEdge_69 : decode cX0_cutEdge 69 = .ok (.iconst 1, 1) := by decide +kernel
theorem dX0_cutEdge_70 : decode cX0_cutEdge 70 = .ok (.iadd, 1) := by decide +kernel
theorem dX0_cutEdge_71 : decode cX0_cutEdge 71 = .ok (.iaload, 1) := by decide +kernel
theorem dX0_cutEdge_72 : decode cX0_cutEdge 72 = .ok (.iastore, 1) := by decide +kernel
theorem dX0_cutEdge_73 : decode cX0_cutEdge 73 = .ok (.iconst 0, 1) := by decide +kernel
theorem dX0_cutEdge_74 : decode cX0_cutEdge 74 = .ok (.istore_n 3, 1) := by decide +kernel
theorem dX0_cutEdge_75 : decode cX0_cutEdge 75 = .ok (.iload_n 3, 1) := by decide +kernel
theorem dX0_cutEdge_76 : decode cX0_cutEdge 76 = .ok (.iconst 3, 1) := by decide +kernel
theorem dX0_cutEdge_77 : decode cX0_cutEdge 77 = .ok (.if_icmp .ge 31, 3) := by decide +kernel
theorem dX0_cutEdge_80 : decode cX0_cutEdge 80 = .ok (.aload_n 0, 1) := by decide +kernel
theorem dX0_cutEdge_81 : decode cX0_cutEdge 81 = .ok (.getfield 46, 3) := by decide +kernel
theorem dX0_cutEdge_84 : decode cX0_cutEdge 84 = .ok (.iload_n 2, 1) := by decide +kernel
theorem dX0_cutEdge_85 : decode cX0_cutEdge 85 = .ok (.iconst 3, 1) := by decide +kernel
theorem dX0_cutEdge_86 : decode cX0_cutEdge 86 = .ok (.imul, 1) := by decide +kernel
theorem dX0_cutEdge_87 : decode cX0_cutEdge 87 = .ok (.iload_n 3, 1) := by decide +kernel
theorem dX0_cutEdge_88 : decode cX0_cutEdge 88 = .ok (.iadd, 1) := by decide +kernel
theorem dX0_cutEdge_89 : decode cX0_cutEdge 89 = .ok (.aload_n 0, 1) := by decide +kernel
theorem dX0_cutEdge_90 : decode cX0_cutEdge 90 = .ok (.getfield 46, 3) := by decide +kernel
theorem dX0_cutEdge_93 : decode cX0_cutEdge 93 = .ok (.iload_n 2, 1) := by decide +kernel
theorem dX0_cutEdge_94 : decode cX0_cutEdge 94 = .ok (.iconst 1, 1) := by decide +kernel
theorem dX0_cutEdge_95 : decode cX0_cutEdge 95 = .ok (.iadd, 1) := by decide +kernel
theorem dX0_cutEdge_96 : decode cX0_cutEdge 96 = .ok (.iconst 3, 1) := by decide +kernel
theorem dX0_cutEdge_97 : decode cX0_cutEdge 97 = .ok (.imul, 1) := by decide +kernel
theorem dX0_cutEdge_98 : decode cX0_cutEdge 98 = .ok (.iload_n 3, 1) := by decide +kernel
theorem dX0_cutEdge_99 : decode cX0_cutEdge 99 = .ok (.iadd, 1) := by decide +kernel
theorem dX0_cutEdge_100 : decode cX0_cutEdge 100 = .ok (.laload, 1) := by decide +kernel
theorem dX0_cutEdge_101 : decode cX0_cutEdge 101 = .ok (.lastore, 1) := by decide +kernel
theorem dX0_cutEdge_102 : decode cX0_cutEdge 102 = .ok (.iinc 3 1, 3) := by decide +kernel
theorem dX0_cutEdge_105 : decode cX0_cutEdge 105 = .ok (.goto (-30), 3) := by decide +kernel
theorem dX0_cutEdge_108 : decode cX0_cutEdge 108 = .ok (.iinc 2 1, 3) := by decide +kernel
theorem dX0_cutEdge_111 : decode cX0_cutEdge 111 = .ok (.goto (-88), 3) := by decide +kernel
theorem dX0_cutEdge_114 : decode cX0_cutEdge 114 = .ok (.aload_n 0, 1) := by decide +kernel
theorem dX0_cutEdge_115 : decode cX0_cutEdge 115 = .ok (.getfield 18, 3) := by decide +kernel
theorem dX0_cutEdge_118 : decode cX0_cutEdge 118 = .ok (.ireturn, 1) := by decide +kernel
theorem dX1_init_0 : decode cX1_init 0 = .ok (.aload_n 0, 1) := by decide +kernel
theorem dX1_init_1 : decode cX1_init 1 = .ok (.invokespecial 3, 3) := by decide +kernel
theorem dX1_init_4 : decode cX1_init 4 = .ok (.aload_n 0, 1) := by decide +kernel
theorem dX1_init_5 : decode cX1_init 5 = .ok (.iconst 0, 1) := by decide +kernel
theorem dX1_init_6 : decode cX1_init 6 = .ok (.putfield 9, 3) := by decide +kernel
theorem dX1_init_9 : decode cX1_init 9 = .ok (.aload_n 0, 1) := by decide +kernel
theorem dX1_init_10 : decode cX1_init 10 = .ok (.bipush 24, 2) := by decide +kernel
theorem dX1_init_12 : decode cX1_init 12 = .ok (.newarray .int, 2) := by decide +kernel
theorem dX1_init_14 : decode cX1_init 14 = .ok (.putfield 15, 3) := by decide +kernel
theorem dX1_init_17 : decode cX1_init 17 = .ok (.return_, 1) := by decide +kernel
theorem dX1_fill_0 : decode cX1_fill 0 = .ok (.aload_n 0, 1) := by decide +kernel
theorem dX1_fill_1 : decode cX1_fill 1 = .ok (.getfield 9, 3) := by decide +kernel
theorem dX1_fill_4 : decode cX1_fill 4 = .ok (.ifCond .eq 4, 3) := by decide +kernel
theorem dX1_fill_7 : decode cX1_fill 7 = .ok (.return_, 1) := by decide +kernel
theorem dX1_fill_8 : decode cX1_fill 8 = .ok (.aload_n 0, 1) := by decide +kernel
theorem dX1_fill_9 : decode cX1_fill 9 = .ok (.iconst 1, 1) := by decide +kernel
theorem dX1_fill_10 : decode cX1_fill 10 = .ok (.putfield 9, 3) := by decide +kernel
theorem dX1_fill_13 : decode cX1_fill 13 = .ok (.iconst 0, 1) := by decide +kernel
theorem dX1_fill_14 : decode cX1_fill 14 = .ok (.istore_n 2, 1) := by decide +kernel
theorem dX1_fill_15 : decode cX1_fill 15 = .ok (.iload_n 2, 1) := by decide +kernel
theorem dX1_fill_16 : decode cX1_fill 16 = .ok (.bipush 24, 2) := by decide +kernel
theorem dX1_fill_18 : decode cX1_fill 18 = .ok (.if_icmp .ge 16, 3) := by decide +kernel
theorem dX1_fill_21 : decode cX1_fill 21 = .ok (.aload_n 0, 1) := by decide +kernel
theorem dX1_fill_22 : decode cX1_fill 22 = .ok (.getfield 15, 3) := by decide +kernel
theorem dX1_fill_25 : decode cX1_fill 25 = .ok (.iload_n 2, 1) := by decide +kernel
theorem dX1_fill_26 : decode cX1_fill 26 = .ok (.iconst 0, 1) := by decide +kernel
theorem dX1_fill_27 : decode cX1_fill 27 = .ok (.iastore, 1) := by decide +kernel
theorem dX1_fill_28 : decode cX1_fill 28 = .ok (.iinc 2 1, 3) := by decide +kernel
theorem dX1_fill_31 : decode cX1_fill 31 = .ok (.goto (-16), 3) := by decide +kernel
theorem dX1_fill_34 : decode cX1_fill 34 = .ok (.aload_n 0, 1) := by decide +kernel
theorem dX1_fill_35 : decode cX1_fill 35 = .ok (.getfield 15, 3) := by decide +kernel
theorem dX1_fill_38 : decode cX1_fill 38 = .ok (.aload_n 1, 1) := by decide +kernel
theorem dX1_fill_39 : decode cX1_fill 39 = .ok (.getfield 19, 3) := by decide +kernel
theorem dX1_fill_42 : decode cX1_fill 42 = .ok (.iconst 0, 1) := by decide +kernel
theorem dX1_fill_43 : decode cX1_fill 43 = .ok (.iaload, 1) := by decide +kernel
theorem dX1_fill_44 : decode cX1_fill 44 = .ok (.aload_n 1, 1) := by decide +kernel
theorem dX1_fill_45 : decode cX1_fill 45 = .ok (.getfield 24, 3) := by decide +kernel
theorem dX1_fill_48 : decode cX1_fill 48 = .ok (.iastore, 1) := by decide +kernel
theorem dX1_fill_49 : decode cX1_fill 49 = .ok (.iconst 1, 1) := by decide +kernel
theorem dX1_fill_50 : decode cX1_fill 50 = .ok (.istore_n 2, 1) := by decide +kernel
theorem dX1_fill_51 : decode cX1_fill 51 = .ok (.iconst 0, 1) := by decide +kernel
theorem dX1_fill_52 : decode cX1_fill 52 = .ok (.istore_n 3, 1) := by decide +kernel
theorem dX1_fill_53 : decode cX1_fill 53 = .ok (.iload_n 2, 1) := by decide +kernel
theorem dX1_fill_54 : decode cX1_fill 54 = .ok (.ifCond .eq 46, 3) := by decide +kernel
theorem dX1_fill_57 : decode cX1_fill 57 = .ok (.iload_n 3, 1) := by decide +kernel
theorem dX1_fill_58 : decode cX1_fill 58 = .ok (.sipush 192, 3) := by decide +kernel
theorem dX1_fill_61 : decode cX1_fill 61 = .ok (.if_icmp .gt 39, 3) := by decide +kernel
theorem dX1_fill_64 : decode cX1_fill 64 = .ok (.iconst 0, 1) := by decide +kernel
theorem dX1_fill_65 : decode cX1_fill 65 = .ok (.istore_n 2, 1) := by decide +kernel
theorem dX1_fill_66 : decode cX1_fill 66 = .ok (.iconst 0, 1) := by decide +kernel
theorem dX1_fill_67 : decode cX1_fill 67 = .ok (.istore 4, 2) := by decide +kernel
theorem dX1_fill_69 : decode cX1_fill 69 = .ok (.iload 4, 2) := by decide +kernel
theorem dX1_fill_71 : decode cX1_fill 71 = .ok (.aload_n 1, 1) := by decide +kernel
theorem dX1_fill_72 : decode cX1_fill 72 = .ok (.getfield 28, 3) := by decide +kernel
theorem dX1_fill_75 : decode cX1_fill 75 = .ok (.if_icmp .ge 19, 3) := by decide +kernel
theorem dX1_fill_78 : decode cX1_fill 78 = .ok (.iload_n 2, 1) := by decide +kernel
theorem dX1_fill_79 : decode cX1_fill 79 = .ok (.aload_n 0, 1) := by decide +kernel
theorem dX1_fill_80 : decode cX1_fill 80 = .ok (.aload_n 1, 1) := by decide +kernel
theorem dX1_fill_81 : decode cX1_fill 81 = .ok (.iload 4, 2) := by decide +kernel
theorem dX1_fill_83 : decode cX1_fill 83 = .ok (.invokevirtual 31, 3) := by decide +kernel
theorem dX1_fill_86 : decode cX1_fill 86 = .ok (.ior, 1) := by decide +kernel
theorem dX1_fill_87 : decode cX1_fill 87 = .ok (.istore_n 2, 1) := by decide +kernel
theorem dX1_fill_88 : decode cX1_fill 88 = .ok (.iinc 4 1, 3) := by decide +kernel
theorem dX1_fill_91 : decode cX1_fill 91 = .ok (.goto (-22), 3) := by decide +kernel
theorem dX1_fill_94 : decode cX1_fill 94 = .ok (.iinc 3 1, 3) := by decide +kernel
theorem dX1_fill_97 : decode cX1_fill 97 = .ok (.goto (-44), 3) := by decide +kernel
theorem dX1_fill_100 : decode cX1_fill 100 = .ok (.return_, 1) := by decide +kernel
theorem dX1_stepAlong_0 : decode cX1_stepAlong 0 = .ok (.aload_n 1, 1) := by decide +kernel
theorem dX1_stepAlong_1 : decode cX1_stepAlong 1 = .ok (.getfield 35, 3) := by decide +kernel
theorem dX1_stepAlong_4 : decode cX1_stepAlong 4 = .ok (.iload_n 2, 1) := by decide +kernel
theorem dX1_stepAlong_5 : decode cX1_stepAlong 5 = .ok (.iaload, 1) := by decide +kernel
theorem dX1_stepAlong_6 : decode cX1_stepAlong 6 = .ok (.istore_n 3, 1) := by decide +kernel
theorem dX1_stepAlong_7 : decode cX1_stepAlong 7 = .ok (.aload_n 1, 1) := by decide +kernel
theorem dX1_stepAlong_8 : decode cX1_stepAlong 8 = .ok (.getfield 38, 3) := by decide +kernel
theorem dX1_stepAlong_11 : decode cX1_stepAlong 11 = .ok (.iload_n 2, 1) := by decide +kernel
theorem dX1_stepAlong_12 : decode cX1_stepAlong 12 = .ok (.iaload, 1) := by decide +kernel
theorem dX1_stepAlong_13 : decode cX1_stepAlong 13 = .ok (.istore 4, 2) := by decide +kernel
theorem dX1_stepAlong_15 : decode cX1_stepAlong 15 = .ok (.aload_n 1, 1) := by decide +kernel
theorem dX1_stepAlong_16 : decode cX1_stepAlong 16 = .ok (.getfield 41, 3) := by decide +kernel
theorem dX1_stepAlong_19 : decode cX1_stepAlong 19 = .ok (.iload_n 2, 1) := by decide +kernel
theorem dX1_stepAlong_20 : decode cX1_stepAlong 20 = .ok (.iaload, 1) := by decide +kernel
theorem dX1_stepAlong_21 : decode cX1_stepAlong 21 = .ok (.istore 5, 2) := by decide +kernel
theorem dX1_stepAlong_23 : decode cX1_stepAlong 23 = .ok (.aload_n 0, 1) := by decide +kernel
theorem dX1_stepAlong_24 : decode cX1_stepAlong 24 = .ok (.iload 4, 2) := by decide +kernel
theorem dX1_stepAlong_26 : decode cX1_stepAlong 26 = .ok (.aload_n 1, 1) := by decide +kernel
theorem dX1_stepAlong_27 : decode cX1_stepAlong 27 = .ok (.iload_n 2, 1) := by decide +kernel
theorem dX1_stepAlong_28 : decode cX1_stepAlong 28 = .ok (.iconst 0, 1) := by decide +kernel
theorem dX1_stepAlong_29 : decode cX1_stepAlong 29 = .ok (.aload_n 0, 1) := by decide +kernel
theorem dX1_stepAlong_30 : decode cX1_stepAlong 30 = .ok (.getfield 15, 3) := by decide +kernel
theorem dX1_stepAlong_33 : decode cX1_stepAlong 33 = .ok (.iload_n 3, 1) := by decide +kernel
theorem dX1_stepAlong_34 : decode cX1_stepAlong 34 = .ok (.iaload, 1) := by decide +kernel
theorem dX1_stepAlong_35 : decode cX1_stepAlong 35 = .ok (.invokevirtual 44, 3) := by decide +kernel
theorem dX1_stepAlong_38 : decode cX1_stepAlong 38 = .ok (.invokevirtual 48, 3) := by decide +kernel
theorem dX1_stepAlong_41 : decode cX1_stepAlong 41 = .ok (.istore 6, 2) := by decide +kernel
theorem dX1_stepAlong_43 : decode cX1_stepAlong 43 = .ok (.iload 5, 2) := by decide +kernel
theorem dX1_stepAlong_45 : decode cX1_stepAlong 45 = .ok (.iconst (-1), 1) := by decide +kernel
theorem dX1_stepAlong_46 : decode cX1_stepAlong 46 = .ok (.if_icmp .eq 60, 3) := by decide +kernel
theorem dX1_stepAlong_49 : decode cX1_stepAlong 49 = .ok (.iload 6, 2) := by decide +kernel
theorem dX1_stepAlong_51 : decode cX1_stepAlong 51 = .ok (.aload_n 0, 1) := by decide +kernel
theorem dX1_stepAlong_52 : decode cX1_stepAlong 52 = .ok (.aload_n 1, 1) := by decide +kernel
theorem dX1_stepAlong_53 : decode cX1_stepAlong 53 = .ok (.getfield 19, 3) := by decide +kernel
theorem dX1_stepAlong_56 : decode cX1_stepAlong 56 = .ok (.iload 5, 2) := by decide +kernel
theorem dX1_stepAlong_58 : decode cX1_stepAlong 58 = .ok (.iaload, 1) := by decide +kernel
theorem dX1_stepAlong_59 : decode cX1_stepAlong 59 = .ok (.aload_n 1, 1) := by decide +kernel
theorem dX1_stepAlong_60 : decode cX1_stepAlong 60 = .ok (.iload_n 2, 1) := by decide +kernel
theorem dX1_stepAlong_61 : decode cX1_stepAlong 61 = .ok (.iconst 1, 1) := by decide +kernel
theorem dX1_stepAlong_62 : decode cX1_stepAlong 62 = .ok (.aload_n 0, 1) := by decide +kernel
theorem dX1_stepAlong_63 : decode cX1_stepAlong 63 = .ok (.getfield 15, 3) := by decide +kernel
theorem dX1_stepAlong_66 : decode cX1_stepAlong 66 = .ok (.iload_n 3, 1) := by decide +kernel
theorem dX1_stepAlong_67 : decode cX1_stepAlong 67 = .ok (.iaload, 1) := by decide +kernel
theorem dX1_stepAlong_68 : decode cX1_stepAlong 68 = .ok (.invokevirtual 44, 3) := by decide +kernel
theorem dX1_stepAlong_71 : decode cX1_stepAlong 71 = .ok (.invokevirtual 48, 3) := by decide +kernel
theorem dX1_stepAlong_74 : decode cX1_stepAlong 74 = .ok (.ior, 1) := by decide +kernel
theorem dX1_stepAlong_75 : decode cX1_stepAlong 75 = .ok (.istore 6, 2) := by decide +kernel
theorem dX1_stepAlong_77 : decode cX1_stepAlong 77 = .ok (.iload 6, 2) := by decide +kernel
theorem dX1_stepAlong_79 : decode cX1_stepAlong 79 = .ok (.aload_n 0, 1) := by decide +kernel
theorem dX1_stepAlong_80 : decode cX1_stepAlong 80 = .ok (.iload 4, 2) := by decide +kernel
theorem dX1_stepAlong_82 : decode cX1_stepAlong 82 = .ok (.aload_n 1, 1) := by decide +kernel
theorem dX1_stepAlong_83 : decode cX1_stepAlong 83 = .ok (.iload_n 2, 1) := by decide +kernel
theorem dX1_stepAlong_84 : decode cX1_stepAlong 84 = .ok (.iconst 2, 1) := by decide +kernel
theorem dX1_stepAlong_85 : decode cX1_stepAlong 85 = .ok (.aload_n 0, 1) := by decide +kernel
theorem dX1_stepAlong_86 : decode cX1_stepAlong 86 = .ok (.getfield 15, 3) := by decide +kernel
theorem dX1_stepAlong_89 : decode cX1_stepAlong 89 = .ok (.aload_n 1, 1) := by decide +kernel
theorem dX1_stepAlong_90 : decode cX1_stepAlong 90 = .ok (.getfield 52, 3) := by decide +kernel
theorem dX1_stepAlong_93 : decode cX1_stepAlong 93 = .ok (.iload 5, 2) := by decide +kernel
theorem dX1_stepAlong_95 : decode cX1_stepAlong 95 = .ok (.iaload, 1) := by decide +kernel
theorem dX1_stepAlong_96 : decode cX1_stepAlong 96 = .ok (.iaload, 1) := by decide +kernel
theorem dX1_stepAlong_97 : decode cX1_stepAlong 97 = .ok (.invokevirtual 44, 3) := by decide +kernel
theorem dX1_stepAlong_100 : decode cX1_stepAlong 100 = .ok (.invokevirtual 48, 3) := by decide +kernel
theorem dX1_stepAlong_103 : decode cX1_stepAlong 103 = .ok (.ior, 1) := by decide +kernel
theorem dX1_stepAlong_104 : decode cX1_stepAlong 104 = .ok (.istore 6, 2) := by decide +kernel
theorem dX1_stepAlong_106 : decode cX1_stepAlong 106 = .ok (.iload 6, 2) := by decide +kernel
theorem dX1_stepAlong_108 : decode cX1_stepAlong 108 = .ok (.ireturn, 1) := by decide +kernel
theorem dX1_addTo_0 : decode cX1_addTo 0 = .ok (.aload_n 0, 1) := by decide +kernel
theorem dX1_addTo_1 : decode cX1_addTo 1 = .ok (.getfield 15, 3) := by decide +kernel
theorem dX1_addTo_4 : decode cX1_addTo 4 = .ok (.iload_n 1, 1) := by decide +kernel
theorem dX1_addTo_5 : decode cX1_addTo 5 = .ok (.iaload, 1) := by decide +kernel
theorem dX1_addTo_6 : decode cX1_addTo 6 = .ok (.istore_n 3, 1) := by decide +kernel
theorem dX1_addTo_7 : decode cX1_addTo 7 = .ok (.aload_n 0, 1) := by decide +kernel
theorem dX1_addTo_8 : decode cX1_addTo 8 = .ok (.getfield 15, 3) := by decide +kernel
theorem dX1_addTo_11 : decode cX1_addTo 11 = .ok (.iload_n 1, 1) := by decide +kernel
theorem dX1_addTo_12 : decode cX1_addTo 12 = .ok (.iload_n 3, 1) := by decide +kernel
theorem dX1_addTo_13 : decode cX1_addTo 13 = .ok (.iload_n 2, 1) := by decide +kernel
theorem dX1_addTo_14 : decode cX1_addTo 14 = .ok (.ior, 1) := by decide +kernel
theorem dX1_addTo_15 : decode cX1_addTo 15 = .ok (.iastore, 1) := by decide +kernel
theorem dX1_addTo_16 : decode cX1_addTo 16 = .ok (.aload_n 0, 1) := by decide +kernel
theorem dX1_addTo_17 : decode cX1_addTo 17 = .ok (.getfield 15, 3) := by decide +kernel
theorem dX1_addTo_20 : decode cX1_addTo 20 = .ok (.iload_n 1, 1) := by decide +kernel
theorem dX1_addTo_21 : decode cX1_addTo 21 = .ok (.iaload, 1) := by decide +kernel
theorem dX1_addTo_22 : decode cX1_addTo 22 = .ok (.iload_n 3, 1) := by decide +kernel
theorem dX1_addTo_23 : decode cX1_addTo 23 = .ok (.if_icmp .eq 7, 3) := by decide +kernel
theorem dX1_addTo_26 : decode cX1_addTo 26 = .ok (.iconst 1, 1) := by decide +kernel
theorem dX1_addTo_27 : decode cX1_addTo 27 = .ok (.goto 4, 3) := by decide +kernel
theorem dX1_addTo_30 : decode cX1_addTo 30 = .ok (.iconst 0, 1) := by decide +kernel
theorem dX1_addTo_31 : decode cX1_addTo 31 = .ok (.ireturn, 1) := by decide +kernel
theorem dX2_init_0 : decode cX2_init 0 = .ok (.aload_n 0, 1) := by decide +kernel
theorem dX2_init_1 : decode cX2_init 1 = .ok (.invokespecial 5, 3) := by decide +kernel
theorem dX2_init_4 : decode cX2_init 4 = .ok (.aload_n 0, 1) := by decide +kernel
theorem dX2_init_5 : decode cX2_init 5 = .ok (.iconst 0, 1) := by decide +kernel
theorem dX2_init_6 : decode cX2_init 6 = .ok (.putfield 11, 3) := by decide +kernel
theorem dX2_init_9 : decode cX2_init 9 = .ok (.aload_n 0, 1) := by decide +kernel
theorem dX2_init_10 : decode cX2_init 10 = .ok (.iconst 0, 1) := by decide +kernel
theorem dX2_init_11 : decode cX2_init 11 = .ok (.putfield 15, 3) := by decide +kernel
theorem dX2_init_14 : decode cX2_init 14 = .ok (.aload_n 0, 1) := by decide +kernel
theorem dX2_init_15 : decode cX2_init 15 = .ok (.iconst 0, 1) := by decide +kernel
theorem dX2_init_16 : decode cX2_init 16 = .ok (.putfield 19, 3) := by decide +kernel
theorem dX2_init_19 : decode cX2_init 19 = .ok (.aload_n 0, 1) := by decide +kernel
theorem dX2_init_20 : decode cX2_init 20 = .ok (.iconst 0, 1) := by decide +kernel
theorem dX2_init_21 : decode cX2_init 21 = .ok (.putfield 22, 3) := by decide +kernel
theorem dX2_init_24 : decode cX2_init 24 = .ok (.aload_n 0, 1) := by decide +kernel
theorem dX2_init_25 : decode cX2_init 25 = .ok (.sipush 192, 3) := by decide +kernel
theorem dX2_init_28 : decode cX2_init 28 = .ok (.newarray .int, 2) := by decide +kernel
theorem dX2_init_30 : decode cX2_init 30 = .ok (.putfield 25, 3) := by decide +kernel
theorem dX2_init_33 : decode cX2_init 33 = .ok (.aload_n 0, 1) := by decide +kernel
theorem dX2_init_34 : decode cX2_init 34 = .ok (.sipush 1536, 3) := by decide +kernel
theorem dX2_init_37 : decode cX2_init 37 = .ok (.newarray .int, 2) := by decide +kernel
theorem dX2_init_39 : decode cX2_init 39 = .ok (.putfield 29, 3) := by decide +kernel
theorem dX2_init_42 : decode cX2_init 42 = .ok (.aload_n 0, 1) := by decide +kernel
theorem dX2_init_43 : decode cX2_init 43 = .ok (.sipush 1536, 3) := by decide +kernel
theorem dX2_init_46 : decode cX2_init 46 = .ok (.newarray .int, 2) := by decide +kernel
theorem dX2_init_48 : decode cX2_init 48 = .ok (.putfield 32, 3) := by decide +kernel
theorem dX2_init_51 : decode cX2_init 51 = .ok (.aload_n 0, 1) := by decide +kernel
theorem dX2_init_52 : decode cX2_init 52 = .ok (.sipush 1536, 3) := by decide +kernel
theorem dX2_init_55 : decode cX2_init 55 = .ok (.newarray .int, 2) := by decide +kernel
theorem dX2_init_57 : decode cX2_init 57 = .ok (.putfield 35, 3) := by decide +kernel
theorem dX2_init_60 : decode cX2_init 60 = .ok (.aload_n 0, 1) := by decide +kernel
theorem dX2_init_61 : decode cX2_init 61 = .ok (.sipush 1536, 3) := by decide +kernel
theorem dX2_init_64 : decode cX2_init 64 = .ok (.newarray .int, 2) := by decide +kernel
theorem dX2_init_66 : decode cX2_init 66 = .ok (.putfield 38, 3) := by decide +kernel
theorem dX2_init_69 : decode cX2_init 69 = .ok (.aload_n 0, 1) := by decide +kernel
theorem dX2_init_70 : decode cX2_init 70 = .ok (.sipush 1536, 3) := by decide +kernel
theorem dX2_init_73 : decode cX2_init 73 = .ok (.newarray .int, 2) := by decide +kernel
theorem dX2_init_75 : decode cX2_init 75 = .ok (.putfield 41, 3) := by decide +kernel
theorem dX2_init_78 : decode cX2_init 78 = .ok (.aload_n 0, 1) := by decide +kernel
theorem dX2_init_79 : decode cX2_init 79 = .ok (.sipush 1536, 3) := by decide +kernel
theorem dX2_init_82 : decode cX2_init 82 = .ok (.newarray .int, 2) := by decide +kernel
theorem dX2_init_84 : decode cX2_init 84 = .ok (.putfield 44, 3) := by decide +kernel
theorem dX2_init_87 : decode cX2_init 87 = .ok (.aload_n 0, 1) := by decide +kernel
theorem dX2_init_88 : decode cX2_init 88 = .ok (.sipush 2048, 3) := by decide +kernel
theorem dX2_init_91 : decode cX2_init 91 = .ok (.newarray .int, 2) := by decide +kernel
theorem dX2_init_93 : decode cX2_init 93 = .ok (.putfield 47, 3) := by decide +kernel
theorem dX2_init_96 : decode cX2_init 96 = .ok (.aload_n 0, 1) := by decide +kernel
theorem dX2_init_97 : decode cX2_init 97 = .ok (.iconst 0, 1) := by decide +kernel
theorem dX2_init_98 : decode cX2_init 98 = .ok (.putfield 50, 3) := by decide +kernel
theorem dX2_init_101 : decode cX2_init 101 = .ok (.return_, 1) := by decide +kernel
theorem dX2_fill_0 : decode cX2_fill 0 = .ok (.aload_n 0, 1) := by decide +kernel
theorem dX2_fill_1 : decode cX2_fill 1 = .ok (.getfield 11, 3) := by decide +kernel
theorem dX2_fill_4 : decode cX2_fill 4 = .ok (.ifCond .eq 20, 3) := by decide +kernel
theorem dX2_fill_7 : decode cX2_fill 7 = .ok (.aload_n 0, 1) := by decide +kernel
theorem dX2_fill_8 : decode cX2_fill 8 = .ok (.getfield 15, 3) := by decide +kernel
theorem dX2_fill_11 : decode cX2_fill 11 = .ok (.iload_n 2, 1) := by decide +kernel
theorem dX2_fill_12 : decode cX2_fill 12 = .ok (.if_icmp .ne 12, 3) := by decide +kernel
theorem dX2_fill_15 : decode cX2_fill 15 = .ok (.aload_n 0, 1) := by decide +kernel
theorem dX2_fill_16 : decode cX2_fill 16 = .ok (.getfield 19, 3) := by decide +kernel
theorem dX2_fill_19 : decode cX2_fill 19 = .ok (.iload_n 3, 1) := by decide +kernel
theorem dX2_fill_20 : decode cX2_fill 20 = .ok (.if_icmp .ne 4, 3) := by decide +kernel
theorem dX2_fill_23 : decode cX2_fill 23 = .ok (.return_, 1) := by decide +kernel
theorem dX2_fill_24 : decode cX2_fill 24 = .ok (.aload_n 0, 1) := by decide +kernel
theorem dX2_fill_25 : decode cX2_fill 25 = .ok (.iconst 1, 1) := by decide +kernel
theorem dX2_fill_26 : decode cX2_fill 26 = .ok (.putfield 11, 3) := by decide +kernel
theorem dX2_fill_29 : decode cX2_fill 29 = .ok (.aload_n 0, 1) := by decide +kernel
theorem dX2_fill_30 : decode cX2_fill 30 = .ok (.iload_n 2, 1) := by decide +kernel
theorem dX2_fill_31 : decode cX2_fill 31 = .ok (.putfield 15, 3) := by decide +kernel
theorem dX2_fill_34 : decode cX2_fill 34 = .ok (.aload_n 0, 1) := by decide +kernel
theorem dX2_fill_35 : decode cX2_fill 35 = .ok (.iload_n 3, 1) := by decide +kernel
theorem dX2_fill_36 : decode cX2_fill 36 = .ok (.putfield 19, 3) := by decide +kernel
theorem dX2_fill_39 : decode cX2_fill 39 = .ok (.aload_n 0, 1) := by decide +kernel
theorem dX2_fill_40 : decode cX2_fill 40 = .ok (.iconst 0, 1) := by decide +kernel
theorem dX2_fill_41 : decode cX2_fill 41 = .ok (.putfield 22, 3) := by decide +kernel
theorem dX2_fill_44 : decode cX2_fill 44 = .ok (.aload_n 0, 1) := by decide +kernel
theorem dX2_fill_45 : decode cX2_fill 45 = .ok (.iconst 0, 1) := by decide +kernel
theorem dX2_fill_46 : decode cX2_fill 46 = .ok (.putfield 50, 3) := by decide +kernel
theorem dX2_fill_49 : decode cX2_fill 49 = .ok (.iconst 0, 1) := by decide +kernel
theorem dX2_fill_50 : decode cX2_fill 50 = .ok (.istore 4, 2) := by decide +kernel
theorem dX2_fill_52 : decode cX2_fill 52 = .ok (.iload 4, 2) := by decide +kernel
theorem dX2_fill_54 : decode cX2_fill 54 = .ok (.sipush 192, 3) := by decide +kernel
theorem dX2_fill_57 : decode cX2_fill 57 = .ok (.if_icmp .ge 17, 3) := by decide +kernel
theorem dX2_fill_60 : decode cX2_fill 60 = .ok (.aload_n 0, 1) := by decide +kernel
theorem dX2_fill_61 : decode cX2_fill 61 = .ok (.getfield 25, 3) := by decide +kernel
theorem dX2_fill_64 : decode cX2_fill 64 = .ok (.iload 4, 2) := by decide +kernel
theorem dX2_fill_66 : decode cX2_fill 66 = .ok (.iconst 0, 1) := by decide +kernel
theorem dX2_fill_67 : decode cX2_fill 67 = .ok (.iastore, 1) := by decide +kernel
theorem dX2_fill_68 : decode cX2_fill 68 = .ok (.iinc 4 1, 3) := by decide +kernel
theorem dX2_fill_71 : decode cX2_fill 71 = .ok (.goto (-19), 3) := by decide +kernel
theorem dX2_fill_74 : decode cX2_fill 74 = .ok (.iconst 0, 1) := by decide +kernel
theorem dX2_fill_75 : decode cX2_fill 75 = .ok (.istore 4, 2) := by decide +kernel
theorem dX2_fill_77 : decode cX2_fill 77 = .ok (.iload 4, 2) := by decide +kernel
theorem dX2_fill_79 : decode cX2_fill 79 = .ok (.bipush 8, 2) := by decide +kernel
theorem dX2_fill_81 : decode cX2_fill 81 = .ok (.if_icmp .ge 40, 3) := by decide +kernel
theorem dX2_fill_84 : decode cX2_fill 84 = .ok (.iload_n 3, 1) := by decide +kernel
theorem dX2_fill_85 : decode cX2_fill 85 = .ok (.iload 4, 2) := by decide +kernel
theorem dX2_fill_87 : decode cX2_fill 87 = .ok (.invokestatic 53, 3) := by decide +kernel
theorem dX2_fill_90 : decode cX2_fill 90 = .ok (.ifCond .eq 25, 3) := by decide +kernel
theorem dX2_fill_93 : decode cX2_fill 93 = .ok (.aload_n 0, 1) := by decide +kernel
theorem dX2_fill_94 : decode cX2_fill 94 = .ok (.aload_n 1, 1) := by decide +kernel
theorem dX2_fill_95 : decode cX2_fill 95 = .ok (.aload_n 1, 1) := by decide +kernel
theorem dX2_fill_96 : decode cX2_fill 96 = .ok (.getfield 57, 3) := by decide +kernel
theorem dX2_fill_99 : decode cX2_fill 99 = .ok (.iload_n 2, 1) := by decide +kernel
theorem dX2_fill_100 : decode cX2_fill 100 = .ok (.iaload, 1) := by decide +kernel
theorem dX2_fill_101 : decode cX2_fill 101 = .ok (.iload 4, 2) := by decide +kernel
theorem dX2_fill_103 : decode cX2_fill 103 = .ok (.invokestatic 62, 3) := by decide +kernel
theorem dX2_fill_106 : decode cX2_fill 106 = .ok (.iconst 1, 1) := by decide +kernel
theorem dX2_fill_107 : decode cX2_fill 107 = .ok (.iload 4, 2) := by decide +kernel
theorem dX2_fill_109 : decode cX2_fill 109 = .ok (.ishl, 1) := by decide +kernel
theorem dX2_fill_110 : decode cX2_fill 110 = .ok (.iconst (-1), 1) := by decide +kernel
theorem dX2_fill_111 : decode cX2_fill 111 = .ok (.iconst (-1), 1) := by decide +kernel
theorem dX2_fill_112 : decode cX2_fill 112 = .ok (.invokevirtual 66, 3) := by decide +kernel
theorem dX2_fill_115 : decode cX2_fill 115 = .ok (.iinc 4 1, 3) := by decide +kernel
theorem dX2_fill_118 : decode cX2_fill 118 = .ok (.goto (-41), 3) := by decide +kernel
theorem dX2_fill_121 : decode cX2_fill 121 = .ok (.iconst 0, 1) := by decide +kernel
theorem dX2_fill_122 : decode cX2_fill 122 = .ok (.istore 4, 2) := by decide +kernel
theorem dX2_fill_124 : decode cX2_fill 124 = .ok (.iload 4, 2) := by decide +kernel
theorem dX2_fill_126 : decode cX2_fill 126 = .ok (.aload_n 0, 1) := by decide +kernel
theorem dX2_fill_127 : decode cX2_fill 127 = .ok (.getfield 22, 3) := by decide +kernel
theorem dX2_fill_130 : decode cX2_fill 130 = .ok (.if_icmp .ge 24, 3) := by decide +kernel
theorem dX2_fill_133 : decode cX2_fill 133 = .ok (.iload 4, 2) := by decide +kernel
theorem dX2_fill_135 : decode cX2_fill 135 = .ok (.sipush 1536, 3) := by decide +kernel
theorem dX2_fill_138 : decode cX2_fill 138 = .ok (.if_icmp .ge 16, 3) := by decide +kernel
theorem dX2_fill_141 : decode cX2_fill 141 = .ok (.aload_n 0, 1) := by decide +kernel
theorem dX2_fill_142 : decode cX2_fill 142 = .ok (.aload_n 1, 1) := by decide +kernel
theorem dX2_fill_143 : decode cX2_fill 143 = .ok (.iload 4, 2) := by decide +kernel
theorem dX2_fill_145 : decode cX2_fill 145 = .ok (.invokevirtual 70, 3) := by decide +kernel
theorem dX2_fill_148 : decode cX2_fill 148 = .ok (.iinc 4 1, 3) := by decide +kernel
theorem dX2_fill_151 : decode cX2_fill 151 = .ok (.goto (-27), 3) := by decide +kernel
theorem dX2_fill_154 : decode cX2_fill 154 = .ok (.return_, 1) := by decide +kernel
theorem dX2_factsAt_0 : decode cX2_factsAt 0 = .ok (.iconst 0, 1) := by decide +kernel
theorem dX2_factsAt_1 : decode cX2_factsAt 1 = .ok (.istore_n 2, 1) := by decide +kernel
theorem dX2_factsAt_2 : decode cX2_factsAt 2 = .ok (.iconst 0, 1) := by decide +kernel
theorem dX2_factsAt_3 : decode cX2_factsAt 3 = .ok (.istore_n 3, 1) := by decide +kernel
theorem dX2_factsAt_4 : decode cX2_factsAt 4 = .ok (.iload_n 3, 1) := by decide +kernel
theorem dX2_factsAt_5 : decode cX2_factsAt 5 = .ok (.bipush 8, 2) := by decide +kernel
theorem dX2_factsAt_7 : decode cX2_factsAt 7 = .ok (.if_icmp .ge 22, 3) := by decide +kernel
theorem dX2_factsAt_10 : decode cX2_factsAt 10 = .ok (.iload_n 2, 1) := by decide +kernel
theorem dX2_factsAt_11 : decode cX2_factsAt 11 = .ok (.aload_n 0, 1) := by decide +kernel
theorem dX2_factsAt_12 : decode cX2_factsAt 12 = .ok (.getfield 25, 3) := by decide +kernel
theorem dX2_factsAt_15 : decode cX2_factsAt 15 = .ok (.iload_n 1, 1) := by decide +kernel
theorem dX2_factsAt_16 : decode cX2_factsAt 16 = .ok (.iload_n 3, 1) := by decide +kernel
theorem dX2_factsAt_17 : decode cX2_factsAt 17 = .ok (.invokestatic 62, 3) := by decide +kernel
theorem dX2_factsAt_20 : decode cX2_factsAt 20 = .ok (.iaload, 1) := by decide +kernel
theorem dX2_factsAt_21 : decode cX2_factsAt 21 = .ok (.ior, 1) := by decide +kernel
theorem dX2_factsAt_22 : decode cX2_factsAt 22 = .ok (.istore_n 2, 1) := by decide +kernel
theorem dX2_factsAt_23 : decode cX2_factsAt 23 = .ok (.iinc 3 1, 3) := by decide +kernel
theorem dX2_factsAt_26 : decode cX2_factsAt 26 = .ok (.goto (-22), 3) := by decide +kernel
theorem dX2_factsAt_29 : decode cX2_factsAt 29 = .ok (.iload_n 2, 1) := by decide +kernel
theorem dX2_factsAt_30 : decode cX2_factsAt 30 = .ok (.ireturn, 1) := by decide +kernel
theorem dX2_nodeOf_0 : decode cX2_nodeOf 0 = .ok (.aload_n 0, 1) := by decide +kernel
theorem dX2_nodeOf_1 : decode cX2_nodeOf 1 = .ok (.getfield 29, 3) := by decide +kernel
theorem dX2_nodeOf_4 : decode cX2_nodeOf 4 = .ok (.iload_n 1, 1) := by decide +kernel
theorem dX2_nodeOf_5 : decode cX2_nodeOf 5 = .ok (.iaload, 1) := by decide +kernel
theorem dX2_nodeOf_6 : decode cX2_nodeOf 6 = .ok (.bipush 64, 2) := by decide +kernel
theorem dX2_nodeOf_8 : decode cX2_nodeOf 8 = .ok (.idiv, 1) := by decide +kernel
theorem dX2_nodeOf_9 : decode cX2_nodeOf 9 = .ok (.ireturn, 1) := by decide +kernel
theorem dX2_factAtEntry_0 : decode cX2_factAtEntry 0 = .ok (.aload_n 0, 1) := by decide +kernel
theorem dX2_factAtEntry_1 : decode cX2_factAtEntry 1 = .ok (.getfield 29, 3) := by decide +kernel
theorem dX2_factAtEntry_4 : decode cX2_factAtEntry 4 = .ok (.iload_n 1, 1) := by decide +kernel
theorem dX2_factAtEntry_5 : decode cX2_factAtEntry 5 = .ok (.iaload, 1) := by decide +kernel
theorem dX2_factAtEntry_6 : decode cX2_factAtEntry 6 = .ok (.bipush 8, 2) := by decide +kernel
theorem dX2_factAtEntry_8 : decode cX2_factAtEntry 8 = .ok (.idiv, 1) := by decide +kernel
theorem dX2_factAtEntry_9 : decode cX2_factAtEntry 9 = .ok (.bipush 8, 2) := by decide +kernel
theorem dX2_factAtEntry_11 : decode cX2_factAtEntry 11 = .ok (.irem, 1) := by decide +kernel
theorem dX2_factAtEntry_12 : decode cX2_factAtEntry 12 = .ok (.ireturn, 1) := by decide +kernel
theorem dX2_factOf_0 : decode cX2_factOf 0 = .ok (.aload_n 0, 1) := by decide +kernel
theorem dX2_factOf_1 : decode cX2_factOf 1 = .ok (.getfield 29, 3) := by decide +kernel
theorem dX2_factOf_4 : decode cX2_factOf 4 = .ok (.iload_n 1, 1) := by decide +kernel
theorem dX2_factOf_5 : decode cX2_factOf 5 = .ok (.iaload, 1) := by decide +kernel
theorem dX2_factOf_6 : decode cX2_factOf 6 = .ok (.bipush 8, 2) := by decide +kernel
theorem dX2_factOf_8 : decode cX2_factOf 8 = .ok (.irem, 1) := by decide +kernel
theorem dX2_factOf_9 : decode cX2_factOf 9 = .ok (.ireturn, 1) := by decide +kernel
theorem dX2_firstWith_0 : decode cX2_firstWith 0 = .ok (.iconst (-1), 1) := by decide +kernel
theorem dX2_firstWith_1 : decode cX2_firstWith 1 = .ok (.istore_n 3, 1) := by decide +kernel
theorem dX2_firstWith_2 : decode cX2_firstWith 2 = .ok (.iconst 0, 1) := by decide +kernel
theorem dX2_firstWith_3 : decode cX2_firstWith 3 = .ok (.istore 4, 2) := by decide +kernel
theorem dX2_firstWith_5 : decode cX2_firstWith 5 = .ok (.iload 4, 2) := by decide +kernel
theorem dX2_firstWith_7 : decode cX2_firstWith 7 = .ok (.bipush 8, 2) := by decide +kernel
theorem dX2_firstWith_9 : decode cX2_firstWith 9 = .ok (.if_icmp .ge 62, 3) := by decide +kernel
theorem dX2_firstWith_12 : decode cX2_firstWith 12 = .ok (.aload_n 0, 1) := by decide +kernel
theorem dX2_firstWith_13 : decode cX2_firstWith 13 = .ok (.getfield 25, 3) := by decide +kernel
theorem dX2_firstWith_16 : decode cX2_firstWith 16 = .ok (.iload_n 1, 1) := by decide +kernel
theorem dX2_firstWith_17 : decode cX2_firstWith 17 = .ok (.iload 4, 2) := by decide +kernel
theorem dX2_firstWith_19 : decode cX2_firstWith 19 = .ok (.invokestatic 62, 3) := by decide +kernel
theorem dX2_firstWith_22 : decode cX2_firstWith 22 = .ok (.iaload, 1) := by decide +kernel
theorem dX2_firstWith_23 : decode cX2_firstWith 23 = .ok (.iload_n 2, 1) := by decide +kernel
theorem dX2_firstWith_24 : decode cX2_firstWith 24 = .ok (.invokestatic 53, 3) := by decide +kernel
theorem dX2_firstWith_27 : decode cX2_firstWith 27 = .ok (.ifCond .eq 38, 3) := by decide +kernel
theorem dX2_firstWith_30 : decode cX2_firstWith 30 = .ok (.aload_n 0, 1) := by decide +kernel
theorem dX2_firstWith_31 : decode cX2_firstWith 31 = .ok (.getfield 32, 3) := by decide +kernel
theorem dX2_firstWith_34 : decode cX2_firstWith 34 = .ok (.iload_n 1, 1) := by decide +kernel
theorem dX2_firstWith_35 : decode cX2_firstWith 35 = .ok (.iload 4, 2) := by decide +kernel
theorem dX2_firstWith_37 : decode cX2_firstWith 37 = .ok (.invokestatic 62, 3) := by decide +kernel
theorem dX2_firstWith_40 : decode cX2_firstWith 40 = .ok (.bipush 8, 2) := by decide +kernel
theorem dX2_firstWith_42 : decode cX2_firstWith 42 = .ok (.imul, 1) := by decide +kernel
theorem dX2_firstWith_43 : decode cX2_firstWith 43 = .ok (.iload_n 2, 1) := by decide +kernel
theorem dX2_firstWith_44 : decode cX2_firstWith 44 = .ok (.iadd, 1) := by decide +kernel
theorem dX2_firstWith_45 : decode cX2_firstWith 45 = .ok (.iaload, 1) := by decide +kernel
theorem dX2_firstWith_46 : decode cX2_firstWith 46 = .ok (.istore 5, 2) := by decide +kernel
theorem dX2_firstWith_48 : decode cX2_firstWith 48 = .ok (.iload_n 3, 1) := by decide +kernel
theorem dX2_firstWith_49 : decode cX2_firstWith 49 = .ok (.iconst (-1), 1) := by decide +kernel
theorem dX2_firstWith_50 : decode cX2_firstWith 50 = .ok (.if_icmp .ne 8, 3) := by decide +kernel
theorem dX2_firstWith_53 : decode cX2_firstWith 53 = .ok (.iload 5, 2) := by decide +kernel
theorem dX2_firstWith_55 : decode cX2_firstWith 55 = .ok (.goto 9, 3) := by decide +kernel
theorem dX2_firstWith_58 : decode cX2_firstWith 58 = .ok (.iload_n 3, 1) := by decide +kernel
theorem dX2_firstWith_59 : decode cX2_firstWith 59 = .ok (.iload 5, 2) := by decide +kernel
theorem dX2_firstWith_61 : decode cX2_firstWith 61 = .ok (.invokestatic 74, 3) := by decide +kernel
theorem dX2_firstWith_64 : decode cX2_firstWith 64 = .ok (.istore_n 3, 1) := by decide +kernel
theorem dX2_firstWith_65 : decode cX2_firstWith 65 = .ok (.iinc 4 1, 3) := by decide +kernel
theorem dX2_firstWith_68 : decode cX2_firstWith 68 = .ok (.goto (-63), 3) := by decide +kernel
theorem dX2_firstWith_71 : decode cX2_firstWith 71 = .ok (.iload_n 3, 1) := by decide +kernel
theorem dX2_firstWith_72 : decode cX2_firstWith 72 = .ok (.ireturn, 1) := by decide +kernel
theorem dX2_pairOfWay_0 : decode cX2_pairOfWay 0 = .ok (.iload_n 1, 1) := by decide +kernel
theorem dX2_pairOfWay_1 : decode cX2_pairOfWay 1 = .ok (.istore_n 3, 1) := by decide +kernel
theorem dX2_pairOfWay_2 : decode cX2_pairOfWay 2 = .ok (.iload_n 2, 1) := by decide +kernel
theorem dX2_pairOfWay_3 : decode cX2_pairOfWay 3 = .ok (.istore 4, 2) := by decide +kernel
theorem dX2_pairOfWay_5 : decode cX2_pairOfWay 5 = .ok (.aload_n 0, 1) := by decide +kernel
theorem dX2_pairOfWay_6 : decode cX2_pairOfWay 6 = .ok (.getfield 41, 3) := by decide +kernel
theorem dX2_pairOfWay_9 : decode cX2_pairOfWay 9 = .ok (.astore 5, 2) := by decide +kernel
theorem dX2_pairOfWay_11 : decode cX2_pairOfWay 11 = .ok (.iconst 0, 1) := by decide +kernel
theorem dX2_pairOfWay_12 : decode cX2_pairOfWay 12 = .ok (.istore 6, 2) := by decide +kernel
theorem dX2_pairOfWay_14 : decode cX2_pairOfWay 14 = .ok (.iload 6, 2) := by decide +kernel
theorem dX2_pairOfWay_16 : decode cX2_pairOfWay 16 = .ok (.sipush 1536, 3) := by decide +kernel
theorem dX2_pairOfWay_19 : decode cX2_pairOfWay 19 = .ok (.if_icmp .ge 100, 3) := by decide +kernel
theorem dX2_pairOfWay_22 : decode cX2_pairOfWay 22 = .ok (.aload 5, 2) := by decide +kernel
theorem dX2_pairOfWay_24 : decode cX2_pairOfWay 24 = .ok (.iload_n 3, 1) := by decide +kernel
theorem dX2_pairOfWay_25 : decode cX2_pairOfWay 25 = .ok (.iaload, 1) := by decide +kernel
theorem dX2_pairOfWay_26 : decode cX2_pairOfWay 26 = .ok (.iconst 1, 1) := by decide +kernel
theorem dX2_pairOfWay_27 : decode cX2_pairOfWay 27 = .ok (.if_icmp .le 92, 3) := by decide +kernel
theorem dX2_pairOfWay_30 : decode cX2_pairOfWay 30 = .ok (.aload_n 0, 1) := by decide +kernel
theorem dX2_pairOfWay_31 : decode cX2_pairOfWay 31 = .ok (.getfield 35, 3) := by decide +kernel
theorem dX2_pairOfWay_34 : decode cX2_pairOfWay 34 = .ok (.iload_n 3, 1) := by decide +kernel
theorem dX2_pairOfWay_35 : decode cX2_pairOfWay 35 = .ok (.iaload, 1) := by decide +kernel
theorem dX2_pairOfWay_36 : decode cX2_pairOfWay 36 = .ok (.iconst (-1), 1) := by decide +kernel
theorem dX2_pairOfWay_37 : decode cX2_pairOfWay 37 = .ok (.if_icmp .eq 82, 3) := by decide +kernel
theorem dX2_pairOfWay_40 : decode cX2_pairOfWay 40 = .ok (.aload 5, 2) := by decide +kernel
theorem dX2_pairOfWay_42 : decode cX2_pairOfWay 42 = .ok (.aload_n 0, 1) := by decide +kernel
theorem dX2_pairOfWay_43 : decode cX2_pairOfWay 43 = .ok (.getfield 35, 3) := by decide +kernel
theorem dX2_pairOfWay_46 : decode cX2_pairOfWay 46 = .ok (.iload_n 3, 1) := by decide +kernel
theorem dX2_pairOfWay_47 : decode cX2_pairOfWay 47 = .ok (.iaload, 1) := by decide +kernel
theorem dX2_pairOfWay_48 : decode cX2_pairOfWay 48 = .ok (.iaload, 1) := by decide +kernel
theorem dX2_pairOfWay_49 : decode cX2_pairOfWay 49 = .ok (.istore 7, 2) := by decide +kernel
theorem dX2_pairOfWay_51 : decode cX2_pairOfWay 51 = .ok (.aload_n 0, 1) := by decide +kernel
theorem dX2_pairOfWay_52 : decode cX2_pairOfWay 52 = .ok (.getfield 38, 3) := by decide +kernel
theorem dX2_pairOfWay_55 : decode cX2_pairOfWay 55 = .ok (.iload_n 3, 1) := by decide +kernel
theorem dX2_pairOfWay_56 : decode cX2_pairOfWay 56 = .ok (.iaload, 1) := by decide +kernel
theorem dX2_pairOfWay_57 : decode cX2_pairOfWay 57 = .ok (.istore 8, 2) := by decide +kernel
theorem dX2_pairOfWay_59 : decode cX2_pairOfWay 59 = .ok (.iload 4, 2) := by decide +kernel
theorem dX2_pairOfWay_61 : decode cX2_pairOfWay 61 = .ok (.iload 7, 2) := by decide +kernel
theorem dX2_pairOfWay_63 : decode cX2_pairOfWay 63 = .ok (.if_icmp .ge 13, 3) := by decide +kernel
theorem dX2_pairOfWay_66 : decode cX2_pairOfWay 66 = .ok (.aload_n 0, 1) := by decide +kernel
theorem dX2_pairOfWay_67 : decode cX2_pairOfWay 67 = .ok (.getfield 35, 3) := by decide +kernel
theorem dX2_pairOfWay_70 : decode cX2_pairOfWay 70 = .ok (.iload_n 3, 1) := by decide +kernel
theorem dX2_pairOfWay_71 : decode cX2_pairOfWay 71 = .ok (.iaload, 1) := by decide +kernel
theorem dX2_pairOfWay_72 : decode cX2_pairOfWay 72 = .ok (.istore_n 3, 1) := by decide +kernel
theorem dX2_pairOfWay_73 : decode cX2_pairOfWay 73 = .ok (.goto 40, 3) := by decide +kernel
theorem dX2_pairOfWay_76 : decode cX2_pairOfWay 76 = .ok (.iload 8, 2) := by decide +kernel
theorem dX2_pairOfWay_78 : decode cX2_pairOfWay 78 = .ok (.iconst (-1), 1) := by decide +kernel
theorem dX2_pairOfWay_79 : decode cX2_pairOfWay 79 = .ok (.if_icmp .eq 40, 3) := by decide +kernel
theorem dX2_pairOfWay_82 : decode cX2_pairOfWay 82 = .ok (.iload 4, 2) := by decide +kernel
theorem dX2_pairOfWay_84 : decode cX2_pairOfWay 84 = .ok (.iload 7, 2) := by decide +kernel
theorem dX2_pairOfWay_86 : decode cX2_pairOfWay 86 = .ok (.isub, 1) := by decide +kernel
theorem dX2_pairOfWay_87 : decode cX2_pairOfWay 87 = .ok (.aload_n 0, 1) := by decide +kernel
theorem dX2_pairOfWay_88 : decode cX2_pairOfWay 88 = .ok (.getfield 44, 3) := by decide +kernel
theorem dX2_pairOfWay_91 : decode cX2_pairOfWay 91 = .ok (.iload 8, 2) := by decide +kernel
theorem dX2_pairOfWay_93 : decode cX2_pairOfWay 93 = .ok (.iaload, 1) := by decide +kernel
theorem dX2_pairOfWay_94 : decode cX2_pairOfWay 94 = .ok (.if_icmp .ge 25, 3) := by decide +kernel
theorem dX2_pairOfWay_97 : decode cX2_pairOfWay 97 = .ok (.iload 4, 2) := by decide +kernel
theorem dX2_pairOfWay_99 : decode cX2_pairOfWay 99 = .ok (.iload 7, 2) := by decide +kernel
theorem dX2_pairOfWay_101 : decode cX2_pairOfWay 101 = .ok (.isub, 1) := by decide +kernel
theorem dX2_pairOfWay_102 : decode cX2_pairOfWay 102 = .ok (.istore 4, 2) := by decide +kernel
theorem dX2_pairOfWay_104 : decode cX2_pairOfWay 104 = .ok (.iload 8, 2) := by decide +kernel
theorem dX2_pairOfWay_106 : decode cX2_pairOfWay 106 = .ok (.istore_n 3, 1) := by decide +kernel
theorem dX2_pairOfWay_107 : decode cX2_pairOfWay 107 = .ok (.aload_n 0, 1) := by decide +kernel
theorem dX2_pairOfWay_108 : decode cX2_pairOfWay 108 = .ok (.getfield 44, 3) := by decide +kernel
theorem dX2_pairOfWay_111 : decode cX2_pairOfWay 111 = .ok (.astore 5, 2) := by decide +kernel
theorem dX2_pairOfWay_113 : decode cX2_pairOfWay 113 = .ok (.iinc 6 1, 3) := by decide +kernel
theorem dX2_pairOfWay_116 : decode cX2_pairOfWay 116 = .ok (.goto (-102), 3) := by decide +kernel
theorem dX2_pairOfWay_119 : decode cX2_pairOfWay 119 = .ok (.bipush 10, 2) := by decide +kernel
theorem dX2_pairOfWay_121 : decode cX2_pairOfWay 121 = .ok (.aload_n 0, 1) := by decide +kernel
theorem dX2_pairOfWay_122 : decode cX2_pairOfWay 122 = .ok (.iload_n 3, 1) := by decide +kernel
theorem dX2_pairOfWay_123 : decode cX2_pairOfWay 123 = .ok (.invokevirtual 79, 3) := by decide +kernel
theorem dX2_pairOfWay_126 : decode cX2_pairOfWay 126 = .ok (.imul, 1) := by decide +kernel
theorem dX2_pairOfWay_127 : decode cX2_pairOfWay 127 = .ok (.aload_n 0, 1) := by decide +kernel
theorem dX2_pairOfWay_128 : decode cX2_pairOfWay 128 = .ok (.iload_n 3, 1) := by decide +kernel
theorem dX2_pairOfWay_129 : decode cX2_pairOfWay 129 = .ok (.invokevirtual 83, 3) := by decide +kernel
theorem dX2_pairOfWay_132 : decode cX2_pairOfWay 132 = .ok (.iadd, 1) := by decide +kernel
theorem dX2_pairOfWay_133 : decode cX2_pairOfWay 133 = .ok (.ireturn, 1) := by decide +kernel
theorem dX2_take_0 : decode cX2_take 0 = .ok (.aload_n 0, 1) := by decide +kernel
theorem dX2_take_1 : decode cX2_take 1 = .ok (.iload_n 2, 1) := by decide +kernel
theorem dX2_take_2 : decode cX2_take 2 = .ok (.invokevirtual 79, 3) := by decide +kernel
theorem dX2_take_5 : decode cX2_take 5 = .ok (.istore_n 3, 1) := by decide +kernel
theorem dX2_take_6 : decode cX2_take 6 = .ok (.aload_n 1, 1) := by decide +kernel
theorem dX2_take_7 : decode cX2_take 7 = .ok (.getfield 86, 3) := by decide +kernel
theorem dX2_take_10 : decode cX2_take 10 = .ok (.iload_n 3, 1) := by decide +kernel
theorem dX2_take_11 : decode cX2_take 11 = .ok (.iaload, 1) := by decide +kernel
theorem dX2_take_12 : decode cX2_take 12 = .ok (.iconst 1, 1) := by decide +kernel
theorem dX2_take_13 : decode cX2_take 13 = .ok (.if_icmp .ne 10, 3) := by decide +kernel
theorem dX2_take_16 : decode cX2_take 16 = .ok (.aload_n 0, 1) := by decide +kernel
theorem dX2_take_17 : decode cX2_take 17 = .ok (.aload_n 1, 1) := by decide +kernel
theorem dX2_take_18 : decode cX2_take 18 = .ok (.iload_n 2, 1) := by decide +kernel
theorem dX2_take_19 : decode cX2_take 19 = .ok (.invokevirtual 89, 3) := by decide +kernel
theorem dX2_take_22 : decode cX2_take 22 = .ok (.return_, 1) := by decide +kernel
theorem dX2_take_23 : decode cX2_take 23 = .ok (.iconst 0, 1) := by decide +kernel
theorem dX2_take_24 : decode cX2_take 24 = .ok (.istore 4, 2) := by decide +kernel
theorem dX2_take_26 : decode cX2_take 26 = .ok (.iload 4, 2) := by decide +kernel
theorem dX2_take_28 : decode cX2_take 28 = .ok (.aload_n 1, 1) := by decide +kernel
theorem dX2_take_29 : decode cX2_take 29 = .ok (.getfield 92, 3) := by decide +kernel
theorem dX2_take_32 : decode cX2_take 32 = .ok (.if_icmp .ge 66, 3) := by decide +kernel
theorem dX2_take_35 : decode cX2_take 35 = .ok (.aload_n 1, 1) := by decide +kernel
theorem dX2_take_36 : decode cX2_take 36 = .ok (.getfield 95, 3) := by decide +kernel
theorem dX2_take_39 : decode cX2_take 39 = .ok (.iload 4, 2) := by decide +kernel
theorem dX2_take_41 : decode cX2_take 41 = .ok (.iaload, 1) := by decide +kernel
theorem dX2_take_42 : decode cX2_take 42 = .ok (.iload_n 3, 1) := by decide +kernel
theorem dX2_take_43 : decode cX2_take 43 = .ok (.if_icmp .ne 49, 3) := by decide +kernel
theorem dX2_take_46 : decode cX2_take 46 = .ok (.aload_n 1, 1) := by decide +kernel
theorem dX2_take_47 : decode cX2_take 47 = .ok (.getfield 98, 3) := by decide +kernel
theorem dX2_take_50 : decode cX2_take 50 = .ok (.iload 4, 2) := by decide +kernel
theorem dX2_take_52 : decode cX2_take 52 = .ok (.iaload, 1) := by decide +kernel
theorem dX2_take_53 : decode cX2_take 53 = .ok (.iconst (-1), 1) := by decide +kernel
theorem dX2_take_54 : decode cX2_take 54 = .ok (.if_icmp .eq 11, 3) := by decide +kernel
theorem dX2_take_57 : decode cX2_take 57 = .ok (.aload_n 0, 1) := by decide +kernel
theorem dX2_take_58 : decode cX2_take 58 = .ok (.aload_n 1, 1) := by decide +kernel
theorem dX2_take_59 : decode cX2_take 59 = .ok (.iload_n 2, 1) := by decide +kernel
theorem dX2_take_60 : decode cX2_take 60 = .ok (.iload 4, 2) := by decide +kernel
theorem dX2_take_62 : decode cX2_take 62 = .ok (.invokevirtual 101, 3) := by decide +kernel
theorem dX2_take_65 : decode cX2_take 65 = .ok (.aload_n 0, 1) := by decide +kernel
theorem dX2_take_66 : decode cX2_take 66 = .ok (.aload_n 1, 1) := by decide +kernel
theorem dX2_take_67 : decode cX2_take 67 = .ok (.aload_n 0, 1) := by decide +kernel
theorem dX2_take_68 : decode cX2_take 68 = .ok (.aload_n 1, 1) := by decide +kernel
theorem dX2_take_69 : decode cX2_take 69 = .ok (.iload_n 2, 1) := by decide +kernel
theorem dX2_take_70 : decode cX2_take 70 = .ok (.iload 4, 2) := by decide +kernel
theorem dX2_take_72 : decode cX2_take 72 = .ok (.invokevirtual 105, 3) := by decide +kernel
theorem dX2_take_75 : decode cX2_take 75 = .ok (.aload_n 1, 1) := by decide +kernel
theorem dX2_take_76 : decode cX2_take 76 = .ok (.iload 4, 2) := by decide +kernel
theorem dX2_take_78 : decode cX2_take 78 = .ok (.iconst 0, 1) := by decide +kernel
theorem dX2_take_79 : decode cX2_take 79 = .ok (.aload_n 0, 1) := by decide +kernel
theorem dX2_take_80 : decode cX2_take 80 = .ok (.iload_n 2, 1) := by decide +kernel
theorem dX2_take_81 : decode cX2_take 81 = .ok (.invokevirtual 83, 3) := by decide +kernel
theorem dX2_take_84 : decode cX2_take 84 = .ok (.invokevirtual 109, 3) := by decide +kernel
theorem dX2_take_87 : decode cX2_take 87 = .ok (.iload_n 2, 1) := by decide +kernel
theorem dX2_take_88 : decode cX2_take 88 = .ok (.iconst (-1), 1) := by decide +kernel
theorem dX2_take_89 : decode cX2_take 89 = .ok (.invokevirtual 66, 3) := by decide +kernel
theorem dX2_take_92 : decode cX2_take 92 = .ok (.iinc 4 1, 3) := by decide +kernel
theorem dX2_take_95 : decode cX2_take 95 = .ok (.goto (-69), 3) := by decide +kernel
theorem dX2_take_98 : decode cX2_take 98 = .ok (.return_, 1) := by decide +kernel
theorem dX2_landing_0 : decode cX2_landing 0 = .ok (.aload_n 1, 1) := by decide +kernel
theorem dX2_landing_1 : decode cX2_landing 1 = .ok (.getfield 113, 3) := by decide +kernel
theorem dX2_landing_4 : decode cX2_landing 4 = .ok (.iload_n 3, 1) := by decide +kernel
theorem dX2_landing_5 : decode cX2_landing 5 = .ok (.iaload, 1) := by decide +kernel
theorem dX2_landing_6 : decode cX2_landing 6 = .ok (.aload_n 0, 1) := by decide +kernel
theorem dX2_landing_7 : decode cX2_landing 7 = .ok (.iload_n 2, 1) := by decide +kernel
theorem dX2_landing_8 : decode cX2_landing 8 = .ok (.invokevirtual 116, 3) := by decide +kernel
theorem dX2_landing_11 : decode cX2_landing 11 = .ok (.invokestatic 62, 3) := by decide +kernel
theorem dX2_landing_14 : decode cX2_landing 14 = .ok (.ireturn, 1) := by decide +kernel
theorem dX2_enter_0 : decode cX2_enter 0 = .ok (.aload_n 0, 1) := by decide +kernel
theorem dX2_enter_1 : decode cX2_enter 1 = .ok (.iload_n 2, 1) := by decide +kernel
theorem dX2_enter_2 : decode cX2_enter 2 = .ok (.iload_n 3, 1) := by decide +kernel
theorem dX2_enter_3 : decode cX2_enter 3 = .ok (.invokevirtual 119, 3) := by decide +kernel
theorem dX2_enter_6 : decode cX2_enter 6 = .ok (.aload_n 1, 1) := by decide +kernel
theorem dX2_enter_7 : decode cX2_enter 7 = .ok (.iload_n 3, 1) := by decide +kernel
theorem dX2_enter_8 : decode cX2_enter 8 = .ok (.iconst 1, 1) := by decide +kernel
theorem dX2_enter_9 : decode cX2_enter 9 = .ok (.aload_n 0, 1) := by decide +kernel
theorem dX2_enter_10 : decode cX2_enter 10 = .ok (.iload_n 2, 1) := by decide +kernel
theorem dX2_enter_11 : decode cX2_enter 11 = .ok (.invokevirtual 83, 3) := by decide +kernel
theorem dX2_enter_14 : decode cX2_enter 14 = .ok (.invokevirtual 109, 3) := by decide +kernel
theorem dX2_enter_17 : decode cX2_enter 17 = .ok (.istore 4, 2) := by decide +kernel
theorem dX2_enter_19 : decode cX2_enter 19 = .ok (.aload_n 1, 1) := by decide +kernel
theorem dX2_enter_20 : decode cX2_enter 20 = .ok (.getfield 98, 3) := by decide +kernel
theorem dX2_enter_23 : decode cX2_enter 23 = .ok (.iload_n 3, 1) := by decide +kernel
theorem dX2_enter_24 : decode cX2_enter 24 = .ok (.iaload, 1) := by decide +kernel
theorem dX2_enter_25 : decode cX2_enter 25 = .ok (.istore 5, 2) := by decide +kernel
theorem dX2_enter_27 : decode cX2_enter 27 = .ok (.iconst 0, 1) := by decide +kernel
theorem dX2_enter_28 : decode cX2_enter 28 = .ok (.istore 6, 2) := by decide +kernel
theorem dX2_enter_30 : decode cX2_enter 30 = .ok (.iload 6, 2) := by decide +kernel
theorem dX2_enter_32 : decode cX2_enter 32 = .ok (.bipush 8, 2) := by decide +kernel
theorem dX2_enter_34 : decode cX2_enter 34 = .ok (.if_icmp .ge 61, 3) := by decide +kernel
theorem dX2_enter_37 : decode cX2_enter 37 = .ok (.iload 4, 2) := by decide +kernel
theorem dX2_enter_39 : decode cX2_enter 39 = .ok (.iload 6, 2) := by decide +kernel
theorem dX2_enter_41 : decode cX2_enter 41 = .ok (.invokestatic 53, 3) := by decide +kernel
theorem dX2_enter_44 : decode cX2_enter 44 = .ok (.ifCond .eq 45, 3) := by decide +kernel
theorem dX2_enter_47 : decode cX2_enter 47 = .ok (.aload_n 0, 1) := by decide +kernel
theorem dX2_enter_48 : decode cX2_enter 48 = .ok (.aload_n 1, 1) := by decide +kernel
theorem dX2_enter_49 : decode cX2_enter 49 = .ok (.aload_n 1, 1) := by decide +kernel
theorem dX2_enter_50 : decode cX2_enter 50 = .ok (.getfield 57, 3) := by decide +kernel
theorem dX2_enter_53 : decode cX2_enter 53 = .ok (.iload 5, 2) := by decide +kernel
theorem dX2_enter_55 : decode cX2_enter 55 = .ok (.iaload, 1) := by decide +kernel
theorem dX2_enter_56 : decode cX2_enter 56 = .ok (.iload 6, 2) := by decide +kernel
theorem dX2_enter_58 : decode cX2_enter 58 = .ok (.invokestatic 62, 3) := by decide +kernel
theorem dX2_enter_61 : decode cX2_enter 61 = .ok (.iconst 1, 1) := by decide +kernel
theorem dX2_enter_62 : decode cX2_enter 62 = .ok (.iload 6, 2) := by decide +kernel
theorem dX2_enter_64 : decode cX2_enter 64 = .ok (.ishl, 1) := by decide +kernel
theorem dX2_enter_65 : decode cX2_enter 65 = .ok (.iload_n 2, 1) := by decide +kernel
theorem dX2_enter_66 : decode cX2_enter 66 = .ok (.iconst (-1), 1) := by decide +kernel
theorem dX2_enter_67 : decode cX2_enter 67 = .ok (.invokevirtual 66, 3) := by decide +kernel
theorem dX2_enter_70 : decode cX2_enter 70 = .ok (.aload_n 0, 1) := by decide +kernel
theorem dX2_enter_71 : decode cX2_enter 71 = .ok (.aload_n 1, 1) := by decide +kernel
theorem dX2_enter_72 : decode cX2_enter 72 = .ok (.iload_n 2, 1) := by decide +kernel
theorem dX2_enter_73 : decode cX2_enter 73 = .ok (.iload_n 3, 1) := by decide +kernel
theorem dX2_enter_74 : decode cX2_enter 74 = .ok (.aload_n 1, 1) := by decide +kernel
theorem dX2_enter_75 : decode cX2_enter 75 = .ok (.getfield 123, 3) := by decide +kernel
theorem dX2_enter_78 : decode cX2_enter 78 = .ok (.iload 5, 2) := by decide +kernel
theorem dX2_enter_80 : decode cX2_enter 80 = .ok (.iaload, 1) := by decide +kernel
theorem dX2_enter_81 : decode cX2_enter 81 = .ok (.iload 6, 2) := by decide +kernel
theorem dX2_enter_83 : decode cX2_enter 83 = .ok (.invokestatic 62, 3) := by decide +kernel
theorem dX2_enter_86 : decode cX2_enter 86 = .ok (.invokevirtual 126, 3) := by decide +kernel
theorem dX2_enter_89 : decode cX2_enter 89 = .ok (.iinc 6 1, 3) := by decide +kernel
theorem dX2_enter_92 : decode cX2_enter 92 = .ok (.goto (-62), 3) := by decide +kernel
theorem dX2_enter_95 : decode cX2_enter 95 = .ok (.return_, 1) := by decide +kernel
theorem dX2_noteSite_0 : decode cX2_noteSite 0 = .ok (.aload_n 0, 1) := by decide +kernel
theorem dX2_noteSite_1 : decode cX2_noteSite 1 = .ok (.getfield 50, 3) := by decide +kernel
theorem dX2_noteSite_4 : decode cX2_noteSite 4 = .ok (.sipush 2048, 3) := by decide +kernel
theorem dX2_noteSite_7 : decode cX2_noteSite 7 = .ok (.if_icmp .ge 28, 3) := by decide +kernel
theorem dX2_noteSite_10 : decode cX2_noteSite 10 = .ok (.aload_n 0, 1) := by decide +kernel
theorem dX2_noteSite_11 : decode cX2_noteSite 11 = .ok (.getfield 47, 3) := by decide +kernel
theorem dX2_noteSite_14 : decode cX2_noteSite 14 = .ok (.aload_n 0, 1) := by decide +kernel
theorem dX2_noteSite_15 : decode cX2_noteSite 15 = .ok (.getfield 50, 3) := by decide +kernel
theorem dX2_noteSite_18 : decode cX2_noteSite 18 = .ok (.iload_n 1, 1) := by decide +kernel
theorem dX2_noteSite_19 : decode cX2_noteSite 19 = .ok (.bipush 32, 2) := by decide +kernel
theorem dX2_noteSite_21 : decode cX2_noteSite 21 = .ok (.imul, 1) := by decide +kernel
theorem dX2_noteSite_22 : decode cX2_noteSite 22 = .ok (.iload_n 2, 1) := by decide +kernel
theorem dX2_noteSite_23 : decode cX2_noteSite 23 = .ok (.iadd, 1) := by decide +kernel
theorem dX2_noteSite_24 : decode cX2_noteSite 24 = .ok (.iastore, 1) := by decide +kernel
theorem dX2_noteSite_25 : decode cX2_noteSite 25 = .ok (.aload_n 0, 1) := by decide +kernel
theorem dX2_noteSite_26 : decode cX2_noteSite 26 = .ok (.dup, 1) := by decide +kernel
theorem dX2_noteSite_27 : decode cX2_noteSite 27 = .ok (.getfield 50, 3) := by decide +kernel
theorem dX2_noteSite_30 : decode cX2_noteSite 30 = .ok (.iconst 1, 1) := by decide +kernel
theorem dX2_noteSite_31 : decode cX2_noteSite 31 = .ok (.iadd, 1) := by decide +kernel
theorem dX2_noteSite_32 : decode cX2_noteSite 32 = .ok (.putfield 50, 3) := by decide +kernel
theorem dX2_noteSite_35 : decode cX2_noteSite 35 = .ok (.return_, 1) := by decide +kernel
theorem dX2_leaveAsKnown_0 : decode cX2_leaveAsKnown 0 = .ok (.iconst 0, 1) := by decide +kernel
theorem dX2_leaveAsKnown_1 : decode cX2_leaveAsKnown 1 = .ok (.istore 5, 2) := by decide +kernel
theorem dX2_leaveAsKnown_3 : decode cX2_leaveAsKnown 3 = .ok (.iload 5, 2) := by decide +kernel
theorem dX2_leaveAsKnown_5 : decode cX2_leaveAsKnown 5 = .ok (.bipush 8, 2) := by decide +kernel
theorem dX2_leaveAsKnown_7 : decode cX2_leaveAsKnown 7 = .ok (.if_icmp .ge 62, 3) := by decide +kernel
theorem dX2_leaveAsKnown_10 : decode cX2_leaveAsKnown 10 = .ok (.aload_n 0, 1) := by decide +kernel
theorem dX2_leaveAsKnown_11 : decode cX2_leaveAsKnown 11 = .ok (.getfield 25, 3) := by decide +kernel
theorem dX2_leaveAsKnown_14 : decode cX2_leaveAsKnown 14 = .ok (.iload 4, 2) := by decide +kernel
theorem dX2_leaveAsKnown_16 : decode cX2_leaveAsKnown 16 = .ok (.iaload, 1) := by decide +kernel
theorem dX2_leaveAsKnown_17 : decode cX2_leaveAsKnown 17 = .ok (.iload 5, 2) := by decide +kernel
theorem dX2_leaveAsKnown_19 : decode cX2_leaveAsKnown 19 = .ok (.invokestatic 53, 3) := by decide +kernel
theorem dX2_leaveAsKnown_22 : decode cX2_leaveAsKnown 22 = .ok (.ifCond .eq 41, 3) := by decide +kernel
theorem dX2_leaveAsKnown_25 : decode cX2_leaveAsKnown 25 = .ok (.aload_n 0, 1) := by decide +kernel
theorem dX2_leaveAsKnown_26 : decode cX2_leaveAsKnown 26 = .ok (.getfield 32, 3) := by decide +kernel
theorem dX2_leaveAsKnown_29 : decode cX2_leaveAsKnown 29 = .ok (.iload 4, 2) := by decide +kernel
theorem dX2_leaveAsKnown_31 : decode cX2_leaveAsKnown 31 = .ok (.bipush 8, 2) := by decide +kernel
theorem dX2_leaveAsKnown_33 : decode cX2_leaveAsKnown 33 = .ok (.imul, 1) := by decide +kernel
theorem dX2_leaveAsKnown_34 : decode cX2_leaveAsKnown 34 = .ok (.iload 5, 2) := by decide +kernel
theorem dX2_leaveAsKnown_36 : decode cX2_leaveAsKnown 36 = .ok (.iadd, 1) := by decide +kernel
theorem dX2_leaveAsKnown_37 : decode cX2_leaveAsKnown 37 = .ok (.iaload, 1) := by decide +kernel
theorem dX2_leaveAsKnown_38 : decode cX2_leaveAsKnown 38 = .ok (.istore 6, 2) := by decide +kernel
theorem dX2_leaveAsKnown_40 : decode cX2_leaveAsKnown 40 = .ok (.aload_n 0, 1) := by decide +kernel
theorem dX2_leaveAsKnown_41 : decode cX2_leaveAsKnown 41 = .ok (.aload_n 1, 1) := by decide +kernel
theorem dX2_leaveAsKnown_42 : decode cX2_leaveAsKnown 42 = .ok (.aload_n 0, 1) := by decide +kernel
theorem dX2_leaveAsKnown_43 : decode cX2_leaveAsKnown 43 = .ok (.aload_n 1, 1) := by decide +kernel
theorem dX2_leaveAsKnown_44 : decode cX2_leaveAsKnown 44 = .ok (.iload_n 2, 1) := by decide +kernel
theorem dX2_leaveAsKnown_45 : decode cX2_leaveAsKnown 45 = .ok (.iload_n 3, 1) := by decide +kernel
theorem dX2_leaveAsKnown_46 : decode cX2_leaveAsKnown 46 = .ok (.invokevirtual 105, 3) := by decide +kernel
theorem dX2_leaveAsKnown_49 : decode cX2_leaveAsKnown 49 = .ok (.aload_n 1, 1) := by decide +kernel
theorem dX2_leaveAsKnown_50 : decode cX2_leaveAsKnown 50 = .ok (.iload_n 3, 1) := by decide +kernel
theorem dX2_leaveAsKnown_51 : decode cX2_leaveAsKnown 51 = .ok (.iconst 2, 1) := by decide +kernel
theorem dX2_leaveAsKnown_52 : decode cX2_leaveAsKnown 52 = .ok (.iload 5, 2) := by decide +kernel
theorem dX2_leaveAsKnown_54 : decode cX2_leaveAsKnown 54 = .ok (.invokevirtual 109, 3) := by decide +kernel
theorem dX2_leaveAsKnown_57 : decode cX2_leaveAsKnown 57 = .ok (.iload_n 2, 1) := by decide +kernel
theorem dX2_leaveAsKnown_58 : decode cX2_leaveAsKnown 58 = .ok (.iload 6, 2) := by decide +kernel
theorem dX2_leaveAsKnown_60 : decode cX2_leaveAsKnown 60 = .ok (.invokevirtual 66, 3) := by decide +kernel
theorem dX2_leaveAsKnown_63 : decode cX2_leaveAsKnown 63 = .ok (.iinc 5 1, 3) := by decide +kernel
theorem dX2_leaveAsKnown_66 : decode cX2_leaveAsKnown 66 = .ok (.goto (-63), 3) := by decide +kernel
theorem dX2_leaveAsKnown_69 : decode cX2_leaveAsKnown 69 = .ok (.return_, 1) := by decide +kernel
theorem dX2_returnToCallers_0 : decode cX2_returnToCallers 0 = .ok (.aload_n 1, 1) := by decide +kernel
theorem dX2_returnToCallers_1 : decode cX2_returnToCallers 1 = .ok (.getfield 130, 3) := by decide +kernel
theorem dX2_returnToCallers_4 : decode cX2_returnToCallers 4 = .ok (.aload_n 0, 1) := by decide +kernel
theorem dX2_returnToCallers_5 : decode cX2_returnToCallers 5 = .ok (.iload_n 2, 1) := by decide +kernel
theorem dX2_returnToCallers_6 : decode cX2_returnToCallers 6 = .ok (.invokevirtual 79, 3) := by decide +kernel
theorem dX2_returnToCallers_9 : decode cX2_returnToCallers 9 = .ok (.iaload, 1) := by decide +kernel
theorem dX2_returnToCallers_10 : decode cX2_returnToCallers 10 = .ok (.istore_n 3, 1) := by decide +kernel
theorem dX2_returnToCallers_11 : decode cX2_returnToCallers 11 = .ok (.aload_n 0, 1) := by decide +kernel
theorem dX2_returnToCallers_12 : decode cX2_returnToCallers 12 = .ok (.iload_n 2, 1) := by decide +kernel
theorem dX2_returnToCallers_13 : decode cX2_returnToCallers 13 = .ok (.invokevirtual 116, 3) := by decide +kernel
theorem dX2_returnToCallers_16 : decode cX2_returnToCallers 16 = .ok (.istore 4, 2) := by decide +kernel
theorem dX2_returnToCallers_18 : decode cX2_returnToCallers 18 = .ok (.iconst 0, 1) := by decide +kernel
theorem dX2_returnToCallers_19 : decode cX2_returnToCallers 19 = .ok (.istore 5, 2) := by decide +kernel
theorem dX2_returnToCallers_21 : decode cX2_returnToCallers 21 = .ok (.iload 5, 2) := by decide +kernel
theorem dX2_returnToCallers_23 : decode cX2_returnToCallers 23 = .ok (.aload_n 0, 1) := by decide +kernel
theorem dX2_returnToCallers_24 : decode cX2_returnToCallers 24 = .ok (.getfield 50, 3) := by decide +kernel
theorem dX2_returnToCallers_27 : decode cX2_returnToCallers 27 = .ok (.if_icmp .ge 94, 3) := by decide +kernel
theorem dX2_returnToCallers_30 : decode cX2_returnToCallers 30 = .ok (.aload_n 0, 1) := by decide +kernel
theorem dX2_returnToCallers_31 : decode cX2_returnToCallers 31 = .ok (.getfield 47, 3) := by decide +kernel
theorem dX2_returnToCallers_34 : decode cX2_returnToCallers 34 = .ok (.iload 5, 2) := by decide +kernel
theorem dX2_returnToCallers_36 : decode cX2_returnToCallers 36 = .ok (.iaload, 1) := by decide +kernel
theorem dX2_returnToCallers_37 : decode cX2_returnToCallers 37 = .ok (.bipush 32, 2) := by decide +kernel
theorem dX2_returnToCallers_39 : decode cX2_returnToCallers 39 = .ok (.idiv, 1) := by decide +kernel
theorem dX2_returnToCallers_40 : decode cX2_returnToCallers 40 = .ok (.istore 6, 2) := by decide +kernel
theorem dX2_returnToCallers_42 : decode cX2_returnToCallers 42 = .ok (.aload_n 0, 1) := by decide +kernel
theorem dX2_returnToCallers_43 : decode cX2_returnToCallers 43 = .ok (.getfield 47, 3) := by decide +kernel
theorem dX2_returnToCallers_46 : decode cX2_returnToCallers 46 = .ok (.iload 5, 2) := by decide +kernel
theorem dX2_returnToCallers_48 : decode cX2_returnToCallers 48 = .ok (.iaload, 1) := by decide +kernel
theorem dX2_returnToCallers_49 : decode cX2_returnToCallers 49 = .ok (.bipush 32, 2) := by decide +kernel
theorem dX2_returnToCallers_51 : decode cX2_returnToCallers 51 = .ok (.irem, 1) := by decide +kernel
theorem dX2_returnToCallers_52 : decode cX2_returnToCallers 52 = .ok (.istore 7, 2) := by decide +kernel
theorem dX2_returnToCallers_54 : decode cX2_returnToCallers 54 = .ok (.aload_n 1, 1) := by decide +kernel
theorem dX2_returnToCallers_55 : decode cX2_returnToCallers 55 = .ok (.getfield 98, 3) := by decide +kernel
theorem dX2_returnToCallers_58 : decode cX2_returnToCallers 58 = .ok (.iload 7, 2) := by decide +kernel
theorem dX2_returnToCallers_60 : decode cX2_returnToCallers 60 = .ok (.iaload, 1) := by decide +kernel
theorem dX2_returnToCallers_61 : decode cX2_returnToCallers 61 = .ok (.iload_n 3, 1) := by decide +kernel
theorem dX2_returnToCallers_62 : decode cX2_returnToCallers 62 = .ok (.if_icmp .ne 53, 3) := by decide +kernel
theorem dX2_returnToCallers_65 : decode cX2_returnToCallers 65 = .ok (.aload_n 1, 1) := by decide +kernel
theorem dX2_returnToCallers_66 : decode cX2_returnToCallers 66 = .ok (.iload 7, 2) := by decide +kernel
theorem dX2_returnToCallers_68 : decode cX2_returnToCallers 68 = .ok (.iconst 1, 1) := by decide +kernel
theorem dX2_returnToCallers_69 : decode cX2_returnToCallers 69 = .ok (.aload_n 0, 1) := by decide +kernel
theorem dX2_returnToCallers_70 : decode cX2_returnToCallers 70 = .ok (.iload 6, 2) := by decide +kernel
theorem dX2_returnToCallers_72 : decode cX2_returnToCallers 72 = .ok (.invokevirtual 83, 3) := by decide +kernel
theorem dX2_returnToCallers_75 : decode cX2_returnToCallers 75 = .ok (.invokevirtual 109, 3) := by decide +kernel
theorem dX2_returnToCallers_78 : decode cX2_returnToCallers 78 = .ok (.iload 4, 2) := by decide +kernel
theorem dX2_returnToCallers_80 : decode cX2_returnToCallers 80 = .ok (.invokestatic 53, 3) := by decide +kernel
theorem dX2_returnToCallers_83 : decode cX2_returnToCallers 83 = .ok (.ifCond .eq 32, 3) := by decide +kernel
theorem dX2_returnToCallers_86 : decode cX2_returnToCallers 86 = .ok (.aload_n 0, 1) := by decide +kernel
theorem dX2_returnToCallers_87 : decode cX2_returnToCallers 87 = .ok (.aload_n 1, 1) := by decide +kernel
theorem dX2_returnToCallers_88 : decode cX2_returnToCallers 88 = .ok (.aload_n 0, 1) := by decide +kernel
theorem dX2_returnToCallers_89 : decode cX2_returnToCallers 89 = .ok (.aload_n 1, 1) := by decide +kernel
theorem dX2_returnToCallers_90 : decode cX2_returnToCallers 90 = .ok (.iload 6, 2) := by decide +kernel
theorem dX2_returnToCallers_92 : decode cX2_returnToCallers 92 = .ok (.iload 7, 2) := by decide +kernel
theorem dX2_returnToCallers_94 : decode cX2_returnToCallers 94 = .ok (.invokevirtual 105, 3) := by decide +kernel
theorem dX2_returnToCallers_97 : decode cX2_returnToCallers 97 = .ok (.aload_n 1, 1) := by decide +kernel
theorem dX2_returnToCallers_98 : decode cX2_returnToCallers 98 = .ok (.iload 7, 2) := by decide +kernel
theorem dX2_returnToCallers_100 : decode cX2_returnToCallers 100 = .ok (.iconst 2, 1) := by decide +kernel
theorem dX2_returnToCallers_101 : decode cX2_returnToCallers 101 = .ok (.aload_n 0, 1) := by decide +kernel
theorem dX2_returnToCallers_102 : decode cX2_returnToCallers 102 = .ok (.iload_n 2, 1) := by decide +kernel
theorem dX2_returnToCallers_103 : decode cX2_returnToCallers 103 = .ok (.invokevirtual 83, 3) := by decide +kernel
theorem dX2_returnToCallers_106 : decode cX2_returnToCallers 106 = .ok (.invokevirtual 109, 3) := by decide +kernel
theorem dX2_returnToCallers_109 : decode cX2_returnToCallers 109 = .ok (.iload 6, 2) := by decide +kernel
theorem dX2_returnToCallers_111 : decode cX2_returnToCallers 111 = .ok (.iload_n 2, 1) := by decide +kernel
theorem dX2_returnToCallers_112 : decode cX2_returnToCallers 112 = .ok (.invokevirtual 66, 3) := by decide +kernel
theorem dX2_returnToCallers_115 : decode cX2_returnToCallers 115 = .ok (.iinc 5 1, 3) := by decide +kernel
theorem dX2_returnToCallers_118 : decode cX2_returnToCallers 118 = .ok (.goto (-97), 3) := by decide +kernel
theorem dX2_returnToCallers_121 : decode cX2_returnToCallers 121 = .ok (.return_, 1) := by decide +kernel
theorem dX2_come_0 : decode cX2_come 0 = .ok (.iload_n 3, 1) := by decide +kernel
theorem dX2_come_1 : decode cX2_come 1 = .ok (.aload_n 0, 1) := by decide +kernel
theorem dX2_come_2 : decode cX2_come 2 = .ok (.getfield 25, 3) := by decide +kernel
theorem dX2_come_5 : decode cX2_come 5 = .ok (.iload_n 2, 1) := by decide +kernel
theorem dX2_come_6 : decode cX2_come 6 = .ok (.iaload, 1) := by decide +kernel
theorem dX2_come_7 : decode cX2_come 7 = .ok (.iconst (-1), 1) := by decide +kernel
theorem dX2_come_8 : decode cX2_come 8 = .ok (.ixor, 1) := by decide +kernel
theorem dX2_come_9 : decode cX2_come 9 = .ok (.iand, 1) := by decide +kernel
theorem dX2_come_10 : decode cX2_come 10 = .ok (.istore 6, 2) := by decide +kernel
theorem dX2_come_12 : decode cX2_come 12 = .ok (.iload 6, 2) := by decide +kernel
theorem dX2_come_14 : decode cX2_come 14 = .ok (.ifCond .ne 4, 3) := by decide +kernel
theorem dX2_come_17 : decode cX2_come 17 = .ok (.return_, 1) := by decide +kernel
theorem dX2_come_18 : decode cX2_come 18 = .ok (.iload 4, 2) := by decide +kernel
theorem dX2_come_20 : decode cX2_come 20 = .ok (.iconst (-1), 1) := by decide +kernel
theorem dX2_come_21 : decode cX2_come 21 = .ok (.if_icmp .ne 7, 3) := by decide +kernel
theorem dX2_come_24 : decode cX2_come 24 = .ok (.iconst 1, 1) := by decide +kernel
theorem dX2_come_25 : decode cX2_come 25 = .ok (.goto 4, 3) := by decide +kernel
theorem dX2_come_28 : decode cX2_come 28 = .ok (.iconst 0, 1) := by decide +kernel
theorem dX2_come_29 : decode cX2_come 29 = .ok (.istore 7, 2) := by decide +kernel
theorem dX2_come_31 : decode cX2_come 31 = .ok (.iload 7, 2) := by decide +kernel
theorem dX2_come_33 : decode cX2_come 33 = .ok (.ifCond .ne 15, 3) := by decide +kernel
theorem dX2_come_36 : decode cX2_come 36 = .ok (.aload_n 1, 1) := by decide +kernel
theorem dX2_come_37 : decode cX2_come 37 = .ok (.getfield 86, 3) := by decide +kernel
theorem dX2_come_40 : decode cX2_come 40 = .ok (.iload_n 2, 1) := by decide +kernel
theorem dX2_come_41 : decode cX2_come 41 = .ok (.bipush 8, 2) := by decide +kernel
theorem dX2_come_43 : decode cX2_come 43 = .ok (.idiv, 1) := by decide +kernel
theorem dX2_come_44 : decode cX2_come 44 = .ok (.iaload, 1) := by decide +kernel
theorem dX2_come_45 : decode cX2_come 45 = .ok (.ifCond .ne 7, 3) := by decide +kernel
theorem dX2_come_48 : decode cX2_come 48 = .ok (.iconst 1, 1) := by decide +kernel
theorem dX2_come_49 : decode cX2_come 49 = .ok (.goto 4, 3) := by decide +kernel
theorem dX2_come_52 : decode cX2_come 52 = .ok (.iconst 0, 1) := by decide +kernel
theorem dX2_come_53 : decode cX2_come 53 = .ok (.istore 8, 2) := by decide +kernel
theorem dX2_come_55 : decode cX2_come 55 = .ok (.iconst 1, 1) := by decide +kernel
theorem dX2_come_56 : decode cX2_come 56 = .ok (.iload 5, 2) := by decide +kernel
theorem dX2_come_58 : decode cX2_come 58 = .ok (.iconst (-1), 1) := by decide +kernel
theorem dX2_come_59 : decode cX2_come 59 = .ok (.if_icmp .ne 7, 3) := by decide +kernel
theorem dX2_come_62 : decode cX2_come 62 = .ok (.iconst 0, 1) := by decide +kernel
theorem dX2_come_63 : decode cX2_come 63 = .ok (.goto 10, 3) := by decide +kernel
theorem dX2_come_66 : decode cX2_come 66 = .ok (.aload_n 0, 1) := by decide +kernel
theorem dX2_come_67 : decode cX2_come 67 = .ok (.getfield 44, 3) := by decide +kernel
theorem dX2_come_70 : decode cX2_come 70 = .ok (.iload 5, 2) := by decide +kernel
theorem dX2_come_72 : decode cX2_come 72 = .ok (.iaload, 1) := by decide +kernel
theorem dX2_come_73 : decode cX2_come 73 = .ok (.iadd, 1) := by decide +kernel
theorem dX2_come_74 : decode cX2_come 74 = .ok (.istore 9, 2) := by decide +kernel
theorem dX2_come_76 : decode cX2_come 76 = .ok (.iload 7, 2) := by decide +kernel
theorem dX2_come_78 : decode cX2_come 78 = .ok (.ifCond .eq 7, 3) := by decide +kernel
theorem dX2_come_81 : decode cX2_come 81 = .ok (.iconst 1, 1) := by decide +kernel
theorem dX2_come_82 : decode cX2_come 82 = .ok (.goto 19, 3) := by decide +kernel
theorem dX2_come_85 : decode cX2_come 85 = .ok (.aload_n 0, 1) := by decide +kernel
theorem dX2_come_86 : decode cX2_come 86 = .ok (.getfield 41, 3) := by decide +kernel
theorem dX2_come_89 : decode cX2_come 89 = .ok (.iload 4, 2) := by decide +kernel
theorem dX2_come_91 : decode cX2_come 91 = .ok (.iaload, 1) := by decide +kernel
theorem dX2_come_92 : decode cX2_come 92 = .ok (.iload 9, 2) := by decide +kernel
theorem dX2_come_94 : decode cX2_come 94 = .ok (.iadd, 1) := by decide +kernel
theorem dX2_come_95 : decode cX2_come 95 = .ok (.sipush 1000, 3) := by decide +kernel
theorem dX2_come_98 : decode cX2_come 98 = .ok (.invokestatic 74, 3) := by decide +kernel
theorem dX2_come_101 : decode cX2_come 101 = .ok (.istore 10, 2) := by decide +kernel
theorem dX2_come_103 : decode cX2_come 103 = .ok (.iload 8, 2) := by decide +kernel
theorem dX2_come_105 : decode cX2_come 105 = .ok (.ifCond .eq 7, 3) := by decide +kernel
theorem dX2_come_108 : decode cX2_come 108 = .ok (.iconst 1, 1) := by decide +kernel
theorem dX2_come_109 : decode cX2_come 109 = .ok (.goto 19, 3) := by decide +kernel
theorem dX2_come_112 : decode cX2_come 112 = .ok (.aload_n 0, 1) := by decide +kernel
theorem dX2_come_113 : decode cX2_come 113 = .ok (.getfield 44, 3) := by decide +kernel
theorem dX2_come_116 : decode cX2_come 116 = .ok (.iload 4, 2) := by decide +kernel
theorem dX2_come_118 : decode cX2_come 118 = .ok (.iaload, 1) := by decide +kernel
theorem dX2_come_119 : decode cX2_come 119 = .ok (.iload 9, 2) := by decide +kernel
theorem dX2_come_121 : decode cX2_come 121 = .ok (.iadd, 1) := by decide +kernel
theorem dX2_come_122 : decode cX2_come 122 = .ok (.sipush 1000, 3) := by decide +kernel
theorem dX2_come_125 : decode cX2_come 125 = .ok (.invokestatic 74, 3) := by decide +kernel
theorem dX2_come_128 : decode cX2_come 128 = .ok (.istore 11, 2) := by decide +kernel
theorem dX2_come_130 : decode cX2_come 130 = .ok (.aload_n 0, 1) := by decide +kernel
theorem dX2_come_131 : decode cX2_come 131 = .ok (.getfield 25, 3) := by decide +kernel
theorem dX2_come_134 : decode cX2_come 134 = .ok (.iload_n 2, 1) := by decide +kernel
theorem dX2_come_135 : decode cX2_come 135 = .ok (.dup2, 1) := by decide +kernel
theorem dX2_come_136 : decode cX2_come 136 = .ok (.iaload, 1) := by decide +kernel
theorem dX2_come_137 : decode cX2_come 137 = .ok (.iload 6, 2) := by decide +kernel
theorem dX2_come_139 : decode cX2_come 139 = .ok (.ior, 1) := by decide +kernel
theorem dX2_come_140 : decode cX2_come 140 = .ok (.iastore, 1) := by decide +kernel
theorem dX2_come_141 : decode cX2_come 141 = .ok (.iconst 0, 1) := by decide +kernel
theorem dX2_come_142 : decode cX2_come 142 = .ok (.istore 12, 2) := by decide +kernel
theorem dX2_come_144 : decode cX2_come 144 = .ok (.iload 12, 2) := by decide +kernel
theorem dX2_come_146 : decode cX2_come 146 = .ok (.bipush 8, 2) := by decide +kernel
theorem dX2_come_148 : decode cX2_come 148 = .ok (.if_icmp .ge 115, 3) := by decide +kernel
theorem dX2_come_151 : decode cX2_come 151 = .ok (.iload 6, 2) := by decide +kernel
theorem dX2_come_153 : decode cX2_come 153 = .ok (.iload 12, 2) := by decide +kernel
theorem dX2_come_155 : decode cX2_come 155 = .ok (.invokestatic 53, 3) := by decide +kernel
theorem dX2_come_158 : decode cX2_come 158 = .ok (.ifCond .eq 99, 3) := by decide +kernel
theorem dX2_come_161 : decode cX2_come 161 = .ok (.aload_n 0, 1) := by decide +kernel
theorem dX2_come_162 : decode cX2_come 162 = .ok (.getfield 22, 3) := by decide +kernel
theorem dX2_come_165 : decode cX2_come 165 = .ok (.sipush 1536, 3) := by decide +kernel
theorem dX2_come_168 : decode cX2_come 168 = .ok (.if_icmp .ge 89, 3) := by decide +kernel
theorem dX2_come_171 : decode cX2_come 171 = .ok (.aload_n 0, 1) := by decide +kernel
theorem dX2_come_172 : decode cX2_come 172 = .ok (.getfield 29, 3) := by decide +kernel
theorem dX2_come_175 : decode cX2_come 175 = .ok (.aload_n 0, 1) := by decide +kernel
theorem dX2_come_176 : decode cX2_come 176 = .ok (.getfield 22, 3) := by decide +kernel
theorem dX2_come_179 : decode cX2_come 179 = .ok (.iload_n 2, 1) := by decide +kernel
theorem dX2_come_180 : decode cX2_come 180 = .ok (.bipush 8, 2) := by decide +kernel
theorem dX2_come_182 : decode cX2_come 182 = .ok (.imul, 1) := by decide +kernel
theorem dX2_come_183 : decode cX2_come 183 = .ok (.iload 12, 2) := by decide +kernel
theorem dX2_come_185 : decode cX2_come 185 = .ok (.iadd, 1) := by decide +kernel
theorem dX2_come_186 : decode cX2_come 186 = .ok (.iastore, 1) := by decide +kernel
theorem dX2_come_187 : decode cX2_come 187 = .ok (.aload_n 0, 1) := by decide +kernel
theorem dX2_come_188 : decode cX2_come 188 = .ok (.getfield 32, 3) := by decide +kernel
theorem dX2_come_191 : decode cX2_come 191 = .ok (.iload_n 2, 1) := by decide +kernel
theorem dX2_come_192 : decode cX2_come 192 = .ok (.bipush 8, 2) := by decide +kernel
theorem dX2_come_194 : decode cX2_come 194 = .ok (.imul, 1) := by decide +kernel
theorem dX2_come_195 : decode cX2_come 195 = .ok (.iload 12, 2) := by decide +kernel
theorem dX2_come_197 : decode cX2_come 197 = .ok (.iadd, 1) := by decide +kernel
theorem dX2_come_198 : decode cX2_come 198 = .ok (.aload_n 0, 1) := by decide +kernel
theorem dX2_come_199 : decode cX2_come 199 = .ok (.getfield 22, 3) := by decide +kernel
theorem dX2_come_202 : decode cX2_come 202 = .ok (.iastore, 1) := by decide +kernel
theorem dX2_come_203 : decode cX2_come 203 = .ok (.aload_n 0, 1) := by decide +kernel
theorem dX2_come_204 : decode cX2_come 204 = .ok (.getfield 35, 3) := by decide +kernel
theorem dX2_come_207 : decode cX2_come 207 = .ok (.aload_n 0, 1) := by decide +kernel
theorem dX2_come_208 : decode cX2_come 208 = .ok (.getfield 22, 3) := by decide +kernel
theorem dX2_come_211 : decode cX2_come 211 = .ok (.iload 4, 2) := by decide +kernel
theorem dX2_come_213 : decode cX2_come 213 = .ok (.iastore, 1) := by decide +kernel
theorem dX2_come_214 : decode cX2_come 214 = .ok (.aload_n 0, 1) := by decide +kernel
theorem dX2_come_215 : decode cX2_come 215 = .ok (.getfield 38, 3) := by decide +kernel
theorem dX2_come_218 : decode cX2_come 218 = .ok (.aload_n 0, 1) := by decide +kernel
theorem dX2_come_219 : decode cX2_come 219 = .ok (.getfield 22, 3) := by decide +kernel
theorem dX2_come_222 : decode cX2_come 222 = .ok (.iload 5, 2) := by decide +kernel
theorem dX2_come_224 : decode cX2_come 224 = .ok (.iastore, 1) := by decide +kernel
theorem dX2_come_225 : decode cX2_come 225 = .ok (.aload_n 0, 1) := by decide +kernel
theorem dX2_come_226 : decode cX2_come 226 = .ok (.getfield 41, 3) := by decide +kernel
theorem dX2_come_229 : decode cX2_come 229 = .ok (.aload_n 0, 1) := by decide +kernel
theorem dX2_come_230 : decode cX2_come 230 = .ok (.getfield 22, 3) := by decide +kernel
theorem dX2_come_233 : decode cX2_come 233 = .ok (.iload 10, 2) := by decide +kernel
theorem dX2_come_235 : decode cX2_come 235 = .ok (.iastore, 1) := by decide +kernel
theorem dX2_come_236 : decode cX2_come 236 = .ok (.aload_n 0, 1) := by decide +kernel
theorem dX2_come_237 : decode cX2_come 237 = .ok (.getfield 44, 3) := by decide +kernel
theorem dX2_come_240 : decode cX2_come 240 = .ok (.aload_n 0, 1) := by decide +kernel
theorem dX2_come_241 : decode cX2_come 241 = .ok (.getfield 22, 3) := by decide +kernel
theorem dX2_come_244 : decode cX2_come 244 = .ok (.iload 11, 2) := by decide +kernel
theorem dX2_come_246 : decode cX2_come 246 = .ok (.iastore, 1) := by decide +kernel
theorem dX2_come_247 : decode cX2_come 247 = .ok (.aload_n 0, 1) := by decide +kernel
theorem dX2_come_248 : decode cX2_come 248 = .ok (.dup, 1) := by decide +kernel
theorem dX2_come_249 : decode cX2_come 249 = .ok (.getfield 22, 3) := by decide +kernel
theorem dX2_come_252 : decode cX2_come 252 = .ok (.iconst 1, 1) := by decide +kernel
theorem dX2_come_253 : decode cX2_come 253 = .ok (.iadd, 1) := by decide +kernel
theorem dX2_come_254 : decode cX2_come 254 = .ok (.putfield 22, 3) := by decide +kernel
theorem dX2_come_257 : decode cX2_come 257 = .ok (.iinc 12 1, 3) := by decide +kernel
theorem dX2_come_260 : decode cX2_come 260 = .ok (.goto (-116), 3) := by decide +kernel
theorem dX2_come_263 : decode cX2_come 263 = .ok (.return_, 1) := by decide +kernel
theorem dX3_init_0 : decode cX3_init 0 = .ok (.aload_n 0, 1) := by decide +kernel
theorem dX3_init_1 : decode cX3_init 1 = .ok (.invokespecial 3, 3) := by decide +kernel
theorem dX3_init_4 : decode cX3_init 4 = .ok (.aload_n 0, 1) := by decide +kernel
theorem dX3_init_5 : decode cX3_init 5 = .ok (.iconst 0, 1) := by decide +kernel
theorem dX3_init_6 : decode cX3_init 6 = .ok (.putfield 9, 3) := by decide +kernel
theorem dX3_init_9 : decode cX3_init 9 = .ok (.aload_n 0, 1) := by decide +kernel
theorem dX3_init_10 : decode cX3_init 10 = .ok (.iconst 0, 1) := by decide +kernel
theorem dX3_init_11 : decode cX3_init 11 = .ok (.putfield 15, 3) := by decide +kernel
theorem dX3_init_14 : decode cX3_init 14 = .ok (.aload_n 0, 1) := by decide +kernel
theorem dX3_init_15 : decode cX3_init 15 = .ok (.bipush 120, 2) := by decide +kernel
theorem dX3_init_17 : decode cX3_init 17 = .ok (.newarray .int, 2) := by decide +kernel
theorem dX3_init_19 : decode cX3_init 19 = .ok (.putfield 18, 3) := by decide +kernel
theorem dX3_init_22 : decode cX3_init 22 = .ok (.aload_n 0, 1) := by decide +kernel
theorem dX3_init_23 : decode cX3_init 23 = .ok (.sipush 300, 3) := by decide +kernel
theorem dX3_init_26 : decode cX3_init 26 = .ok (.newarray .int, 2) := by decide +kernel
theorem dX3_init_28 : decode cX3_init 28 = .ok (.putfield 22, 3) := by decide +kernel
theorem dX3_init_31 : decode cX3_init 31 = .ok (.aload_n 0, 1) := by decide +kernel
theorem dX3_init_32 : decode cX3_init 32 = .ok (.iconst 0, 1) := by decide +kernel
theorem dX3_init_33 : decode cX3_init 33 = .ok (.putfield 25, 3) := by decide +kernel
theorem dX3_init_36 : decode cX3_init 36 = .ok (.return_, 1) := by decide +kernel
theorem dX3_append_0 : decode cX3_append 0 = .ok (.aload_n 0, 1) := by decide +kernel
theorem dX3_append_1 : decode cX3_append 1 = .ok (.getfield 9, 3) := by decide +kernel
theorem dX3_append_4 : decode cX3_append 4 = .ok (.bipush 120, 2) := by decide +kernel
theorem dX3_append_6 : decode cX3_append 6 = .ok (.if_icmp .lt 5, 3) := by decide +kernel
theorem dX3_append_9 : decode cX3_append 9 = .ok (.iconst 0, 1) := by decide +kernel
theorem dX3_append_10 : decode cX3_append 10 = .ok (.ireturn, 1) := by decide +kernel
theorem dX3_append_11 : decode cX3_append 11 = .ok (.aload_n 0, 1) := by decide +kernel
theorem dX3_append_12 : decode cX3_append 12 = .ok (.getfield 18, 3) := by decide +kernel
theorem dX3_append_15 : decode cX3_append 15 = .ok (.aload_n 0, 1) := by decide +kernel
theorem dX3_append_16 : decode cX3_append 16 = .ok (.getfield 9, 3) := by decide +kernel
theorem dX3_append_19 : decode cX3_append 19 = .ok (.iload_n 1, 1) := by decide +kernel
theorem dX3_append_20 : decode cX3_append 20 = .ok (.iastore, 1) := by decide +kernel
theorem dX3_append_21 : decode cX3_append 21 = .ok (.aload_n 0, 1) := by decide +kernel
theorem dX3_append_22 : decode cX3_append 22 = .ok (.dup, 1) := by decide +kernel
theorem dX3_append_23 : decode cX3_append 23 = .ok (.getfield 9, 3) := by decide +kernel
theorem dX3_append_26 : decode cX3_append 26 = .ok (.iconst 1, 1) := by decide +kernel
theorem dX3_append_27 : decode cX3_append 27 = .ok (.iadd, 1) := by decide +kernel
theorem dX3_append_28 : decode cX3_append 28 = .ok (.putfield 9, 3) := by decide +kernel
theorem dX3_append_31 : decode cX3_append 31 = .ok (.iconst 1, 1) := by decide +kernel
theorem dX3_append_32 : decode cX3_append 32 = .ok (.ireturn, 1) := by decide +kernel
theorem dX3_part_0 : decode cX3_part 0 = .ok (.aload_n 0, 1) := by decide +kernel
theorem dX3_part_1 : decode cX3_part 1 = .ok (.getfield 22, 3) := by decide +kernel
theorem dX3_part_4 : decode cX3_part 4 = .ok (.iload_n 1, 1) := by decide +kernel
theorem dX3_part_5 : decode cX3_part 5 = .ok (.iconst 5, 1) := by decide +kernel
theorem dX3_part_6 : decode cX3_part 6 = .ok (.imul, 1) := by decide +kernel
theorem dX3_part_7 : decode cX3_part 7 = .ok (.iload_n 2, 1) := by decide +kernel
theorem dX3_part_8 : decode cX3_part 8 = .ok (.iadd, 1) := by decide +kernel
theorem dX3_part_9 : decode cX3_part 9 = .ok (.iaload, 1) := by decide +kernel
theorem dX3_part_10 : decode cX3_part 10 = .ok (.ireturn, 1) := by decide +kernel
theorem dX3_read_0 : decode cX3_read 0 = .ok (.aload_n 0, 1) := by decide +kernel
theorem dX3_read_1 : decode cX3_read 1 = .ok (.iconst 0, 1) := by decide +kernel
theorem dX3_read_2 : decode cX3_read 2 = .ok (.putfield 25, 3) := by decide +kernel
theorem dX3_read_5 : decode cX3_read 5 = .ok (.aload_n 0, 1) := by decide +kernel
theorem dX3_read_6 : decode cX3_read 6 = .ok (.invokevirtual 28, 3) := by decide +kernel
theorem dX3_read_9 : decode cX3_read 9 = .ok (.aload_n 0, 1) := by decide +kernel
theorem dX3_read_10 : decode cX3_read 10 = .ok (.getfield 25, 3) := by decide +kernel
theorem dX3_read_13 : decode cX3_read 13 = .ok (.aload_n 0, 1) := by decide +kernel
theorem dX3_read_14 : decode cX3_read 14 = .ok (.getfield 9, 3) := by decide +kernel
theorem dX3_read_17 : decode cX3_read 17 = .ok (.if_icmp .lt 7, 3) := by decide +kernel
theorem dX3_read_20 : decode cX3_read 20 = .ok (.iconst 1, 1) := by decide +kernel
theorem dX3_read_21 : decode cX3_read 21 = .ok (.goto 4, 3) := by decide +kernel
theorem dX3_read_24 : decode cX3_read 24 = .ok (.iconst 0, 1) := by decide +kernel
theorem dX3_read_25 : decode cX3_read 25 = .ok (.istore_n 1, 1) := by decide +kernel
theorem dX3_read_26 : decode cX3_read 26 = .ok (.aload_n 0, 1) := by decide +kernel
theorem dX3_read_27 : decode cX3_read 27 = .ok (.iconst 0, 1) := by decide +kernel
theorem dX3_read_28 : decode cX3_read 28 = .ok (.putfield 15, 3) := by decide +kernel
theorem dX3_read_31 : decode cX3_read 31 = .ok (.aload_n 0, 1) := by decide +kernel
theorem dX3_read_32 : decode cX3_read 32 = .ok (.getfield 15, 3) := by decide +kernel
theorem dX3_read_35 : decode cX3_read 35 = .ok (.bipush 60, 2) := by decide +kernel
theorem dX3_read_37 : decode cX3_read 37 = .ok (.if_icmp .ge 49, 3) := by decide +kernel
theorem dX3_read_40 : decode cX3_read 40 = .ok (.aload_n 0, 1) := by decide +kernel
theorem dX3_read_41 : decode cX3_read 41 = .ok (.getfield 25, 3) := by decide +kernel
theorem dX3_read_44 : decode cX3_read 44 = .ok (.aload_n 0, 1) := by decide +kernel
theorem dX3_read_45 : decode cX3_read 45 = .ok (.getfield 9, 3) := by decide +kernel
theorem dX3_read_48 : decode cX3_read 48 = .ok (.if_icmp .ge 38, 3) := by decide +kernel
theorem dX3_read_51 : decode cX3_read 51 = .ok (.aload_n 0, 1) := by decide +kernel
theorem dX3_read_52 : decode cX3_read 52 = .ok (.aload_n 0, 1) := by decide +kernel
theorem dX3_read_53 : decode cX3_read 53 = .ok (.getfield 15, 3) := by decide +kernel
theorem dX3_read_56 : decode cX3_read 56 = .ok (.iconst 5, 1) := by decide +kernel
theorem dX3_read_57 : decode cX3_read 57 = .ok (.imul, 1) := by decide +kernel
theorem dX3_read_58 : decode cX3_read 58 = .ok (.invokevirtual 31, 3) := by decide +kernel
theorem dX3_read_61 : decode cX3_read 61 = .ok (.ifCond .ne 8, 3) := by decide +kernel
theorem dX3_read_64 : decode cX3_read 64 = .ok (.aload_n 0, 1) := by decide +kernel
theorem dX3_read_65 : decode cX3_read 65 = .ok (.getfield 25, 3) := by decide +kernel
theorem dX3_read_68 : decode cX3_read 68 = .ok (.ireturn, 1) := by decide +kernel
theorem dX3_read_69 : decode cX3_read 69 = .ok (.aload_n 0, 1) := by decide +kernel
theorem dX3_read_70 : decode cX3_read 70 = .ok (.invokevirtual 28, 3) := by decide +kernel
theorem dX3_read_73 : decode cX3_read 73 = .ok (.aload_n 0, 1) := by decide +kernel
theorem dX3_read_74 : decode cX3_read 74 = .ok (.dup, 1) := by decide +kernel
theorem dX3_read_75 : decode cX3_read 75 = .ok (.getfield 15, 3) := by decide +kernel
theorem dX3_read_78 : decode cX3_read 78 = .ok (.iconst 1, 1) := by decide +kernel
theorem dX3_read_79 : decode cX3_read 79 = .ok (.iadd, 1) := by decide +kernel
theorem dX3_read_80 : decode cX3_read 80 = .ok (.putfield 15, 3) := by decide +kernel
theorem dX3_read_83 : decode cX3_read 83 = .ok (.goto (-52), 3) := by decide +kernel
theorem dX3_read_86 : decode cX3_read 86 = .ok (.iload_n 1, 1) := by decide +kernel
theorem dX3_read_87 : decode cX3_read 87 = .ok (.ifCond .eq 10, 3) := by decide +kernel
theorem dX3_read_90 : decode cX3_read 90 = .ok (.aload_n 0, 1) := by decide +kernel
theorem dX3_read_91 : decode cX3_read 91 = .ok (.getfield 9, 3) := by decide +kernel
theorem dX3_read_94 : decode cX3_read 94 = .ok (.goto 4, 3) := by decide +kernel
theorem dX3_read_97 : decode cX3_read 97 = .ok (.iconst (-1), 1) := by decide +kernel
theorem dX3_read_98 : decode cX3_read 98 = .ok (.ireturn, 1) := by decide +kernel
theorem dX3_readOrder_0 : decode cX3_readOrder 0 = .ok (.aload_n 0, 1) := by decide +kernel
theorem dX3_readOrder_1 : decode cX3_readOrder 1 = .ok (.getfield 18, 3) := by decide +kernel
theorem dX3_readOrder_4 : decode cX3_readOrder 4 = .ok (.aload_n 0, 1) := by decide +kernel
theorem dX3_readOrder_5 : decode cX3_readOrder 5 = .ok (.getfield 25, 3) := by decide +kernel
theorem dX3_readOrder_8 : decode cX3_readOrder 8 = .ok (.iaload, 1) := by decide +kernel
theorem dX3_readOrder_9 : decode cX3_readOrder 9 = .ok (.istore_n 2, 1) := by decide +kernel
theorem dX3_readOrder_10 : decode cX3_readOrder 10 = .ok (.iload_n 2, 1) := by decide +kernel
theorem dX3_readOrder_11 : decode cX3_readOrder 11 = .ok (.invokestatic 35, 3) := by decide +kernel
theorem dX3_readOrder_14 : decode cX3_readOrder 14 = .ok (.istore_n 3, 1) := by decide +kernel
theorem dX3_readOrder_15 : decode cX3_readOrder 15 = .ok (.iload_n 3, 1) := by decide +kernel
theorem dX3_readOrder_16 : decode cX3_readOrder 16 = .ok (.iconst (-1), 1) := by decide +kernel
theorem dX3_readOrder_17 : decode cX3_readOrder 17 = .ok (.if_icmp .ne 5, 3) := by decide +kernel
theorem dX3_readOrder_20 : decode cX3_readOrder 20 = .ok (.iconst 0, 1) := by decide +kernel
theorem dX3_readOrder_21 : decode cX3_readOrder 21 = .ok (.ireturn, 1) := by decide +kernel
theorem dX3_readOrder_22 : decode cX3_readOrder 22 = .ok (.aload_n 0, 1) := by decide +kernel
theorem dX3_readOrder_23 : decode cX3_readOrder 23 = .ok (.getfield 22, 3) := by decide +kernel
theorem dX3_readOrder_26 : decode cX3_readOrder 26 = .ok (.iload_n 1, 1) := by decide +kernel
theorem dX3_readOrder_27 : decode cX3_readOrder 27 = .ok (.iload_n 2, 1) := by decide +kernel
theorem dX3_readOrder_28 : decode cX3_readOrder 28 = .ok (.iastore, 1) := by decide +kernel
theorem dX3_readOrder_29 : decode cX3_readOrder 29 = .ok (.aload_n 0, 1) := by decide +kernel
theorem dX3_readOrder_30 : decode cX3_readOrder 30 = .ok (.dup, 1) := by decide +kernel
theorem dX3_readOrder_31 : decode cX3_readOrder 31 = .ok (.getfield 25, 3) := by decide +kernel
theorem dX3_readOrder_34 : decode cX3_readOrder 34 = .ok (.iconst 1, 1) := by decide +kernel
theorem dX3_readOrder_35 : decode cX3_readOrder 35 = .ok (.iadd, 1) := by decide +kernel
theorem dX3_readOrder_36 : decode cX3_readOrder 36 = .ok (.putfield 25, 3) := by decide +kernel
theorem dX3_readOrder_39 : decode cX3_readOrder 39 = .ok (.iconst 1, 1) := by decide +kernel
theorem dX3_readOrder_40 : decode cX3_readOrder 40 = .ok (.istore 4, 2) := by decide +kernel
theorem dX3_readOrder_42 : decode cX3_readOrder 42 = .ok (.iload 4, 2) := by decide +kernel
theorem dX3_readOrder_44 : decode cX3_readOrder 44 = .ok (.iload_n 3, 1) := by decide +kernel
theorem dX3_readOrder_45 : decode cX3_readOrder 45 = .ok (.if_icmp .gt 26, 3) := by decide +kernel
theorem dX3_readOrder_48 : decode cX3_readOrder 48 = .ok (.aload_n 0, 1) := by decide +kernel
theorem dX3_readOrder_49 : decode cX3_readOrder 49 = .ok (.invokevirtual 28, 3) := by decide +kernel
theorem dX3_readOrder_52 : decode cX3_readOrder 52 = .ok (.aload_n 0, 1) := by decide +kernel
theorem dX3_readOrder_53 : decode cX3_readOrder 53 = .ok (.iload_n 1, 1) := by decide +kernel
theorem dX3_readOrder_54 : decode cX3_readOrder 54 = .ok (.iload 4, 2) := by decide +kernel
theorem dX3_readOrder_56 : decode cX3_readOrder 56 = .ok (.iadd, 1) := by decide +kernel
theorem dX3_readOrder_57 : decode cX3_readOrder 57 = .ok (.invokevirtual 39, 3) := by decide +kernel
theorem dX3_readOrder_60 : decode cX3_readOrder 60 = .ok (.ifCond .ne 5, 3) := by decide +kernel
theorem dX3_readOrder_63 : decode cX3_readOrder 63 = .ok (.iconst 0, 1) := by decide +kernel
theorem dX3_readOrder_64 : decode cX3_readOrder 64 = .ok (.ireturn, 1) := by decide +kernel
theorem dX3_readOrder_65 : decode cX3_readOrder 65 = .ok (.iinc 4 1, 3) := by decide +kernel
theorem dX3_readOrder_68 : decode cX3_readOrder 68 = .ok (.goto (-26), 3) := by decide +kernel
theorem dX3_readOrder_71 : decode cX3_readOrder 71 = .ok (.aload_n 0, 1) := by decide +kernel
theorem dX3_readOrder_72 : decode cX3_readOrder 72 = .ok (.invokevirtual 28, 3) := by decide +kernel
theorem dX3_readOrder_75 : decode cX3_readOrder 75 = .ok (.aload_n 0, 1) := by decide +kernel
theorem dX3_readOrder_76 : decode cX3_readOrder 76 = .ok (.getfield 25, 3) := by decide +kernel
theorem dX3_readOrder_79 : decode cX3_readOrder 79 = .ok (.aload_n 0, 1) := by decide +kernel
theorem dX3_readOrder_80 : decode cX3_readOrder 80 = .ok (.getfield 9, 3) := by decide +kernel
theorem dX3_readOrder_83 : decode cX3_readOrder 83 = .ok (.if_icmp .ge 17, 3) := by decide +kernel
theorem dX3_readOrder_86 : decode cX3_readOrder 86 = .ok (.aload_n 0, 1) := by decide +kernel
theorem dX3_readOrder_87 : decode cX3_readOrder 87 = .ok (.getfield 18, 3) := by decide +kernel
theorem dX3_readOrder_90 : decode cX3_readOrder 90 = .ok (.aload_n 0, 1) := by decide +kernel
theorem dX3_readOrder_91 : decode cX3_readOrder 91 = .ok (.getfield 25, 3) := by decide +kernel
theorem dX3_readOrder_94 : decode cX3_readOrder 94 = .ok (.iaload, 1) := by decide +kernel
theorem dX3_readOrder_95 : decode cX3_readOrder 95 = .ok (.bipush 59, 2) := by decide +kernel
theorem dX3_readOrder_97 : decode cX3_readOrder 97 = .ok (.if_icmp .eq 5, 3) := by decide +kernel
theorem dX3_readOrder_100 : decode cX3_readOrder 100 = .ok (.iconst 0, 1) := by decide +kernel
theorem dX3_readOrder_101 : decode cX3_readOrder 101 = .ok (.ireturn, 1) := by decide +kernel
theorem dX3_readOrder_102 : decode cX3_readOrder 102 = .ok (.aload_n 0, 1) := by decide +kernel
theorem dX3_readOrder_103 : decode cX3_readOrder 103 = .ok (.dup, 1) := by decide +kernel
theorem dX3_readOrder_104 : decode cX3_readOrder 104 = .ok (.getfield 25, 3) := by decide +kernel
theorem dX3_readOrder_107 : decode cX3_readOrder 107 = .ok (.iconst 1, 1) := by decide +kernel
theorem dX3_readOrder_108 : decode cX3_readOrder 108 = .ok (.iadd, 1) := by decide +kernel
theorem dX3_readOrder_109 : decode cX3_readOrder 109 = .ok (.putfield 25, 3) := by decide +kernel
theorem dX3_readOrder_112 : decode cX3_readOrder 112 = .ok (.iconst 1, 1) := by decide +kernel
theorem dX3_readOrder_113 : decode cX3_readOrder 113 = .ok (.ireturn, 1) := by decide +kernel
theorem dX3_readNumber_0 : decode cX3_readNumber 0 = .ok (.iconst 0, 1) := by decide +kernel
theorem dX3_readNumber_1 : decode cX3_readNumber 1 = .ok (.istore_n 2, 1) := by decide +kernel
theorem dX3_readNumber_2 : decode cX3_readNumber 2 = .ok (.iconst 0, 1) := by decide +kernel
theorem dX3_readNumber_3 : decode cX3_readNumber 3 = .ok (.istore_n 3, 1) := by decide +kernel
theorem dX3_readNumber_4 : decode cX3_readNumber 4 = .ok (.iload_n 3, 1) := by decide +kernel
theorem dX3_readNumber_5 : decode cX3_readNumber 5 = .ok (.iconst 3, 1) := by decide +kernel
theorem dX3_readNumber_6 : decode cX3_readNumber 6 = .ok (.if_icmp .ge 44, 3) := by decide +kernel
theorem dX3_readNumber_9 : decode cX3_readNumber 9 = .ok (.aload_n 0, 1) := by decide +kernel
theorem dX3_readNumber_10 : decode cX3_readNumber 10 = .ok (.invokevirtual 42, 3) := by decide +kernel
theorem dX3_readNumber_13 : decode cX3_readNumber 13 = .ok (.ifCond .eq 37, 3) := by decide +kernel
theorem dX3_readNumber_16 : decode cX3_readNumber 16 = .ok (.bipush 10, 2) := by decide +kernel
theorem dX3_readNumber_18 : decode cX3_readNumber 18 = .ok (.iload_n 2, 1) := by decide +kernel
theorem dX3_readNumber_19 : decode cX3_readNumber 19 = .ok (.imul, 1) := by decide +kernel
theorem dX3_readNumber_20 : decode cX3_readNumber 20 = .ok (.aload_n 0, 1) := by decide +kernel
theorem dX3_readNumber_21 : decode cX3_readNumber 21 = .ok (.getfield 18, 3) := by decide +kernel
theorem dX3_readNumber_24 : decode cX3_readNumber 24 = .ok (.aload_n 0, 1) := by decide +kernel
theorem dX3_readNumber_25 : decode cX3_readNumber 25 = .ok (.getfield 25, 3) := by decide +kernel
theorem dX3_readNumber_28 : decode cX3_readNumber 28 = .ok (.iaload, 1) := by decide +kernel
theorem dX3_readNumber_29 : decode cX3_readNumber 29 = .ok (.iadd, 1) := by decide +kernel
theorem dX3_readNumber_30 : decode cX3_readNumber 30 = .ok (.bipush 48, 2) := by decide +kernel
theorem dX3_readNumber_32 : decode cX3_readNumber 32 = .ok (.isub, 1) := by decide +kernel
theorem dX3_readNumber_33 : decode cX3_readNumber 33 = .ok (.istore_n 2, 1) := by decide +kernel
theorem dX3_readNumber_34 : decode cX3_readNumber 34 = .ok (.aload_n 0, 1) := by decide +kernel
theorem dX3_readNumber_35 : decode cX3_readNumber 35 = .ok (.dup, 1) := by decide +kernel
theorem dX3_readNumber_36 : decode cX3_readNumber 36 = .ok (.getfield 25, 3) := by decide +kernel
theorem dX3_readNumber_39 : decode cX3_readNumber 39 = .ok (.iconst 1, 1) := by decide +kernel
theorem dX3_readNumber_40 : decode cX3_readNumber 40 = .ok (.iadd, 1) := by decide +kernel
theorem dX3_readNumber_41 : decode cX3_readNumber 41 = .ok (.putfield 25, 3) := by decide +kernel
theorem dX3_readNumber_44 : decode cX3_readNumber 44 = .ok (.iinc 3 1, 3) := by decide +kernel
theorem dX3_readNumber_47 : decode cX3_readNumber 47 = .ok (.goto (-43), 3) := by decide +kernel
theorem dX3_readNumber_50 : decode cX3_readNumber 50 = .ok (.aload_n 0, 1) := by decide +kernel
theorem dX3_readNumber_51 : decode cX3_readNumber 51 = .ok (.getfield 22, 3) := by decide +kernel
theorem dX3_readNumber_54 : decode cX3_readNumber 54 = .ok (.iload_n 1, 1) := by decide +kernel
theorem dX3_readNumber_55 : decode cX3_readNumber 55 = .ok (.iload_n 2, 1) := by decide +kernel
theorem dX3_readNumber_56 : decode cX3_readNumber 56 = .ok (.iastore, 1) := by decide +kernel
theorem dX3_readNumber_57 : decode cX3_readNumber 57 = .ok (.iload_n 3, 1) := by decide +kernel
theorem dX3_readNumber_58 : decode cX3_readNumber 58 = .ok (.ifCond .le 14, 3) := by decide +kernel
theorem dX3_readNumber_61 : decode cX3_readNumber 61 = .ok (.aload_n 0, 1) := by decide +kernel
theorem dX3_readNumber_62 : decode cX3_readNumber 62 = .ok (.invokevirtual 42, 3) := by decide +kernel
theorem dX3_readNumber_65 : decode cX3_readNumber 65 = .ok (.ifCond .ne 7, 3) := by decide +kernel
theorem dX3_readNumber_68 : decode cX3_readNumber 68 = .ok (.iconst 1, 1) := by decide +kernel
theorem dX3_readNumber_69 : decode cX3_readNumber 69 = .ok (.goto 4, 3) := by decide +kernel
theorem dX3_readNumber_72 : decode cX3_readNumber 72 = .ok (.iconst 0, 1) := by decide +kernel
theorem dX3_readNumber_73 : decode cX3_readNumber 73 = .ok (.ireturn, 1) := by decide +kernel
theorem dX3_skipBlanks_0 : decode cX3_skipBlanks 0 = .ok (.aload_n 0, 1) := by decide +kernel
theorem dX3_skipBlanks_1 : decode cX3_skipBlanks 1 = .ok (.getfield 25, 3) := by decide +kernel
theorem dX3_skipBlanks_4 : decode cX3_skipBlanks 4 = .ok (.aload_n 0, 1) := by decide +kernel
theorem dX3_skipBlanks_5 : decode cX3_skipBlanks 5 = .ok (.getfield 9, 3) := by decide +kernel
theorem dX3_skipBlanks_8 : decode cX3_skipBlanks 8 = .ok (.if_icmp .ge 30, 3) := by decide +kernel
theorem dX3_skipBlanks_11 : decode cX3_skipBlanks 11 = .ok (.aload_n 0, 1) := by decide +kernel
theorem dX3_skipBlanks_12 : decode cX3_skipBlanks 12 = .ok (.getfield 18, 3) := by decide +kernel
theorem dX3_skipBlanks_15 : decode cX3_skipBlanks 15 = .ok (.aload_n 0, 1) := by decide +kernel
theorem dX3_skipBlanks_16 : decode cX3_skipBlanks 16 = .ok (.getfield 25, 3) := by decide +kernel
theorem dX3_skipBlanks_19 : decode cX3_skipBlanks 19 = .ok (.iaload, 1) := by decide +kernel
theorem dX3_skipBlanks_20 : decode cX3_skipBlanks 20 = .ok (.bipush 32, 2) := by decide +kernel
theorem dX3_skipBlanks_22 : decode cX3_skipBlanks 22 = .ok (.if_icmp .ne 16, 3) := by decide +kernel
theorem dX3_skipBlanks_25 : decode cX3_skipBlanks 25 = .ok (.aload_n 0, 1) := by decide +kernel
theorem dX3_skipBlanks_26 : decode cX3_skipBlanks 26 = .ok (.dup, 1) := by decide +kernel
theorem dX3_skipBlanks_27 : decode cX3_skipBlanks 27 = .ok (.getfield 25, 3) := by decide +kernel
theorem dX3_skipBlanks_30 : decode cX3_skipBlanks 30 = .ok (.iconst 1, 1) := by decide +kernel
theorem dX3_skipBlanks_31 : decode cX3_skipBlanks 31 = .ok (.iadd, 1) := by decide +kernel
theorem dX3_skipBlanks_32 : decode cX3_skipBlanks 32 = .ok (.putfield 25, 3) := by decide +kernel
theorem dX3_skipBlanks_35 : decode cX3_skipBlanks 35 = .ok (.goto (-35), 3) := by decide +kernel
theorem dX3_skipBlanks_38 : decode cX3_skipBlanks 38 = .ok (.return_, 1) := by decide +kernel
theorem dX3_isFigure_0 : decode cX3_isFigure 0 = .ok (.aload_n 0, 1) := by decide +kernel
theorem dX3_isFigure_1 : decode cX3_isFigure 1 = .ok (.getfield 25, 3) := by decide +kernel
theorem dX3_isFigure_4 : decode cX3_isFigure 4 = .ok (.aload_n 0, 1) := by decide +kernel
theorem dX3_isFigure_5 : decode cX3_isFigure 5 = .ok (.getfield 9, 3) := by decide +kernel
theorem dX3_isFigure_8 : decode cX3_isFigure 8 = .ok (.if_icmp .ge 35, 3) := by decide +kernel
theorem dX3_isFigure_11 : decode cX3_isFigure 11 = .ok (.aload_n 0, 1) := by decide +kernel
theorem dX3_isFigure_12 : decode cX3_isFigure 12 = .ok (.getfield 18, 3) := by decide +kernel
theorem dX3_isFigure_15 : decode cX3_isFigure 15 = .ok (.aload_n 0, 1) := by decide +kernel
theorem dX3_isFigure_16 : decode cX3_isFigure 16 = .ok (.getfield 25, 3) := by decide +kernel
theorem dX3_isFigure_19 : decode cX3_isFigure 19 = .ok (.iaload, 1) := by decide +kernel
theorem dX3_isFigure_20 : decode cX3_isFigure 20 = .ok (.bipush 48, 2) := by decide +kernel
theorem dX3_isFigure_22 : decode cX3_isFigure 22 = .ok (.if_icmp .lt 21, 3) := by decide +kernel
theorem dX3_isFigure_25 : decode cX3_isFigure 25 = .ok (.aload_n 0, 1) := by decide +kernel
theorem dX3_isFigure_26 : decode cX3_isFigure 26 = .ok (.getfield 18, 3) := by decide +kernel
theorem dX3_isFigure_29 : decode cX3_isFigure 29 = .ok (.aload_n 0, 1) := by decide +kernel
theorem dX3_isFigure_30 : decode cX3_isFigure 30 = .ok (.getfield 25, 3) := by decide +kernel
theorem dX3_isFigure_33 : decode cX3_isFigure 33 = .ok (.iaload, 1) := by decide +kernel
theorem dX3_isFigure_34 : decode cX3_isFigure 34 = .ok (.bipush 57, 2) := by decide +kernel
theorem dX3_isFigure_36 : decode cX3_isFigure 36 = .ok (.if_icmp .gt 7, 3) := by decide +kernel
theorem dX3_isFigure_39 : decode cX3_isFigure 39 = .ok (.iconst 1, 1) := by decide +kernel
theorem dX3_isFigure_40 : decode cX3_isFigure 40 = .ok (.goto 4, 3) := by decide +kernel
theorem dX3_isFigure_43 : decode cX3_isFigure 43 = .ok (.iconst 0, 1) := by decide +kernel
theorem dX3_isFigure_44 : decode cX3_isFigure 44 = .ok (.ireturn, 1) := by decide +kernel
theorem dX3_numbersBehind_0 : decode cX3_numbersBehind 0 = .ok (.iload_n 0, 1) := by decide +kernel
theorem dX3_numbersBehind_1 : decode cX3_numbersBehind 1 = .ok (.tableswitch 113 99 120 #[109, 113, 107, 111, 113, 113, 113, 113, 113, 113, 113, 105, 113, 103, 113, 113, 105, 113, 113, 113, 113, 105], 103) := by decide +kernel
theorem dX3_numbersBehind_104 : decode cX3_numbersBehind 104 = .ok (.iconst 0, 1) := by decide +kernel
theorem dX3_numbersBehind_105 : decode cX3_numbersBehind 105 = .ok (.ireturn, 1) := by decide +kernel
theorem dX3_numbersBehind_106 : decode cX3_numbersBehind 106 = .ok (.iconst 1, 1) := by decide +kernel
theorem dX3_numbersBehind_107 : decode cX3_numbersBehind 107 = .ok (.ireturn, 1) := by decide +kernel
theorem dX3_numbersBehind_108 : decode cX3_numbersBehind 108 = .ok (.iconst 2, 1) := by decide +kernel
theorem dX3_numbersBehind_109 : decode cX3_numbersBehind 109 = .ok (.ireturn, 1) := by decide +kernel
theorem dX3_numbersBehind_110 : decode cX3_numbersBehind 110 = .ok (.iconst 3, 1) := by decide +kernel
theorem dX3_numbersBehind_111 : decode cX3_numbersBehind 111 = .ok (.ireturn, 1) := by decide +kernel
theorem dX3_numbersBehind_112 : decode cX3_numbersBehind 112 = .ok (.iconst 4, 1) := by decide +kernel
theorem dX3_numbersBehind_113 : decode cX3_numbersBehind 113 = .ok (.ireturn, 1) := by decide +kernel
theorem dX3_numbersBehind_114 : decode cX3_numbersBehind 114 = .ok (.iconst (-1), 1) := by decide +kernel
theorem dX3_numbersBehind_115 : decode cX3_numbersBehind 115 = .ok (.ireturn, 1) := by decide +kernel
theorem dX4_init_0 : decode cX4_init 0 = .ok (.aload_n 0, 1) := by decide +kernel
theorem dX4_init_1 : decode cX4_init 1 = .ok (.invokespecial 3, 3) := by decide +kernel
theorem dX4_init_4 : decode cX4_init 4 = .ok (.aload_n 0, 1) := by decide +kernel
theorem dX4_init_5 : decode cX4_init 5 = .ok (.bipush 7, 2) := by decide +kernel
theorem dX4_init_7 : decode cX4_init 7 = .ok (.anewarray 9, 3) := by decide +kernel
theorem dX4_init_10 : decode cX4_init 10 = .ok (.putfield 11, 3) := by decide +kernel
theorem dX4_init_13 : decode cX4_init 13 = .ok (.aload_n 0, 1) := by decide +kernel
theorem dX4_init_14 : decode cX4_init 14 = .ok (.iconst 0, 1) := by decide +kernel
theorem dX4_init_15 : decode cX4_init 15 = .ok (.putfield 15, 3) := by decide +kernel
theorem dX4_init_18 : decode cX4_init 18 = .ok (.aload_n 0, 1) := by decide +kernel
theorem dX4_init_19 : decode cX4_init 19 = .ok (.iconst 0, 1) := by decide +kernel
theorem dX4_init_20 : decode cX4_init 20 = .ok (.putfield 19, 3) := by decide +kernel
theorem dX4_init_23 : decode cX4_init 23 = .ok (.aload_n 0, 1) := by decide +kernel
theorem dX4_init_24 : decode cX4_init 24 = .ok (.new 22, 3) := by decide +kernel
theorem dX4_init_27 : decode cX4_init 27 = .ok (.dup, 1) := by decide +kernel
theorem dX4_init_28 : decode cX4_init 28 = .ok (.invokespecial 24, 3) := by decide +kernel
theorem dX4_init_31 : decode cX4_init 31 = .ok (.putfield 25, 3) := by decide +kernel
theorem dX4_init_34 : decode cX4_init 34 = .ok (.aload_n 0, 1) := by decide +kernel
theorem dX4_init_35 : decode cX4_init 35 = .ok (.new 29, 3) := by decide +kernel
theorem dX4_init_38 : decode cX4_init 38 = .ok (.dup, 1) := by decide +kernel
theorem dX4_init_39 : decode cX4_init 39 = .ok (.invokespecial 31, 3) := by decide +kernel
theorem dX4_init_42 : decode cX4_init 42 = .ok (.putfield 32, 3) := by decide +kernel
theorem dX4_init_45 : decode cX4_init 45 = .ok (.aload_n 0, 1) := by decide +kernel
theorem dX4_init_46 : decode cX4_init 46 = .ok (.new 36, 3) := by decide +kernel
theorem dX4_init_49 : decode cX4_init 49 = .ok (.dup, 1) := by decide +kernel
theorem dX4_init_50 : decode cX4_init 50 = .ok (.invokespecial 38, 3) := by decide +kernel
theorem dX4_init_53 : decode cX4_init 53 = .ok (.putfield 39, 3) := by decide +kernel
theorem dX4_init_56 : decode cX4_init 56 = .ok (.aload_n 0, 1) := by decide +kernel
theorem dX4_init_57 : decode cX4_init 57 = .ok (.iconst 0, 1) := by decide +kernel
theorem dX4_init_58 : decode cX4_init 58 = .ok (.putfield 43, 3) := by decide +kernel
theorem dX4_init_61 : decode cX4_init 61 = .ok (.aload_n 0, 1) := by decide +kernel
theorem dX4_init_62 : decode cX4_init 62 = .ok (.iconst 0, 1) := by decide +kernel
theorem dX4_init_63 : decode cX4_init 63 = .ok (.putfield 46, 3) := by decide +kernel
theorem dX4_init_66 : decode cX4_init 66 = .ok (.aload_n 0, 1) := by decide +kernel
theorem dX4_init_67 : decode cX4_init 67 = .ok (.iconst 0, 1) := by decide +kernel
theorem dX4_init_68 : decode cX4_init 68 = .ok (.putfield 49, 3) := by decide +kernel
theorem dX4_init_71 : decode cX4_init 71 = .ok (.iconst 0, 1) := by decide +kernel
theorem dX4_init_72 : decode cX4_init 72 = .ok (.istore_n 1, 1) := by decide +kernel
theorem dX4_init_73 : decode cX4_init 73 = .ok (.iload_n 1, 1) := by decide +kernel
theorem dX4_init_74 : decode cX4_init 74 = .ok (.bipush 7, 2) := by decide +kernel
theorem dX4_init_76 : decode cX4_init 76 = .ok (.if_icmp .ge 22, 3) := by decide +kernel
theorem dX4_init_79 : decode cX4_init 79 = .ok (.aload_n 0, 1) := by decide +kernel
theorem dX4_init_80 : decode cX4_init 80 = .ok (.getfield 11, 3) := by decide +kernel
theorem dX4_init_83 : decode cX4_init 83 = .ok (.iload_n 1, 1) := by decide +kernel
theorem dX4_init_84 : decode cX4_init 84 = .ok (.new 9, 3) := by decide +kernel
theorem dX4_init_87 : decode cX4_init 87 = .ok (.dup, 1) := by decide +kernel
theorem dX4_init_88 : decode cX4_init 88 = .ok (.invokespecial 52, 3) := by decide +kernel
theorem dX4_init_91 : decode cX4_init 91 = .ok (.aastore, 1) := by decide +kernel
theorem dX4_init_92 : decode cX4_init 92 = .ok (.iinc 1 1, 3) := by decide +kernel
theorem dX4_init_95 : decode cX4_init 95 = .ok (.goto (-22), 3) := by decide +kernel
theorem dX4_init_98 : decode cX4_init 98 = .ok (.aload_n 0, 1) := by decide +kernel
theorem dX4_init_99 : decode cX4_init 99 = .ok (.getfield 11, 3) := by decide +kernel
theorem dX4_init_102 : decode cX4_init 102 = .ok (.aload_n 0, 1) := by decide +kernel
theorem dX4_init_103 : decode cX4_init 103 = .ok (.getfield 15, 3) := by decide +kernel
theorem dX4_init_106 : decode cX4_init 106 = .ok (.aaload, 1) := by decide +kernel
theorem dX4_init_107 : decode cX4_init 107 = .ok (.invokevirtual 53, 3) := by decide +kernel
theorem dX4_init_110 : decode cX4_init 110 = .ok (.pop, 1) := by decide +kernel
theorem dX4_init_111 : decode cX4_init 111 = .ok (.return_, 1) := by decide +kernel
theorem dX4_proc_0 : decode cX4_proc 0 = .ok (.aload_n 0, 1) := by decide +kernel
theorem dX4_proc_1 : decode cX4_proc 1 = .ok (.aload_n 0, 1) := by decide +kernel
theorem dX4_proc_2 : decode cX4_proc 2 = .ok (.invokevirtual 57, 3) := by decide +kernel
theorem dX4_proc_5 : decode cX4_proc 5 = .ok (.invokevirtual 53, 3) := by decide +kernel
theorem dX4_proc_8 : decode cX4_proc 8 = .ok (.invokevirtual 61, 3) := by decide +kernel
theorem dX4_proc_11 : decode cX4_proc 11 = .ok (.ireturn, 1) := by decide +kernel
theorem dX4_node_0 : decode cX4_node 0 = .ok (.aload_n 0, 1) := by decide +kernel
theorem dX4_node_1 : decode cX4_node 1 = .ok (.aload_n 0, 1) := by decide +kernel
theorem dX4_node_2 : decode cX4_node 2 = .ok (.invokevirtual 57, 3) := by decide +kernel
theorem dX4_node_5 : decode cX4_node 5 = .ok (.iload_n 1, 1) := by decide +kernel
theorem dX4_node_6 : decode cX4_node 6 = .ok (.invokevirtual 65, 3) := by decide +kernel
theorem dX4_node_9 : decode cX4_node 9 = .ok (.invokevirtual 61, 3) := by decide +kernel
theorem dX4_node_12 : decode cX4_node 12 = .ok (.ireturn, 1) := by decide +kernel
theorem dX4_edge_0 : decode cX4_edge 0 = .ok (.aload_n 0, 1) := by decide +kernel
theorem dX4_edge_1 : decode cX4_edge 1 = .ok (.aload_n 0, 1) := by decide +kernel
theorem dX4_edge_2 : decode cX4_edge 2 = .ok (.invokevirtual 57, 3) := by decide +kernel
theorem dX4_edge_5 : decode cX4_edge 5 = .ok (.iload_n 1, 1) := by decide +kernel
theorem dX4_edge_6 : decode cX4_edge 6 = .ok (.iload_n 2, 1) := by decide +kernel
theorem dX4_edge_7 : decode cX4_edge 7 = .ok (.invokevirtual 68, 3) := by decide +kernel
theorem dX4_edge_10 : decode cX4_edge 10 = .ok (.invokevirtual 61, 3) := by decide +kernel
theorem dX4_edge_13 : decode cX4_edge 13 = .ok (.ireturn, 1) := by decide +kernel
theorem dX4_call_0 : decode cX4_call 0 = .ok (.aload_n 0, 1) := by decide +kernel
theorem dX4_call_1 : decode cX4_call 1 = .ok (.aload_n 0, 1) := by decide +kernel
theorem dX4_call_2 : decode cX4_call 2 = .ok (.invokevirtual 57, 3) := by decide +kernel
theorem dX4_call_5 : decode cX4_call 5 = .ok (.iload_n 1, 1) := by decide +kernel
theorem dX4_call_6 : decode cX4_call 6 = .ok (.iload_n 2, 1) := by decide +kernel
theorem dX4_call_7 : decode cX4_call 7 = .ok (.iload_n 3, 1) := by decide +kernel
theorem dX4_call_8 : decode cX4_call 8 = .ok (.invokevirtual 72, 3) := by decide +kernel
theorem dX4_call_11 : decode cX4_call 11 = .ok (.invokevirtual 61, 3) := by decide +kernel
theorem dX4_call_14 : decode cX4_call 14 = .ok (.ireturn, 1) := by decide +kernel
theorem dX4_flows_0 : decode cX4_flows 0 = .ok (.aload_n 0, 1) := by decide +kernel
theorem dX4_flows_1 : decode cX4_flows 1 = .ok (.aload_n 0, 1) := by decide +kernel
theorem dX4_flows_2 : decode cX4_flows 2 = .ok (.invokevirtual 57, 3) := by decide +kernel
theorem dX4_flows_5 : decode cX4_flows 5 = .ok (.iload_n 1, 1) := by decide +kernel
theorem dX4_flows_6 : decode cX4_flows 6 = .ok (.iload_n 2, 1) := by decide +kernel
theorem dX4_flows_7 : decode cX4_flows 7 = .ok (.iload_n 3, 1) := by decide +kernel
theorem dX4_flows_8 : decode cX4_flows 8 = .ok (.iload 4, 2) := by decide +kernel
theorem dX4_flows_10 : decode cX4_flows 10 = .ok (.invokevirtual 76, 3) := by decide +kernel
theorem dX4_flows_13 : decode cX4_flows 13 = .ok (.invokevirtual 61, 3) := by decide +kernel
theorem dX4_flows_16 : decode cX4_flows 16 = .ok (.ireturn, 1) := by decide +kernel
theorem dX4_starts_0 : decode cX4_starts 0 = .ok (.aload_n 0, 1) := by decide +kernel
theorem dX4_starts_1 : decode cX4_starts 1 = .ok (.aload_n 0, 1) := by decide +kernel
theorem dX4_starts_2 : decode cX4_starts 2 = .ok (.invokevirtual 57, 3) := by decide +kernel
theorem dX4_starts_5 : decode cX4_starts 5 = .ok (.iload_n 1, 1) := by decide +kernel
theorem dX4_starts_6 : decode cX4_starts 6 = .ok (.invokevirtual 80, 3) := by decide +kernel
theorem dX4_starts_9 : decode cX4_starts 9 = .ok (.invokevirtual 61, 3) := by decide +kernel
theorem dX4_starts_12 : decode cX4_starts 12 = .ok (.ireturn, 1) := by decide +kernel
theorem dX4_cuts_0 : decode cX4_cuts 0 = .ok (.aload_n 0, 1) := by decide +kernel
theorem dX4_cuts_1 : decode cX4_cuts 1 = .ok (.aload_n 0, 1) := by decide +kernel
theorem dX4_cuts_2 : decode cX4_cuts 2 = .ok (.invokevirtual 57, 3) := by decide +kernel
theorem dX4_cuts_5 : decode cX4_cuts 5 = .ok (.iload_n 1, 1) := by decide +kernel
theorem dX4_cuts_6 : decode cX4_cuts 6 = .ok (.invokevirtual 83, 3) := by decide +kernel
theorem dX4_cuts_9 : decode cX4_cuts 9 = .ok (.invokevirtual 61, 3) := by decide +kernel
theorem dX4_cuts_12 : decode cX4_cuts 12 = .ok (.ireturn, 1) := by decide +kernel
theorem dX4_at_0 : decode cX4_at 0 = .ok (.aload_n 0, 1) := by decide +kernel
theorem dX4_at_1 : decode cX4_at 1 = .ok (.getfield 11, 3) := by decide +kernel
theorem dX4_at_4 : decode cX4_at 4 = .ok (.aload_n 0, 1) := by decide +kernel
theorem dX4_at_5 : decode cX4_at 5 = .ok (.getfield 15, 3) := by decide +kernel
theorem dX4_at_8 : decode cX4_at 8 = .ok (.aaload, 1) := by decide +kernel
theorem dX4_at_9 : decode cX4_at 9 = .ok (.astore_n 3, 1) := by decide +kernel
theorem dX4_at_10 : decode cX4_at 10 = .ok (.aload_n 3, 1) := by decide +kernel
theorem dX4_at_11 : decode cX4_at 11 = .ok (.iload_n 1, 1) := by decide +kernel
theorem dX4_at_12 : decode cX4_at 12 = .ok (.invokevirtual 86, 3) := by decide +kernel
theorem dX4_at_15 : decode cX4_at 15 = .ok (.ifCond .eq 12, 3) := by decide +kernel
theorem dX4_at_18 : decode cX4_at 18 = .ok (.iload_n 2, 1) := by decide +kernel
theorem dX4_at_19 : decode cX4_at 19 = .ok (.ifCond .lt 8, 3) := by decide +kernel
theorem dX4_at_22 : decode cX4_at 22 = .ok (.iload_n 2, 1) := by decide +kernel
theorem dX4_at_23 : decode cX4_at 23 = .ok (.iconst 1, 1) := by decide +kernel
theorem dX4_at_24 : decode cX4_at 24 = .ok (.if_icmp .le 10, 3) := by decide +kernel
theorem dX4_at_27 : decode cX4_at 27 = .ok (.aload_n 0, 1) := by decide +kernel
theorem dX4_at_28 : decode cX4_at 28 = .ok (.bipush (-2), 2) := by decide +kernel
theorem dX4_at_30 : decode cX4_at 30 = .ok (.invokevirtual 90, 3) := by decide +kernel
theorem dX4_at_33 : decode cX4_at 33 = .ok (.ireturn, 1) := by decide +kernel
theorem dX4_at_34 : decode cX4_at 34 = .ok (.iload_n 2, 1) := by decide +kernel
theorem dX4_at_35 : decode cX4_at 35 = .ok (.ifCond .ne 12, 3) := by decide +kernel
theorem dX4_at_38 : decode cX4_at 38 = .ok (.aload_n 3, 1) := by decide +kernel
theorem dX4_at_39 : decode cX4_at 39 = .ok (.getfield 93, 3) := by decide +kernel
theorem dX4_at_42 : decode cX4_at 42 = .ok (.iload_n 1, 1) := by decide +kernel
theorem dX4_at_43 : decode cX4_at 43 = .ok (.iaload, 1) := by decide +kernel
theorem dX4_at_44 : decode cX4_at 44 = .ok (.goto 9, 3) := by decide +kernel
theorem dX4_at_47 : decode cX4_at 47 = .ok (.aload_n 3, 1) := by decide +kernel
theorem dX4_at_48 : decode cX4_at 48 = .ok (.getfield 97, 3) := by decide +kernel
theorem dX4_at_51 : decode cX4_at 51 = .ok (.iload_n 1, 1) := by decide +kernel
theorem dX4_at_52 : decode cX4_at 52 = .ok (.iaload, 1) := by decide +kernel
theorem dX4_at_53 : decode cX4_at 53 = .ok (.ireturn, 1) := by decide +kernel
theorem dX4_about_0 : decode cX4_about 0 = .ok (.aload_n 0, 1) := by decide +kernel
theorem dX4_about_1 : decode cX4_about 1 = .ok (.getfield 11, 3) := by decide +kernel
theorem dX4_about_4 : decode cX4_about 4 = .ok (.aload_n 0, 1) := by decide +kernel
theorem dX4_about_5 : decode cX4_about 5 = .ok (.getfield 15, 3) := by decide +kernel
theorem dX4_about_8 : decode cX4_about 8 = .ok (.aaload, 1) := by decide +kernel
theorem dX4_about_9 : decode cX4_about 9 = .ok (.astore_n 3, 1) := by decide +kernel
theorem dX4_about_10 : decode cX4_about 10 = .ok (.aload_n 3, 1) := by decide +kernel
theorem dX4_about_11 : decode cX4_about 11 = .ok (.iload_n 1, 1) := by decide +kernel
theorem dX4_about_12 : decode cX4_about 12 = .ok (.invokevirtual 100, 3) := by decide +kernel
theorem dX4_about_15 : decode cX4_about 15 = .ok (.ifCond .eq 12, 3) := by decide +kernel
theorem dX4_about_18 : decode cX4_about 18 = .ok (.iload_n 2, 1) := by decide +kernel
theorem dX4_about_19 : decode cX4_about 19 = .ok (.ifCond .lt 8, 3) := by decide +kernel
theorem dX4_about_22 : decode cX4_about 22 = .ok (.iload_n 2, 1) := by decide +kernel
theorem dX4_about_23 : decode cX4_about 23 = .ok (.iconst 2, 1) := by decide +kernel
theorem dX4_about_24 : decode cX4_about 24 = .ok (.if_icmp .le 10, 3) := by decide +kernel
theorem dX4_about_27 : decode cX4_about 27 = .ok (.aload_n 0, 1) := by decide +kernel
theorem dX4_about_28 : decode cX4_about 28 = .ok (.bipush (-2), 2) := by decide +kernel
theorem dX4_about_30 : decode cX4_about 30 = .ok (.invokevirtual 90, 3) := by decide +kernel
theorem dX4_about_33 : decode cX4_about 33 = .ok (.ireturn, 1) := by decide +kernel
theorem dX4_about_34 : decode cX4_about 34 = .ok (.aload_n 0, 1) := by decide +kernel
theorem dX4_about_35 : decode cX4_about 35 = .ok (.aload_n 3, 1) := by decide +kernel
theorem dX4_about_36 : decode cX4_about 36 = .ok (.iload_n 1, 1) := by decide +kernel
theorem dX4_about_37 : decode cX4_about 37 = .ok (.iload_n 2, 1) := by decide +kernel
theorem dX4_about_38 : decode cX4_about 38 = .ok (.invokevirtual 103, 3) := by decide +kernel
theorem dX4_about_41 : decode cX4_about 41 = .ok (.ireturn, 1) := by decide +kernel
theorem dX4_goes_0 : decode cX4_goes 0 = .ok (.aload_n 0, 1) := by decide +kernel
theorem dX4_goes_1 : decode cX4_goes 1 = .ok (.getfield 11, 3) := by decide +kernel
theorem dX4_goes_4 : decode cX4_goes 4 = .ok (.aload_n 0, 1) := by decide +kernel
theorem dX4_goes_5 : decode cX4_goes 5 = .ok (.getfield 15, 3) := by decide +kernel
theorem dX4_goes_8 : decode cX4_goes 8 = .ok (.aaload, 1) := by decide +kernel
theorem dX4_goes_9 : decode cX4_goes 9 = .ok (.astore 4, 2) := by decide +kernel
theorem dX4_goes_11 : decode cX4_goes 11 = .ok (.aload 4, 2) := by decide +kernel
theorem dX4_goes_13 : decode cX4_goes 13 = .ok (.iload_n 1, 1) := by decide +kernel
theorem dX4_goes_14 : decode cX4_goes 14 = .ok (.iload_n 2, 1) := by decide +kernel
theorem dX4_goes_15 : decode cX4_goes 15 = .ok (.invokevirtual 107, 3) := by decide +kernel
theorem dX4_goes_18 : decode cX4_goes 18 = .ok (.ifCond .eq 10, 3) := by decide +kernel
theorem dX4_goes_21 : decode cX4_goes 21 = .ok (.iload_n 3, 1) := by decide +kernel
theorem dX4_goes_22 : decode cX4_goes 22 = .ok (.invokestatic 111, 3) := by decide +kernel
theorem dX4_goes_25 : decode cX4_goes 25 = .ok (.ifCond .ne 10, 3) := by decide +kernel
theorem dX4_goes_28 : decode cX4_goes 28 = .ok (.aload_n 0, 1) := by decide +kernel
theorem dX4_goes_29 : decode cX4_goes 29 = .ok (.bipush (-2), 2) := by decide +kernel
theorem dX4_goes_31 : decode cX4_goes 31 = .ok (.invokevirtual 90, 3) := by decide +kernel
theorem dX4_goes_34 : decode cX4_goes 34 = .ok (.ireturn, 1) := by decide +kernel
theorem dX4_goes_35 : decode cX4_goes 35 = .ok (.aload 4, 2) := by decide +kernel
theorem dX4_goes_37 : decode cX4_goes 37 = .ok (.iload_n 1, 1) := by decide +kernel
theorem dX4_goes_38 : decode cX4_goes 38 = .ok (.iload_n 2, 1) := by decide +kernel
theorem dX4_goes_39 : decode cX4_goes 39 = .ok (.iload_n 3, 1) := by decide +kernel
theorem dX4_goes_40 : decode cX4_goes 40 = .ok (.invokevirtual 114, 3) := by decide +kernel
theorem dX4_goes_43 : decode cX4_goes 43 = .ok (.ireturn, 1) := by decide +kernel
theorem dX4_count_0 : decode cX4_count 0 = .ok (.iload_n 1, 1) := by decide +kernel
theorem dX4_count_1 : decode cX4_count 1 = .ok (.ifCond .lt 8, 3) := by decide +kernel
theorem dX4_count_4 : decode cX4_count 4 = .ok (.iload_n 1, 1) := by decide +kernel
theorem dX4_count_5 : decode cX4_count 5 = .ok (.iconst 5, 1) := by decide +kernel
theorem dX4_count_6 : decode cX4_count 6 = .ok (.if_icmp .le 10, 3) := by decide +kernel
theorem dX4_count_9 : decode cX4_count 9 = .ok (.aload_n 0, 1) := by decide +kernel
theorem dX4_count_10 : decode cX4_count 10 = .ok (.bipush (-2), 2) := by decide +kernel
theorem dX4_count_12 : decode cX4_count 12 = .ok (.invokevirtual 90, 3) := by decide +kernel
theorem dX4_count_15 : decode cX4_count 15 = .ok (.ireturn, 1) := by decide +kernel
theorem dX4_count_16 : decode cX4_count 16 = .ok (.aload_n 0, 1) := by decide +kernel
theorem dX4_count_17 : decode cX4_count 17 = .ok (.getfield 11, 3) := by decide +kernel
theorem dX4_count_20 : decode cX4_count 20 = .ok (.aload_n 0, 1) := by decide +kernel
theorem dX4_count_21 : decode cX4_count 21 = .ok (.getfield 15, 3) := by decide +kernel
theorem dX4_count_24 : decode cX4_count 24 = .ok (.aaload, 1) := by decide +kernel
theorem dX4_count_25 : decode cX4_count 25 = .ok (.astore_n 2, 1) := by decide +kernel
theorem dX4_count_26 : decode cX4_count 26 = .ok (.iload_n 1, 1) := by decide +kernel
theorem dX4_count_27 : decode cX4_count 27 = .ok (.iconst 4, 1) := by decide +kernel
theorem dX4_count_28 : decode cX4_count 28 = .ok (.if_icmp .lt 16, 3) := by decide +kernel
theorem dX4_count_31 : decode cX4_count 31 = .ok (.aload_n 0, 1) := by decide +kernel
theorem dX4_count_32 : decode cX4_count 32 = .ok (.getfield 25, 3) := by decide +kernel
theorem dX4_count_35 : decode cX4_count 35 = .ok (.aload_n 2, 1) := by decide +kernel
theorem dX4_count_36 : decode cX4_count 36 = .ok (.iconst 0, 1) := by decide +kernel
theorem dX4_count_37 : decode cX4_count 37 = .ok (.aload_n 2, 1) := by decide +kernel
theorem dX4_count_38 : decode cX4_count 38 = .ok (.getfield 117, 3) := by decide +kernel
theorem dX4_count_41 : decode cX4_count 41 = .ok (.invokevirtual 120, 3) := by decide +kernel
theorem dX4_count_44 : decode cX4_count 44 = .ok (.aload_n 0, 1) := by decide +kernel
theorem dX4_count_45 : decode cX4_count 45 = .ok (.aload_n 2, 1) := by decide +kernel
theorem dX4_count_46 : decode cX4_count 46 = .ok (.iload_n 1, 1) := by decide +kernel
theorem dX4_count_47 : decode cX4_count 47 = .ok (.invokevirtual 124, 3) := by decide +kernel
theorem dX4_count_50 : decode cX4_count 50 = .ok (.ireturn, 1) := by decide +kernel
theorem dX4_holds_0 : decode cX4_holds 0 = .ok (.aload_n 0, 1) := by decide +kernel
theorem dX4_holds_1 : decode cX4_holds 1 = .ok (.getfield 11, 3) := by decide +kernel
theorem dX4_holds_4 : decode cX4_holds 4 = .ok (.aload_n 0, 1) := by decide +kernel
theorem dX4_holds_5 : decode cX4_holds 5 = .ok (.getfield 15, 3) := by decide +kernel
theorem dX4_holds_8 : decode cX4_holds 8 = .ok (.aaload, 1) := by decide +kernel
theorem dX4_holds_9 : decode cX4_holds 9 = .ok (.astore_n 2, 1) := by decide +kernel
theorem dX4_holds_10 : decode cX4_holds 10 = .ok (.aload_n 2, 1) := by decide +kernel
theorem dX4_holds_11 : decode cX4_holds 11 = .ok (.iload_n 1, 1) := by decide +kernel
theorem dX4_holds_12 : decode cX4_holds 12 = .ok (.invokevirtual 86, 3) := by decide +kernel
theorem dX4_holds_15 : decode cX4_holds 15 = .ok (.ifCond .ne 10, 3) := by decide +kernel
theorem dX4_holds_18 : decode cX4_holds 18 = .ok (.aload_n 0, 1) := by decide +kernel
theorem dX4_holds_19 : decode cX4_holds 19 = .ok (.bipush (-2), 2) := by decide +kernel
theorem dX4_holds_21 : decode cX4_holds 21 = .ok (.invokevirtual 90, 3) := by decide +kernel
theorem dX4_holds_24 : decode cX4_holds 24 = .ok (.ireturn, 1) := by decide +kernel
theorem dX4_holds_25 : decode cX4_holds 25 = .ok (.aload_n 0, 1) := by decide +kernel
theorem dX4_holds_26 : decode cX4_holds 26 = .ok (.getfield 25, 3) := by decide +kernel
theorem dX4_holds_29 : decode cX4_holds 29 = .ok (.aload_n 2, 1) := by decide +kernel
theorem dX4_holds_30 : decode cX4_holds 30 = .ok (.iconst 0, 1) := by decide +kernel
theorem dX4_holds_31 : decode cX4_holds 31 = .ok (.aload_n 2, 1) := by decide +kernel
theorem dX4_holds_32 : decode cX4_holds 32 = .ok (.getfield 117, 3) := by decide +kernel
theorem dX4_holds_35 : decode cX4_holds 35 = .ok (.invokevirtual 120, 3) := by decide +kernel
theorem dX4_holds_38 : decode cX4_holds 38 = .ok (.aload_n 0, 1) := by decide +kernel
theorem dX4_holds_39 : decode cX4_holds 39 = .ok (.getfield 25, 3) := by decide +kernel
theorem dX4_holds_42 : decode cX4_holds 42 = .ok (.iload_n 1, 1) := by decide +kernel
theorem dX4_holds_43 : decode cX4_holds 43 = .ok (.invokevirtual 128, 3) := by decide +kernel
theorem dX4_holds_46 : decode cX4_holds 46 = .ok (.ireturn, 1) := by decide +kernel
theorem dX4_loose_0 : decode cX4_loose 0 = .ok (.aload_n 0, 1) := by decide +kernel
theorem dX4_loose_1 : decode cX4_loose 1 = .ok (.getfield 11, 3) := by decide +kernel
theorem dX4_loose_4 : decode cX4_loose 4 = .ok (.aload_n 0, 1) := by decide +kernel
theorem dX4_loose_5 : decode cX4_loose 5 = .ok (.getfield 15, 3) := by decide +kernel
theorem dX4_loose_8 : decode cX4_loose 8 = .ok (.aaload, 1) := by decide +kernel
theorem dX4_loose_9 : decode cX4_loose 9 = .ok (.astore_n 2, 1) := by decide +kernel
theorem dX4_loose_10 : decode cX4_loose 10 = .ok (.aload_n 2, 1) := by decide +kernel
theorem dX4_loose_11 : decode cX4_loose 11 = .ok (.iload_n 1, 1) := by decide +kernel
theorem dX4_loose_12 : decode cX4_loose 12 = .ok (.invokevirtual 86, 3) := by decide +kernel
theorem dX4_loose_15 : decode cX4_loose 15 = .ok (.ifCond .ne 10, 3) := by decide +kernel
theorem dX4_loose_18 : decode cX4_loose 18 = .ok (.aload_n 0, 1) := by decide +kernel
theorem dX4_loose_19 : decode cX4_loose 19 = .ok (.bipush (-2), 2) := by decide +kernel
theorem dX4_loose_21 : decode cX4_loose 21 = .ok (.invokevirtual 90, 3) := by decide +kernel
theorem dX4_loose_24 : decode cX4_loose 24 = .ok (.ireturn, 1) := by decide +kernel
theorem dX4_loose_25 : decode cX4_loose 25 = .ok (.aload_n 0, 1) := by decide +kernel
theorem dX4_loose_26 : decode cX4_loose 26 = .ok (.getfield 32, 3) := by decide +kernel
theorem dX4_loose_29 : decode cX4_loose 29 = .ok (.aload_n 2, 1) := by decide +kernel
theorem dX4_loose_30 : decode cX4_loose 30 = .ok (.invokevirtual 131, 3) := by decide +kernel
theorem dX4_loose_33 : decode cX4_loose 33 = .ok (.aload_n 0, 1) := by decide +kernel
theorem dX4_loose_34 : decode cX4_loose 34 = .ok (.getfield 32, 3) := by decide +kernel
theorem dX4_loose_37 : decode cX4_loose 37 = .ok (.getfield 134, 3) := by decide +kernel
