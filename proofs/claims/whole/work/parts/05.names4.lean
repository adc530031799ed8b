theorem dX5_takesEntry_82 : decode cX5_takesEntry 82 = .ok (.iconst 2, 1) := by decide +kernel
theorem dX5_takesEntry_83 : decode cX5_takesEntry 83 = .ok (.aload_n 0, 1) := by decide +kernel
theorem dX5_takesEntry_84 : decode cX5_takesEntry 84 = .ok (.getfield 28, 3) := by decide +kernel
theorem dX5_takesEntry_87 : decode cX5_takesEntry 87 = .ok (.iload_n 1, 1) := by decide +kernel
theorem dX5_takesEntry_88 : decode cX5_takesEntry 88 = .ok (.iaload, 1) := by decide +kernel
theorem dX5_takesEntry_89 : decode cX5_takesEntry 89 = .ok (.invokevirtual 124, 3) := by decide +kernel
theorem dX5_takesEntry_92 : decode cX5_takesEntry 92 = .ok (.iload 4, 2) := by decide +kernel
theorem dX5_takesEntry_94 : decode cX5_takesEntry 94 = .ok (.iload_n 1, 1) := by decide +kernel
theorem dX5_takesEntry_95 : decode cX5_takesEntry 95 = .ok (.invokevirtual 172, 3) := by decide +kernel
theorem dX5_takesEntry_98 : decode cX5_takesEntry 98 = .ok (.aload_n 0, 1) := by decide +kernel
theorem dX5_takesEntry_99 : decode cX5_takesEntry 99 = .ok (.getfield 40, 3) := by decide +kernel
theorem dX5_takesEntry_102 : decode cX5_takesEntry 102 = .ok (.iload_n 3, 1) := by decide +kernel
theorem dX5_takesEntry_103 : decode cX5_takesEntry 103 = .ok (.iaload, 1) := by decide +kernel
theorem dX5_takesEntry_104 : decode cX5_takesEntry 104 = .ok (.istore_n 3, 1) := by decide +kernel
theorem dX5_takesEntry_105 : decode cX5_takesEntry 105 = .ok (.goto (-68), 3) := by decide +kernel
theorem dX5_takesEntry_108 : decode cX5_takesEntry 108 = .ok (.return_, 1) := by decide +kernel
theorem dX5_takesEntry_109 : decode cX5_takesEntry 109 = .ok (.iconst 0, 1) := by decide +kernel
theorem dX5_takesEntry_110 : decode cX5_takesEntry 110 = .ok (.istore_n 3, 1) := by decide +kernel
theorem dX5_takesEntry_111 : decode cX5_takesEntry 111 = .ok (.iload_n 3, 1) := by decide +kernel
theorem dX5_takesEntry_112 : decode cX5_takesEntry 112 = .ok (.aload_n 0, 1) := by decide +kernel
theorem dX5_takesEntry_113 : decode cX5_takesEntry 113 = .ok (.getfield 13, 3) := by decide +kernel
theorem dX5_takesEntry_116 : decode cX5_takesEntry 116 = .ok (.iconst 2, 1) := by decide +kernel
theorem dX5_takesEntry_117 : decode cX5_takesEntry 117 = .ok (.iaload, 1) := by decide +kernel
theorem dX5_takesEntry_118 : decode cX5_takesEntry 118 = .ok (.if_icmp .ge 65, 3) := by decide +kernel
theorem dX5_takesEntry_121 : decode cX5_takesEntry 121 = .ok (.aload_n 0, 1) := by decide +kernel
theorem dX5_takesEntry_122 : decode cX5_takesEntry 122 = .ok (.iload_n 3, 1) := by decide +kernel
theorem dX5_takesEntry_123 : decode cX5_takesEntry 123 = .ok (.iconst 0, 1) := by decide +kernel
theorem dX5_takesEntry_124 : decode cX5_takesEntry 124 = .ok (.invokevirtual 118, 3) := by decide +kernel
theorem dX5_takesEntry_127 : decode cX5_takesEntry 127 = .ok (.iload_n 2, 1) := by decide +kernel
theorem dX5_takesEntry_128 : decode cX5_takesEntry 128 = .ok (.if_icmp .ne 49, 3) := by decide +kernel
theorem dX5_takesEntry_131 : decode cX5_takesEntry 131 = .ok (.aload_n 0, 1) := by decide +kernel
theorem dX5_takesEntry_132 : decode cX5_takesEntry 132 = .ok (.iload_n 3, 1) := by decide +kernel
theorem dX5_takesEntry_133 : decode cX5_takesEntry 133 = .ok (.iconst 2, 1) := by decide +kernel
theorem dX5_takesEntry_134 : decode cX5_takesEntry 134 = .ok (.invokevirtual 118, 3) := by decide +kernel
theorem dX5_takesEntry_137 : decode cX5_takesEntry 137 = .ok (.iconst (-1), 1) := by decide +kernel
theorem dX5_takesEntry_138 : decode cX5_takesEntry 138 = .ok (.if_icmp .eq 9, 3) := by decide +kernel
theorem dX5_takesEntry_141 : decode cX5_takesEntry 141 = .ok (.aload_n 0, 1) := by decide +kernel
theorem dX5_takesEntry_142 : decode cX5_takesEntry 142 = .ok (.iload_n 1, 1) := by decide +kernel
theorem dX5_takesEntry_143 : decode cX5_takesEntry 143 = .ok (.iload_n 3, 1) := by decide +kernel
theorem dX5_takesEntry_144 : decode cX5_takesEntry 144 = .ok (.invokevirtual 175, 3) := by decide +kernel
theorem dX5_takesEntry_147 : decode cX5_takesEntry 147 = .ok (.aload_n 0, 1) := by decide +kernel
theorem dX5_takesEntry_148 : decode cX5_takesEntry 148 = .ok (.aload_n 0, 1) := by decide +kernel
theorem dX5_takesEntry_149 : decode cX5_takesEntry 149 = .ok (.getfield 22, 3) := by decide +kernel
theorem dX5_takesEntry_152 : decode cX5_takesEntry 152 = .ok (.iload_n 1, 1) := by decide +kernel
theorem dX5_takesEntry_153 : decode cX5_takesEntry 153 = .ok (.iaload, 1) := by decide +kernel
theorem dX5_takesEntry_154 : decode cX5_takesEntry 154 = .ok (.aload_n 0, 1) := by decide +kernel
theorem dX5_takesEntry_155 : decode cX5_takesEntry 155 = .ok (.iload_n 3, 1) := by decide +kernel
theorem dX5_takesEntry_156 : decode cX5_takesEntry 156 = .ok (.iconst 1, 1) := by decide +kernel
theorem dX5_takesEntry_157 : decode cX5_takesEntry 157 = .ok (.invokevirtual 118, 3) := by decide +kernel
theorem dX5_takesEntry_160 : decode cX5_takesEntry 160 = .ok (.aload_n 0, 1) := by decide +kernel
theorem dX5_takesEntry_161 : decode cX5_takesEntry 161 = .ok (.iload_n 3, 1) := by decide +kernel
theorem dX5_takesEntry_162 : decode cX5_takesEntry 162 = .ok (.iconst 0, 1) := by decide +kernel
theorem dX5_takesEntry_163 : decode cX5_takesEntry 163 = .ok (.aload_n 0, 1) := by decide +kernel
theorem dX5_takesEntry_164 : decode cX5_takesEntry 164 = .ok (.getfield 28, 3) := by decide +kernel
theorem dX5_takesEntry_167 : decode cX5_takesEntry 167 = .ok (.iload_n 1, 1) := by decide +kernel
theorem dX5_takesEntry_168 : decode cX5_takesEntry 168 = .ok (.iaload, 1) := by decide +kernel
theorem dX5_takesEntry_169 : decode cX5_takesEntry 169 = .ok (.invokevirtual 124, 3) := by decide +kernel
theorem dX5_takesEntry_172 : decode cX5_takesEntry 172 = .ok (.iload_n 1, 1) := by decide +kernel
theorem dX5_takesEntry_173 : decode cX5_takesEntry 173 = .ok (.iconst (-1), 1) := by decide +kernel
theorem dX5_takesEntry_174 : decode cX5_takesEntry 174 = .ok (.invokevirtual 172, 3) := by decide +kernel
theorem dX5_takesEntry_177 : decode cX5_takesEntry 177 = .ok (.iinc 3 1, 3) := by decide +kernel
theorem dX5_takesEntry_180 : decode cX5_takesEntry 180 = .ok (.goto (-69), 3) := by decide +kernel
theorem dX5_takesEntry_183 : decode cX5_takesEntry 183 = .ok (.return_, 1) := by decide +kernel
theorem dX5_fills_0 : decode cX5_fills 0 = .ok (.iconst 0, 1) := by decide +kernel
theorem dX5_fills_1 : decode cX5_fills 1 = .ok (.istore_n 1, 1) := by decide +kernel
theorem dX5_fills_2 : decode cX5_fills 2 = .ok (.iload_n 1, 1) := by decide +kernel
theorem dX5_fills_3 : decode cX5_fills 3 = .ok (.aload_n 0, 1) := by decide +kernel
theorem dX5_fills_4 : decode cX5_fills 4 = .ok (.getfield 155, 3) := by decide +kernel
theorem dX5_fills_7 : decode cX5_fills 7 = .ok (.if_icmp .ge 14, 3) := by decide +kernel
theorem dX5_fills_10 : decode cX5_fills 10 = .ok (.aload_n 0, 1) := by decide +kernel
theorem dX5_fills_11 : decode cX5_fills 11 = .ok (.iload_n 1, 1) := by decide +kernel
theorem dX5_fills_12 : decode cX5_fills 12 = .ok (.invokevirtual 179, 3) := by decide +kernel
theorem dX5_fills_15 : decode cX5_fills 15 = .ok (.iinc 1 1, 3) := by decide +kernel
theorem dX5_fills_18 : decode cX5_fills 18 = .ok (.goto (-16), 3) := by decide +kernel
theorem dX5_fills_21 : decode cX5_fills 21 = .ok (.return_, 1) := by decide +kernel
theorem dX5_knows_0 : decode cX5_knows 0 = .ok (.aload_n 0, 1) := by decide +kernel
theorem dX5_knows_1 : decode cX5_knows 1 = .ok (.getfield 77, 3) := by decide +kernel
theorem dX5_knows_4 : decode cX5_knows 4 = .ok (.ifCond .ne 58, 3) := by decide +kernel
theorem dX5_knows_7 : decode cX5_knows 7 = .ok (.aload_n 0, 1) := by decide +kernel
theorem dX5_knows_8 : decode cX5_knows 8 = .ok (.invokevirtual 182, 3) := by decide +kernel
theorem dX5_knows_11 : decode cX5_knows 11 = .ok (.iconst 0, 1) := by decide +kernel
theorem dX5_knows_12 : decode cX5_knows 12 = .ok (.istore_n 1, 1) := by decide +kernel
theorem dX5_knows_13 : decode cX5_knows 13 = .ok (.iload_n 1, 1) := by decide +kernel
theorem dX5_knows_14 : decode cX5_knows 14 = .ok (.bipush 8, 2) := by decide +kernel
theorem dX5_knows_16 : decode cX5_knows 16 = .ok (.if_icmp .ge 37, 3) := by decide +kernel
theorem dX5_knows_19 : decode cX5_knows 19 = .ok (.aload_n 0, 1) := by decide +kernel
theorem dX5_knows_20 : decode cX5_knows 20 = .ok (.getfield 13, 3) := by decide +kernel
theorem dX5_knows_23 : decode cX5_knows 23 = .ok (.iconst 3, 1) := by decide +kernel
theorem dX5_knows_24 : decode cX5_knows 24 = .ok (.iaload, 1) := by decide +kernel
theorem dX5_knows_25 : decode cX5_knows 25 = .ok (.iload_n 1, 1) := by decide +kernel
theorem dX5_knows_26 : decode cX5_knows 26 = .ok (.ishr, 1) := by decide +kernel
theorem dX5_knows_27 : decode cX5_knows 27 = .ok (.iconst 1, 1) := by decide +kernel
theorem dX5_knows_28 : decode cX5_knows 28 = .ok (.iand, 1) := by decide +kernel
theorem dX5_knows_29 : decode cX5_knows 29 = .ok (.iconst 1, 1) := by decide +kernel
theorem dX5_knows_30 : decode cX5_knows 30 = .ok (.if_icmp .ne 17, 3) := by decide +kernel
theorem dX5_knows_33 : decode cX5_knows 33 = .ok (.aload_n 0, 1) := by decide +kernel
theorem dX5_knows_34 : decode cX5_knows 34 = .ok (.iload_n 1, 1) := by decide +kernel
theorem dX5_knows_35 : decode cX5_knows 35 = .ok (.aload_n 0, 1) := by decide +kernel
theorem dX5_knows_36 : decode cX5_knows 36 = .ok (.getfield 13, 3) := by decide +kernel
theorem dX5_knows_39 : decode cX5_knows 39 = .ok (.iconst 4, 1) := by decide +kernel
theorem dX5_knows_40 : decode cX5_knows 40 = .ok (.iaload, 1) := by decide +kernel
theorem dX5_knows_41 : decode cX5_knows 41 = .ok (.iload_n 1, 1) := by decide +kernel
theorem dX5_knows_42 : decode cX5_knows 42 = .ok (.iconst (-1), 1) := by decide +kernel
theorem dX5_knows_43 : decode cX5_knows 43 = .ok (.iconst (-1), 1) := by decide +kernel
theorem dX5_knows_44 : decode cX5_knows 44 = .ok (.invokevirtual 164, 3) := by decide +kernel
theorem dX5_knows_47 : decode cX5_knows 47 = .ok (.iinc 1 1, 3) := by decide +kernel
theorem dX5_knows_50 : decode cX5_knows 50 = .ok (.goto (-37), 3) := by decide +kernel
theorem dX5_knows_53 : decode cX5_knows 53 = .ok (.aload_n 0, 1) := by decide +kernel
theorem dX5_knows_54 : decode cX5_knows 54 = .ok (.invokevirtual 185, 3) := by decide +kernel
theorem dX5_knows_57 : decode cX5_knows 57 = .ok (.aload_n 0, 1) := by decide +kernel
theorem dX5_knows_58 : decode cX5_knows 58 = .ok (.iconst 1, 1) := by decide +kernel
theorem dX5_knows_59 : decode cX5_knows 59 = .ok (.putfield 77, 3) := by decide +kernel
theorem dX5_knows_62 : decode cX5_knows 62 = .ok (.return_, 1) := by decide +kernel
theorem dX5_held_0 : decode cX5_held 0 = .ok (.iconst 0, 1) := by decide +kernel
theorem dX5_held_1 : decode cX5_held 1 = .ok (.istore_n 2, 1) := by decide +kernel
theorem dX5_held_2 : decode cX5_held 2 = .ok (.iconst 0, 1) := by decide +kernel
theorem dX5_held_3 : decode cX5_held 3 = .ok (.istore_n 3, 1) := by decide +kernel
theorem dX5_held_4 : decode cX5_held 4 = .ok (.iload_n 3, 1) := by decide +kernel
theorem dX5_held_5 : decode cX5_held 5 = .ok (.bipush 8, 2) := by decide +kernel
theorem dX5_held_7 : decode cX5_held 7 = .ok (.if_icmp .ge 51, 3) := by decide +kernel
theorem dX5_held_10 : decode cX5_held 10 = .ok (.iconst 0, 1) := by decide +kernel
theorem dX5_held_11 : decode cX5_held 11 = .ok (.istore 4, 2) := by decide +kernel
theorem dX5_held_13 : decode cX5_held 13 = .ok (.iload 4, 2) := by decide +kernel
theorem dX5_held_15 : decode cX5_held 15 = .ok (.bipush 8, 2) := by decide +kernel
theorem dX5_held_17 : decode cX5_held 17 = .ok (.if_icmp .ge 35, 3) := by decide +kernel
theorem dX5_held_20 : decode cX5_held 20 = .ok (.iload_n 2, 1) := by decide +kernel
theorem dX5_held_21 : decode cX5_held 21 = .ok (.aload_n 0, 1) := by decide +kernel
theorem dX5_held_22 : decode cX5_held 22 = .ok (.getfield 19, 3) := by decide +kernel
theorem dX5_held_25 : decode cX5_held 25 = .ok (.iload_n 3, 1) := by decide +kernel
theorem dX5_held_26 : decode cX5_held 26 = .ok (.iload_n 1, 1) := by decide +kernel
theorem dX5_held_27 : decode cX5_held 27 = .ok (.iload 4, 2) := by decide +kernel
theorem dX5_held_29 : decode cX5_held 29 = .ok (.invokestatic 161, 3) := by decide +kernel
theorem dX5_held_32 : decode cX5_held 32 = .ok (.iaload, 1) := by decide +kernel
theorem dX5_held_33 : decode cX5_held 33 = .ok (.ifCond .le 10, 3) := by decide +kernel
theorem dX5_held_36 : decode cX5_held 36 = .ok (.iconst 1, 1) := by decide +kernel
theorem dX5_held_37 : decode cX5_held 37 = .ok (.iload 4, 2) := by decide +kernel
theorem dX5_held_39 : decode cX5_held 39 = .ok (.ishl, 1) := by decide +kernel
theorem dX5_held_40 : decode cX5_held 40 = .ok (.goto 4, 3) := by decide +kernel
theorem dX5_held_43 : decode cX5_held 43 = .ok (.iconst 0, 1) := by decide +kernel
theorem dX5_held_44 : decode cX5_held 44 = .ok (.ior, 1) := by decide +kernel
theorem dX5_held_45 : decode cX5_held 45 = .ok (.istore_n 2, 1) := by decide +kernel
theorem dX5_held_46 : decode cX5_held 46 = .ok (.iinc 4 1, 3) := by decide +kernel
theorem dX5_held_49 : decode cX5_held 49 = .ok (.goto (-36), 3) := by decide +kernel
theorem dX5_held_52 : decode cX5_held 52 = .ok (.iinc 3 1, 3) := by decide +kernel
theorem dX5_held_55 : decode cX5_held 55 = .ok (.goto (-51), 3) := by decide +kernel
theorem dX5_held_58 : decode cX5_held 58 = .ok (.iload_n 2, 1) := by decide +kernel
theorem dX5_held_59 : decode cX5_held 59 = .ok (.ireturn, 1) := by decide +kernel
theorem dX5_countOf_0 : decode cX5_countOf 0 = .ok (.aload_n 0, 1) := by decide +kernel
theorem dX5_countOf_1 : decode cX5_countOf 1 = .ok (.invokevirtual 188, 3) := by decide +kernel
theorem dX5_countOf_4 : decode cX5_countOf 4 = .ok (.iconst 0, 1) := by decide +kernel
theorem dX5_countOf_5 : decode cX5_countOf 5 = .ok (.istore_n 2, 1) := by decide +kernel
theorem dX5_countOf_6 : decode cX5_countOf 6 = .ok (.iconst 0, 1) := by decide +kernel
theorem dX5_countOf_7 : decode cX5_countOf 7 = .ok (.istore_n 3, 1) := by decide +kernel
theorem dX5_countOf_8 : decode cX5_countOf 8 = .ok (.iload_n 3, 1) := by decide +kernel
theorem dX5_countOf_9 : decode cX5_countOf 9 = .ok (.aload_n 0, 1) := by decide +kernel
theorem dX5_countOf_10 : decode cX5_countOf 10 = .ok (.getfield 13, 3) := by decide +kernel
theorem dX5_countOf_13 : decode cX5_countOf 13 = .ok (.iconst 1, 1) := by decide +kernel
theorem dX5_countOf_14 : decode cX5_countOf 14 = .ok (.iaload, 1) := by decide +kernel
theorem dX5_countOf_15 : decode cX5_countOf 15 = .ok (.if_icmp .ge 19, 3) := by decide +kernel
theorem dX5_countOf_18 : decode cX5_countOf 18 = .ok (.iload_n 2, 1) := by decide +kernel
theorem dX5_countOf_19 : decode cX5_countOf 19 = .ok (.aload_n 0, 1) := by decide +kernel
theorem dX5_countOf_20 : decode cX5_countOf 20 = .ok (.iload_n 3, 1) := by decide +kernel
theorem dX5_countOf_21 : decode cX5_countOf 21 = .ok (.invokevirtual 191, 3) := by decide +kernel
theorem dX5_countOf_24 : decode cX5_countOf 24 = .ok (.iconst 1, 1) := by decide +kernel
theorem dX5_countOf_25 : decode cX5_countOf 25 = .ok (.iand, 1) := by decide +kernel
theorem dX5_countOf_26 : decode cX5_countOf 26 = .ok (.iadd, 1) := by decide +kernel
theorem dX5_countOf_27 : decode cX5_countOf 27 = .ok (.istore_n 2, 1) := by decide +kernel
theorem dX5_countOf_28 : decode cX5_countOf 28 = .ok (.iinc 3 1, 3) := by decide +kernel
theorem dX5_countOf_31 : decode cX5_countOf 31 = .ok (.goto (-23), 3) := by decide +kernel
theorem dX5_countOf_34 : decode cX5_countOf 34 = .ok (.iload_n 1, 1) := by decide +kernel
theorem dX5_countOf_35 : decode cX5_countOf 35 = .ok (.iconst 4, 1) := by decide +kernel
theorem dX5_countOf_36 : decode cX5_countOf 36 = .ok (.if_icmp .ge 12, 3) := by decide +kernel
theorem dX5_countOf_39 : decode cX5_countOf 39 = .ok (.aload_n 0, 1) := by decide +kernel
theorem dX5_countOf_40 : decode cX5_countOf 40 = .ok (.getfield 13, 3) := by decide +kernel
theorem dX5_countOf_43 : decode cX5_countOf 43 = .ok (.iload_n 1, 1) := by decide +kernel
theorem dX5_countOf_44 : decode cX5_countOf 44 = .ok (.iaload, 1) := by decide +kernel
theorem dX5_countOf_45 : decode cX5_countOf 45 = .ok (.goto 16, 3) := by decide +kernel
theorem dX5_countOf_48 : decode cX5_countOf 48 = .ok (.iload_n 1, 1) := by decide +kernel
theorem dX5_countOf_49 : decode cX5_countOf 49 = .ok (.iconst 4, 1) := by decide +kernel
theorem dX5_countOf_50 : decode cX5_countOf 50 = .ok (.if_icmp .ne 10, 3) := by decide +kernel
theorem dX5_countOf_53 : decode cX5_countOf 53 = .ok (.aload_n 0, 1) := by decide +kernel
theorem dX5_countOf_54 : decode cX5_countOf 54 = .ok (.getfield 155, 3) := by decide +kernel
theorem dX5_countOf_57 : decode cX5_countOf 57 = .ok (.goto 4, 3) := by decide +kernel
theorem dX5_countOf_60 : decode cX5_countOf 60 = .ok (.iload_n 2, 1) := by decide +kernel
theorem dX5_countOf_61 : decode cX5_countOf 61 = .ok (.ireturn, 1) := by decide +kernel
theorem dX5_count_0 : decode cX5_count 0 = .ok (.iload_n 1, 1) := by decide +kernel
theorem dX5_count_1 : decode cX5_count 1 = .ok (.iconst 0, 1) := by decide +kernel
theorem dX5_count_2 : decode cX5_count 2 = .ok (.iconst 5, 1) := by decide +kernel
theorem dX5_count_3 : decode cX5_count 3 = .ok (.invokestatic 89, 3) := by decide +kernel
theorem dX5_count_6 : decode cX5_count 6 = .ok (.ifCond .eq 11, 3) := by decide +kernel
theorem dX5_count_9 : decode cX5_count 9 = .ok (.aload_n 0, 1) := by decide +kernel
theorem dX5_count_10 : decode cX5_count 10 = .ok (.iload_n 1, 1) := by decide +kernel
theorem dX5_count_11 : decode cX5_count 11 = .ok (.invokevirtual 194, 3) := by decide +kernel
theorem dX5_count_14 : decode cX5_count 14 = .ok (.goto 7, 3) := by decide +kernel
theorem dX5_count_17 : decode cX5_count 17 = .ok (.aload_n 0, 1) := by decide +kernel
theorem dX5_count_18 : decode cX5_count 18 = .ok (.invokevirtual 68, 3) := by decide +kernel
theorem dX5_count_21 : decode cX5_count 21 = .ok (.ireturn, 1) := by decide +kernel
theorem dX5_holdsAt_0 : decode cX5_holdsAt 0 = .ok (.aload_n 0, 1) := by decide +kernel
theorem dX5_holdsAt_1 : decode cX5_holdsAt 1 = .ok (.invokevirtual 188, 3) := by decide +kernel
theorem dX5_holdsAt_4 : decode cX5_holdsAt 4 = .ok (.aload_n 0, 1) := by decide +kernel
theorem dX5_holdsAt_5 : decode cX5_holdsAt 5 = .ok (.iload_n 1, 1) := by decide +kernel
theorem dX5_holdsAt_6 : decode cX5_holdsAt 6 = .ok (.invokevirtual 191, 3) := by decide +kernel
theorem dX5_holdsAt_9 : decode cX5_holdsAt 9 = .ok (.ireturn, 1) := by decide +kernel
theorem dX5_holds_0 : decode cX5_holds 0 = .ok (.aload_n 0, 1) := by decide +kernel
theorem dX5_holds_1 : decode cX5_holds 1 = .ok (.iload_n 1, 1) := by decide +kernel
theorem dX5_holds_2 : decode cX5_holds 2 = .ok (.invokevirtual 101, 3) := by decide +kernel
theorem dX5_holds_5 : decode cX5_holds 5 = .ok (.ifCond .eq 11, 3) := by decide +kernel
theorem dX5_holds_8 : decode cX5_holds 8 = .ok (.aload_n 0, 1) := by decide +kernel
theorem dX5_holds_9 : decode cX5_holds 9 = .ok (.iload_n 1, 1) := by decide +kernel
theorem dX5_holds_10 : decode cX5_holds 10 = .ok (.invokevirtual 197, 3) := by decide +kernel
theorem dX5_holds_13 : decode cX5_holds 13 = .ok (.goto 7, 3) := by decide +kernel
theorem dX5_holds_16 : decode cX5_holds 16 = .ok (.aload_n 0, 1) := by decide +kernel
theorem dX5_holds_17 : decode cX5_holds 17 = .ok (.invokevirtual 68, 3) := by decide +kernel
theorem dX5_holds_20 : decode cX5_holds 20 = .ok (.ireturn, 1) := by decide +kernel
theorem dX5_carried_0 : decode cX5_carried 0 = .ok (.iconst 0, 1) := by decide +kernel
theorem dX5_carried_1 : decode cX5_carried 1 = .ok (.istore 4, 2) := by decide +kernel
theorem dX5_carried_3 : decode cX5_carried 3 = .ok (.iconst 0, 1) := by decide +kernel
theorem dX5_carried_4 : decode cX5_carried 4 = .ok (.istore 5, 2) := by decide +kernel
theorem dX5_carried_6 : decode cX5_carried 6 = .ok (.iload 5, 2) := by decide +kernel
theorem dX5_carried_8 : decode cX5_carried 8 = .ok (.bipush 8, 2) := by decide +kernel
theorem dX5_carried_10 : decode cX5_carried 10 = .ok (.if_icmp .ge 36, 3) := by decide +kernel
theorem dX5_carried_13 : decode cX5_carried 13 = .ok (.iload 4, 2) := by decide +kernel
theorem dX5_carried_15 : decode cX5_carried 15 = .ok (.iload_n 3, 1) := by decide +kernel
theorem dX5_carried_16 : decode cX5_carried 16 = .ok (.iload 5, 2) := by decide +kernel
theorem dX5_carried_18 : decode cX5_carried 18 = .ok (.ishr, 1) := by decide +kernel
theorem dX5_carried_19 : decode cX5_carried 19 = .ok (.iconst 1, 1) := by decide +kernel
theorem dX5_carried_20 : decode cX5_carried 20 = .ok (.iand, 1) := by decide +kernel
theorem dX5_carried_21 : decode cX5_carried 21 = .ok (.iconst 1, 1) := by decide +kernel
theorem dX5_carried_22 : decode cX5_carried 22 = .ok (.if_icmp .ne 14, 3) := by decide +kernel
theorem dX5_carried_25 : decode cX5_carried 25 = .ok (.aload_n 0, 1) := by decide +kernel
theorem dX5_carried_26 : decode cX5_carried 26 = .ok (.iload_n 1, 1) := by decide +kernel
theorem dX5_carried_27 : decode cX5_carried 27 = .ok (.iload_n 2, 1) := by decide +kernel
theorem dX5_carried_28 : decode cX5_carried 28 = .ok (.iload 5, 2) := by decide +kernel
theorem dX5_carried_30 : decode cX5_carried 30 = .ok (.invokevirtual 124, 3) := by decide +kernel
theorem dX5_carried_33 : decode cX5_carried 33 = .ok (.goto 4, 3) := by decide +kernel
theorem dX5_carried_36 : decode cX5_carried 36 = .ok (.iconst 0, 1) := by decide +kernel
theorem dX5_carried_37 : decode cX5_carried 37 = .ok (.ior, 1) := by decide +kernel
theorem dX5_carried_38 : decode cX5_carried 38 = .ok (.istore 4, 2) := by decide +kernel
theorem dX5_carried_40 : decode cX5_carried 40 = .ok (.iinc 5 1, 3) := by decide +kernel
theorem dX5_carried_43 : decode cX5_carried 43 = .ok (.goto (-37), 3) := by decide +kernel
theorem dX5_carried_46 : decode cX5_carried 46 = .ok (.iload 4, 2) := by decide +kernel
theorem dX5_carried_48 : decode cX5_carried 48 = .ok (.ireturn, 1) := by decide +kernel
theorem dX5_loosens_0 : decode cX5_loosens 0 = .ok (.iconst 0, 1) := by decide +kernel
theorem dX5_loosens_1 : decode cX5_loosens 1 = .ok (.istore_n 1, 1) := by decide +kernel
theorem dX5_loosens_2 : decode cX5_loosens 2 = .ok (.iload_n 1, 1) := by decide +kernel
theorem dX5_loosens_3 : decode cX5_loosens 3 = .ok (.bipush 24, 2) := by decide +kernel
theorem dX5_loosens_5 : decode cX5_loosens 5 = .ok (.if_icmp .ge 16, 3) := by decide +kernel
theorem dX5_loosens_8 : decode cX5_loosens 8 = .ok (.aload_n 0, 1) := by decide +kernel
theorem dX5_loosens_9 : decode cX5_loosens 9 = .ok (.getfield 49, 3) := by decide +kernel
theorem dX5_loosens_12 : decode cX5_loosens 12 = .ok (.iload_n 1, 1) := by decide +kernel
theorem dX5_loosens_13 : decode cX5_loosens 13 = .ok (.iconst 0, 1) := by decide +kernel
theorem dX5_loosens_14 : decode cX5_loosens 14 = .ok (.iastore, 1) := by decide +kernel
theorem dX5_loosens_15 : decode cX5_loosens 15 = .ok (.iinc 1 1, 3) := by decide +kernel
theorem dX5_loosens_18 : decode cX5_loosens 18 = .ok (.goto (-16), 3) := by decide +kernel
theorem dX5_loosens_21 : decode cX5_loosens 21 = .ok (.aload_n 0, 1) := by decide +kernel
theorem dX5_loosens_22 : decode cX5_loosens 22 = .ok (.getfield 49, 3) := by decide +kernel
theorem dX5_loosens_25 : decode cX5_loosens 25 = .ok (.aload_n 0, 1) := by decide +kernel
theorem dX5_loosens_26 : decode cX5_loosens 26 = .ok (.getfield 13, 3) := by decide +kernel
theorem dX5_loosens_29 : decode cX5_loosens 29 = .ok (.iconst 4, 1) := by decide +kernel
theorem dX5_loosens_30 : decode cX5_loosens 30 = .ok (.iaload, 1) := by decide +kernel
theorem dX5_loosens_31 : decode cX5_loosens 31 = .ok (.aload_n 0, 1) := by decide +kernel
theorem dX5_loosens_32 : decode cX5_loosens 32 = .ok (.getfield 13, 3) := by decide +kernel
theorem dX5_loosens_35 : decode cX5_loosens 35 = .ok (.iconst 3, 1) := by decide +kernel
theorem dX5_loosens_36 : decode cX5_loosens 36 = .ok (.iaload, 1) := by decide +kernel
theorem dX5_loosens_37 : decode cX5_loosens 37 = .ok (.iastore, 1) := by decide +kernel
theorem dX5_loosens_38 : decode cX5_loosens 38 = .ok (.iconst 1, 1) := by decide +kernel
theorem dX5_loosens_39 : decode cX5_loosens 39 = .ok (.istore_n 1, 1) := by decide +kernel
theorem dX5_loosens_40 : decode cX5_loosens 40 = .ok (.iload_n 1, 1) := by decide +kernel
theorem dX5_loosens_41 : decode cX5_loosens 41 = .ok (.ifCond .eq 203, 3) := by decide +kernel
theorem dX5_loosens_44 : decode cX5_loosens 44 = .ok (.iconst 0, 1) := by decide +kernel
theorem dX5_loosens_45 : decode cX5_loosens 45 = .ok (.istore_n 1, 1) := by decide +kernel
theorem dX5_loosens_46 : decode cX5_loosens 46 = .ok (.iconst 0, 1) := by decide +kernel
theorem dX5_loosens_47 : decode cX5_loosens 47 = .ok (.istore_n 2, 1) := by decide +kernel
theorem dX5_loosens_48 : decode cX5_loosens 48 = .ok (.iload_n 2, 1) := by decide +kernel
theorem dX5_loosens_49 : decode cX5_loosens 49 = .ok (.aload_n 0, 1) := by decide +kernel
theorem dX5_loosens_50 : decode cX5_loosens 50 = .ok (.getfield 13, 3) := by decide +kernel
theorem dX5_loosens_53 : decode cX5_loosens 53 = .ok (.iconst 2, 1) := by decide +kernel
theorem dX5_loosens_54 : decode cX5_loosens 54 = .ok (.iaload, 1) := by decide +kernel
theorem dX5_loosens_55 : decode cX5_loosens 55 = .ok (.if_icmp .ge 186, 3) := by decide +kernel
theorem dX5_loosens_58 : decode cX5_loosens 58 = .ok (.aload_n 0, 1) := by decide +kernel
theorem dX5_loosens_59 : decode cX5_loosens 59 = .ok (.iload_n 2, 1) := by decide +kernel
theorem dX5_loosens_60 : decode cX5_loosens 60 = .ok (.iconst 0, 1) := by decide +kernel
theorem dX5_loosens_61 : decode cX5_loosens 61 = .ok (.invokevirtual 118, 3) := by decide +kernel
theorem dX5_loosens_64 : decode cX5_loosens 64 = .ok (.istore_n 3, 1) := by decide +kernel
theorem dX5_loosens_65 : decode cX5_loosens 65 = .ok (.aload_n 0, 1) := by decide +kernel
theorem dX5_loosens_66 : decode cX5_loosens 66 = .ok (.iload_n 2, 1) := by decide +kernel
theorem dX5_loosens_67 : decode cX5_loosens 67 = .ok (.iconst 1, 1) := by decide +kernel
theorem dX5_loosens_68 : decode cX5_loosens 68 = .ok (.invokevirtual 118, 3) := by decide +kernel
theorem dX5_loosens_71 : decode cX5_loosens 71 = .ok (.istore 4, 2) := by decide +kernel
theorem dX5_loosens_73 : decode cX5_loosens 73 = .ok (.aload_n 0, 1) := by decide +kernel
theorem dX5_loosens_74 : decode cX5_loosens 74 = .ok (.iload_n 2, 1) := by decide +kernel
theorem dX5_loosens_75 : decode cX5_loosens 75 = .ok (.iconst 2, 1) := by decide +kernel
theorem dX5_loosens_76 : decode cX5_loosens 76 = .ok (.invokevirtual 118, 3) := by decide +kernel
theorem dX5_loosens_79 : decode cX5_loosens 79 = .ok (.istore 5, 2) := by decide +kernel
theorem dX5_loosens_81 : decode cX5_loosens 81 = .ok (.aload_n 0, 1) := by decide +kernel
theorem dX5_loosens_82 : decode cX5_loosens 82 = .ok (.getfield 49, 3) := by decide +kernel
theorem dX5_loosens_85 : decode cX5_loosens 85 = .ok (.iload 4, 2) := by decide +kernel
theorem dX5_loosens_87 : decode cX5_loosens 87 = .ok (.iaload, 1) := by decide +kernel
theorem dX5_loosens_88 : decode cX5_loosens 88 = .ok (.aload_n 0, 1) := by decide +kernel
theorem dX5_loosens_89 : decode cX5_loosens 89 = .ok (.iload_n 2, 1) := by decide +kernel
theorem dX5_loosens_90 : decode cX5_loosens 90 = .ok (.iconst 0, 1) := by decide +kernel
theorem dX5_loosens_91 : decode cX5_loosens 91 = .ok (.aload_n 0, 1) := by decide +kernel
theorem dX5_loosens_92 : decode cX5_loosens 92 = .ok (.getfield 49, 3) := by decide +kernel
theorem dX5_loosens_95 : decode cX5_loosens 95 = .ok (.iload_n 3, 1) := by decide +kernel
theorem dX5_loosens_96 : decode cX5_loosens 96 = .ok (.iaload, 1) := by decide +kernel
theorem dX5_loosens_97 : decode cX5_loosens 97 = .ok (.invokevirtual 200, 3) := by decide +kernel
theorem dX5_loosens_100 : decode cX5_loosens 100 = .ok (.ior, 1) := by decide +kernel
theorem dX5_loosens_101 : decode cX5_loosens 101 = .ok (.istore 6, 2) := by decide +kernel
theorem dX5_loosens_103 : decode cX5_loosens 103 = .ok (.iload 5, 2) := by decide +kernel
theorem dX5_loosens_105 : decode cX5_loosens 105 = .ok (.iconst (-1), 1) := by decide +kernel
theorem dX5_loosens_106 : decode cX5_loosens 106 = .ok (.if_icmp .eq 98, 3) := by decide +kernel
theorem dX5_loosens_109 : decode cX5_loosens 109 = .ok (.iload 6, 2) := by decide +kernel
theorem dX5_loosens_111 : decode cX5_loosens 111 = .ok (.aload_n 0, 1) := by decide +kernel
theorem dX5_loosens_112 : decode cX5_loosens 112 = .ok (.iload_n 2, 1) := by decide +kernel
theorem dX5_loosens_113 : decode cX5_loosens 113 = .ok (.iconst 2, 1) := by decide +kernel
theorem dX5_loosens_114 : decode cX5_loosens 114 = .ok (.aload_n 0, 1) := by decide +kernel
theorem dX5_loosens_115 : decode cX5_loosens 115 = .ok (.getfield 49, 3) := by decide +kernel
theorem dX5_loosens_118 : decode cX5_loosens 118 = .ok (.aload_n 0, 1) := by decide +kernel
theorem dX5_loosens_119 : decode cX5_loosens 119 = .ok (.getfield 13, 3) := by decide +kernel
theorem dX5_loosens_122 : decode cX5_loosens 122 = .ok (.iconst 4, 1) := by decide +kernel
theorem dX5_loosens_123 : decode cX5_loosens 123 = .ok (.iconst 2, 1) := by decide +kernel
theorem dX5_loosens_124 : decode cX5_loosens 124 = .ok (.iload 5, 2) := by decide +kernel
theorem dX5_loosens_126 : decode cX5_loosens 126 = .ok (.imul, 1) := by decide +kernel
theorem dX5_loosens_127 : decode cX5_loosens 127 = .ok (.iadd, 1) := by decide +kernel
theorem dX5_loosens_128 : decode cX5_loosens 128 = .ok (.iconst 1, 1) := by decide +kernel
theorem dX5_loosens_129 : decode cX5_loosens 129 = .ok (.iadd, 1) := by decide +kernel
theorem dX5_loosens_130 : decode cX5_loosens 130 = .ok (.iaload, 1) := by decide +kernel
theorem dX5_loosens_131 : decode cX5_loosens 131 = .ok (.iaload, 1) := by decide +kernel
theorem dX5_loosens_132 : decode cX5_loosens 132 = .ok (.invokevirtual 200, 3) := by decide +kernel
theorem dX5_loosens_135 : decode cX5_loosens 135 = .ok (.ior, 1) := by decide +kernel
theorem dX5_loosens_136 : decode cX5_loosens 136 = .ok (.istore 6, 2) := by decide +kernel
theorem dX5_loosens_138 : decode cX5_loosens 138 = .ok (.aload_n 0, 1) := by decide +kernel
theorem dX5_loosens_139 : decode cX5_loosens 139 = .ok (.getfield 13, 3) := by decide +kernel
theorem dX5_loosens_142 : decode cX5_loosens 142 = .ok (.iconst 4, 1) := by decide +kernel
theorem dX5_loosens_143 : decode cX5_loosens 143 = .ok (.iconst 2, 1) := by decide +kernel
theorem dX5_loosens_144 : decode cX5_loosens 144 = .ok (.iload 5, 2) := by decide +kernel
theorem dX5_loosens_146 : decode cX5_loosens 146 = .ok (.imul, 1) := by decide +kernel
theorem dX5_loosens_147 : decode cX5_loosens 147 = .ok (.iadd, 1) := by decide +kernel
theorem dX5_loosens_148 : decode cX5_loosens 148 = .ok (.iaload, 1) := by decide +kernel
theorem dX5_loosens_149 : decode cX5_loosens 149 = .ok (.istore 7, 2) := by decide +kernel
theorem dX5_loosens_151 : decode cX5_loosens 151 = .ok (.aload_n 0, 1) := by decide +kernel
theorem dX5_loosens_152 : decode cX5_loosens 152 = .ok (.getfield 49, 3) := by decide +kernel
theorem dX5_loosens_155 : decode cX5_loosens 155 = .ok (.iload 7, 2) := by decide +kernel
theorem dX5_loosens_157 : decode cX5_loosens 157 = .ok (.iaload, 1) := by decide +kernel
theorem dX5_loosens_158 : decode cX5_loosens 158 = .ok (.aload_n 0, 1) := by decide +kernel
theorem dX5_loosens_159 : decode cX5_loosens 159 = .ok (.iload_n 2, 1) := by decide +kernel
theorem dX5_loosens_160 : decode cX5_loosens 160 = .ok (.iconst 1, 1) := by decide +kernel
theorem dX5_loosens_161 : decode cX5_loosens 161 = .ok (.aload_n 0, 1) := by decide +kernel
theorem dX5_loosens_162 : decode cX5_loosens 162 = .ok (.getfield 49, 3) := by decide +kernel
theorem dX5_loosens_165 : decode cX5_loosens 165 = .ok (.iload_n 3, 1) := by decide +kernel
theorem dX5_loosens_166 : decode cX5_loosens 166 = .ok (.iaload, 1) := by decide +kernel
theorem dX5_loosens_167 : decode cX5_loosens 167 = .ok (.invokevirtual 200, 3) := by decide +kernel
theorem dX5_loosens_170 : decode cX5_loosens 170 = .ok (.ior, 1) := by decide +kernel
theorem dX5_loosens_171 : decode cX5_loosens 171 = .ok (.istore 8, 2) := by decide +kernel
theorem dX5_loosens_173 : decode cX5_loosens 173 = .ok (.iload_n 1, 1) := by decide +kernel
theorem dX5_loosens_174 : decode cX5_loosens 174 = .ok (.ifCond .ne 15, 3) := by decide +kernel
theorem dX5_loosens_177 : decode cX5_loosens 177 = .ok (.iload 8, 2) := by decide +kernel
theorem dX5_loosens_179 : decode cX5_loosens 179 = .ok (.aload_n 0, 1) := by decide +kernel
theorem dX5_loosens_180 : decode cX5_loosens 180 = .ok (.getfield 49, 3) := by decide +kernel
theorem dX5_loosens_183 : decode cX5_loosens 183 = .ok (.iload 7, 2) := by decide +kernel
theorem dX5_loosens_185 : decode cX5_loosens 185 = .ok (.iaload, 1) := by decide +kernel
theorem dX5_loosens_186 : decode cX5_loosens 186 = .ok (.if_icmp .eq 7, 3) := by decide +kernel
theorem dX5_loosens_189 : decode cX5_loosens 189 = .ok (.iconst 1, 1) := by decide +kernel
theorem dX5_loosens_190 : decode cX5_loosens 190 = .ok (.goto 4, 3) := by decide +kernel
theorem dX5_loosens_193 : decode cX5_loosens 193 = .ok (.iconst 0, 1) := by decide +kernel
theorem dX5_loosens_194 : decode cX5_loosens 194 = .ok (.istore_n 1, 1) := by decide +kernel
theorem dX5_loosens_195 : decode cX5_loosens 195 = .ok (.aload_n 0, 1) := by decide +kernel
theorem dX5_loosens_196 : decode cX5_loosens 196 = .ok (.getfield 49, 3) := by decide +kernel
theorem dX5_loosens_199 : decode cX5_loosens 199 = .ok (.iload 7, 2) := by decide +kernel
theorem dX5_loosens_201 : decode cX5_loosens 201 = .ok (.iload 8, 2) := by decide +kernel
theorem dX5_loosens_203 : decode cX5_loosens 203 = .ok (.iastore, 1) := by decide +kernel
theorem dX5_loosens_204 : decode cX5_loosens 204 = .ok (.iload_n 1, 1) := by decide +kernel
theorem dX5_loosens_205 : decode cX5_loosens 205 = .ok (.ifCond .ne 15, 3) := by decide +kernel
theorem dX5_loosens_208 : decode cX5_loosens 208 = .ok (.iload 6, 2) := by decide +kernel
theorem dX5_loosens_210 : decode cX5_loosens 210 = .ok (.aload_n 0, 1) := by decide +kernel
theorem dX5_loosens_211 : decode cX5_loosens 211 = .ok (.getfield 49, 3) := by decide +kernel
theorem dX5_loosens_214 : decode cX5_loosens 214 = .ok (.iload 4, 2) := by decide +kernel
theorem dX5_loosens_216 : decode cX5_loosens 216 = .ok (.iaload, 1) := by decide +kernel
theorem dX5_loosens_217 : decode cX5_loosens 217 = .ok (.if_icmp .eq 7, 3) := by decide +kernel
theorem dX5_loosens_220 : decode cX5_loosens 220 = .ok (.iconst 1, 1) := by decide +kernel
theorem dX5_loosens_221 : decode cX5_loosens 221 = .ok (.goto 4, 3) := by decide +kernel
theorem dX5_loosens_224 : decode cX5_loosens 224 = .ok (.iconst 0, 1) := by decide +kernel
theorem dX5_loosens_225 : decode cX5_loosens 225 = .ok (.istore_n 1, 1) := by decide +kernel
theorem dX5_loosens_226 : decode cX5_loosens 226 = .ok (.aload_n 0, 1) := by decide +kernel
theorem dX5_loosens_227 : decode cX5_loosens 227 = .ok (.getfield 49, 3) := by decide +kernel
theorem dX5_loosens_230 : decode cX5_loosens 230 = .ok (.iload 4, 2) := by decide +kernel
theorem dX5_loosens_232 : decode cX5_loosens 232 = .ok (.iload 6, 2) := by decide +kernel
theorem dX5_loosens_234 : decode cX5_loosens 234 = .ok (.iastore, 1) := by decide +kernel
theorem dX5_loosens_235 : decode cX5_loosens 235 = .ok (.iinc 2 1, 3) := by decide +kernel
theorem dX5_loosens_238 : decode cX5_loosens 238 = .ok (.goto (-190), 3) := by decide +kernel
theorem dX5_loosens_241 : decode cX5_loosens 241 = .ok (.goto (-201), 3) := by decide +kernel
theorem dX5_loosens_244 : decode cX5_loosens 244 = .ok (.return_, 1) := by decide +kernel
theorem dX5_looseAt_0 : decode cX5_looseAt 0 = .ok (.aload_n 0, 1) := by decide +kernel
theorem dX5_looseAt_1 : decode cX5_looseAt 1 = .ok (.invokevirtual 203, 3) := by decide +kernel
theorem dX5_looseAt_4 : decode cX5_looseAt 4 = .ok (.aload_n 0, 1) := by decide +kernel
theorem dX5_looseAt_5 : decode cX5_looseAt 5 = .ok (.getfield 49, 3) := by decide +kernel
theorem dX5_looseAt_8 : decode cX5_looseAt 8 = .ok (.iload_n 1, 1) := by decide +kernel
theorem dX5_looseAt_9 : decode cX5_looseAt 9 = .ok (.iaload, 1) := by decide +kernel
theorem dX5_looseAt_10 : decode cX5_looseAt 10 = .ok (.ireturn, 1) := by decide +kernel
theorem dX5_loose_0 : decode cX5_loose 0 = .ok (.aload_n 0, 1) := by decide +kernel
theorem dX5_loose_1 : decode cX5_loose 1 = .ok (.iload_n 1, 1) := by decide +kernel
theorem dX5_loose_2 : decode cX5_loose 2 = .ok (.invokevirtual 101, 3) := by decide +kernel
theorem dX5_loose_5 : decode cX5_loose 5 = .ok (.ifCond .eq 11, 3) := by decide +kernel
theorem dX5_loose_8 : decode cX5_loose 8 = .ok (.aload_n 0, 1) := by decide +kernel
theorem dX5_loose_9 : decode cX5_loose 9 = .ok (.iload_n 1, 1) := by decide +kernel
theorem dX5_loose_10 : decode cX5_loose 10 = .ok (.invokevirtual 206, 3) := by decide +kernel
theorem dX5_loose_13 : decode cX5_loose 13 = .ok (.goto 7, 3) := by decide +kernel
theorem dX5_loose_16 : decode cX5_loose 16 = .ok (.aload_n 0, 1) := by decide +kernel
theorem dX5_loose_17 : decode cX5_loose 17 = .ok (.invokevirtual 68, 3) := by decide +kernel
theorem dX5_loose_20 : decode cX5_loose 20 = .ok (.ireturn, 1) := by decide +kernel
theorem dX5_origins_0 : decode cX5_origins 0 = .ok (.aload_n 0, 1) := by decide +kernel
theorem dX5_origins_1 : decode cX5_origins 1 = .ok (.iload_n 1, 1) := by decide +kernel
theorem dX5_origins_2 : decode cX5_origins 2 = .ok (.invokevirtual 101, 3) := by decide +kernel
theorem dX5_origins_5 : decode cX5_origins 5 = .ok (.ifCond .eq 13, 3) := by decide +kernel
theorem dX5_origins_8 : decode cX5_origins 8 = .ok (.iload_n 2, 1) := by decide +kernel
theorem dX5_origins_9 : decode cX5_origins 9 = .ok (.iconst 0, 1) := by decide +kernel
theorem dX5_origins_10 : decode cX5_origins 10 = .ok (.bipush 7, 2) := by decide +kernel
theorem dX5_origins_12 : decode cX5_origins 12 = .ok (.invokestatic 89, 3) := by decide +kernel
theorem dX5_origins_15 : decode cX5_origins 15 = .ok (.ifCond .ne 8, 3) := by decide +kernel
theorem dX5_origins_18 : decode cX5_origins 18 = .ok (.aload_n 0, 1) := by decide +kernel
theorem dX5_origins_19 : decode cX5_origins 19 = .ok (.invokevirtual 68, 3) := by decide +kernel
theorem dX5_origins_22 : decode cX5_origins 22 = .ok (.ireturn, 1) := by decide +kernel
theorem dX5_origins_23 : decode cX5_origins 23 = .ok (.iconst 0, 1) := by decide +kernel
theorem dX5_origins_24 : decode cX5_origins 24 = .ok (.istore_n 3, 1) := by decide +kernel
theorem dX5_origins_25 : decode cX5_origins 25 = .ok (.iconst 0, 1) := by decide +kernel
theorem dX5_origins_26 : decode cX5_origins 26 = .ok (.istore 4, 2) := by decide +kernel
theorem dX5_origins_28 : decode cX5_origins 28 = .ok (.iload 4, 2) := by decide +kernel
theorem dX5_origins_30 : decode cX5_origins 30 = .ok (.bipush 8, 2) := by decide +kernel
theorem dX5_origins_32 : decode cX5_origins 32 = .ok (.if_icmp .ge 57, 3) := by decide +kernel
theorem dX5_origins_35 : decode cX5_origins 35 = .ok (.aload_n 0, 1) := by decide +kernel
theorem dX5_origins_36 : decode cX5_origins 36 = .ok (.invokevirtual 182, 3) := by decide +kernel
theorem dX5_origins_39 : decode cX5_origins 39 = .ok (.aload_n 0, 1) := by decide +kernel
theorem dX5_origins_40 : decode cX5_origins 40 = .ok (.iload 4, 2) := by decide +kernel
theorem dX5_origins_42 : decode cX5_origins 42 = .ok (.aload_n 0, 1) := by decide +kernel
theorem dX5_origins_43 : decode cX5_origins 43 = .ok (.getfield 13, 3) := by decide +kernel
theorem dX5_origins_46 : decode cX5_origins 46 = .ok (.iconst 4, 1) := by decide +kernel
theorem dX5_origins_47 : decode cX5_origins 47 = .ok (.iaload, 1) := by decide +kernel
theorem dX5_origins_48 : decode cX5_origins 48 = .ok (.iload 4, 2) := by decide +kernel
theorem dX5_origins_50 : decode cX5_origins 50 = .ok (.iconst (-1), 1) := by decide +kernel
theorem dX5_origins_51 : decode cX5_origins 51 = .ok (.iconst (-1), 1) := by decide +kernel
theorem dX5_origins_52 : decode cX5_origins 52 = .ok (.invokevirtual 164, 3) := by decide +kernel
theorem dX5_origins_55 : decode cX5_origins 55 = .ok (.aload_n 0, 1) := by decide +kernel
theorem dX5_origins_56 : decode cX5_origins 56 = .ok (.invokevirtual 185, 3) := by decide +kernel
theorem dX5_origins_59 : decode cX5_origins 59 = .ok (.iload_n 3, 1) := by decide +kernel
theorem dX5_origins_60 : decode cX5_origins 60 = .ok (.aload_n 0, 1) := by decide +kernel
theorem dX5_origins_61 : decode cX5_origins 61 = .ok (.iload_n 1, 1) := by decide +kernel
theorem dX5_origins_62 : decode cX5_origins 62 = .ok (.invokevirtual 191, 3) := by decide +kernel
theorem dX5_origins_65 : decode cX5_origins 65 = .ok (.iload_n 2, 1) := by decide +kernel
theorem dX5_origins_66 : decode cX5_origins 66 = .ok (.ishr, 1) := by decide +kernel
theorem dX5_origins_67 : decode cX5_origins 67 = .ok (.iconst 1, 1) := by decide +kernel
theorem dX5_origins_68 : decode cX5_origins 68 = .ok (.iand, 1) := by decide +kernel
theorem dX5_origins_69 : decode cX5_origins 69 = .ok (.iconst 1, 1) := by decide +kernel
theorem dX5_origins_70 : decode cX5_origins 70 = .ok (.if_icmp .ne 10, 3) := by decide +kernel
theorem dX5_origins_73 : decode cX5_origins 73 = .ok (.iconst 1, 1) := by decide +kernel
theorem dX5_origins_74 : decode cX5_origins 74 = .ok (.iload 4, 2) := by decide +kernel
theorem dX5_origins_76 : decode cX5_origins 76 = .ok (.ishl, 1) := by decide +kernel
theorem dX5_origins_77 : decode cX5_origins 77 = .ok (.goto 4, 3) := by decide +kernel
theorem dX5_origins_80 : decode cX5_origins 80 = .ok (.iconst 0, 1) := by decide +kernel
theorem dX5_origins_81 : decode cX5_origins 81 = .ok (.ior, 1) := by decide +kernel
theorem dX5_origins_82 : decode cX5_origins 82 = .ok (.istore_n 3, 1) := by decide +kernel
theorem dX5_origins_83 : decode cX5_origins 83 = .ok (.iinc 4 1, 3) := by decide +kernel
theorem dX5_origins_86 : decode cX5_origins 86 = .ok (.goto (-58), 3) := by decide +kernel
theorem dX5_origins_89 : decode cX5_origins 89 = .ok (.aload_n 0, 1) := by decide +kernel
theorem dX5_origins_90 : decode cX5_origins 90 = .ok (.iconst 0, 1) := by decide +kernel
theorem dX5_origins_91 : decode cX5_origins 91 = .ok (.putfield 77, 3) := by decide +kernel
theorem dX5_origins_94 : decode cX5_origins 94 = .ok (.iload_n 3, 1) := by decide +kernel
theorem dX5_origins_95 : decode cX5_origins 95 = .ok (.ireturn, 1) := by decide +kernel
theorem dX5_summary_0 : decode cX5_summary 0 = .ok (.aload_n 0, 1) := by decide +kernel
theorem dX5_summary_1 : decode cX5_summary 1 = .ok (.iload_n 1, 1) := by decide +kernel
theorem dX5_summary_2 : decode cX5_summary 2 = .ok (.invokevirtual 115, 3) := by decide +kernel
theorem dX5_summary_5 : decode cX5_summary 5 = .ok (.ifCond .eq 13, 3) := by decide +kernel
theorem dX5_summary_8 : decode cX5_summary 8 = .ok (.iload_n 2, 1) := by decide +kernel
theorem dX5_summary_9 : decode cX5_summary 9 = .ok (.iconst 0, 1) := by decide +kernel
theorem dX5_summary_10 : decode cX5_summary 10 = .ok (.bipush 7, 2) := by decide +kernel
theorem dX5_summary_12 : decode cX5_summary 12 = .ok (.invokestatic 89, 3) := by decide +kernel
theorem dX5_summary_15 : decode cX5_summary 15 = .ok (.ifCond .ne 8, 3) := by decide +kernel
theorem dX5_summary_18 : decode cX5_summary 18 = .ok (.aload_n 0, 1) := by decide +kernel
theorem dX5_summary_19 : decode cX5_summary 19 = .ok (.invokevirtual 68, 3) := by decide +kernel
theorem dX5_summary_22 : decode cX5_summary 22 = .ok (.ireturn, 1) := by decide +kernel
theorem dX5_summary_23 : decode cX5_summary 23 = .ok (.aload_n 0, 1) := by decide +kernel
theorem dX5_summary_24 : decode cX5_summary 24 = .ok (.iload_n 1, 1) := by decide +kernel
theorem dX5_summary_25 : decode cX5_summary 25 = .ok (.iconst 2, 1) := by decide +kernel
theorem dX5_summary_26 : decode cX5_summary 26 = .ok (.invokevirtual 118, 3) := by decide +kernel
theorem dX5_summary_29 : decode cX5_summary 29 = .ok (.istore_n 3, 1) := by decide +kernel
theorem dX5_summary_30 : decode cX5_summary 30 = .ok (.iload_n 3, 1) := by decide +kernel
theorem dX5_summary_31 : decode cX5_summary 31 = .ok (.iconst (-1), 1) := by decide +kernel
theorem dX5_summary_32 : decode cX5_summary 32 = .ok (.if_icmp .ne 8, 3) := by decide +kernel
theorem dX5_summary_35 : decode cX5_summary 35 = .ok (.aload_n 0, 1) := by decide +kernel
theorem dX5_summary_36 : decode cX5_summary 36 = .ok (.invokevirtual 71, 3) := by decide +kernel
theorem dX5_summary_39 : decode cX5_summary 39 = .ok (.ireturn, 1) := by decide +kernel
theorem dX5_summary_40 : decode cX5_summary 40 = .ok (.aload_n 0, 1) := by decide +kernel
theorem dX5_summary_41 : decode cX5_summary 41 = .ok (.invokevirtual 182, 3) := by decide +kernel
theorem dX5_summary_44 : decode cX5_summary 44 = .ok (.iconst 0, 1) := by decide +kernel
theorem dX5_summary_45 : decode cX5_summary 45 = .ok (.istore 4, 2) := by decide +kernel
theorem dX5_summary_47 : decode cX5_summary 47 = .ok (.iload 4, 2) := by decide +kernel
theorem dX5_summary_49 : decode cX5_summary 49 = .ok (.bipush 8, 2) := by decide +kernel
theorem dX5_summary_51 : decode cX5_summary 51 = .ok (.if_icmp .ge 45, 3) := by decide +kernel
theorem dX5_summary_54 : decode cX5_summary 54 = .ok (.aload_n 0, 1) := by decide +kernel
theorem dX5_summary_55 : decode cX5_summary 55 = .ok (.iload_n 1, 1) := by decide +kernel
theorem dX5_summary_56 : decode cX5_summary 56 = .ok (.iconst 1, 1) := by decide +kernel
theorem dX5_summary_57 : decode cX5_summary 57 = .ok (.iload_n 2, 1) := by decide +kernel
theorem dX5_summary_58 : decode cX5_summary 58 = .ok (.invokevirtual 124, 3) := by decide +kernel
theorem dX5_summary_61 : decode cX5_summary 61 = .ok (.iload 4, 2) := by decide +kernel
theorem dX5_summary_63 : decode cX5_summary 63 = .ok (.ishr, 1) := by decide +kernel
theorem dX5_summary_64 : decode cX5_summary 64 = .ok (.iconst 1, 1) := by decide +kernel
theorem dX5_summary_65 : decode cX5_summary 65 = .ok (.iand, 1) := by decide +kernel
theorem dX5_summary_66 : decode cX5_summary 66 = .ok (.iconst 1, 1) := by decide +kernel
theorem dX5_summary_67 : decode cX5_summary 67 = .ok (.if_icmp .ne 23, 3) := by decide +kernel
theorem dX5_summary_70 : decode cX5_summary 70 = .ok (.aload_n 0, 1) := by decide +kernel
theorem dX5_summary_71 : decode cX5_summary 71 = .ok (.iload 4, 2) := by decide +kernel
theorem dX5_summary_73 : decode cX5_summary 73 = .ok (.aload_n 0, 1) := by decide +kernel
theorem dX5_summary_74 : decode cX5_summary 74 = .ok (.getfield 13, 3) := by decide +kernel
theorem dX5_summary_77 : decode cX5_summary 77 = .ok (.iconst 4, 1) := by decide +kernel
theorem dX5_summary_78 : decode cX5_summary 78 = .ok (.iconst 2, 1) := by decide +kernel
theorem dX5_summary_79 : decode cX5_summary 79 = .ok (.iload_n 3, 1) := by decide +kernel
theorem dX5_summary_80 : decode cX5_summary 80 = .ok (.imul, 1) := by decide +kernel
theorem dX5_summary_81 : decode cX5_summary 81 = .ok (.iadd, 1) := by decide +kernel
theorem dX5_summary_82 : decode cX5_summary 82 = .ok (.iaload, 1) := by decide +kernel
theorem dX5_summary_83 : decode cX5_summary 83 = .ok (.iload 4, 2) := by decide +kernel
theorem dX5_summary_85 : decode cX5_summary 85 = .ok (.iconst (-1), 1) := by decide +kernel
theorem dX5_summary_86 : decode cX5_summary 86 = .ok (.iconst (-1), 1) := by decide +kernel
theorem dX5_summary_87 : decode cX5_summary 87 = .ok (.invokevirtual 164, 3) := by decide +kernel
theorem dX5_summary_90 : decode cX5_summary 90 = .ok (.iinc 4 1, 3) := by decide +kernel
theorem dX5_summary_93 : decode cX5_summary 93 = .ok (.goto (-46), 3) := by decide +kernel
theorem dX5_summary_96 : decode cX5_summary 96 = .ok (.aload_n 0, 1) := by decide +kernel
theorem dX5_summary_97 : decode cX5_summary 97 = .ok (.invokevirtual 185, 3) := by decide +kernel
theorem dX5_summary_100 : decode cX5_summary 100 = .ok (.iconst 0, 1) := by decide +kernel
theorem dX5_summary_101 : decode cX5_summary 101 = .ok (.istore 4, 2) := by decide +kernel
theorem dX5_summary_103 : decode cX5_summary 103 = .ok (.iconst 0, 1) := by decide +kernel
theorem dX5_summary_104 : decode cX5_summary 104 = .ok (.istore 5, 2) := by decide +kernel
theorem dX5_summary_106 : decode cX5_summary 106 = .ok (.iload 5, 2) := by decide +kernel
theorem dX5_summary_108 : decode cX5_summary 108 = .ok (.bipush 8, 2) := by decide +kernel
theorem dX5_summary_110 : decode cX5_summary 110 = .ok (.if_icmp .ge 97, 3) := by decide +kernel
theorem dX5_summary_113 : decode cX5_summary 113 = .ok (.iconst 0, 1) := by decide +kernel
theorem dX5_summary_114 : decode cX5_summary 114 = .ok (.istore 6, 2) := by decide +kernel
theorem dX5_summary_116 : decode cX5_summary 116 = .ok (.iload 6, 2) := by decide +kernel
theorem dX5_summary_118 : decode cX5_summary 118 = .ok (.bipush 8, 2) := by decide +kernel
theorem dX5_summary_120 : decode cX5_summary 120 = .ok (.if_icmp .ge 81, 3) := by decide +kernel
theorem dX5_summary_123 : decode cX5_summary 123 = .ok (.aload_n 0, 1) := by decide +kernel
theorem dX5_summary_124 : decode cX5_summary 124 = .ok (.iload_n 1, 1) := by decide +kernel
theorem dX5_summary_125 : decode cX5_summary 125 = .ok (.iconst 1, 1) := by decide +kernel
theorem dX5_summary_126 : decode cX5_summary 126 = .ok (.iload_n 2, 1) := by decide +kernel
theorem dX5_summary_127 : decode cX5_summary 127 = .ok (.invokevirtual 124, 3) := by decide +kernel
theorem dX5_summary_130 : decode cX5_summary 130 = .ok (.iload 5, 2) := by decide +kernel
theorem dX5_summary_132 : decode cX5_summary 132 = .ok (.ishr, 1) := by decide +kernel
theorem dX5_summary_133 : decode cX5_summary 133 = .ok (.iconst 1, 1) := by decide +kernel
theorem dX5_summary_134 : decode cX5_summary 134 = .ok (.iand, 1) := by decide +kernel
theorem dX5_summary_135 : decode cX5_summary 135 = .ok (.iconst 1, 1) := by decide +kernel
theorem dX5_summary_136 : decode cX5_summary 136 = .ok (.if_icmp .ne 34, 3) := by decide +kernel
theorem dX5_summary_139 : decode cX5_summary 139 = .ok (.aload_n 0, 1) := by decide +kernel
theorem dX5_summary_140 : decode cX5_summary 140 = .ok (.getfield 19, 3) := by decide +kernel
theorem dX5_summary_143 : decode cX5_summary 143 = .ok (.iload 5, 2) := by decide +kernel
theorem dX5_summary_145 : decode cX5_summary 145 = .ok (.aload_n 0, 1) := by decide +kernel
theorem dX5_summary_146 : decode cX5_summary 146 = .ok (.getfield 13, 3) := by decide +kernel
theorem dX5_summary_149 : decode cX5_summary 149 = .ok (.iconst 4, 1) := by decide +kernel
theorem dX5_summary_150 : decode cX5_summary 150 = .ok (.iconst 2, 1) := by decide +kernel
theorem dX5_summary_151 : decode cX5_summary 151 = .ok (.iload_n 3, 1) := by decide +kernel
theorem dX5_summary_152 : decode cX5_summary 152 = .ok (.imul, 1) := by decide +kernel
theorem dX5_summary_153 : decode cX5_summary 153 = .ok (.iadd, 1) := by decide +kernel
theorem dX5_summary_154 : decode cX5_summary 154 = .ok (.iconst 1, 1) := by decide +kernel
theorem dX5_summary_155 : decode cX5_summary 155 = .ok (.iadd, 1) := by decide +kernel
theorem dX5_summary_156 : decode cX5_summary 156 = .ok (.iaload, 1) := by decide +kernel
theorem dX5_summary_157 : decode cX5_summary 157 = .ok (.iload 6, 2) := by decide +kernel
theorem dX5_summary_159 : decode cX5_summary 159 = .ok (.invokestatic 161, 3) := by decide +kernel
theorem dX5_summary_162 : decode cX5_summary 162 = .ok (.iaload, 1) := by decide +kernel
theorem dX5_summary_163 : decode cX5_summary 163 = .ok (.ifCond .le 7, 3) := by decide +kernel
theorem dX5_summary_166 : decode cX5_summary 166 = .ok (.iconst 1, 1) := by decide +kernel
theorem dX5_summary_167 : decode cX5_summary 167 = .ok (.goto 4, 3) := by decide +kernel
theorem dX5_summary_170 : decode cX5_summary 170 = .ok (.iconst 0, 1) := by decide +kernel
theorem dX5_summary_171 : decode cX5_summary 171 = .ok (.istore 7, 2) := by decide +kernel
theorem dX5_summary_173 : decode cX5_summary 173 = .ok (.iload 4, 2) := by decide +kernel
theorem dX5_summary_175 : decode cX5_summary 175 = .ok (.iload 7, 2) := by decide +kernel
theorem dX5_summary_177 : decode cX5_summary 177 = .ok (.ifCond .eq 14, 3) := by decide +kernel
theorem dX5_summary_180 : decode cX5_summary 180 = .ok (.aload_n 0, 1) := by decide +kernel
theorem dX5_summary_181 : decode cX5_summary 181 = .ok (.iload_n 1, 1) := by decide +kernel
theorem dX5_summary_182 : decode cX5_summary 182 = .ok (.iconst 2, 1) := by decide +kernel
theorem dX5_summary_183 : decode cX5_summary 183 = .ok (.iload 6, 2) := by decide +kernel
theorem dX5_summary_185 : decode cX5_summary 185 = .ok (.invokevirtual 124, 3) := by decide +kernel
theorem dX5_summary_188 : decode cX5_summary 188 = .ok (.goto 4, 3) := by decide +kernel
theorem dX5_summary_191 : decode cX5_summary 191 = .ok (.iconst 0, 1) := by decide +kernel
theorem dX5_summary_192 : decode cX5_summary 192 = .ok (.ior, 1) := by decide +kernel
theorem dX5_summary_193 : decode cX5_summary 193 = .ok (.istore 4, 2) := by decide +kernel
theorem dX5_summary_195 : decode cX5_summary 195 = .ok (.iinc 6 1, 3) := by decide +kernel
theorem dX5_summary_198 : decode cX5_summary 198 = .ok (.goto (-82), 3) := by decide +kernel
theorem dX5_summary_201 : decode cX5_summary 201 = .ok (.iinc 5 1, 3) := by decide +kernel
theorem dX5_summary_204 : decode cX5_summary 204 = .ok (.goto (-98), 3) := by decide +kernel
theorem dX5_summary_207 : decode cX5_summary 207 = .ok (.aload_n 0, 1) := by decide +kernel
theorem dX5_summary_208 : decode cX5_summary 208 = .ok (.iconst 0, 1) := by decide +kernel
theorem dX5_summary_209 : decode cX5_summary 209 = .ok (.putfield 77, 3) := by decide +kernel
theorem dX5_summary_212 : decode cX5_summary 212 = .ok (.iload 4, 2) := by decide +kernel
theorem dX5_summary_214 : decode cX5_summary 214 = .ok (.ireturn, 1) := by decide +kernel
theorem dX5_entry_0 : decode cX5_entry 0 = .ok (.iload_n 1, 1) := by decide +kernel
theorem dX5_entry_1 : decode cX5_entry 1 = .ok (.ifCond .lt 12, 3) := by decide +kernel
theorem dX5_entry_4 : decode cX5_entry 4 = .ok (.iload_n 2, 1) := by decide +kernel
theorem dX5_entry_5 : decode cX5_entry 5 = .ok (.iconst 0, 1) := by decide +kernel
theorem dX5_entry_6 : decode cX5_entry 6 = .ok (.iconst 3, 1) := by decide +kernel
theorem dX5_entry_7 : decode cX5_entry 7 = .ok (.invokestatic 89, 3) := by decide +kernel
theorem dX5_entry_10 : decode cX5_entry 10 = .ok (.ifCond .ne 8, 3) := by decide +kernel
theorem dX5_entry_13 : decode cX5_entry 13 = .ok (.aload_n 0, 1) := by decide +kernel
theorem dX5_entry_14 : decode cX5_entry 14 = .ok (.invokevirtual 68, 3) := by decide +kernel
theorem dX5_entry_17 : decode cX5_entry 17 = .ok (.ireturn, 1) := by decide +kernel
theorem dX5_entry_18 : decode cX5_entry 18 = .ok (.aload_n 0, 1) := by decide +kernel
theorem dX5_entry_19 : decode cX5_entry 19 = .ok (.invokevirtual 188, 3) := by decide +kernel
theorem dX5_entry_22 : decode cX5_entry 22 = .ok (.iload_n 1, 1) := by decide +kernel
theorem dX5_entry_23 : decode cX5_entry 23 = .ok (.aload_n 0, 1) := by decide +kernel
theorem dX5_entry_24 : decode cX5_entry 24 = .ok (.getfield 155, 3) := by decide +kernel
theorem dX5_entry_27 : decode cX5_entry 27 = .ok (.if_icmp .lt 5, 3) := by decide +kernel
theorem dX5_entry_30 : decode cX5_entry 30 = .ok (.iconst (-1), 1) := by decide +kernel
theorem dX5_entry_31 : decode cX5_entry 31 = .ok (.ireturn, 1) := by decide +kernel
theorem dX5_entry_32 : decode cX5_entry 32 = .ok (.iload_n 2, 1) := by decide +kernel
theorem dX5_entry_33 : decode cX5_entry 33 = .ok (.ifCond .ne 16, 3) := by decide +kernel
theorem dX5_entry_36 : decode cX5_entry 36 = .ok (.aload_n 0, 1) := by decide +kernel
theorem dX5_entry_37 : decode cX5_entry 37 = .ok (.aload_n 0, 1) := by decide +kernel
theorem dX5_entry_38 : decode cX5_entry 38 = .ok (.getfield 25, 3) := by decide +kernel
theorem dX5_entry_41 : decode cX5_entry 41 = .ok (.iload_n 1, 1) := by decide +kernel
theorem dX5_entry_42 : decode cX5_entry 42 = .ok (.iaload, 1) := by decide +kernel
theorem dX5_entry_43 : decode cX5_entry 43 = .ok (.invokevirtual 104, 3) := by decide +kernel
theorem dX5_entry_46 : decode cX5_entry 46 = .ok (.goto 37, 3) := by decide +kernel
theorem dX5_entry_49 : decode cX5_entry 49 = .ok (.iload_n 2, 1) := by decide +kernel
theorem dX5_entry_50 : decode cX5_entry 50 = .ok (.iconst 1, 1) := by decide +kernel
theorem dX5_entry_51 : decode cX5_entry 51 = .ok (.if_icmp .ne 12, 3) := by decide +kernel
theorem dX5_entry_54 : decode cX5_entry 54 = .ok (.aload_n 0, 1) := by decide +kernel
theorem dX5_entry_55 : decode cX5_entry 55 = .ok (.getfield 22, 3) := by decide +kernel
theorem dX5_entry_58 : decode cX5_entry 58 = .ok (.iload_n 1, 1) := by decide +kernel
theorem dX5_entry_59 : decode cX5_entry 59 = .ok (.iaload, 1) := by decide +kernel
theorem dX5_entry_60 : decode cX5_entry 60 = .ok (.goto 23, 3) := by decide +kernel
theorem dX5_entry_63 : decode cX5_entry 63 = .ok (.iload_n 2, 1) := by decide +kernel
theorem dX5_entry_64 : decode cX5_entry 64 = .ok (.iconst 2, 1) := by decide +kernel
theorem dX5_entry_65 : decode cX5_entry 65 = .ok (.if_icmp .ne 12, 3) := by decide +kernel
theorem dX5_entry_68 : decode cX5_entry 68 = .ok (.aload_n 0, 1) := by decide +kernel
theorem dX5_entry_69 : decode cX5_entry 69 = .ok (.getfield 25, 3) := by decide +kernel
theorem dX5_entry_72 : decode cX5_entry 72 = .ok (.iload_n 1, 1) := by decide +kernel
theorem dX5_entry_73 : decode cX5_entry 73 = .ok (.iaload, 1) := by decide +kernel
theorem dX5_entry_74 : decode cX5_entry 74 = .ok (.goto 9, 3) := by decide +kernel
theorem dX5_entry_77 : decode cX5_entry 77 = .ok (.aload_n 0, 1) := by decide +kernel
theorem dX5_entry_78 : decode cX5_entry 78 = .ok (.getfield 28, 3) := by decide +kernel
theorem dX5_entry_81 : decode cX5_entry 81 = .ok (.iload_n 1, 1) := by decide +kernel
theorem dX5_entry_82 : decode cX5_entry 82 = .ok (.iaload, 1) := by decide +kernel
theorem dX5_entry_83 : decode cX5_entry 83 = .ok (.ireturn, 1) := by decide +kernel
theorem dX5_spells_0 : decode cX5_spells 0 = .ok (.aload_n 0, 1) := by decide +kernel
theorem dX5_spells_1 : decode cX5_spells 1 = .ok (.iconst 0, 1) := by decide +kernel
theorem dX5_spells_2 : decode cX5_spells 2 = .ok (.putfield 209, 3) := by decide +kernel
theorem dX5_spells_5 : decode cX5_spells 5 = .ok (.aload_n 0, 1) := by decide +kernel
theorem dX5_spells_6 : decode cX5_spells 6 = .ok (.getfield 52, 3) := by decide +kernel
theorem dX5_spells_9 : decode cX5_spells 9 = .ok (.iconst 0, 1) := by decide +kernel
theorem dX5_spells_10 : decode cX5_spells 10 = .ok (.iconst 4, 1) := by decide +kernel
theorem dX5_spells_11 : decode cX5_spells 11 = .ok (.iload_n 1, 1) := by decide +kernel
theorem dX5_spells_12 : decode cX5_spells 12 = .ok (.imul, 1) := by decide +kernel
theorem dX5_spells_13 : decode cX5_spells 13 = .ok (.iastore, 1) := by decide +kernel
theorem dX5_spells_14 : decode cX5_spells 14 = .ok (.aload_n 0, 1) := by decide +kernel
theorem dX5_spells_15 : decode cX5_spells 15 = .ok (.iconst 1, 1) := by decide +kernel
theorem dX5_spells_16 : decode cX5_spells 16 = .ok (.putfield 212, 3) := by decide +kernel
theorem dX5_spells_19 : decode cX5_spells 19 = .ok (.aload_n 0, 1) := by decide +kernel
theorem dX5_spells_20 : decode cX5_spells 20 = .ok (.getfield 212, 3) := by decide +kernel
theorem dX5_spells_23 : decode cX5_spells 23 = .ok (.ifCond .le 240, 3) := by decide +kernel
theorem dX5_spells_26 : decode cX5_spells 26 = .ok (.aload_n 0, 1) := by decide +kernel
theorem dX5_spells_27 : decode cX5_spells 27 = .ok (.getfield 209, 3) := by decide +kernel
theorem dX5_spells_30 : decode cX5_spells 30 = .ok (.sipush 1000, 3) := by decide +kernel
theorem dX5_spells_33 : decode cX5_spells 33 = .ok (.if_icmp .ge 230, 3) := by decide +kernel
theorem dX5_spells_36 : decode cX5_spells 36 = .ok (.aload_n 0, 1) := by decide +kernel
theorem dX5_spells_37 : decode cX5_spells 37 = .ok (.dup, 1) := by decide +kernel
theorem dX5_spells_38 : decode cX5_spells 38 = .ok (.getfield 212, 3) := by decide +kernel
theorem dX5_spells_41 : decode cX5_spells 41 = .ok (.iconst 1, 1) := by decide +kernel
theorem dX5_spells_42 : decode cX5_spells 42 = .ok (.isub, 1) := by decide +kernel
theorem dX5_spells_43 : decode cX5_spells 43 = .ok (.putfield 212, 3) := by decide +kernel
theorem dX5_spells_46 : decode cX5_spells 46 = .ok (.aload_n 0, 1) := by decide +kernel
theorem dX5_spells_47 : decode cX5_spells 47 = .ok (.getfield 52, 3) := by decide +kernel
theorem dX5_spells_50 : decode cX5_spells 50 = .ok (.aload_n 0, 1) := by decide +kernel
theorem dX5_spells_51 : decode cX5_spells 51 = .ok (.getfield 212, 3) := by decide +kernel
theorem dX5_spells_54 : decode cX5_spells 54 = .ok (.iaload, 1) := by decide +kernel
theorem dX5_spells_55 : decode cX5_spells 55 = .ok (.iconst 4, 1) := by decide +kernel
theorem dX5_spells_56 : decode cX5_spells 56 = .ok (.idiv, 1) := by decide +kernel
theorem dX5_spells_57 : decode cX5_spells 57 = .ok (.istore_n 2, 1) := by decide +kernel
theorem dX5_spells_58 : decode cX5_spells 58 = .ok (.aload_n 0, 1) := by decide +kernel
theorem dX5_spells_59 : decode cX5_spells 59 = .ok (.getfield 52, 3) := by decide +kernel
theorem dX5_spells_62 : decode cX5_spells 62 = .ok (.aload_n 0, 1) := by decide +kernel
theorem dX5_spells_63 : decode cX5_spells 63 = .ok (.getfield 212, 3) := by decide +kernel
theorem dX5_spells_66 : decode cX5_spells 66 = .ok (.iaload, 1) := by decide +kernel
theorem dX5_spells_67 : decode cX5_spells 67 = .ok (.iconst 4, 1) := by decide +kernel
theorem dX5_spells_68 : decode cX5_spells 68 = .ok (.irem, 1) := by decide +kernel
theorem dX5_spells_69 : decode cX5_spells 69 = .ok (.istore_n 3, 1) := by decide +kernel
theorem dX5_spells_70 : decode cX5_spells 70 = .ok (.aload_n 0, 1) := by decide +kernel
theorem dX5_spells_71 : decode cX5_spells 71 = .ok (.getfield 31, 3) := by decide +kernel
theorem dX5_spells_74 : decode cX5_spells 74 = .ok (.iload_n 2, 1) := by decide +kernel
theorem dX5_spells_75 : decode cX5_spells 75 = .ok (.iaload, 1) := by decide +kernel
theorem dX5_spells_76 : decode cX5_spells 76 = .ok (.iconst (-1), 1) := by decide +kernel
theorem dX5_spells_77 : decode cX5_spells 77 = .ok (.if_icmp .eq 36, 3) := by decide +kernel
theorem dX5_spells_80 : decode cX5_spells 80 = .ok (.iload_n 3, 1) := by decide +kernel
theorem dX5_spells_81 : decode cX5_spells 81 = .ok (.iconst 1, 1) := by decide +kernel
theorem dX5_spells_82 : decode cX5_spells 82 = .ok (.if_icmp .ne 35, 3) := by decide +kernel
theorem dX5_spells_85 : decode cX5_spells 85 = .ok (.aload_n 0, 1) := by decide +kernel
theorem dX5_spells_86 : decode cX5_spells 86 = .ok (.aload_n 0, 1) := by decide +kernel
theorem dX5_spells_87 : decode cX5_spells 87 = .ok (.getfield 25, 3) := by decide +kernel
theorem dX5_spells_90 : decode cX5_spells 90 = .ok (.iload_n 2, 1) := by decide +kernel
theorem dX5_spells_91 : decode cX5_spells 91 = .ok (.iaload, 1) := by decide +kernel
theorem dX5_spells_92 : decode cX5_spells 92 = .ok (.invokevirtual 108, 3) := by decide +kernel
theorem dX5_spells_95 : decode cX5_spells 95 = .ok (.ifCond .ne 22, 3) := by decide +kernel
theorem dX5_spells_98 : decode cX5_spells 98 = .ok (.aload_n 0, 1) := by decide +kernel
theorem dX5_spells_99 : decode cX5_spells 99 = .ok (.getfield 22, 3) := by decide +kernel
theorem dX5_spells_102 : decode cX5_spells 102 = .ok (.iload_n 2, 1) := by decide +kernel
theorem dX5_spells_103 : decode cX5_spells 103 = .ok (.iaload, 1) := by decide +kernel
theorem dX5_spells_104 : decode cX5_spells 104 = .ok (.aload_n 0, 1) := by decide +kernel
theorem dX5_spells_105 : decode cX5_spells 105 = .ok (.getfield 28, 3) := by decide +kernel
theorem dX5_spells_108 : decode cX5_spells 108 = .ok (.iload_n 2, 1) := by decide +kernel
theorem dX5_spells_109 : decode cX5_spells 109 = .ok (.iaload, 1) := by decide +kernel
theorem dX5_spells_110 : decode cX5_spells 110 = .ok (.if_icmp .ne 7, 3) := by decide +kernel
theorem dX5_spells_113 : decode cX5_spells 113 = .ok (.iconst 1, 1) := by decide +kernel
theorem dX5_spells_114 : decode cX5_spells 114 = .ok (.goto 4, 3) := by decide +kernel
theorem dX5_spells_117 : decode cX5_spells 117 = .ok (.iconst 0, 1) := by decide +kernel
theorem dX5_spells_118 : decode cX5_spells 118 = .ok (.istore 4, 2) := by decide +kernel
theorem dX5_spells_120 : decode cX5_spells 120 = .ok (.iload_n 3, 1) := by decide +kernel
theorem dX5_spells_121 : decode cX5_spells 121 = .ok (.iconst 2, 1) := by decide +kernel
theorem dX5_spells_122 : decode cX5_spells 122 = .ok (.if_icmp .eq 8, 3) := by decide +kernel
theorem dX5_spells_125 : decode cX5_spells 125 = .ok (.iload 4, 2) := by decide +kernel
theorem dX5_spells_127 : decode cX5_spells 127 = .ok (.ifCond .eq 41, 3) := by decide +kernel
theorem dX5_spells_130 : decode cX5_spells 130 = .ok (.aload_n 0, 1) := by decide +kernel
theorem dX5_spells_131 : decode cX5_spells 131 = .ok (.getfield 55, 3) := by decide +kernel
theorem dX5_spells_134 : decode cX5_spells 134 = .ok (.aload_n 0, 1) := by decide +kernel
theorem dX5_spells_135 : decode cX5_spells 135 = .ok (.getfield 209, 3) := by decide +kernel
theorem dX5_spells_138 : decode cX5_spells 138 = .ok (.bipush 10, 2) := by decide +kernel
theorem dX5_spells_140 : decode cX5_spells 140 = .ok (.aload_n 0, 1) := by decide +kernel
theorem dX5_spells_141 : decode cX5_spells 141 = .ok (.getfield 25, 3) := by decide +kernel
theorem dX5_spells_144 : decode cX5_spells 144 = .ok (.iload_n 2, 1) := by decide +kernel
theorem dX5_spells_145 : decode cX5_spells 145 = .ok (.iaload, 1) := by decide +kernel
theorem dX5_spells_146 : decode cX5_spells 146 = .ok (.imul, 1) := by decide +kernel
theorem dX5_spells_147 : decode cX5_spells 147 = .ok (.aload_n 0, 1) := by decide +kernel
theorem dX5_spells_148 : decode cX5_spells 148 = .ok (.getfield 28, 3) := by decide +kernel
theorem dX5_spells_151 : decode cX5_spells 151 = .ok (.iload_n 2, 1) := by decide +kernel
theorem dX5_spells_152 : decode cX5_spells 152 = .ok (.iaload, 1) := by decide +kernel
theorem dX5_spells_153 : decode cX5_spells 153 = .ok (.iadd, 1) := by decide +kernel
theorem dX5_spells_154 : decode cX5_spells 154 = .ok (.iastore, 1) := by decide +kernel
theorem dX5_spells_155 : decode cX5_spells 155 = .ok (.aload_n 0, 1) := by decide +kernel
theorem dX5_spells_156 : decode cX5_spells 156 = .ok (.dup, 1) := by decide +kernel
theorem dX5_spells_157 : decode cX5_spells 157 = .ok (.getfield 209, 3) := by decide +kernel
theorem dX5_spells_160 : decode cX5_spells 160 = .ok (.iconst 1, 1) := by decide +kernel
theorem dX5_spells_161 : decode cX5_spells 161 = .ok (.iadd, 1) := by decide +kernel
theorem dX5_spells_162 : decode cX5_spells 162 = .ok (.putfield 209, 3) := by decide +kernel
theorem dX5_spells_165 : decode cX5_spells 165 = .ok (.goto 95, 3) := by decide +kernel
theorem dX5_spells_168 : decode cX5_spells 168 = .ok (.aload_n 0, 1) := by decide +kernel
theorem dX5_spells_169 : decode cX5_spells 169 = .ok (.getfield 52, 3) := by decide +kernel
theorem dX5_spells_172 : decode cX5_spells 172 = .ok (.aload_n 0, 1) := by decide +kernel
theorem dX5_spells_173 : decode cX5_spells 173 = .ok (.getfield 212, 3) := by decide +kernel
theorem dX5_spells_176 : decode cX5_spells 176 = .ok (.iconst 4, 1) := by decide +kernel
theorem dX5_spells_177 : decode cX5_spells 177 = .ok (.iload_n 2, 1) := by decide +kernel
theorem dX5_spells_178 : decode cX5_spells 178 = .ok (.imul, 1) := by decide +kernel
theorem dX5_spells_179 : decode cX5_spells 179 = .ok (.iconst 2, 1) := by decide +kernel
theorem dX5_spells_180 : decode cX5_spells 180 = .ok (.iadd, 1) := by decide +kernel
theorem dX5_spells_181 : decode cX5_spells 181 = .ok (.iastore, 1) := by decide +kernel
theorem dX5_spells_182 : decode cX5_spells 182 = .ok (.aload_n 0, 1) := by decide +kernel
theorem dX5_spells_183 : decode cX5_spells 183 = .ok (.dup, 1) := by decide +kernel
theorem dX5_spells_184 : decode cX5_spells 184 = .ok (.getfield 212, 3) := by decide +kernel
theorem dX5_spells_187 : decode cX5_spells 187 = .ok (.iconst 1, 1) := by decide +kernel
theorem dX5_spells_188 : decode cX5_spells 188 = .ok (.iadd, 1) := by decide +kernel
theorem dX5_spells_189 : decode cX5_spells 189 = .ok (.putfield 212, 3) := by decide +kernel
theorem dX5_spells_192 : decode cX5_spells 192 = .ok (.aload_n 0, 1) := by decide +kernel
theorem dX5_spells_193 : decode cX5_spells 193 = .ok (.getfield 34, 3) := by decide +kernel
theorem dX5_spells_196 : decode cX5_spells 196 = .ok (.iload_n 2, 1) := by decide +kernel
theorem dX5_spells_197 : decode cX5_spells 197 = .ok (.iaload, 1) := by decide +kernel
theorem dX5_spells_198 : decode cX5_spells 198 = .ok (.iconst (-1), 1) := by decide +kernel
theorem dX5_spells_199 : decode cX5_spells 199 = .ok (.if_icmp .eq 32, 3) := by decide +kernel
theorem dX5_spells_202 : decode cX5_spells 202 = .ok (.aload_n 0, 1) := by decide +kernel
theorem dX5_spells_203 : decode cX5_spells 203 = .ok (.getfield 52, 3) := by decide +kernel
theorem dX5_spells_206 : decode cX5_spells 206 = .ok (.aload_n 0, 1) := by decide +kernel
theorem dX5_spells_207 : decode cX5_spells 207 = .ok (.getfield 212, 3) := by decide +kernel
theorem dX5_spells_210 : decode cX5_spells 210 = .ok (.iconst 4, 1) := by decide +kernel
theorem dX5_spells_211 : decode cX5_spells 211 = .ok (.aload_n 0, 1) := by decide +kernel
theorem dX5_spells_212 : decode cX5_spells 212 = .ok (.getfield 34, 3) := by decide +kernel
theorem dX5_spells_215 : decode cX5_spells 215 = .ok (.iload_n 2, 1) := by decide +kernel
theorem dX5_spells_216 : decode cX5_spells 216 = .ok (.iaload, 1) := by decide +kernel
theorem dX5_spells_217 : decode cX5_spells 217 = .ok (.imul, 1) := by decide +kernel
theorem dX5_spells_218 : decode cX5_spells 218 = .ok (.iconst 1, 1) := by decide +kernel
theorem dX5_spells_219 : decode cX5_spells 219 = .ok (.iadd, 1) := by decide +kernel
theorem dX5_spells_220 : decode cX5_spells 220 = .ok (.iastore, 1) := by decide +kernel
theorem dX5_spells_221 : decode cX5_spells 221 = .ok (.aload_n 0, 1) := by decide +kernel
theorem dX5_spells_222 : decode cX5_spells 222 = .ok (.dup, 1) := by decide +kernel
theorem dX5_spells_223 : decode cX5_spells 223 = .ok (.getfield 212, 3) := by decide +kernel
theorem dX5_spells_226 : decode cX5_spells 226 = .ok (.iconst 1, 1) := by decide +kernel
theorem dX5_spells_227 : decode cX5_spells 227 = .ok (.iadd, 1) := by decide +kernel
theorem dX5_spells_228 : decode cX5_spells 228 = .ok (.putfield 212, 3) := by decide +kernel
theorem dX5_spells_231 : decode cX5_spells 231 = .ok (.aload_n 0, 1) := by decide +kernel
theorem dX5_spells_232 : decode cX5_spells 232 = .ok (.getfield 52, 3) := by decide +kernel
theorem dX5_spells_235 : decode cX5_spells 235 = .ok (.aload_n 0, 1) := by decide +kernel
theorem dX5_spells_236 : decode cX5_spells 236 = .ok (.getfield 212, 3) := by decide +kernel
theorem dX5_spells_239 : decode cX5_spells 239 = .ok (.iconst 4, 1) := by decide +kernel
theorem dX5_spells_240 : decode cX5_spells 240 = .ok (.aload_n 0, 1) := by decide +kernel
theorem dX5_spells_241 : decode cX5_spells 241 = .ok (.getfield 31, 3) := by decide +kernel
theorem dX5_spells_244 : decode cX5_spells 244 = .ok (.iload_n 2, 1) := by decide +kernel
theorem dX5_spells_245 : decode cX5_spells 245 = .ok (.iaload, 1) := by decide +kernel
theorem dX5_spells_246 : decode cX5_spells 246 = .ok (.imul, 1) := by decide +kernel
theorem dX5_spells_247 : decode cX5_spells 247 = .ok (.iload_n 3, 1) := by decide +kernel
theorem dX5_spells_248 : decode cX5_spells 248 = .ok (.iadd, 1) := by decide +kernel
theorem dX5_spells_249 : decode cX5_spells 249 = .ok (.iastore, 1) := by decide +kernel
theorem dX5_spells_250 : decode cX5_spells 250 = .ok (.aload_n 0, 1) := by decide +kernel
theorem dX5_spells_251 : decode cX5_spells 251 = .ok (.dup, 1) := by decide +kernel
theorem dX5_spells_252 : decode cX5_spells 252 = .ok (.getfield 212, 3) := by decide +kernel
theorem dX5_spells_255 : decode cX5_spells 255 = .ok (.iconst 1, 1) := by decide +kernel
theorem dX5_spells_256 : decode cX5_spells 256 = .ok (.iadd, 1) := by decide +kernel
theorem dX5_spells_257 : decode cX5_spells 257 = .ok (.putfield 212, 3) := by decide +kernel
theorem dX5_spells_260 : decode cX5_spells 260 = .ok (.goto (-241), 3) := by decide +kernel
theorem dX5_spells_263 : decode cX5_spells 263 = .ok (.return_, 1) := by decide +kernel
theorem dX5_witness_0 : decode cX5_witness 0 = .ok (.aload_n 0, 1) := by decide +kernel
theorem dX5_witness_1 : decode cX5_witness 1 = .ok (.iload_n 1, 1) := by decide +kernel
theorem dX5_witness_2 : decode cX5_witness 2 = .ok (.invokevirtual 101, 3) := by decide +kernel
theorem dX5_witness_5 : decode cX5_witness 5 = .ok (.ifCond .eq 18, 3) := by decide +kernel
theorem dX5_witness_8 : decode cX5_witness 8 = .ok (.iload_n 2, 1) := by decide +kernel
theorem dX5_witness_9 : decode cX5_witness 9 = .ok (.iconst 0, 1) := by decide +kernel
theorem dX5_witness_10 : decode cX5_witness 10 = .ok (.bipush 7, 2) := by decide +kernel
theorem dX5_witness_12 : decode cX5_witness 12 = .ok (.invokestatic 89, 3) := by decide +kernel
theorem dX5_witness_15 : decode cX5_witness 15 = .ok (.ifCond .eq 8, 3) := by decide +kernel
theorem dX5_witness_18 : decode cX5_witness 18 = .ok (.iload_n 3, 1) := by decide +kernel
theorem dX5_witness_19 : decode cX5_witness 19 = .ok (.iconst (-1), 1) := by decide +kernel
theorem dX5_witness_20 : decode cX5_witness 20 = .ok (.if_icmp .ge 8, 3) := by decide +kernel
theorem dX5_witness_23 : decode cX5_witness 23 = .ok (.aload_n 0, 1) := by decide +kernel
theorem dX5_witness_24 : decode cX5_witness 24 = .ok (.invokevirtual 68, 3) := by decide +kernel
theorem dX5_witness_27 : decode cX5_witness 27 = .ok (.ireturn, 1) := by decide +kernel
theorem dX5_witness_28 : decode cX5_witness 28 = .ok (.aload_n 0, 1) := by decide +kernel
theorem dX5_witness_29 : decode cX5_witness 29 = .ok (.invokevirtual 188, 3) := by decide +kernel
theorem dX5_witness_32 : decode cX5_witness 32 = .ok (.sipush 1537, 3) := by decide +kernel
theorem dX5_witness_35 : decode cX5_witness 35 = .ok (.istore 4, 2) := by decide +kernel
theorem dX5_witness_37 : decode cX5_witness 37 = .ok (.iconst 0, 1) := by decide +kernel
theorem dX5_witness_38 : decode cX5_witness 38 = .ok (.istore 5, 2) := by decide +kernel
theorem dX5_witness_40 : decode cX5_witness 40 = .ok (.iload 5, 2) := by decide +kernel
theorem dX5_witness_42 : decode cX5_witness 42 = .ok (.bipush 8, 2) := by decide +kernel
theorem dX5_witness_44 : decode cX5_witness 44 = .ok (.if_icmp .ge 44, 3) := by decide +kernel
theorem dX5_witness_47 : decode cX5_witness 47 = .ok (.aload_n 0, 1) := by decide +kernel
theorem dX5_witness_48 : decode cX5_witness 48 = .ok (.getfield 19, 3) := by decide +kernel
theorem dX5_witness_51 : decode cX5_witness 51 = .ok (.iload 5, 2) := by decide +kernel
theorem dX5_witness_53 : decode cX5_witness 53 = .ok (.iload_n 1, 1) := by decide +kernel
theorem dX5_witness_54 : decode cX5_witness 54 = .ok (.iload_n 2, 1) := by decide +kernel
theorem dX5_witness_55 : decode cX5_witness 55 = .ok (.invokestatic 161, 3) := by decide +kernel
theorem dX5_witness_58 : decode cX5_witness 58 = .ok (.iaload, 1) := by decide +kernel
theorem dX5_witness_59 : decode cX5_witness 59 = .ok (.istore 6, 2) := by decide +kernel
theorem dX5_witness_61 : decode cX5_witness 61 = .ok (.iload 6, 2) := by decide +kernel
theorem dX5_witness_63 : decode cX5_witness 63 = .ok (.ifCond .le 15, 3) := by decide +kernel
theorem dX5_witness_66 : decode cX5_witness 66 = .ok (.iload 6, 2) := by decide +kernel
theorem dX5_witness_68 : decode cX5_witness 68 = .ok (.iload 4, 2) := by decide +kernel
theorem dX5_witness_70 : decode cX5_witness 70 = .ok (.if_icmp .ge 8, 3) := by decide +kernel
theorem dX5_witness_73 : decode cX5_witness 73 = .ok (.iload 6, 2) := by decide +kernel
theorem dX5_witness_75 : decode cX5_witness 75 = .ok (.goto 5, 3) := by decide +kernel
theorem dX5_witness_78 : decode cX5_witness 78 = .ok (.iload 4, 2) := by decide +kernel
theorem dX5_witness_80 : decode cX5_witness 80 = .ok (.istore 4, 2) := by decide +kernel
theorem dX5_witness_82 : decode cX5_witness 82 = .ok (.iinc 5 1, 3) := by decide +kernel
theorem dX5_witness_85 : decode cX5_witness 85 = .ok (.goto (-45), 3) := by decide +kernel
theorem dX5_witness_88 : decode cX5_witness 88 = .ok (.iload 4, 2) := by decide +kernel
theorem dX5_witness_90 : decode cX5_witness 90 = .ok (.sipush 1536, 3) := by decide +kernel
theorem dX5_witness_93 : decode cX5_witness 93 = .ok (.if_icmp .le 5, 3) := by decide +kernel
theorem dX5_witness_96 : decode cX5_witness 96 = .ok (.iconst (-1), 1) := by decide +kernel
theorem dX5_witness_97 : decode cX5_witness 97 = .ok (.ireturn, 1) := by decide +kernel
theorem dX5_witness_98 : decode cX5_witness 98 = .ok (.aload_n 0, 1) := by decide +kernel
theorem dX5_witness_99 : decode cX5_witness 99 = .ok (.iload 4, 2) := by decide +kernel
theorem dX5_witness_101 : decode cX5_witness 101 = .ok (.iconst 1, 1) := by decide +kernel
theorem dX5_witness_102 : decode cX5_witness 102 = .ok (.isub, 1) := by decide +kernel
theorem dX5_witness_103 : decode cX5_witness 103 = .ok (.invokevirtual 215, 3) := by decide +kernel
theorem dX5_witness_106 : decode cX5_witness 106 = .ok (.iload_n 3, 1) := by decide +kernel
theorem dX5_witness_107 : decode cX5_witness 107 = .ok (.iconst (-1), 1) := by decide +kernel
theorem dX5_witness_108 : decode cX5_witness 108 = .ok (.if_icmp .ne 10, 3) := by decide +kernel
theorem dX5_witness_111 : decode cX5_witness 111 = .ok (.aload_n 0, 1) := by decide +kernel
theorem dX5_witness_112 : decode cX5_witness 112 = .ok (.getfield 209, 3) := by decide +kernel
theorem dX5_witness_115 : decode cX5_witness 115 = .ok (.goto 21, 3) := by decide +kernel
theorem dX5_witness_118 : decode cX5_witness 118 = .ok (.iload_n 3, 1) := by decide +kernel
theorem dX5_witness_119 : decode cX5_witness 119 = .ok (.aload_n 0, 1) := by decide +kernel
theorem dX5_witness_120 : decode cX5_witness 120 = .ok (.getfield 209, 3) := by decide +kernel
theorem dX5_witness_123 : decode cX5_witness 123 = .ok (.if_icmp .ge 12, 3) := by decide +kernel
theorem dX5_witness_126 : decode cX5_witness 126 = .ok (.aload_n 0, 1) := by decide +kernel
theorem dX5_witness_127 : decode cX5_witness 127 = .ok (.getfield 55, 3) := by decide +kernel
theorem dX5_witness_130 : decode cX5_witness 130 = .ok (.iload_n 3, 1) := by decide +kernel
theorem dX5_witness_131 : decode cX5_witness 131 = .ok (.iaload, 1) := by decide +kernel
theorem dX5_witness_132 : decode cX5_witness 132 = .ok (.goto 4, 3) := by decide +kernel
theorem dX5_witness_135 : decode cX5_witness 135 = .ok (.iconst (-1), 1) := by decide +kernel
theorem dX5_witness_136 : decode cX5_witness 136 = .ok (.ireturn, 1) := by decide +kernel
theorem dX5_type_0 : decode cX5_type 0 = .ok (.iload_n 1, 1) := by decide +kernel
theorem dX5_type_1 : decode cX5_type 1 = .ok (.iconst 0, 1) := by decide +kernel
theorem dX5_type_2 : decode cX5_type 2 = .ok (.bipush 127, 2) := by decide +kernel
theorem dX5_type_4 : decode cX5_type 4 = .ok (.invokestatic 89, 3) := by decide +kernel
theorem dX5_type_7 : decode cX5_type 7 = .ok (.ifCond .ne 8, 3) := by decide +kernel
theorem dX5_type_10 : decode cX5_type 10 = .ok (.aload_n 0, 1) := by decide +kernel
theorem dX5_type_11 : decode cX5_type 11 = .ok (.invokevirtual 68, 3) := by decide +kernel
theorem dX5_type_14 : decode cX5_type 14 = .ok (.ireturn, 1) := by decide +kernel
theorem dX5_type_15 : decode cX5_type 15 = .ok (.aload_n 0, 1) := by decide +kernel
theorem dX5_type_16 : decode cX5_type 16 = .ok (.getfield 218, 3) := by decide +kernel
theorem dX5_type_19 : decode cX5_type 19 = .ok (.bipush 120, 2) := by decide +kernel
theorem dX5_type_21 : decode cX5_type 21 = .ok (.if_icmp .ne 8, 3) := by decide +kernel
theorem dX5_type_24 : decode cX5_type 24 = .ok (.aload_n 0, 1) := by decide +kernel
theorem dX5_type_25 : decode cX5_type 25 = .ok (.invokevirtual 74, 3) := by decide +kernel
theorem dX5_type_28 : decode cX5_type 28 = .ok (.ireturn, 1) := by decide +kernel
theorem dX5_type_29 : decode cX5_type 29 = .ok (.aload_n 0, 1) := by decide +kernel
theorem dX5_type_30 : decode cX5_type 30 = .ok (.getfield 58, 3) := by decide +kernel
theorem dX5_type_33 : decode cX5_type 33 = .ok (.aload_n 0, 1) := by decide +kernel
theorem dX5_type_34 : decode cX5_type 34 = .ok (.getfield 218, 3) := by decide +kernel
theorem dX5_type_37 : decode cX5_type 37 = .ok (.iload_n 1, 1) := by decide +kernel
theorem dX5_type_38 : decode cX5_type 38 = .ok (.iastore, 1) := by decide +kernel
theorem dX5_type_39 : decode cX5_type 39 = .ok (.aload_n 0, 1) := by decide +kernel
theorem dX5_type_40 : decode cX5_type 40 = .ok (.dup, 1) := by decide +kernel
theorem dX5_type_41 : decode cX5_type 41 = .ok (.getfield 218, 3) := by decide +kernel
theorem dX5_type_44 : decode cX5_type 44 = .ok (.iconst 1, 1) := by decide +kernel
theorem dX5_type_45 : decode cX5_type 45 = .ok (.iadd, 1) := by decide +kernel
theorem dX5_type_46 : decode cX5_type 46 = .ok (.putfield 218, 3) := by decide +kernel
theorem dX5_type_49 : decode cX5_type 49 = .ok (.aload_n 0, 1) := by decide +kernel
theorem dX5_type_50 : decode cX5_type 50 = .ok (.getfield 218, 3) := by decide +kernel
theorem dX5_type_53 : decode cX5_type 53 = .ok (.ireturn, 1) := by decide +kernel
theorem dX5_clear_0 : decode cX5_clear 0 = .ok (.aload_n 0, 1) := by decide +kernel
theorem dX5_clear_1 : decode cX5_clear 1 = .ok (.getfield 218, 3) := by decide +kernel
theorem dX5_clear_4 : decode cX5_clear 4 = .ok (.istore_n 1, 1) := by decide +kernel
theorem dX5_clear_5 : decode cX5_clear 5 = .ok (.aload_n 0, 1) := by decide +kernel
theorem dX5_clear_6 : decode cX5_clear 6 = .ok (.iconst 0, 1) := by decide +kernel
theorem dX5_clear_7 : decode cX5_clear 7 = .ok (.putfield 218, 3) := by decide +kernel
theorem dX5_clear_10 : decode cX5_clear 10 = .ok (.iload_n 1, 1) := by decide +kernel
theorem dX5_clear_11 : decode cX5_clear 11 = .ok (.ireturn, 1) := by decide +kernel
theorem dX5_byteAt_0 : decode cX5_byteAt 0 = .ok (.iload_n 1, 1) := by decide +kernel
theorem dX5_byteAt_1 : decode cX5_byteAt 1 = .ok (.aload_n 0, 1) := by decide +kernel
theorem dX5_byteAt_2 : decode cX5_byteAt 2 = .ok (.getfield 218, 3) := by decide +kernel
theorem dX5_byteAt_5 : decode cX5_byteAt 5 = .ok (.if_icmp .ge 12, 3) := by decide +kernel
theorem dX5_byteAt_8 : decode cX5_byteAt 8 = .ok (.aload_n 0, 1) := by decide +kernel
theorem dX5_byteAt_9 : decode cX5_byteAt 9 = .ok (.getfield 58, 3) := by decide +kernel
theorem dX5_byteAt_12 : decode cX5_byteAt 12 = .ok (.iload_n 1, 1) := by decide +kernel
theorem dX5_byteAt_13 : decode cX5_byteAt 13 = .ok (.iaload, 1) := by decide +kernel
theorem dX5_byteAt_14 : decode cX5_byteAt 14 = .ok (.goto 4, 3) := by decide +kernel
theorem dX5_byteAt_17 : decode cX5_byteAt 17 = .ok (.iconst (-1), 1) := by decide +kernel
theorem dX5_byteAt_18 : decode cX5_byteAt 18 = .ok (.ireturn, 1) := by decide +kernel
theorem dX5_isFigure_0 : decode cX5_isFigure 0 = .ok (.aload_n 0, 1) := by decide +kernel
theorem dX5_isFigure_1 : decode cX5_isFigure 1 = .ok (.iload_n 1, 1) := by decide +kernel
theorem dX5_isFigure_2 : decode cX5_isFigure 2 = .ok (.invokevirtual 221, 3) := by decide +kernel
theorem dX5_isFigure_5 : decode cX5_isFigure 5 = .ok (.bipush 48, 2) := by decide +kernel
theorem dX5_isFigure_7 : decode cX5_isFigure 7 = .ok (.bipush 57, 2) := by decide +kernel
theorem dX5_isFigure_9 : decode cX5_isFigure 9 = .ok (.invokestatic 89, 3) := by decide +kernel
theorem dX5_isFigure_12 : decode cX5_isFigure 12 = .ok (.ireturn, 1) := by decide +kernel
theorem dX5_blanks_0 : decode cX5_blanks 0 = .ok (.aload_n 0, 1) := by decide +kernel
theorem dX5_blanks_1 : decode cX5_blanks 1 = .ok (.aload_n 0, 1) := by decide +kernel
theorem dX5_blanks_2 : decode cX5_blanks 2 = .ok (.getfield 224, 3) := by decide +kernel
theorem dX5_blanks_5 : decode cX5_blanks 5 = .ok (.invokevirtual 221, 3) := by decide +kernel
theorem dX5_blanks_8 : decode cX5_blanks 8 = .ok (.bipush 32, 2) := by decide +kernel
theorem dX5_blanks_10 : decode cX5_blanks 10 = .ok (.if_icmp .ne 16, 3) := by decide +kernel
theorem dX5_blanks_13 : decode cX5_blanks 13 = .ok (.aload_n 0, 1) := by decide +kernel
theorem dX5_blanks_14 : decode cX5_blanks 14 = .ok (.dup, 1) := by decide +kernel
theorem dX5_blanks_15 : decode cX5_blanks 15 = .ok (.getfield 224, 3) := by decide +kernel
theorem dX5_blanks_18 : decode cX5_blanks 18 = .ok (.iconst 1, 1) := by decide +kernel
theorem dX5_blanks_19 : decode cX5_blanks 19 = .ok (.iadd, 1) := by decide +kernel
theorem dX5_blanks_20 : decode cX5_blanks 20 = .ok (.putfield 224, 3) := by decide +kernel
theorem dX5_blanks_23 : decode cX5_blanks 23 = .ok (.goto (-23), 3) := by decide +kernel
theorem dX5_blanks_26 : decode cX5_blanks 26 = .ok (.return_, 1) := by decide +kernel
theorem dX5_wants_0 : decode cX5_wants 0 = .ok (.iload_n 0, 1) := by decide +kernel
theorem dX5_wants_1 : decode cX5_wants 1 = .ok (.bipush 112, 2) := by decide +kernel
theorem dX5_wants_3 : decode cX5_wants 3 = .ok (.if_icmp .ne 7, 3) := by decide +kernel
theorem dX5_wants_6 : decode cX5_wants 6 = .ok (.iconst 0, 1) := by decide +kernel
theorem dX5_wants_7 : decode cX5_wants 7 = .ok (.goto 56, 3) := by decide +kernel
theorem dX5_wants_10 : decode cX5_wants 10 = .ok (.iload_n 0, 1) := by decide +kernel
theorem dX5_wants_11 : decode cX5_wants 11 = .ok (.bipush 110, 2) := by decide +kernel
theorem dX5_wants_13 : decode cX5_wants 13 = .ok (.if_icmp .eq 15, 3) := by decide +kernel
theorem dX5_wants_16 : decode cX5_wants 16 = .ok (.iload_n 0, 1) := by decide +kernel
theorem dX5_wants_17 : decode cX5_wants 17 = .ok (.bipush 115, 2) := by decide +kernel
theorem dX5_wants_19 : decode cX5_wants 19 = .ok (.if_icmp .eq 9, 3) := by decide +kernel
theorem dX5_wants_22 : decode cX5_wants 22 = .ok (.iload_n 0, 1) := by decide +kernel
theorem dX5_wants_23 : decode cX5_wants 23 = .ok (.bipush 120, 2) := by decide +kernel
theorem dX5_wants_25 : decode cX5_wants 25 = .ok (.if_icmp .ne 7, 3) := by decide +kernel
theorem dX5_wants_28 : decode cX5_wants 28 = .ok (.iconst 1, 1) := by decide +kernel
theorem dX5_wants_29 : decode cX5_wants 29 = .ok (.goto 34, 3) := by decide +kernel
theorem dX5_wants_32 : decode cX5_wants 32 = .ok (.iload_n 0, 1) := by decide +kernel
theorem dX5_wants_33 : decode cX5_wants 33 = .ok (.bipush 101, 2) := by decide +kernel
theorem dX5_wants_35 : decode cX5_wants 35 = .ok (.if_icmp .ne 7, 3) := by decide +kernel
theorem dX5_wants_38 : decode cX5_wants 38 = .ok (.iconst 2, 1) := by decide +kernel
theorem dX5_wants_39 : decode cX5_wants 39 = .ok (.goto 24, 3) := by decide +kernel
theorem dX5_wants_42 : decode cX5_wants 42 = .ok (.iload_n 0, 1) := by decide +kernel
theorem dX5_wants_43 : decode cX5_wants 43 = .ok (.bipush 99, 2) := by decide +kernel
theorem dX5_wants_45 : decode cX5_wants 45 = .ok (.if_icmp .ne 7, 3) := by decide +kernel
theorem dX5_wants_48 : decode cX5_wants 48 = .ok (.iconst 3, 1) := by decide +kernel
theorem dX5_wants_49 : decode cX5_wants 49 = .ok (.goto 14, 3) := by decide +kernel
theorem dX5_wants_52 : decode cX5_wants 52 = .ok (.iload_n 0, 1) := by decide +kernel
theorem dX5_wants_53 : decode cX5_wants 53 = .ok (.bipush 102, 2) := by decide +kernel
theorem dX5_wants_55 : decode cX5_wants 55 = .ok (.if_icmp .ne 7, 3) := by decide +kernel
theorem dX5_wants_58 : decode cX5_wants 58 = .ok (.iconst 4, 1) := by decide +kernel
theorem dX5_wants_59 : decode cX5_wants 59 = .ok (.goto 4, 3) := by decide +kernel
theorem dX5_wants_62 : decode cX5_wants 62 = .ok (.iconst (-1), 1) := by decide +kernel
theorem dX5_wants_63 : decode cX5_wants 63 = .ok (.ireturn, 1) := by decide +kernel
theorem dX5_number_0 : decode cX5_number 0 = .ok (.aload_n 0, 1) := by decide +kernel
theorem dX5_number_1 : decode cX5_number 1 = .ok (.aload_n 0, 1) := by decide +kernel
theorem dX5_number_2 : decode cX5_number 2 = .ok (.getfield 224, 3) := by decide +kernel
theorem dX5_number_5 : decode cX5_number 5 = .ok (.invokevirtual 227, 3) := by decide +kernel
theorem dX5_number_8 : decode cX5_number 8 = .ok (.ifCond .ne 5, 3) := by decide +kernel
theorem dX5_number_11 : decode cX5_number 11 = .ok (.iconst (-1), 1) := by decide +kernel
theorem dX5_number_12 : decode cX5_number 12 = .ok (.ireturn, 1) := by decide +kernel
theorem dX5_number_13 : decode cX5_number 13 = .ok (.iconst 0, 1) := by decide +kernel
theorem dX5_number_14 : decode cX5_number 14 = .ok (.istore_n 1, 1) := by decide +kernel
theorem dX5_number_15 : decode cX5_number 15 = .ok (.iconst 0, 1) := by decide +kernel
theorem dX5_number_16 : decode cX5_number 16 = .ok (.istore_n 2, 1) := by decide +kernel
theorem dX5_number_17 : decode cX5_number 17 = .ok (.aload_n 0, 1) := by decide +kernel
theorem dX5_number_18 : decode cX5_number 18 = .ok (.aload_n 0, 1) := by decide +kernel
theorem dX5_number_19 : decode cX5_number 19 = .ok (.getfield 224, 3) := by decide +kernel
theorem dX5_number_22 : decode cX5_number 22 = .ok (.invokevirtual 227, 3) := by decide +kernel
theorem dX5_number_25 : decode cX5_number 25 = .ok (.ifCond .eq 41, 3) := by decide +kernel
theorem dX5_number_28 : decode cX5_number 28 = .ok (.iload_n 2, 1) := by decide +kernel
theorem dX5_number_29 : decode cX5_number 29 = .ok (.iconst 3, 1) := by decide +kernel
theorem dX5_number_30 : decode cX5_number 30 = .ok (.if_icmp .ge 36, 3) := by decide +kernel
theorem dX5_number_33 : decode cX5_number 33 = .ok (.bipush 10, 2) := by decide +kernel
theorem dX5_number_35 : decode cX5_number 35 = .ok (.iload_n 1, 1) := by decide +kernel
theorem dX5_number_36 : decode cX5_number 36 = .ok (.imul, 1) := by decide +kernel
theorem dX5_number_37 : decode cX5_number 37 = .ok (.aload_n 0, 1) := by decide +kernel
theorem dX5_number_38 : decode cX5_number 38 = .ok (.aload_n 0, 1) := by decide +kernel
theorem dX5_number_39 : decode cX5_number 39 = .ok (.getfield 224, 3) := by decide +kernel
theorem dX5_number_42 : decode cX5_number 42 = .ok (.invokevirtual 221, 3) := by decide +kernel
theorem dX5_number_45 : decode cX5_number 45 = .ok (.iadd, 1) := by decide +kernel
theorem dX5_number_46 : decode cX5_number 46 = .ok (.bipush 48, 2) := by decide +kernel
theorem dX5_number_48 : decode cX5_number 48 = .ok (.isub, 1) := by decide +kernel
theorem dX5_number_49 : decode cX5_number 49 = .ok (.istore_n 1, 1) := by decide +kernel
theorem dX5_number_50 : decode cX5_number 50 = .ok (.aload_n 0, 1) := by decide +kernel
theorem dX5_number_51 : decode cX5_number 51 = .ok (.dup, 1) := by decide +kernel
theorem dX5_number_52 : decode cX5_number 52 = .ok (.getfield 224, 3) := by decide +kernel
theorem dX5_number_55 : decode cX5_number 55 = .ok (.iconst 1, 1) := by decide +kernel
theorem dX5_number_56 : decode cX5_number 56 = .ok (.iadd, 1) := by decide +kernel
theorem dX5_number_57 : decode cX5_number 57 = .ok (.putfield 224, 3) := by decide +kernel
theorem dX5_number_60 : decode cX5_number 60 = .ok (.iinc 2 1, 3) := by decide +kernel
theorem dX5_number_63 : decode cX5_number 63 = .ok (.goto (-46), 3) := by decide +kernel
theorem dX5_number_66 : decode cX5_number 66 = .ok (.aload_n 0, 1) := by decide +kernel
theorem dX5_number_67 : decode cX5_number 67 = .ok (.aload_n 0, 1) := by decide +kernel
theorem dX5_number_68 : decode cX5_number 68 = .ok (.getfield 224, 3) := by decide +kernel
theorem dX5_number_71 : decode cX5_number 71 = .ok (.invokevirtual 227, 3) := by decide +kernel
theorem dX5_number_74 : decode cX5_number 74 = .ok (.ifCond .eq 5, 3) := by decide +kernel
theorem dX5_number_77 : decode cX5_number 77 = .ok (.iconst (-1), 1) := by decide +kernel
theorem dX5_number_78 : decode cX5_number 78 = .ok (.ireturn, 1) := by decide +kernel
theorem dX5_number_79 : decode cX5_number 79 = .ok (.aload_n 0, 1) := by decide +kernel
theorem dX5_number_80 : decode cX5_number 80 = .ok (.invokevirtual 230, 3) := by decide +kernel
theorem dX5_number_83 : decode cX5_number 83 = .ok (.iload_n 1, 1) := by decide +kernel
theorem dX5_number_84 : decode cX5_number 84 = .ok (.ireturn, 1) := by decide +kernel
theorem dX5_reads_0 : decode cX5_reads 0 = .ok (.aload_n 0, 1) := by decide +kernel
theorem dX5_reads_1 : decode cX5_reads 1 = .ok (.aload_n 0, 1) := by decide +kernel
theorem dX5_reads_2 : decode cX5_reads 2 = .ok (.getfield 224, 3) := by decide +kernel
theorem dX5_reads_5 : decode cX5_reads 5 = .ok (.invokevirtual 221, 3) := by decide +kernel
theorem dX5_reads_8 : decode cX5_reads 8 = .ok (.istore_n 1, 1) := by decide +kernel
theorem dX5_reads_9 : decode cX5_reads 9 = .ok (.iload_n 1, 1) := by decide +kernel
theorem dX5_reads_10 : decode cX5_reads 10 = .ok (.invokestatic 233, 3) := by decide +kernel
theorem dX5_reads_13 : decode cX5_reads 13 = .ok (.istore_n 2, 1) := by decide +kernel
theorem dX5_reads_14 : decode cX5_reads 14 = .ok (.iload_n 2, 1) := by decide +kernel
theorem dX5_reads_15 : decode cX5_reads 15 = .ok (.iconst (-1), 1) := by decide +kernel
theorem dX5_reads_16 : decode cX5_reads 16 = .ok (.if_icmp .ne 5, 3) := by decide +kernel
theorem dX5_reads_19 : decode cX5_reads 19 = .ok (.iconst 0, 1) := by decide +kernel
theorem dX5_reads_20 : decode cX5_reads 20 = .ok (.ireturn, 1) := by decide +kernel
theorem dX5_reads_21 : decode cX5_reads 21 = .ok (.aload_n 0, 1) := by decide +kernel
theorem dX5_reads_22 : decode cX5_reads 22 = .ok (.dup, 1) := by decide +kernel
theorem dX5_reads_23 : decode cX5_reads 23 = .ok (.getfield 224, 3) := by decide +kernel
theorem dX5_reads_26 : decode cX5_reads 26 = .ok (.iconst 1, 1) := by decide +kernel
theorem dX5_reads_27 : decode cX5_reads 27 = .ok (.iadd, 1) := by decide +kernel
theorem dX5_reads_28 : decode cX5_reads 28 = .ok (.putfield 224, 3) := by decide +kernel
theorem dX5_reads_31 : decode cX5_reads 31 = .ok (.aload_n 0, 1) := by decide +kernel
theorem dX5_reads_32 : decode cX5_reads 32 = .ok (.invokevirtual 230, 3) := by decide +kernel
theorem dX5_reads_35 : decode cX5_reads 35 = .ok (.aload_n 0, 1) := by decide +kernel
theorem dX5_reads_36 : decode cX5_reads 36 = .ok (.getfield 61, 3) := by decide +kernel
theorem dX5_reads_39 : decode cX5_reads 39 = .ok (.iconst 5, 1) := by decide +kernel
theorem dX5_reads_40 : decode cX5_reads 40 = .ok (.aload_n 0, 1) := by decide +kernel
theorem dX5_reads_41 : decode cX5_reads 41 = .ok (.getfield 236, 3) := by decide +kernel
theorem dX5_reads_44 : decode cX5_reads 44 = .ok (.imul, 1) := by decide +kernel
theorem dX5_reads_45 : decode cX5_reads 45 = .ok (.iload_n 1, 1) := by decide +kernel
theorem dX5_reads_46 : decode cX5_reads 46 = .ok (.iastore, 1) := by decide +kernel
theorem dX5_reads_47 : decode cX5_reads 47 = .ok (.iconst 0, 1) := by decide +kernel
theorem dX5_reads_48 : decode cX5_reads 48 = .ok (.istore_n 3, 1) := by decide +kernel
theorem dX5_reads_49 : decode cX5_reads 49 = .ok (.iload_n 3, 1) := by decide +kernel
theorem dX5_reads_50 : decode cX5_reads 50 = .ok (.iload_n 2, 1) := by decide +kernel
theorem dX5_reads_51 : decode cX5_reads 51 = .ok (.if_icmp .ge 40, 3) := by decide +kernel
theorem dX5_reads_54 : decode cX5_reads 54 = .ok (.aload_n 0, 1) := by decide +kernel
theorem dX5_reads_55 : decode cX5_reads 55 = .ok (.invokevirtual 239, 3) := by decide +kernel
theorem dX5_reads_58 : decode cX5_reads 58 = .ok (.istore 4, 2) := by decide +kernel
theorem dX5_reads_60 : decode cX5_reads 60 = .ok (.iload 4, 2) := by decide +kernel
theorem dX5_reads_62 : decode cX5_reads 62 = .ok (.iconst (-1), 1) := by decide +kernel
theorem dX5_reads_63 : decode cX5_reads 63 = .ok (.if_icmp .ne 5, 3) := by decide +kernel
theorem dX5_reads_66 : decode cX5_reads 66 = .ok (.iconst 0, 1) := by decide +kernel
theorem dX5_reads_67 : decode cX5_reads 67 = .ok (.ireturn, 1) := by decide +kernel
theorem dX5_reads_68 : decode cX5_reads 68 = .ok (.aload_n 0, 1) := by decide +kernel
theorem dX5_reads_69 : decode cX5_reads 69 = .ok (.getfield 61, 3) := by decide +kernel
theorem dX5_reads_72 : decode cX5_reads 72 = .ok (.iconst 5, 1) := by decide +kernel
theorem dX5_reads_73 : decode cX5_reads 73 = .ok (.aload_n 0, 1) := by decide +kernel
theorem dX5_reads_74 : decode cX5_reads 74 = .ok (.getfield 236, 3) := by decide +kernel
theorem dX5_reads_77 : decode cX5_reads 77 = .ok (.imul, 1) := by decide +kernel
theorem dX5_reads_78 : decode cX5_reads 78 = .ok (.iconst 1, 1) := by decide +kernel
theorem dX5_reads_79 : decode cX5_reads 79 = .ok (.iadd, 1) := by decide +kernel
theorem dX5_reads_80 : decode cX5_reads 80 = .ok (.iload_n 3, 1) := by decide +kernel
theorem dX5_reads_81 : decode cX5_reads 81 = .ok (.iadd, 1) := by decide +kernel
theorem dX5_reads_82 : decode cX5_reads 82 = .ok (.iload 4, 2) := by decide +kernel
theorem dX5_reads_84 : decode cX5_reads 84 = .ok (.iastore, 1) := by decide +kernel
theorem dX5_reads_85 : decode cX5_reads 85 = .ok (.iinc 3 1, 3) := by decide +kernel
theorem dX5_reads_88 : decode cX5_reads 88 = .ok (.goto (-39), 3) := by decide +kernel
theorem dX5_reads_91 : decode cX5_reads 91 = .ok (.aload_n 0, 1) := by decide +kernel
theorem dX5_reads_92 : decode cX5_reads 92 = .ok (.aload_n 0, 1) := by decide +kernel
theorem dX5_reads_93 : decode cX5_reads 93 = .ok (.getfield 224, 3) := by decide +kernel
theorem dX5_reads_96 : decode cX5_reads 96 = .ok (.invokevirtual 221, 3) := by decide +kernel
theorem dX5_reads_99 : decode cX5_reads 99 = .ok (.bipush 59, 2) := by decide +kernel
theorem dX5_reads_101 : decode cX5_reads 101 = .ok (.if_icmp .eq 5, 3) := by decide +kernel
theorem dX5_reads_104 : decode cX5_reads 104 = .ok (.iconst 0, 1) := by decide +kernel
theorem dX5_reads_105 : decode cX5_reads 105 = .ok (.ireturn, 1) := by decide +kernel
theorem dX5_reads_106 : decode cX5_reads 106 = .ok (.aload_n 0, 1) := by decide +kernel
theorem dX5_reads_107 : decode cX5_reads 107 = .ok (.dup, 1) := by decide +kernel
theorem dX5_reads_108 : decode cX5_reads 108 = .ok (.getfield 224, 3) := by decide +kernel
theorem dX5_reads_111 : decode cX5_reads 111 = .ok (.iconst 1, 1) := by decide +kernel
theorem dX5_reads_112 : decode cX5_reads 112 = .ok (.iadd, 1) := by decide +kernel
theorem dX5_reads_113 : decode cX5_reads 113 = .ok (.putfield 224, 3) := by decide +kernel
theorem dX5_reads_116 : decode cX5_reads 116 = .ok (.aload_n 0, 1) := by decide +kernel
theorem dX5_reads_117 : decode cX5_reads 117 = .ok (.invokevirtual 230, 3) := by decide +kernel
theorem dX5_reads_120 : decode cX5_reads 120 = .ok (.aload_n 0, 1) := by decide +kernel
theorem dX5_reads_121 : decode cX5_reads 121 = .ok (.dup, 1) := by decide +kernel
theorem dX5_reads_122 : decode cX5_reads 122 = .ok (.getfield 236, 3) := by decide +kernel
theorem dX5_reads_125 : decode cX5_reads 125 = .ok (.iconst 1, 1) := by decide +kernel
theorem dX5_reads_126 : decode cX5_reads 126 = .ok (.iadd, 1) := by decide +kernel
theorem dX5_reads_127 : decode cX5_reads 127 = .ok (.putfield 236, 3) := by decide +kernel
theorem dX5_reads_130 : decode cX5_reads 130 = .ok (.iconst 1, 1) := by decide +kernel
theorem dX5_reads_131 : decode cX5_reads 131 = .ok (.ireturn, 1) := by decide +kernel
theorem dX5_acted_0 : decode cX5_acted 0 = .ok (.aload_n 0, 1) := by decide +kernel
theorem dX5_acted_1 : decode cX5_acted 1 = .ok (.getfield 61, 3) := by decide +kernel
theorem dX5_acted_4 : decode cX5_acted 4 = .ok (.iconst 5, 1) := by decide +kernel
theorem dX5_acted_5 : decode cX5_acted 5 = .ok (.iload_n 1, 1) := by decide +kernel
theorem dX5_acted_6 : decode cX5_acted 6 = .ok (.imul, 1) := by decide +kernel
theorem dX5_acted_7 : decode cX5_acted 7 = .ok (.iaload, 1) := by decide +kernel
theorem dX5_acted_8 : decode cX5_acted 8 = .ok (.istore_n 2, 1) := by decide +kernel
theorem dX5_acted_9 : decode cX5_acted 9 = .ok (.aload_n 0, 1) := by decide +kernel
theorem dX5_acted_10 : decode cX5_acted 10 = .ok (.getfield 61, 3) := by decide +kernel
theorem dX5_acted_13 : decode cX5_acted 13 = .ok (.iconst 5, 1) := by decide +kernel
theorem dX5_acted_14 : decode cX5_acted 14 = .ok (.iload_n 1, 1) := by decide +kernel
theorem dX5_acted_15 : decode cX5_acted 15 = .ok (.imul, 1) := by decide +kernel
theorem dX5_acted_16 : decode cX5_acted 16 = .ok (.iconst 1, 1) := by decide +kernel
theorem dX5_acted_17 : decode cX5_acted 17 = .ok (.iadd, 1) := by decide +kernel
theorem dX5_acted_18 : decode cX5_acted 18 = .ok (.iaload, 1) := by decide +kernel
theorem dX5_acted_19 : decode cX5_acted 19 = .ok (.istore_n 3, 1) := by decide +kernel
theorem dX5_acted_20 : decode cX5_acted 20 = .ok (.aload_n 0, 1) := by decide +kernel
theorem dX5_acted_21 : decode cX5_acted 21 = .ok (.getfield 61, 3) := by decide +kernel
theorem dX5_acted_24 : decode cX5_acted 24 = .ok (.iconst 5, 1) := by decide +kernel
theorem dX5_acted_25 : decode cX5_acted 25 = .ok (.iload_n 1, 1) := by decide +kernel
theorem dX5_acted_26 : decode cX5_acted 26 = .ok (.imul, 1) := by decide +kernel
theorem dX5_acted_27 : decode cX5_acted 27 = .ok (.iconst 2, 1) := by decide +kernel
theorem dX5_acted_28 : decode cX5_acted 28 = .ok (.iadd, 1) := by decide +kernel
theorem dX5_acted_29 : decode cX5_acted 29 = .ok (.iaload, 1) := by decide +kernel
theorem dX5_acted_30 : decode cX5_acted 30 = .ok (.istore 4, 2) := by decide +kernel
theorem dX5_acted_32 : decode cX5_acted 32 = .ok (.aload_n 0, 1) := by decide +kernel
theorem dX5_acted_33 : decode cX5_acted 33 = .ok (.getfield 61, 3) := by decide +kernel
theorem dX5_acted_36 : decode cX5_acted 36 = .ok (.iconst 5, 1) := by decide +kernel
theorem dX5_acted_37 : decode cX5_acted 37 = .ok (.iload_n 1, 1) := by decide +kernel
theorem dX5_acted_38 : decode cX5_acted 38 = .ok (.imul, 1) := by decide +kernel
theorem dX5_acted_39 : decode cX5_acted 39 = .ok (.iconst 3, 1) := by decide +kernel
theorem dX5_acted_40 : decode cX5_acted 40 = .ok (.iadd, 1) := by decide +kernel
theorem dX5_acted_41 : decode cX5_acted 41 = .ok (.iaload, 1) := by decide +kernel
theorem dX5_acted_42 : decode cX5_acted 42 = .ok (.istore 5, 2) := by decide +kernel
theorem dX5_acted_44 : decode cX5_acted 44 = .ok (.iload_n 2, 1) := by decide +kernel
theorem dX5_acted_45 : decode cX5_acted 45 = .ok (.bipush 112, 2) := by decide +kernel
theorem dX5_acted_47 : decode cX5_acted 47 = .ok (.if_icmp .ne 10, 3) := by decide +kernel
theorem dX5_acted_50 : decode cX5_acted 50 = .ok (.aload_n 0, 1) := by decide +kernel
theorem dX5_acted_51 : decode cX5_acted 51 = .ok (.invokevirtual 64, 3) := by decide +kernel
theorem dX5_acted_54 : decode cX5_acted 54 = .ok (.goto 99, 3) := by decide +kernel
theorem dX5_acted_57 : decode cX5_acted 57 = .ok (.iload_n 2, 1) := by decide +kernel
theorem dX5_acted_58 : decode cX5_acted 58 = .ok (.bipush 110, 2) := by decide +kernel
theorem dX5_acted_60 : decode cX5_acted 60 = .ok (.if_icmp .ne 11, 3) := by decide +kernel
theorem dX5_acted_63 : decode cX5_acted 63 = .ok (.aload_n 0, 1) := by decide +kernel
theorem dX5_acted_64 : decode cX5_acted 64 = .ok (.iload_n 3, 1) := by decide +kernel
theorem dX5_acted_65 : decode cX5_acted 65 = .ok (.invokevirtual 139, 3) := by decide +kernel
theorem dX5_acted_68 : decode cX5_acted 68 = .ok (.goto 85, 3) := by decide +kernel
theorem dX5_acted_71 : decode cX5_acted 71 = .ok (.iload_n 2, 1) := by decide +kernel
theorem dX5_acted_72 : decode cX5_acted 72 = .ok (.bipush 101, 2) := by decide +kernel
theorem dX5_acted_74 : decode cX5_acted 74 = .ok (.if_icmp .ne 14, 3) := by decide +kernel
theorem dX5_acted_77 : decode cX5_acted 77 = .ok (.aload_n 0, 1) := by decide +kernel
theorem dX5_acted_78 : decode cX5_acted 78 = .ok (.iload_n 3, 1) := by decide +kernel
theorem dX5_acted_79 : decode cX5_acted 79 = .ok (.iload 4, 2) := by decide +kernel
theorem dX5_acted_81 : decode cX5_acted 81 = .ok (.iconst (-1), 1) := by decide +kernel
theorem dX5_acted_82 : decode cX5_acted 82 = .ok (.invokevirtual 111, 3) := by decide +kernel
theorem dX5_acted_85 : decode cX5_acted 85 = .ok (.goto 68, 3) := by decide +kernel
theorem dX5_acted_88 : decode cX5_acted 88 = .ok (.iload_n 2, 1) := by decide +kernel
theorem dX5_acted_89 : decode cX5_acted 89 = .ok (.bipush 99, 2) := by decide +kernel
theorem dX5_acted_91 : decode cX5_acted 91 = .ok (.if_icmp .ne 15, 3) := by decide +kernel
theorem dX5_acted_94 : decode cX5_acted 94 = .ok (.aload_n 0, 1) := by decide +kernel
theorem dX5_acted_95 : decode cX5_acted 95 = .ok (.iload_n 3, 1) := by decide +kernel
theorem dX5_acted_96 : decode cX5_acted 96 = .ok (.iload 4, 2) := by decide +kernel
theorem dX5_acted_98 : decode cX5_acted 98 = .ok (.iload 5, 2) := by decide +kernel
theorem dX5_acted_100 : decode cX5_acted 100 = .ok (.invokevirtual 142, 3) := by decide +kernel
theorem dX5_acted_103 : decode cX5_acted 103 = .ok (.goto 50, 3) := by decide +kernel
theorem dX5_acted_106 : decode cX5_acted 106 = .ok (.iload_n 2, 1) := by decide +kernel
theorem dX5_acted_107 : decode cX5_acted 107 = .ok (.bipush 102, 2) := by decide +kernel
theorem dX5_acted_109 : decode cX5_acted 109 = .ok (.if_icmp .ne 25, 3) := by decide +kernel
theorem dX5_acted_112 : decode cX5_acted 112 = .ok (.aload_n 0, 1) := by decide +kernel
theorem dX5_acted_113 : decode cX5_acted 113 = .ok (.iload_n 3, 1) := by decide +kernel
theorem dX5_acted_114 : decode cX5_acted 114 = .ok (.iload 4, 2) := by decide +kernel
theorem dX5_acted_116 : decode cX5_acted 116 = .ok (.iload 5, 2) := by decide +kernel
theorem dX5_acted_118 : decode cX5_acted 118 = .ok (.aload_n 0, 1) := by decide +kernel
theorem dX5_acted_119 : decode cX5_acted 119 = .ok (.getfield 61, 3) := by decide +kernel
theorem dX5_acted_122 : decode cX5_acted 122 = .ok (.iconst 5, 1) := by decide +kernel
theorem dX5_acted_123 : decode cX5_acted 123 = .ok (.iload_n 1, 1) := by decide +kernel
theorem dX5_acted_124 : decode cX5_acted 124 = .ok (.imul, 1) := by decide +kernel
theorem dX5_acted_125 : decode cX5_acted 125 = .ok (.iconst 4, 1) := by decide +kernel
theorem dX5_acted_126 : decode cX5_acted 126 = .ok (.iadd, 1) := by decide +kernel
theorem dX5_acted_127 : decode cX5_acted 127 = .ok (.iaload, 1) := by decide +kernel
theorem dX5_acted_128 : decode cX5_acted 128 = .ok (.invokevirtual 145, 3) := by decide +kernel
theorem dX5_acted_131 : decode cX5_acted 131 = .ok (.goto 22, 3) := by decide +kernel
theorem dX5_acted_134 : decode cX5_acted 134 = .ok (.iload_n 2, 1) := by decide +kernel
theorem dX5_acted_135 : decode cX5_acted 135 = .ok (.bipush 115, 2) := by decide +kernel
theorem dX5_acted_137 : decode cX5_acted 137 = .ok (.if_icmp .ne 11, 3) := by decide +kernel
theorem dX5_acted_140 : decode cX5_acted 140 = .ok (.aload_n 0, 1) := by decide +kernel
theorem dX5_acted_141 : decode cX5_acted 141 = .ok (.iload_n 3, 1) := by decide +kernel
theorem dX5_acted_142 : decode cX5_acted 142 = .ok (.invokevirtual 149, 3) := by decide +kernel
theorem dX5_acted_145 : decode cX5_acted 145 = .ok (.goto 8, 3) := by decide +kernel
theorem dX5_acted_148 : decode cX5_acted 148 = .ok (.aload_n 0, 1) := by decide +kernel
theorem dX5_acted_149 : decode cX5_acted 149 = .ok (.iload_n 3, 1) := by decide +kernel
theorem dX5_acted_150 : decode cX5_acted 150 = .ok (.invokevirtual 152, 3) := by decide +kernel
theorem dX5_acted_153 : decode cX5_acted 153 = .ok (.ireturn, 1) := by decide +kernel
theorem dX5_does_0 : decode cX5_does 0 = .ok (.aload_n 0, 1) := by decide +kernel
theorem dX5_does_1 : decode cX5_does 1 = .ok (.iconst 0, 1) := by decide +kernel
theorem dX5_does_2 : decode cX5_does 2 = .ok (.putfield 224, 3) := by decide +kernel
theorem dX5_does_5 : decode cX5_does 5 = .ok (.aload_n 0, 1) := by decide +kernel
theorem dX5_does_6 : decode cX5_does 6 = .ok (.iconst 0, 1) := by decide +kernel
theorem dX5_does_7 : decode cX5_does 7 = .ok (.putfield 236, 3) := by decide +kernel
theorem dX5_does_10 : decode cX5_does 10 = .ok (.aload_n 0, 1) := by decide +kernel
theorem dX5_does_11 : decode cX5_does 11 = .ok (.invokevirtual 230, 3) := by decide +kernel
theorem dX5_does_14 : decode cX5_does 14 = .ok (.iconst 1, 1) := by decide +kernel
theorem dX5_does_15 : decode cX5_does 15 = .ok (.istore_n 1, 1) := by decide +kernel
theorem dX5_does_16 : decode cX5_does 16 = .ok (.iconst 0, 1) := by decide +kernel
theorem dX5_does_17 : decode cX5_does 17 = .ok (.istore_n 2, 1) := by decide +kernel
theorem dX5_does_18 : decode cX5_does 18 = .ok (.iload_n 1, 1) := by decide +kernel
theorem dX5_does_19 : decode cX5_does 19 = .ok (.ifCond .eq 28, 3) := by decide +kernel
theorem dX5_does_22 : decode cX5_does 22 = .ok (.iload_n 2, 1) := by decide +kernel
theorem dX5_does_23 : decode cX5_does 23 = .ok (.ifCond .eq 14, 3) := by decide +kernel
theorem dX5_does_26 : decode cX5_does 26 = .ok (.aload_n 0, 1) := by decide +kernel
theorem dX5_does_27 : decode cX5_does 27 = .ok (.getfield 224, 3) := by decide +kernel
theorem dX5_does_30 : decode cX5_does 30 = .ok (.aload_n 0, 1) := by decide +kernel
theorem dX5_does_31 : decode cX5_does 31 = .ok (.getfield 218, 3) := by decide +kernel
theorem dX5_does_34 : decode cX5_does 34 = .ok (.if_icmp .ge 13, 3) := by decide +kernel
theorem dX5_does_37 : decode cX5_does 37 = .ok (.iconst 1, 1) := by decide +kernel
theorem dX5_does_38 : decode cX5_does 38 = .ok (.istore_n 2, 1) := by decide +kernel
theorem dX5_does_39 : decode cX5_does 39 = .ok (.aload_n 0, 1) := by decide +kernel
theorem dX5_does_40 : decode cX5_does 40 = .ok (.invokevirtual 242, 3) := by decide +kernel
theorem dX5_does_43 : decode cX5_does 43 = .ok (.istore_n 1, 1) := by decide +kernel
theorem dX5_does_44 : decode cX5_does 44 = .ok (.goto (-26), 3) := by decide +kernel
theorem dX5_does_47 : decode cX5_does 47 = .ok (.iload_n 1, 1) := by decide +kernel
theorem dX5_does_48 : decode cX5_does 48 = .ok (.ifCond .ne 11, 3) := by decide +kernel
theorem dX5_does_51 : decode cX5_does 51 = .ok (.bipush (-10), 2) := by decide +kernel
theorem dX5_does_53 : decode cX5_does 53 = .ok (.aload_n 0, 1) := by decide +kernel
theorem dX5_does_54 : decode cX5_does 54 = .ok (.getfield 224, 3) := by decide +kernel
theorem dX5_does_57 : decode cX5_does 57 = .ok (.isub, 1) := by decide +kernel
theorem dX5_does_58 : decode cX5_does 58 = .ok (.ireturn, 1) := by decide +kernel
theorem dX5_does_59 : decode cX5_does 59 = .ok (.aload_n 0, 1) := by decide +kernel
theorem dX5_does_60 : decode cX5_does 60 = .ok (.iconst 5, 1) := by decide +kernel
theorem dX5_does_61 : decode cX5_does 61 = .ok (.invokevirtual 133, 3) := by decide +kernel
theorem dX5_does_64 : decode cX5_does 64 = .ok (.iconst 0, 1) := by decide +kernel
theorem dX5_does_65 : decode cX5_does 65 = .ok (.istore_n 3, 1) := by decide +kernel
theorem dX5_does_66 : decode cX5_does 66 = .ok (.iload_n 3, 1) := by decide +kernel
theorem dX5_does_67 : decode cX5_does 67 = .ok (.aload_n 0, 1) := by decide +kernel
theorem dX5_does_68 : decode cX5_does 68 = .ok (.getfield 236, 3) := by decide +kernel
theorem dX5_does_71 : decode cX5_does 71 = .ok (.if_icmp .ge 28, 3) := by decide +kernel
theorem dX5_does_74 : decode cX5_does 74 = .ok (.aload_n 0, 1) := by decide +kernel
theorem dX5_does_75 : decode cX5_does 75 = .ok (.iload_n 3, 1) := by decide +kernel
theorem dX5_does_76 : decode cX5_does 76 = .ok (.invokevirtual 246, 3) := by decide +kernel
theorem dX5_does_79 : decode cX5_does 79 = .ok (.ifCond .ge 14, 3) := by decide +kernel
theorem dX5_does_82 : decode cX5_does 82 = .ok (.aload_n 0, 1) := by decide +kernel
theorem dX5_does_83 : decode cX5_does 83 = .ok (.iconst 5, 1) := by decide +kernel
theorem dX5_does_84 : decode cX5_does 84 = .ok (.invokevirtual 85, 3) := by decide +kernel
theorem dX5_does_87 : decode cX5_does 87 = .ok (.sipush (-1000), 3) := by decide +kernel
theorem dX5_does_90 : decode cX5_does 90 = .ok (.iload_n 3, 1) := by decide +kernel
theorem dX5_does_91 : decode cX5_does 91 = .ok (.isub, 1) := by decide +kernel
theorem dX5_does_92 : decode cX5_does 92 = .ok (.ireturn, 1) := by decide +kernel
theorem dX5_does_93 : decode cX5_does 93 = .ok (.iinc 3 1, 3) := by decide +kernel
theorem dX5_does_96 : decode cX5_does 96 = .ok (.goto (-30), 3) := by decide +kernel
theorem dX5_does_99 : decode cX5_does 99 = .ok (.aload_n 0, 1) := by decide +kernel
theorem dX5_does_100 : decode cX5_does 100 = .ok (.invokevirtual 130, 3) := by decide +kernel
theorem dX5_does_103 : decode cX5_does 103 = .ok (.aload_n 0, 1) := by decide +kernel
theorem dX5_does_104 : decode cX5_does 104 = .ok (.getfield 236, 3) := by decide +kernel
theorem dX5_does_107 : decode cX5_does 107 = .ok (.ireturn, 1) := by decide +kernel
theorem dX5_toldOf_0 : decode cX5_toldOf 0 = .ok (.iload_n 1, 1) := by decide +kernel
theorem dX5_toldOf_1 : decode cX5_toldOf 1 = .ok (.iconst 3, 1) := by decide +kernel
theorem dX5_toldOf_2 : decode cX5_toldOf 2 = .ok (.if_icmp .ge 12, 3) := by decide +kernel
theorem dX5_toldOf_5 : decode cX5_toldOf 5 = .ok (.aload_n 0, 1) := by decide +kernel
theorem dX5_toldOf_6 : decode cX5_toldOf 6 = .ok (.getfield 7, 3) := by decide +kernel
theorem dX5_toldOf_9 : decode cX5_toldOf 9 = .ok (.iload_n 1, 1) := by decide +kernel
theorem dX5_toldOf_10 : decode cX5_toldOf 10 = .ok (.iaload, 1) := by decide +kernel
theorem dX5_toldOf_11 : decode cX5_toldOf 11 = .ok (.goto 19, 3) := by decide +kernel
theorem dX5_toldOf_14 : decode cX5_toldOf 14 = .ok (.iload_n 1, 1) := by decide +kernel
theorem dX5_toldOf_15 : decode cX5_toldOf 15 = .ok (.iconst 3, 1) := by decide +kernel
theorem dX5_toldOf_16 : decode cX5_toldOf 16 = .ok (.if_icmp .ne 10, 3) := by decide +kernel
theorem dX5_toldOf_19 : decode cX5_toldOf 19 = .ok (.aload_n 0, 1) := by decide +kernel
theorem dX5_toldOf_20 : decode cX5_toldOf 20 = .ok (.getfield 218, 3) := by decide +kernel
theorem dX5_toldOf_23 : decode cX5_toldOf 23 = .ok (.goto 7, 3) := by decide +kernel
theorem dX5_toldOf_26 : decode cX5_toldOf 26 = .ok (.aload_n 0, 1) := by decide +kernel
theorem dX5_toldOf_27 : decode cX5_toldOf 27 = .ok (.getfield 81, 3) := by decide +kernel
theorem dX5_toldOf_30 : decode cX5_toldOf 30 = .ok (.ireturn, 1) := by decide +kernel
theorem dX5_told_0 : decode cX5_told 0 = .ok (.iload_n 1, 1) := by decide +kernel
theorem dX5_told_1 : decode cX5_told 1 = .ok (.iconst 0, 1) := by decide +kernel
theorem dX5_told_2 : decode cX5_told 2 = .ok (.iconst 4, 1) := by decide +kernel
theorem dX5_told_3 : decode cX5_told 3 = .ok (.invokestatic 89, 3) := by decide +kernel
theorem dX5_told_6 : decode cX5_told 6 = .ok (.ifCond .eq 11, 3) := by decide +kernel
theorem dX5_told_9 : decode cX5_told 9 = .ok (.aload_n 0, 1) := by decide +kernel
theorem dX5_told_10 : decode cX5_told 10 = .ok (.iload_n 1, 1) := by decide +kernel
theorem dX5_told_11 : decode cX5_told 11 = .ok (.invokevirtual 249, 3) := by decide +kernel
theorem dX5_told_14 : decode cX5_told 14 = .ok (.goto 7, 3) := by decide +kernel
theorem dX5_told_17 : decode cX5_told 17 = .ok (.aload_n 0, 1) := by decide +kernel
theorem dX5_told_18 : decode cX5_told 18 = .ok (.invokevirtual 68, 3) := by decide +kernel
theorem dX5_told_21 : decode cX5_told 21 = .ok (.ireturn, 1) := by decide +kernel
theorem dX5_digest_0 : decode cX5_digest 0 = .ok (.ldc2_w 252, 3) := by decide +kernel
theorem dX5_digest_3 : decode cX5_digest 3 = .ok (.lstore_n 1, 1) := by decide +kernel
theorem dX5_digest_4 : decode cX5_digest 4 = .ok (.iconst 0, 1) := by decide +kernel
theorem dX5_digest_5 : decode cX5_digest 5 = .ok (.istore_n 3, 1) := by decide +kernel
theorem dX5_digest_6 : decode cX5_digest 6 = .ok (.iload_n 3, 1) := by decide +kernel
theorem dX5_digest_7 : decode cX5_digest 7 = .ok (.iconst 5, 1) := by decide +kernel
theorem dX5_digest_8 : decode cX5_digest 8 = .ok (.if_icmp .ge 22, 3) := by decide +kernel
theorem dX5_digest_11 : decode cX5_digest 11 = .ok (.ldc2_w 254, 3) := by decide +kernel
theorem dX5_digest_14 : decode cX5_digest 14 = .ok (.lload_n 1, 1) := by decide +kernel
theorem dX5_digest_15 : decode cX5_digest 15 = .ok (.lmul, 1) := by decide +kernel
theorem dX5_digest_16 : decode cX5_digest 16 = .ok (.aload_n 0, 1) := by decide +kernel
theorem dX5_digest_17 : decode cX5_digest 17 = .ok (.iload_n 3, 1) := by decide +kernel
theorem dX5_digest_18 : decode cX5_digest 18 = .ok (.invokevirtual 249, 3) := by decide +kernel
theorem dX5_digest_21 : decode cX5_digest 21 = .ok (.i2l, 1) := by decide +kernel
theorem dX5_digest_22 : decode cX5_digest 22 = .ok (.ladd, 1) := by decide +kernel
theorem dX5_digest_23 : decode cX5_digest 23 = .ok (.lstore_n 1, 1) := by decide +kernel
theorem dX5_digest_24 : decode cX5_digest 24 = .ok (.iinc 3 1, 3) := by decide +kernel
theorem dX5_digest_27 : decode cX5_digest 27 = .ok (.goto (-21), 3) := by decide +kernel
theorem dX5_digest_30 : decode cX5_digest 30 = .ok (.iconst 0, 1) := by decide +kernel
theorem dX5_digest_31 : decode cX5_digest 31 = .ok (.istore_n 3, 1) := by decide +kernel
theorem dX5_digest_32 : decode cX5_digest 32 = .ok (.iload_n 3, 1) := by decide +kernel
theorem dX5_digest_33 : decode cX5_digest 33 = .ok (.bipush 6, 2) := by decide +kernel
theorem dX5_digest_35 : decode cX5_digest 35 = .ok (.if_icmp .ge 22, 3) := by decide +kernel
theorem dX5_digest_38 : decode cX5_digest 38 = .ok (.ldc2_w 254, 3) := by decide +kernel
theorem dX5_digest_41 : decode cX5_digest 41 = .ok (.lload_n 1, 1) := by decide +kernel
theorem dX5_digest_42 : decode cX5_digest 42 = .ok (.lmul, 1) := by decide +kernel
theorem dX5_digest_43 : decode cX5_digest 43 = .ok (.aload_n 0, 1) := by decide +kernel
theorem dX5_digest_44 : decode cX5_digest 44 = .ok (.iload_n 3, 1) := by decide +kernel
theorem dX5_digest_45 : decode cX5_digest 45 = .ok (.invokevirtual 194, 3) := by decide +kernel
theorem dX5_digest_48 : decode cX5_digest 48 = .ok (.i2l, 1) := by decide +kernel
theorem dX5_digest_49 : decode cX5_digest 49 = .ok (.ladd, 1) := by decide +kernel
theorem dX5_digest_50 : decode cX5_digest 50 = .ok (.lstore_n 1, 1) := by decide +kernel
theorem dX5_digest_51 : decode cX5_digest 51 = .ok (.iinc 3 1, 3) := by decide +kernel
theorem dX5_digest_54 : decode cX5_digest 54 = .ok (.goto (-22), 3) := by decide +kernel
theorem dX5_digest_57 : decode cX5_digest 57 = .ok (.aload_n 0, 1) := by decide +kernel
theorem dX5_digest_58 : decode cX5_digest 58 = .ok (.invokevirtual 203, 3) := by decide +kernel
theorem dX5_digest_61 : decode cX5_digest 61 = .ok (.iconst 0, 1) := by decide +kernel
theorem dX5_digest_62 : decode cX5_digest 62 = .ok (.istore_n 3, 1) := by decide +kernel
theorem dX5_digest_63 : decode cX5_digest 63 = .ok (.iload_n 3, 1) := by decide +kernel
theorem dX5_digest_64 : decode cX5_digest 64 = .ok (.aload_n 0, 1) := by decide +kernel
theorem dX5_digest_65 : decode cX5_digest 65 = .ok (.getfield 13, 3) := by decide +kernel
theorem dX5_digest_68 : decode cX5_digest 68 = .ok (.iconst 1, 1) := by decide +kernel
theorem dX5_digest_69 : decode cX5_digest 69 = .ok (.iaload, 1) := by decide +kernel
theorem dX5_digest_70 : decode cX5_digest 70 = .ok (.if_icmp .ge 62, 3) := by decide +kernel
theorem dX5_digest_73 : decode cX5_digest 73 = .ok (.ldc2_w 254, 3) := by decide +kernel
theorem dX5_digest_76 : decode cX5_digest 76 = .ok (.lload_n 1, 1) := by decide +kernel
theorem dX5_digest_77 : decode cX5_digest 77 = .ok (.lmul, 1) := by decide +kernel
theorem dX5_digest_78 : decode cX5_digest 78 = .ok (.aload_n 0, 1) := by decide +kernel
theorem dX5_digest_79 : decode cX5_digest 79 = .ok (.iload_n 3, 1) := by decide +kernel
theorem dX5_digest_80 : decode cX5_digest 80 = .ok (.invokevirtual 104, 3) := by decide +kernel
theorem dX5_digest_83 : decode cX5_digest 83 = .ok (.i2l, 1) := by decide +kernel
theorem dX5_digest_84 : decode cX5_digest 84 = .ok (.ladd, 1) := by decide +kernel
theorem dX5_digest_85 : decode cX5_digest 85 = .ok (.lstore_n 1, 1) := by decide +kernel
theorem dX5_digest_86 : decode cX5_digest 86 = .ok (.ldc2_w 254, 3) := by decide +kernel
theorem dX5_digest_89 : decode cX5_digest 89 = .ok (.lload_n 1, 1) := by decide +kernel
theorem dX5_digest_90 : decode cX5_digest 90 = .ok (.lmul, 1) := by decide +kernel
theorem dX5_digest_91 : decode cX5_digest 91 = .ok (.aload_n 0, 1) := by decide +kernel
theorem dX5_digest_92 : decode cX5_digest 92 = .ok (.iload_n 3, 1) := by decide +kernel
theorem dX5_digest_93 : decode cX5_digest 93 = .ok (.invokevirtual 108, 3) := by decide +kernel
theorem dX5_digest_96 : decode cX5_digest 96 = .ok (.i2l, 1) := by decide +kernel
theorem dX5_digest_97 : decode cX5_digest 97 = .ok (.ladd, 1) := by decide +kernel
theorem dX5_digest_98 : decode cX5_digest 98 = .ok (.lstore_n 1, 1) := by decide +kernel
theorem dX5_digest_99 : decode cX5_digest 99 = .ok (.ldc2_w 254, 3) := by decide +kernel
theorem dX5_digest_102 : decode cX5_digest 102 = .ok (.lload_n 1, 1) := by decide +kernel
theorem dX5_digest_103 : decode cX5_digest 103 = .ok (.lmul, 1) := by decide +kernel
theorem dX5_digest_104 : decode cX5_digest 104 = .ok (.aload_n 0, 1) := by decide +kernel
theorem dX5_digest_105 : decode cX5_digest 105 = .ok (.iload_n 3, 1) := by decide +kernel
theorem dX5_digest_106 : decode cX5_digest 106 = .ok (.invokevirtual 191, 3) := by decide +kernel
theorem dX5_digest_109 : decode cX5_digest 109 = .ok (.i2l, 1) := by decide +kernel
theorem dX5_digest_110 : decode cX5_digest 110 = .ok (.ladd, 1) := by decide +kernel
theorem dX5_digest_111 : decode cX5_digest 111 = .ok (.lstore_n 1, 1) := by decide +kernel
theorem dX5_digest_112 : decode cX5_digest 112 = .ok (.ldc2_w 254, 3) := by decide +kernel
theorem dX5_digest_115 : decode cX5_digest 115 = .ok (.lload_n 1, 1) := by decide +kernel
theorem dX5_digest_116 : decode cX5_digest 116 = .ok (.lmul, 1) := by decide +kernel
theorem dX5_digest_117 : decode cX5_digest 117 = .ok (.aload_n 0, 1) := by decide +kernel
theorem dX5_digest_118 : decode cX5_digest 118 = .ok (.getfield 49, 3) := by decide +kernel
theorem dX5_digest_121 : decode cX5_digest 121 = .ok (.iload_n 3, 1) := by decide +kernel
theorem dX5_digest_122 : decode cX5_digest 122 = .ok (.iaload, 1) := by decide +kernel
theorem dX5_digest_123 : decode cX5_digest 123 = .ok (.i2l, 1) := by decide +kernel
theorem dX5_digest_124 : decode cX5_digest 124 = .ok (.ladd, 1) := by decide +kernel
theorem dX5_digest_125 : decode cX5_digest 125 = .ok (.lstore_n 1, 1) := by decide +kernel
theorem dX5_digest_126 : decode cX5_digest 126 = .ok (.iinc 3 1, 3) := by decide +kernel
theorem dX5_digest_129 : decode cX5_digest 129 = .ok (.goto (-66), 3) := by decide +kernel
theorem dX5_digest_132 : decode cX5_digest 132 = .ok (.iconst 0, 1) := by decide +kernel
theorem dX5_digest_133 : decode cX5_digest 133 = .ok (.istore_n 3, 1) := by decide +kernel
theorem dX5_digest_134 : decode cX5_digest 134 = .ok (.iload_n 3, 1) := by decide +kernel
theorem dX5_digest_135 : decode cX5_digest 135 = .ok (.aload_n 0, 1) := by decide +kernel
theorem dX5_digest_136 : decode cX5_digest 136 = .ok (.getfield 13, 3) := by decide +kernel
theorem dX5_digest_139 : decode cX5_digest 139 = .ok (.iconst 2, 1) := by decide +kernel
theorem dX5_digest_140 : decode cX5_digest 140 = .ok (.iaload, 1) := by decide +kernel
theorem dX5_digest_141 : decode cX5_digest 141 = .ok (.if_icmp .ge 95, 3) := by decide +kernel
theorem dX5_digest_144 : decode cX5_digest 144 = .ok (.iconst 0, 1) := by decide +kernel
theorem dX5_digest_145 : decode cX5_digest 145 = .ok (.istore 4, 2) := by decide +kernel
theorem dX5_digest_147 : decode cX5_digest 147 = .ok (.iload 4, 2) := by decide +kernel
theorem dX5_digest_149 : decode cX5_digest 149 = .ok (.iconst 3, 1) := by decide +kernel
theorem dX5_digest_150 : decode cX5_digest 150 = .ok (.if_icmp .ge 24, 3) := by decide +kernel
theorem dX5_digest_153 : decode cX5_digest 153 = .ok (.ldc2_w 254, 3) := by decide +kernel
theorem dX5_digest_156 : decode cX5_digest 156 = .ok (.lload_n 1, 1) := by decide +kernel
theorem dX5_digest_157 : decode cX5_digest 157 = .ok (.lmul, 1) := by decide +kernel
theorem dX5_digest_158 : decode cX5_digest 158 = .ok (.aload_n 0, 1) := by decide +kernel
theorem dX5_digest_159 : decode cX5_digest 159 = .ok (.iload_n 3, 1) := by decide +kernel
theorem dX5_digest_160 : decode cX5_digest 160 = .ok (.iload 4, 2) := by decide +kernel
theorem dX5_digest_162 : decode cX5_digest 162 = .ok (.invokevirtual 118, 3) := by decide +kernel
theorem dX5_digest_165 : decode cX5_digest 165 = .ok (.i2l, 1) := by decide +kernel
theorem dX5_digest_166 : decode cX5_digest 166 = .ok (.ladd, 1) := by decide +kernel
theorem dX5_digest_167 : decode cX5_digest 167 = .ok (.lstore_n 1, 1) := by decide +kernel
theorem dX5_digest_168 : decode cX5_digest 168 = .ok (.iinc 4 1, 3) := by decide +kernel
theorem dX5_digest_171 : decode cX5_digest 171 = .ok (.goto (-24), 3) := by decide +kernel
theorem dX5_digest_174 : decode cX5_digest 174 = .ok (.iconst 0, 1) := by decide +kernel
theorem dX5_digest_175 : decode cX5_digest 175 = .ok (.istore 4, 2) := by decide +kernel
theorem dX5_digest_177 : decode cX5_digest 177 = .ok (.iload 4, 2) := by decide +kernel
theorem dX5_digest_179 : decode cX5_digest 179 = .ok (.aload_n 0, 1) := by decide +kernel
theorem dX5_digest_180 : decode cX5_digest 180 = .ok (.iload_n 3, 1) := by decide +kernel
theorem dX5_digest_181 : decode cX5_digest 181 = .ok (.iconst 2, 1) := by decide +kernel
theorem dX5_digest_182 : decode cX5_digest 182 = .ok (.invokevirtual 118, 3) := by decide +kernel
theorem dX5_digest_185 : decode cX5_digest 185 = .ok (.iconst (-1), 1) := by decide +kernel
theorem dX5_digest_186 : decode cX5_digest 186 = .ok (.if_icmp .ne 8, 3) := by decide +kernel
theorem dX5_digest_189 : decode cX5_digest 189 = .ok (.bipush 8, 2) := by decide +kernel
theorem dX5_digest_191 : decode cX5_digest 191 = .ok (.goto 5, 3) := by decide +kernel
theorem dX5_digest_194 : decode cX5_digest 194 = .ok (.bipush 24, 2) := by decide +kernel
theorem dX5_digest_196 : decode cX5_digest 196 = .ok (.if_icmp .ge 34, 3) := by decide +kernel
theorem dX5_digest_199 : decode cX5_digest 199 = .ok (.ldc2_w 254, 3) := by decide +kernel
theorem dX5_digest_202 : decode cX5_digest 202 = .ok (.lload_n 1, 1) := by decide +kernel
theorem dX5_digest_203 : decode cX5_digest 203 = .ok (.lmul, 1) := by decide +kernel
theorem dX5_digest_204 : decode cX5_digest 204 = .ok (.aload_n 0, 1) := by decide +kernel
theorem dX5_digest_205 : decode cX5_digest 205 = .ok (.getfield 13, 3) := by decide +kernel
theorem dX5_digest_208 : decode cX5_digest 208 = .ok (.bipush 62, 2) := by decide +kernel
theorem dX5_digest_210 : decode cX5_digest 210 = .ok (.bipush 27, 2) := by decide +kernel
theorem dX5_digest_212 : decode cX5_digest 212 = .ok (.iload_n 3, 1) := by decide +kernel
theorem dX5_digest_213 : decode cX5_digest 213 = .ok (.imul, 1) := by decide +kernel
theorem dX5_digest_214 : decode cX5_digest 214 = .ok (.iadd, 1) := by decide +kernel
theorem dX5_digest_215 : decode cX5_digest 215 = .ok (.iconst 3, 1) := by decide +kernel
theorem dX5_digest_216 : decode cX5_digest 216 = .ok (.iadd, 1) := by decide +kernel
theorem dX5_digest_217 : decode cX5_digest 217 = .ok (.iload 4, 2) := by decide +kernel
theorem dX5_digest_219 : decode cX5_digest 219 = .ok (.iadd, 1) := by decide +kernel
theorem dX5_digest_220 : decode cX5_digest 220 = .ok (.iaload, 1) := by decide +kernel
theorem dX5_digest_221 : decode cX5_digest 221 = .ok (.i2l, 1) := by decide +kernel
theorem dX5_digest_222 : decode cX5_digest 222 = .ok (.ladd, 1) := by decide +kernel
theorem dX5_digest_223 : decode cX5_digest 223 = .ok (.lstore_n 1, 1) := by decide +kernel
theorem dX5_digest_224 : decode cX5_digest 224 = .ok (.iinc 4 1, 3) := by decide +kernel
theorem dX5_digest_227 : decode cX5_digest 227 = .ok (.goto (-50), 3) := by decide +kernel
theorem dX5_digest_230 : decode cX5_digest 230 = .ok (.iinc 3 1, 3) := by decide +kernel
theorem dX5_digest_233 : decode cX5_digest 233 = .ok (.goto (-99), 3) := by decide +kernel
theorem dX5_digest_236 : decode cX5_digest 236 = .ok (.lload_n 1, 1) := by decide +kernel
theorem dX5_digest_237 : decode cX5_digest 237 = .ok (.lreturn, 1) := by decide +kernel
theorem dJ9_min_7cf53_0 : decode cJ9_min_7cf53 0 = .ok (.iload_n 0, 1) := by decide +kernel
theorem dJ9_min_7cf53_1 : decode cJ9_min_7cf53 1 = .ok (.iload_n 1, 1) := by decide +kernel
theorem dJ9_min_7cf53_2 : decode cJ9_min_7cf53 2 = .ok (.if_icmp .gt 7, 3) := by decide +kernel
theorem dJ9_min_7cf53_5 : decode cJ9_min_7cf53 5 = .ok (.iload_n 0, 1) := by decide +kernel
theorem dJ9_min_7cf53_6 : decode cJ9_min_7cf53 6 = .ok (.goto 4, 3) := by decide +kernel
theorem dJ9_min_7cf53_9 : decode cJ9_min_7cf53 9 = .ok (.iload_n 1, 1) := by decide +kernel
theorem dJ9_min_7cf53_10 : decode cJ9_min_7cf53 10 = .ok (.ireturn, 1) := by decide +kernel
theorem dL_law_0 : decode cL_law 0 = .ok (.new 7, 3) := by decide +kernel
theorem dL_law_3 : decode cL_law 3 = .ok (.dup, 1) := by decide +kernel
theorem dL_law_4 : decode cL_law 4 = .ok (.invokespecial 9, 3) := by decide +kernel
theorem dL_law_7 : decode cL_law 7 = .ok (.astore_n 1, 1) := by decide +kernel
theorem dL_law_8 : decode cL_law 8 = .ok (.new 10, 3) := by decide +kernel
theorem dL_law_11 : decode cL_law 11 = .ok (.dup, 1) := by decide +kernel
theorem dL_law_12 : decode cL_law 12 = .ok (.invokespecial 12, 3) := by decide +kernel
theorem dL_law_15 : decode cL_law 15 = .ok (.astore_n 2, 1) := by decide +kernel
theorem dL_law_16 : decode cL_law 16 = .ok (.iconst 0, 1) := by decide +kernel
theorem dL_law_17 : decode cL_law 17 = .ok (.istore_n 3, 1) := by decide +kernel
theorem dL_law_18 : decode cL_law 18 = .ok (.iload_n 3, 1) := by decide +kernel
theorem dL_law_19 : decode cL_law 19 = .ok (.aload_n 0, 1) := by decide +kernel
theorem dL_law_20 : decode cL_law 20 = .ok (.arraylength, 1) := by decide +kernel
theorem dL_law_21 : decode cL_law 21 = .ok (.iconst 5, 1) := by decide +kernel
theorem dL_law_22 : decode cL_law 22 = .ok (.isub, 1) := by decide +kernel
theorem dL_law_23 : decode cL_law 23 = .ok (.if_icmp .gt 753, 3) := by decide +kernel
theorem dL_law_26 : decode cL_law 26 = .ok (.aload_n 0, 1) := by decide +kernel
theorem dL_law_27 : decode cL_law 27 = .ok (.iload_n 3, 1) := by decide +kernel
theorem dL_law_28 : decode cL_law 28 = .ok (.iaload, 1) := by decide +kernel
theorem dL_law_29 : decode cL_law 29 = .ok (.bipush 31, 2) := by decide +kernel
theorem dL_law_31 : decode cL_law 31 = .ok (.iand, 1) := by decide +kernel
theorem dL_law_32 : decode cL_law 32 = .ok (.tableswitch 738 0 22 #[108, 121, 144, 177, 220, 273, 296, 319, 352, 385, 428, 451, 474, 497, 530, 563, 596, 639, 662, 675, 688, 701, 724], 108) := by decide +kernel
theorem dL_law_140 : decode cL_law 140 = .ok (.aload_n 1, 1) := by decide +kernel
theorem dL_law_141 : decode cL_law 141 = .ok (.invokevirtual 13, 3) := by decide +kernel
theorem dL_law_144 : decode cL_law 144 = .ok (.aload_n 2, 1) := by decide +kernel
theorem dL_law_145 : decode cL_law 145 = .ok (.invokevirtual 17, 3) := by decide +kernel
theorem dL_law_148 : decode cL_law 148 = .ok (.if_icmp .eq 622, 3) := by decide +kernel
theorem dL_law_151 : decode cL_law 151 = .ok (.iconst 0, 1) := by decide +kernel
theorem dL_law_152 : decode cL_law 152 = .ok (.ireturn, 1) := by decide +kernel
theorem dL_law_153 : decode cL_law 153 = .ok (.aload_n 1, 1) := by decide +kernel
theorem dL_law_154 : decode cL_law 154 = .ok (.aload_n 0, 1) := by decide +kernel
theorem dL_law_155 : decode cL_law 155 = .ok (.iload_n 3, 1) := by decide +kernel
theorem dL_law_156 : decode cL_law 156 = .ok (.iconst 1, 1) := by decide +kernel
theorem dL_law_157 : decode cL_law 157 = .ok (.iadd, 1) := by decide +kernel
theorem dL_law_158 : decode cL_law 158 = .ok (.iaload, 1) := by decide +kernel
theorem dL_law_159 : decode cL_law 159 = .ok (.invokevirtual 18, 3) := by decide +kernel
theorem dL_law_162 : decode cL_law 162 = .ok (.aload_n 2, 1) := by decide +kernel
theorem dL_law_163 : decode cL_law 163 = .ok (.aload_n 0, 1) := by decide +kernel
theorem dL_law_164 : decode cL_law 164 = .ok (.iload_n 3, 1) := by decide +kernel
theorem dL_law_165 : decode cL_law 165 = .ok (.iconst 1, 1) := by decide +kernel
theorem dL_law_166 : decode cL_law 166 = .ok (.iadd, 1) := by decide +kernel
theorem dL_law_167 : decode cL_law 167 = .ok (.iaload, 1) := by decide +kernel
theorem dL_law_168 : decode cL_law 168 = .ok (.invokevirtual 22, 3) := by decide +kernel
theorem dL_law_171 : decode cL_law 171 = .ok (.if_icmp .eq 599, 3) := by decide +kernel
theorem dL_law_174 : decode cL_law 174 = .ok (.iconst 0, 1) := by decide +kernel
theorem dL_law_175 : decode cL_law 175 = .ok (.ireturn, 1) := by decide +kernel
theorem dL_law_176 : decode cL_law 176 = .ok (.aload_n 1, 1) := by decide +kernel
theorem dL_law_177 : decode cL_law 177 = .ok (.aload_n 0, 1) := by decide +kernel
theorem dL_law_178 : decode cL_law 178 = .ok (.iload_n 3, 1) := by decide +kernel
theorem dL_law_179 : decode cL_law 179 = .ok (.iconst 1, 1) := by decide +kernel
theorem dL_law_180 : decode cL_law 180 = .ok (.iadd, 1) := by decide +kernel
theorem dL_law_181 : decode cL_law 181 = .ok (.iaload, 1) := by decide +kernel
theorem dL_law_182 : decode cL_law 182 = .ok (.aload_n 0, 1) := by decide +kernel
theorem dL_law_183 : decode cL_law 183 = .ok (.iload_n 3, 1) := by decide +kernel
theorem dL_law_184 : decode cL_law 184 = .ok (.iconst 2, 1) := by decide +kernel
theorem dL_law_185 : decode cL_law 185 = .ok (.iadd, 1) := by decide +kernel
theorem dL_law_186 : decode cL_law 186 = .ok (.iaload, 1) := by decide +kernel
theorem dL_law_187 : decode cL_law 187 = .ok (.invokevirtual 23, 3) := by decide +kernel
theorem dL_law_190 : decode cL_law 190 = .ok (.aload_n 2, 1) := by decide +kernel
theorem dL_law_191 : decode cL_law 191 = .ok (.aload_n 0, 1) := by decide +kernel
theorem dL_law_192 : decode cL_law 192 = .ok (.iload_n 3, 1) := by decide +kernel
theorem dL_law_193 : decode cL_law 193 = .ok (.iconst 1, 1) := by decide +kernel
theorem dL_law_194 : decode cL_law 194 = .ok (.iadd, 1) := by decide +kernel
theorem dL_law_195 : decode cL_law 195 = .ok (.iaload, 1) := by decide +kernel
theorem dL_law_196 : decode cL_law 196 = .ok (.aload_n 0, 1) := by decide +kernel
theorem dL_law_197 : decode cL_law 197 = .ok (.iload_n 3, 1) := by decide +kernel
theorem dL_law_198 : decode cL_law 198 = .ok (.iconst 2, 1) := by decide +kernel
theorem dL_law_199 : decode cL_law 199 = .ok (.iadd, 1) := by decide +kernel
theorem dL_law_200 : decode cL_law 200 = .ok (.iaload, 1) := by decide +kernel
theorem dL_law_201 : decode cL_law 201 = .ok (.invokevirtual 27, 3) := by decide +kernel
theorem dL_law_204 : decode cL_law 204 = .ok (.if_icmp .eq 566, 3) := by decide +kernel
theorem dL_law_207 : decode cL_law 207 = .ok (.iconst 0, 1) := by decide +kernel
theorem dL_law_208 : decode cL_law 208 = .ok (.ireturn, 1) := by decide +kernel
theorem dL_law_209 : decode cL_law 209 = .ok (.aload_n 1, 1) := by decide +kernel
theorem dL_law_210 : decode cL_law 210 = .ok (.aload_n 0, 1) := by decide +kernel
theorem dL_law_211 : decode cL_law 211 = .ok (.iload_n 3, 1) := by decide +kernel
theorem dL_law_212 : decode cL_law 212 = .ok (.iconst 1, 1) := by decide +kernel
theorem dL_law_213 : decode cL_law 213 = .ok (.iadd, 1) := by decide +kernel
theorem dL_law_214 : decode cL_law 214 = .ok (.iaload, 1) := by decide +kernel
theorem dL_law_215 : decode cL_law 215 = .ok (.aload_n 0, 1) := by decide +kernel
theorem dL_law_216 : decode cL_law 216 = .ok (.iload_n 3, 1) := by decide +kernel
theorem dL_law_217 : decode cL_law 217 = .ok (.iconst 2, 1) := by decide +kernel
theorem dL_law_218 : decode cL_law 218 = .ok (.iadd, 1) := by decide +kernel
theorem dL_law_219 : decode cL_law 219 = .ok (.iaload, 1) := by decide +kernel
theorem dL_law_220 : decode cL_law 220 = .ok (.aload_n 0, 1) := by decide +kernel
theorem dL_law_221 : decode cL_law 221 = .ok (.iload_n 3, 1) := by decide +kernel
theorem dL_law_222 : decode cL_law 222 = .ok (.iconst 3, 1) := by decide +kernel
theorem dL_law_223 : decode cL_law 223 = .ok (.iadd, 1) := by decide +kernel
theorem dL_law_224 : decode cL_law 224 = .ok (.iaload, 1) := by decide +kernel
theorem dL_law_225 : decode cL_law 225 = .ok (.invokevirtual 28, 3) := by decide +kernel
theorem dL_law_228 : decode cL_law 228 = .ok (.aload_n 2, 1) := by decide +kernel
theorem dL_law_229 : decode cL_law 229 = .ok (.aload_n 0, 1) := by decide +kernel
theorem dL_law_230 : decode cL_law 230 = .ok (.iload_n 3, 1) := by decide +kernel
theorem dL_law_231 : decode cL_law 231 = .ok (.iconst 1, 1) := by decide +kernel
theorem dL_law_232 : decode cL_law 232 = .ok (.iadd, 1) := by decide +kernel
theorem dL_law_233 : decode cL_law 233 = .ok (.iaload, 1) := by decide +kernel
theorem dL_law_234 : decode cL_law 234 = .ok (.aload_n 0, 1) := by decide +kernel
theorem dL_law_235 : decode cL_law 235 = .ok (.iload_n 3, 1) := by decide +kernel
theorem dL_law_236 : decode cL_law 236 = .ok (.iconst 2, 1) := by decide +kernel
theorem dL_law_237 : decode cL_law 237 = .ok (.iadd, 1) := by decide +kernel
theorem dL_law_238 : decode cL_law 238 = .ok (.iaload, 1) := by decide +kernel
theorem dL_law_239 : decode cL_law 239 = .ok (.aload_n 0, 1) := by decide +kernel
theorem dL_law_240 : decode cL_law 240 = .ok (.iload_n 3, 1) := by decide +kernel
theorem dL_law_241 : decode cL_law 241 = .ok (.iconst 3, 1) := by decide +kernel
theorem dL_law_242 : decode cL_law 242 = .ok (.iadd, 1) := by decide +kernel
theorem dL_law_243 : decode cL_law 243 = .ok (.iaload, 1) := by decide +kernel
theorem dL_law_244 : decode cL_law 244 = .ok (.invokevirtual 32, 3) := by decide +kernel
theorem dL_law_247 : decode cL_law 247 = .ok (.if_icmp .eq 523, 3) := by decide +kernel
theorem dL_law_250 : decode cL_law 250 = .ok (.iconst 0, 1) := by decide +kernel
theorem dL_law_251 : decode cL_law 251 = .ok (.ireturn, 1) := by decide +kernel
theorem dL_law_252 : decode cL_law 252 = .ok (.aload_n 1, 1) := by decide +kernel
theorem dL_law_253 : decode cL_law 253 = .ok (.aload_n 0, 1) := by decide +kernel
theorem dL_law_254 : decode cL_law 254 = .ok (.iload_n 3, 1) := by decide +kernel
theorem dL_law_255 : decode cL_law 255 = .ok (.iconst 1, 1) := by decide +kernel
theorem dL_law_256 : decode cL_law 256 = .ok (.iadd, 1) := by decide +kernel
theorem dL_law_257 : decode cL_law 257 = .ok (.iaload, 1) := by decide +kernel
theorem dL_law_258 : decode cL_law 258 = .ok (.aload_n 0, 1) := by decide +kernel
theorem dL_law_259 : decode cL_law 259 = .ok (.iload_n 3, 1) := by decide +kernel
theorem dL_law_260 : decode cL_law 260 = .ok (.iconst 2, 1) := by decide +kernel
theorem dL_law_261 : decode cL_law 261 = .ok (.iadd, 1) := by decide +kernel
theorem dL_law_262 : decode cL_law 262 = .ok (.iaload, 1) := by decide +kernel
theorem dL_law_263 : decode cL_law 263 = .ok (.aload_n 0, 1) := by decide +kernel
theorem dL_law_264 : decode cL_law 264 = .ok (.iload_n 3, 1) := by decide +kernel
theorem dL_law_265 : decode cL_law 265 = .ok (.iconst 3, 1) := by decide +kernel
theorem dL_law_266 : decode cL_law 266 = .ok (.iadd, 1) := by decide +kernel
theorem dL_law_267 : decode cL_law 267 = .ok (.iaload, 1) := by decide +kernel
theorem dL_law_268 : decode cL_law 268 = .ok (.aload_n 0, 1) := by decide +kernel
theorem dL_law_269 : decode cL_law 269 = .ok (.iload_n 3, 1) := by decide +kernel
theorem dL_law_270 : decode cL_law 270 = .ok (.iconst 4, 1) := by decide +kernel
theorem dL_law_271 : decode cL_law 271 = .ok (.iadd, 1) := by decide +kernel
theorem dL_law_272 : decode cL_law 272 = .ok (.iaload, 1) := by decide +kernel
theorem dL_law_273 : decode cL_law 273 = .ok (.invokevirtual 33, 3) := by decide +kernel
theorem dL_law_276 : decode cL_law 276 = .ok (.aload_n 2, 1) := by decide +kernel
theorem dL_law_277 : decode cL_law 277 = .ok (.aload_n 0, 1) := by decide +kernel
theorem dL_law_278 : decode cL_law 278 = .ok (.iload_n 3, 1) := by decide +kernel
theorem dL_law_279 : decode cL_law 279 = .ok (.iconst 1, 1) := by decide +kernel
theorem dL_law_280 : decode cL_law 280 = .ok (.iadd, 1) := by decide +kernel
theorem dL_law_281 : decode cL_law 281 = .ok (.iaload, 1) := by decide +kernel
theorem dL_law_282 : decode cL_law 282 = .ok (.aload_n 0, 1) := by decide +kernel
theorem dL_law_283 : decode cL_law 283 = .ok (.iload_n 3, 1) := by decide +kernel
theorem dL_law_284 : decode cL_law 284 = .ok (.iconst 2, 1) := by decide +kernel
theorem dL_law_285 : decode cL_law 285 = .ok (.iadd, 1) := by decide +kernel
theorem dL_law_286 : decode cL_law 286 = .ok (.iaload, 1) := by decide +kernel
theorem dL_law_287 : decode cL_law 287 = .ok (.aload_n 0, 1) := by decide +kernel
theorem dL_law_288 : decode cL_law 288 = .ok (.iload_n 3, 1) := by decide +kernel
theorem dL_law_289 : decode cL_law 289 = .ok (.iconst 3, 1) := by decide +kernel
theorem dL_law_290 : decode cL_law 290 = .ok (.iadd, 1) := by decide +kernel
theorem dL_law_291 : decode cL_law 291 = .ok (.iaload, 1) := by decide +kernel
theorem dL_law_292 : decode cL_law 292 = .ok (.aload_n 0, 1) := by decide +kernel
theorem dL_law_293 : decode cL_law 293 = .ok (.iload_n 3, 1) := by decide +kernel
theorem dL_law_294 : decode cL_law 294 = .ok (.iconst 4, 1) := by decide +kernel
theorem dL_law_295 : decode cL_law 295 = .ok (.iadd, 1) := by decide +kernel
theorem dL_law_296 : decode cL_law 296 = .ok (.iaload, 1) := by decide +kernel
theorem dL_law_297 : decode cL_law 297 = .ok (.invokevirtual 37, 3) := by decide +kernel
theorem dL_law_300 : decode cL_law 300 = .ok (.if_icmp .eq 470, 3) := by decide +kernel
theorem dL_law_303 : decode cL_law 303 = .ok (.iconst 0, 1) := by decide +kernel
theorem dL_law_304 : decode cL_law 304 = .ok (.ireturn, 1) := by decide +kernel
theorem dL_law_305 : decode cL_law 305 = .ok (.aload_n 1, 1) := by decide +kernel
theorem dL_law_306 : decode cL_law 306 = .ok (.aload_n 0, 1) := by decide +kernel
theorem dL_law_307 : decode cL_law 307 = .ok (.iload_n 3, 1) := by decide +kernel
theorem dL_law_308 : decode cL_law 308 = .ok (.iconst 1, 1) := by decide +kernel
theorem dL_law_309 : decode cL_law 309 = .ok (.iadd, 1) := by decide +kernel
theorem dL_law_310 : decode cL_law 310 = .ok (.iaload, 1) := by decide +kernel
theorem dL_law_311 : decode cL_law 311 = .ok (.invokevirtual 38, 3) := by decide +kernel
theorem dL_law_314 : decode cL_law 314 = .ok (.aload_n 2, 1) := by decide +kernel
theorem dL_law_315 : decode cL_law 315 = .ok (.aload_n 0, 1) := by decide +kernel
theorem dL_law_316 : decode cL_law 316 = .ok (.iload_n 3, 1) := by decide +kernel
theorem dL_law_317 : decode cL_law 317 = .ok (.iconst 1, 1) := by decide +kernel
theorem dL_law_318 : decode cL_law 318 = .ok (.iadd, 1) := by decide +kernel
theorem dL_law_319 : decode cL_law 319 = .ok (.iaload, 1) := by decide +kernel
theorem dL_law_320 : decode cL_law 320 = .ok (.invokevirtual 41, 3) := by decide +kernel
theorem dL_law_323 : decode cL_law 323 = .ok (.if_icmp .eq 447, 3) := by decide +kernel
theorem dL_law_326 : decode cL_law 326 = .ok (.iconst 0, 1) := by decide +kernel
theorem dL_law_327 : decode cL_law 327 = .ok (.ireturn, 1) := by decide +kernel
theorem dL_law_328 : decode cL_law 328 = .ok (.aload_n 1, 1) := by decide +kernel
theorem dL_law_329 : decode cL_law 329 = .ok (.aload_n 0, 1) := by decide +kernel
theorem dL_law_330 : decode cL_law 330 = .ok (.iload_n 3, 1) := by decide +kernel
theorem dL_law_331 : decode cL_law 331 = .ok (.iconst 1, 1) := by decide +kernel
theorem dL_law_332 : decode cL_law 332 = .ok (.iadd, 1) := by decide +kernel
theorem dL_law_333 : decode cL_law 333 = .ok (.iaload, 1) := by decide +kernel
theorem dL_law_334 : decode cL_law 334 = .ok (.invokevirtual 42, 3) := by decide +kernel
theorem dL_law_337 : decode cL_law 337 = .ok (.aload_n 2, 1) := by decide +kernel
theorem dL_law_338 : decode cL_law 338 = .ok (.aload_n 0, 1) := by decide +kernel
theorem dL_law_339 : decode cL_law 339 = .ok (.iload_n 3, 1) := by decide +kernel
theorem dL_law_340 : decode cL_law 340 = .ok (.iconst 1, 1) := by decide +kernel
theorem dL_law_341 : decode cL_law 341 = .ok (.iadd, 1) := by decide +kernel
theorem dL_law_342 : decode cL_law 342 = .ok (.iaload, 1) := by decide +kernel
theorem dL_law_343 : decode cL_law 343 = .ok (.invokevirtual 45, 3) := by decide +kernel
theorem dL_law_346 : decode cL_law 346 = .ok (.if_icmp .eq 424, 3) := by decide +kernel
theorem dL_law_349 : decode cL_law 349 = .ok (.iconst 0, 1) := by decide +kernel
theorem dL_law_350 : decode cL_law 350 = .ok (.ireturn, 1) := by decide +kernel
theorem dL_law_351 : decode cL_law 351 = .ok (.aload_n 1, 1) := by decide +kernel
theorem dL_law_352 : decode cL_law 352 = .ok (.aload_n 0, 1) := by decide +kernel
theorem dL_law_353 : decode cL_law 353 = .ok (.iload_n 3, 1) := by decide +kernel
theorem dL_law_354 : decode cL_law 354 = .ok (.iconst 1, 1) := by decide +kernel
theorem dL_law_355 : decode cL_law 355 = .ok (.iadd, 1) := by decide +kernel
theorem dL_law_356 : decode cL_law 356 = .ok (.iaload, 1) := by decide +kernel
theorem dL_law_357 : decode cL_law 357 = .ok (.aload_n 0, 1) := by decide +kernel
theorem dL_law_358 : decode cL_law 358 = .ok (.iload_n 3, 1) := by decide +kernel
theorem dL_law_359 : decode cL_law 359 = .ok (.iconst 2, 1) := by decide +kernel
theorem dL_law_360 : decode cL_law 360 = .ok (.iadd, 1) := by decide +kernel
theorem dL_law_361 : decode cL_law 361 = .ok (.iaload, 1) := by decide +kernel
theorem dL_law_362 : decode cL_law 362 = .ok (.invokevirtual 46, 3) := by decide +kernel
theorem dL_law_365 : decode cL_law 365 = .ok (.aload_n 2, 1) := by decide +kernel
theorem dL_law_366 : decode cL_law 366 = .ok (.aload_n 0, 1) := by decide +kernel
theorem dL_law_367 : decode cL_law 367 = .ok (.iload_n 3, 1) := by decide +kernel
theorem dL_law_368 : decode cL_law 368 = .ok (.iconst 1, 1) := by decide +kernel
theorem dL_law_369 : decode cL_law 369 = .ok (.iadd, 1) := by decide +kernel
theorem dL_law_370 : decode cL_law 370 = .ok (.iaload, 1) := by decide +kernel
theorem dL_law_371 : decode cL_law 371 = .ok (.aload_n 0, 1) := by decide +kernel
theorem dL_law_372 : decode cL_law 372 = .ok (.iload_n 3, 1) := by decide +kernel
theorem dL_law_373 : decode cL_law 373 = .ok (.iconst 2, 1) := by decide +kernel
theorem dL_law_374 : decode cL_law 374 = .ok (.iadd, 1) := by decide +kernel
theorem dL_law_375 : decode cL_law 375 = .ok (.iaload, 1) := by decide +kernel
theorem dL_law_376 : decode cL_law 376 = .ok (.invokevirtual 49, 3) := by decide +kernel
theorem dL_law_379 : decode cL_law 379 = .ok (.if_icmp .eq 391, 3) := by decide +kernel
theorem dL_law_382 : decode cL_law 382 = .ok (.iconst 0, 1) := by decide +kernel
theorem dL_law_383 : decode cL_law 383 = .ok (.ireturn, 1) := by decide +kernel
theorem dL_law_384 : decode cL_law 384 = .ok (.aload_n 1, 1) := by decide +kernel
theorem dL_law_385 : decode cL_law 385 = .ok (.aload_n 0, 1) := by decide +kernel
theorem dL_law_386 : decode cL_law 386 = .ok (.iload_n 3, 1) := by decide +kernel
theorem dL_law_387 : decode cL_law 387 = .ok (.iconst 1, 1) := by decide +kernel
theorem dL_law_388 : decode cL_law 388 = .ok (.iadd, 1) := by decide +kernel
theorem dL_law_389 : decode cL_law 389 = .ok (.iaload, 1) := by decide +kernel
theorem dL_law_390 : decode cL_law 390 = .ok (.aload_n 0, 1) := by decide +kernel
theorem dL_law_391 : decode cL_law 391 = .ok (.iload_n 3, 1) := by decide +kernel
theorem dL_law_392 : decode cL_law 392 = .ok (.iconst 2, 1) := by decide +kernel
theorem dL_law_393 : decode cL_law 393 = .ok (.iadd, 1) := by decide +kernel
theorem dL_law_394 : decode cL_law 394 = .ok (.iaload, 1) := by decide +kernel
theorem dL_law_395 : decode cL_law 395 = .ok (.invokevirtual 50, 3) := by decide +kernel
theorem dL_law_398 : decode cL_law 398 = .ok (.aload_n 2, 1) := by decide +kernel
theorem dL_law_399 : decode cL_law 399 = .ok (.aload_n 0, 1) := by decide +kernel
theorem dL_law_400 : decode cL_law 400 = .ok (.iload_n 3, 1) := by decide +kernel
theorem dL_law_401 : decode cL_law 401 = .ok (.iconst 1, 1) := by decide +kernel
theorem dL_law_402 : decode cL_law 402 = .ok (.iadd, 1) := by decide +kernel
theorem dL_law_403 : decode cL_law 403 = .ok (.iaload, 1) := by decide +kernel
theorem dL_law_404 : decode cL_law 404 = .ok (.aload_n 0, 1) := by decide +kernel
theorem dL_law_405 : decode cL_law 405 = .ok (.iload_n 3, 1) := by decide +kernel
theorem dL_law_406 : decode cL_law 406 = .ok (.iconst 2, 1) := by decide +kernel
theorem dL_law_407 : decode cL_law 407 = .ok (.iadd, 1) := by decide +kernel
theorem dL_law_408 : decode cL_law 408 = .ok (.iaload, 1) := by decide +kernel
theorem dL_law_409 : decode cL_law 409 = .ok (.invokevirtual 53, 3) := by decide +kernel
theorem dL_law_412 : decode cL_law 412 = .ok (.if_icmp .eq 358, 3) := by decide +kernel
theorem dL_law_415 : decode cL_law 415 = .ok (.iconst 0, 1) := by decide +kernel
theorem dL_law_416 : decode cL_law 416 = .ok (.ireturn, 1) := by decide +kernel
theorem dL_law_417 : decode cL_law 417 = .ok (.aload_n 1, 1) := by decide +kernel
theorem dL_law_418 : decode cL_law 418 = .ok (.aload_n 0, 1) := by decide +kernel
theorem dL_law_419 : decode cL_law 419 = .ok (.iload_n 3, 1) := by decide +kernel
theorem dL_law_420 : decode cL_law 420 = .ok (.iconst 1, 1) := by decide +kernel
theorem dL_law_421 : decode cL_law 421 = .ok (.iadd, 1) := by decide +kernel
theorem dL_law_422 : decode cL_law 422 = .ok (.iaload, 1) := by decide +kernel
theorem dL_law_423 : decode cL_law 423 = .ok (.aload_n 0, 1) := by decide +kernel
theorem dL_law_424 : decode cL_law 424 = .ok (.iload_n 3, 1) := by decide +kernel
theorem dL_law_425 : decode cL_law 425 = .ok (.iconst 2, 1) := by decide +kernel
theorem dL_law_426 : decode cL_law 426 = .ok (.iadd, 1) := by decide +kernel
theorem dL_law_427 : decode cL_law 427 = .ok (.iaload, 1) := by decide +kernel
theorem dL_law_428 : decode cL_law 428 = .ok (.aload_n 0, 1) := by decide +kernel
theorem dL_law_429 : decode cL_law 429 = .ok (.iload_n 3, 1) := by decide +kernel
theorem dL_law_430 : decode cL_law 430 = .ok (.iconst 3, 1) := by decide +kernel
theorem dL_law_431 : decode cL_law 431 = .ok (.iadd, 1) := by decide +kernel
theorem dL_law_432 : decode cL_law 432 = .ok (.iaload, 1) := by decide +kernel
theorem dL_law_433 : decode cL_law 433 = .ok (.invokevirtual 54, 3) := by decide +kernel
theorem dL_law_436 : decode cL_law 436 = .ok (.aload_n 2, 1) := by decide +kernel
theorem dL_law_437 : decode cL_law 437 = .ok (.aload_n 0, 1) := by decide +kernel
theorem dL_law_438 : decode cL_law 438 = .ok (.iload_n 3, 1) := by decide +kernel
theorem dL_law_439 : decode cL_law 439 = .ok (.iconst 1, 1) := by decide +kernel
theorem dL_law_440 : decode cL_law 440 = .ok (.iadd, 1) := by decide +kernel
theorem dL_law_441 : decode cL_law 441 = .ok (.iaload, 1) := by decide +kernel
theorem dL_law_442 : decode cL_law 442 = .ok (.aload_n 0, 1) := by decide +kernel
theorem dL_law_443 : decode cL_law 443 = .ok (.iload_n 3, 1) := by decide +kernel
theorem dL_law_444 : decode cL_law 444 = .ok (.iconst 2, 1) := by decide +kernel
theorem dL_law_445 : decode cL_law 445 = .ok (.iadd, 1) := by decide +kernel
theorem dL_law_446 : decode cL_law 446 = .ok (.iaload, 1) := by decide +kernel
theorem dL_law_447 : decode cL_law 447 = .ok (.aload_n 0, 1) := by decide +kernel
theorem dL_law_448 : decode cL_law 448 = .ok (.iload_n 3, 1) := by decide +kernel
theorem dL_law_449 : decode cL_law 449 = .ok (.iconst 3, 1) := by decide +kernel
theorem dL_law_450 : decode cL_law 450 = .ok (.iadd, 1) := by decide +kernel
theorem dL_law_451 : decode cL_law 451 = .ok (.iaload, 1) := by decide +kernel
theorem dL_law_452 : decode cL_law 452 = .ok (.invokevirtual 57, 3) := by decide +kernel
theorem dL_law_455 : decode cL_law 455 = .ok (.if_icmp .eq 315, 3) := by decide +kernel
theorem dL_law_458 : decode cL_law 458 = .ok (.iconst 0, 1) := by decide +kernel
theorem dL_law_459 : decode cL_law 459 = .ok (.ireturn, 1) := by decide +kernel
theorem dL_law_460 : decode cL_law 460 = .ok (.aload_n 1, 1) := by decide +kernel
theorem dL_law_461 : decode cL_law 461 = .ok (.aload_n 0, 1) := by decide +kernel
theorem dL_law_462 : decode cL_law 462 = .ok (.iload_n 3, 1) := by decide +kernel
theorem dL_law_463 : decode cL_law 463 = .ok (.iconst 1, 1) := by decide +kernel
theorem dL_law_464 : decode cL_law 464 = .ok (.iadd, 1) := by decide +kernel
theorem dL_law_465 : decode cL_law 465 = .ok (.iaload, 1) := by decide +kernel
theorem dL_law_466 : decode cL_law 466 = .ok (.invokevirtual 58, 3) := by decide +kernel
theorem dL_law_469 : decode cL_law 469 = .ok (.aload_n 2, 1) := by decide +kernel
theorem dL_law_470 : decode cL_law 470 = .ok (.aload_n 0, 1) := by decide +kernel
theorem dL_law_471 : decode cL_law 471 = .ok (.iload_n 3, 1) := by decide +kernel
theorem dL_law_472 : decode cL_law 472 = .ok (.iconst 1, 1) := by decide +kernel
theorem dL_law_473 : decode cL_law 473 = .ok (.iadd, 1) := by decide +kernel
theorem dL_law_474 : decode cL_law 474 = .ok (.iaload, 1) := by decide +kernel
theorem dL_law_475 : decode cL_law 475 = .ok (.invokevirtual 61, 3) := by decide +kernel
theorem dL_law_478 : decode cL_law 478 = .ok (.if_icmp .eq 292, 3) := by decide +kernel
theorem dL_law_481 : decode cL_law 481 = .ok (.iconst 0, 1) := by decide +kernel
theorem dL_law_482 : decode cL_law 482 = .ok (.ireturn, 1) := by decide +kernel
theorem dL_law_483 : decode cL_law 483 = .ok (.aload_n 1, 1) := by decide +kernel
theorem dL_law_484 : decode cL_law 484 = .ok (.aload_n 0, 1) := by decide +kernel
theorem dL_law_485 : decode cL_law 485 = .ok (.iload_n 3, 1) := by decide +kernel
theorem dL_law_486 : decode cL_law 486 = .ok (.iconst 1, 1) := by decide +kernel
theorem dL_law_487 : decode cL_law 487 = .ok (.iadd, 1) := by decide +kernel
theorem dL_law_488 : decode cL_law 488 = .ok (.iaload, 1) := by decide +kernel
theorem dL_law_489 : decode cL_law 489 = .ok (.invokevirtual 62, 3) := by decide +kernel
theorem dL_law_492 : decode cL_law 492 = .ok (.aload_n 2, 1) := by decide +kernel
theorem dL_law_493 : decode cL_law 493 = .ok (.aload_n 0, 1) := by decide +kernel
theorem dL_law_494 : decode cL_law 494 = .ok (.iload_n 3, 1) := by decide +kernel
theorem dL_law_495 : decode cL_law 495 = .ok (.iconst 1, 1) := by decide +kernel
theorem dL_law_496 : decode cL_law 496 = .ok (.iadd, 1) := by decide +kernel
theorem dL_law_497 : decode cL_law 497 = .ok (.iaload, 1) := by decide +kernel
theorem dL_law_498 : decode cL_law 498 = .ok (.invokevirtual 65, 3) := by decide +kernel
theorem dL_law_501 : decode cL_law 501 = .ok (.if_icmp .eq 269, 3) := by decide +kernel
theorem dL_law_504 : decode cL_law 504 = .ok (.iconst 0, 1) := by decide +kernel
theorem dL_law_505 : decode cL_law 505 = .ok (.ireturn, 1) := by decide +kernel
theorem dL_law_506 : decode cL_law 506 = .ok (.aload_n 1, 1) := by decide +kernel
theorem dL_law_507 : decode cL_law 507 = .ok (.aload_n 0, 1) := by decide +kernel
theorem dL_law_508 : decode cL_law 508 = .ok (.iload_n 3, 1) := by decide +kernel
theorem dL_law_509 : decode cL_law 509 = .ok (.iconst 1, 1) := by decide +kernel
theorem dL_law_510 : decode cL_law 510 = .ok (.iadd, 1) := by decide +kernel
theorem dL_law_511 : decode cL_law 511 = .ok (.iaload, 1) := by decide +kernel
theorem dL_law_512 : decode cL_law 512 = .ok (.invokevirtual 66, 3) := by decide +kernel
theorem dL_law_515 : decode cL_law 515 = .ok (.aload_n 2, 1) := by decide +kernel
theorem dL_law_516 : decode cL_law 516 = .ok (.aload_n 0, 1) := by decide +kernel
theorem dL_law_517 : decode cL_law 517 = .ok (.iload_n 3, 1) := by decide +kernel
theorem dL_law_518 : decode cL_law 518 = .ok (.iconst 1, 1) := by decide +kernel
theorem dL_law_519 : decode cL_law 519 = .ok (.iadd, 1) := by decide +kernel
theorem dL_law_520 : decode cL_law 520 = .ok (.iaload, 1) := by decide +kernel
theorem dL_law_521 : decode cL_law 521 = .ok (.invokevirtual 69, 3) := by decide +kernel
theorem dL_law_524 : decode cL_law 524 = .ok (.if_icmp .eq 246, 3) := by decide +kernel
theorem dL_law_527 : decode cL_law 527 = .ok (.iconst 0, 1) := by decide +kernel
theorem dL_law_528 : decode cL_law 528 = .ok (.ireturn, 1) := by decide +kernel
theorem dL_law_529 : decode cL_law 529 = .ok (.aload_n 1, 1) := by decide +kernel
theorem dL_law_530 : decode cL_law 530 = .ok (.aload_n 0, 1) := by decide +kernel
theorem dL_law_531 : decode cL_law 531 = .ok (.iload_n 3, 1) := by decide +kernel
theorem dL_law_532 : decode cL_law 532 = .ok (.iconst 1, 1) := by decide +kernel
theorem dL_law_533 : decode cL_law 533 = .ok (.iadd, 1) := by decide +kernel
theorem dL_law_534 : decode cL_law 534 = .ok (.iaload, 1) := by decide +kernel
theorem dL_law_535 : decode cL_law 535 = .ok (.aload_n 0, 1) := by decide +kernel
theorem dL_law_536 : decode cL_law 536 = .ok (.iload_n 3, 1) := by decide +kernel
theorem dL_law_537 : decode cL_law 537 = .ok (.iconst 2, 1) := by decide +kernel
theorem dL_law_538 : decode cL_law 538 = .ok (.iadd, 1) := by decide +kernel
theorem dL_law_539 : decode cL_law 539 = .ok (.iaload, 1) := by decide +kernel
theorem dL_law_540 : decode cL_law 540 = .ok (.invokevirtual 70, 3) := by decide +kernel
theorem dL_law_543 : decode cL_law 543 = .ok (.aload_n 2, 1) := by decide +kernel
theorem dL_law_544 : decode cL_law 544 = .ok (.aload_n 0, 1) := by decide +kernel
theorem dL_law_545 : decode cL_law 545 = .ok (.iload_n 3, 1) := by decide +kernel
theorem dL_law_546 : decode cL_law 546 = .ok (.iconst 1, 1) := by decide +kernel
theorem dL_law_547 : decode cL_law 547 = .ok (.iadd, 1) := by decide +kernel
theorem dL_law_548 : decode cL_law 548 = .ok (.iaload, 1) := by decide +kernel
theorem dL_law_549 : decode cL_law 549 = .ok (.aload_n 0, 1) := by decide +kernel
theorem dL_law_550 : decode cL_law 550 = .ok (.iload_n 3, 1) := by decide +kernel
theorem dL_law_551 : decode cL_law 551 = .ok (.iconst 2, 1) := by decide +kernel
theorem dL_law_552 : decode cL_law 552 = .ok (.iadd, 1) := by decide +kernel
theorem dL_law_553 : decode cL_law 553 = .ok (.iaload, 1) := by decide +kernel
theorem dL_law_554 : decode cL_law 554 = .ok (.invokevirtual 73, 3) := by decide +kernel
theorem dL_law_557 : decode cL_law 557 = .ok (.if_icmp .eq 213, 3) := by decide +kernel
theorem dL_law_560 : decode cL_law 560 = .ok (.iconst 0, 1) := by decide +kernel
theorem dL_law_561 : decode cL_law 561 = .ok (.ireturn, 1) := by decide +kernel
theorem dL_law_562 : decode cL_law 562 = .ok (.aload_n 1, 1) := by decide +kernel
theorem dL_law_563 : decode cL_law 563 = .ok (.aload_n 0, 1) := by decide +kernel
theorem dL_law_564 : decode cL_law 564 = .ok (.iload_n 3, 1) := by decide +kernel
theorem dL_law_565 : decode cL_law 565 = .ok (.iconst 1, 1) := by decide +kernel
theorem dL_law_566 : decode cL_law 566 = .ok (.iadd, 1) := by decide +kernel
theorem dL_law_567 : decode cL_law 567 = .ok (.iaload, 1) := by decide +kernel
theorem dL_law_568 : decode cL_law 568 = .ok (.aload_n 0, 1) := by decide +kernel
theorem dL_law_569 : decode cL_law 569 = .ok (.iload_n 3, 1) := by decide +kernel
theorem dL_law_570 : decode cL_law 570 = .ok (.iconst 2, 1) := by decide +kernel
theorem dL_law_571 : decode cL_law 571 = .ok (.iadd, 1) := by decide +kernel
theorem dL_law_572 : decode cL_law 572 = .ok (.iaload, 1) := by decide +kernel
theorem dL_law_573 : decode cL_law 573 = .ok (.invokevirtual 74, 3) := by decide +kernel
theorem dL_law_576 : decode cL_law 576 = .ok (.aload_n 2, 1) := by decide +kernel
theorem dL_law_577 : decode cL_law 577 = .ok (.aload_n 0, 1) := by decide +kernel
theorem dL_law_578 : decode cL_law 578 = .ok (.iload_n 3, 1) := by decide +kernel
theorem dL_law_579 : decode cL_law 579 = .ok (.iconst 1, 1) := by decide +kernel
theorem dL_law_580 : decode cL_law 580 = .ok (.iadd, 1) := by decide +kernel
theorem dL_law_581 : decode cL_law 581 = .ok (.iaload, 1) := by decide +kernel
theorem dL_law_582 : decode cL_law 582 = .ok (.aload_n 0, 1) := by decide +kernel
theorem dL_law_583 : decode cL_law 583 = .ok (.iload_n 3, 1) := by decide +kernel
theorem dL_law_584 : decode cL_law 584 = .ok (.iconst 2, 1) := by decide +kernel
theorem dL_law_585 : decode cL_law 585 = .ok (.iadd, 1) := by decide +kernel
theorem dL_law_586 : decode cL_law 586 = .ok (.iaload, 1) := by decide +kernel
theorem dL_law_587 : decode cL_law 587 = .ok (.invokevirtual 77, 3) := by decide +kernel
theorem dL_law_590 : decode cL_law 590 = .ok (.if_icmp .eq 180, 3) := by decide +kernel
theorem dL_law_593 : decode cL_law 593 = .ok (.iconst 0, 1) := by decide +kernel
theorem dL_law_594 : decode cL_law 594 = .ok (.ireturn, 1) := by decide +kernel
theorem dL_law_595 : decode cL_law 595 = .ok (.aload_n 1, 1) := by decide +kernel
theorem dL_law_596 : decode cL_law 596 = .ok (.aload_n 0, 1) := by decide +kernel
theorem dL_law_597 : decode cL_law 597 = .ok (.iload_n 3, 1) := by decide +kernel
theorem dL_law_598 : decode cL_law 598 = .ok (.iconst 1, 1) := by decide +kernel
theorem dL_law_599 : decode cL_law 599 = .ok (.iadd, 1) := by decide +kernel
theorem dL_law_600 : decode cL_law 600 = .ok (.iaload, 1) := by decide +kernel
theorem dL_law_601 : decode cL_law 601 = .ok (.aload_n 0, 1) := by decide +kernel
theorem dL_law_602 : decode cL_law 602 = .ok (.iload_n 3, 1) := by decide +kernel
theorem dL_law_603 : decode cL_law 603 = .ok (.iconst 2, 1) := by decide +kernel
theorem dL_law_604 : decode cL_law 604 = .ok (.iadd, 1) := by decide +kernel
theorem dL_law_605 : decode cL_law 605 = .ok (.iaload, 1) := by decide +kernel
theorem dL_law_606 : decode cL_law 606 = .ok (.invokevirtual 78, 3) := by decide +kernel
theorem dL_law_609 : decode cL_law 609 = .ok (.aload_n 2, 1) := by decide +kernel
theorem dL_law_610 : decode cL_law 610 = .ok (.aload_n 0, 1) := by decide +kernel
theorem dL_law_611 : decode cL_law 611 = .ok (.iload_n 3, 1) := by decide +kernel
theorem dL_law_612 : decode cL_law 612 = .ok (.iconst 1, 1) := by decide +kernel
theorem dL_law_613 : decode cL_law 613 = .ok (.iadd, 1) := by decide +kernel
theorem dL_law_614 : decode cL_law 614 = .ok (.iaload, 1) := by decide +kernel
theorem dL_law_615 : decode cL_law 615 = .ok (.aload_n 0, 1) := by decide +kernel
theorem dL_law_616 : decode cL_law 616 = .ok (.iload_n 3, 1) := by decide +kernel
theorem dL_law_617 : decode cL_law 617 = .ok (.iconst 2, 1) := by decide +kernel
theorem dL_law_618 : decode cL_law 618 = .ok (.iadd, 1) := by decide +kernel
theorem dL_law_619 : decode cL_law 619 = .ok (.iaload, 1) := by decide +kernel
theorem dL_law_620 : decode cL_law 620 = .ok (.invokevirtual 81, 3) := by decide +kernel
theorem dL_law_623 : decode cL_law 623 = .ok (.if_icmp .eq 147, 3) := by decide +kernel
theorem dL_law_626 : decode cL_law 626 = .ok (.iconst 0, 1) := by decide +kernel
theorem dL_law_627 : decode cL_law 627 = .ok (.ireturn, 1) := by decide +kernel
theorem dL_law_628 : decode cL_law 628 = .ok (.aload_n 1, 1) := by decide +kernel
theorem dL_law_629 : decode cL_law 629 = .ok (.aload_n 0, 1) := by decide +kernel
theorem dL_law_630 : decode cL_law 630 = .ok (.iload_n 3, 1) := by decide +kernel
theorem dL_law_631 : decode cL_law 631 = .ok (.iconst 1, 1) := by decide +kernel
theorem dL_law_632 : decode cL_law 632 = .ok (.iadd, 1) := by decide +kernel
theorem dL_law_633 : decode cL_law 633 = .ok (.iaload, 1) := by decide +kernel
theorem dL_law_634 : decode cL_law 634 = .ok (.aload_n 0, 1) := by decide +kernel
theorem dL_law_635 : decode cL_law 635 = .ok (.iload_n 3, 1) := by decide +kernel
theorem dL_law_636 : decode cL_law 636 = .ok (.iconst 2, 1) := by decide +kernel
theorem dL_law_637 : decode cL_law 637 = .ok (.iadd, 1) := by decide +kernel
theorem dL_law_638 : decode cL_law 638 = .ok (.iaload, 1) := by decide +kernel
theorem dL_law_639 : decode cL_law 639 = .ok (.aload_n 0, 1) := by decide +kernel
theorem dL_law_640 : decode cL_law 640 = .ok (.iload_n 3, 1) := by decide +kernel
theorem dL_law_641 : decode cL_law 641 = .ok (.iconst 3, 1) := by decide +kernel
theorem dL_law_642 : decode cL_law 642 = .ok (.iadd, 1) := by decide +kernel
theorem dL_law_643 : decode cL_law 643 = .ok (.iaload, 1) := by decide +kernel
theorem dL_law_644 : decode cL_law 644 = .ok (.invokevirtual 82, 3) := by decide +kernel
theorem dL_law_647 : decode cL_law 647 = .ok (.aload_n 2, 1) := by decide +kernel
theorem dL_law_648 : decode cL_law 648 = .ok (.aload_n 0, 1) := by decide +kernel
theorem dL_law_649 : decode cL_law 649 = .ok (.iload_n 3, 1) := by decide +kernel
theorem dL_law_650 : decode cL_law 650 = .ok (.iconst 1, 1) := by decide +kernel
theorem dL_law_651 : decode cL_law 651 = .ok (.iadd, 1) := by decide +kernel
theorem dL_law_652 : decode cL_law 652 = .ok (.iaload, 1) := by decide +kernel
theorem dL_law_653 : decode cL_law 653 = .ok (.aload_n 0, 1) := by decide +kernel
theorem dL_law_654 : decode cL_law 654 = .ok (.iload_n 3, 1) := by decide +kernel
theorem dL_law_655 : decode cL_law 655 = .ok (.iconst 2, 1) := by decide +kernel
theorem dL_law_656 : decode cL_law 656 = .ok (.iadd, 1) := by decide +kernel
theorem dL_law_657 : decode cL_law 657 = .ok (.iaload, 1) := by decide +kernel
theorem dL_law_658 : decode cL_law 658 = .ok (.aload_n 0, 1) := by decide +kernel
theorem dL_law_659 : decode cL_law 659 = .ok (.iload_n 3, 1) := by decide +kernel
theorem dL_law_660 : decode cL_law 660 = .ok (.iconst 3, 1) := by decide +kernel
theorem dL_law_661 : decode cL_law 661 = .ok (.iadd, 1) := by decide +kernel
theorem dL_law_662 : decode cL_law 662 = .ok (.iaload, 1) := by decide +kernel
theorem dL_law_663 : decode cL_law 663 = .ok (.invokevirtual 85, 3) := by decide +kernel
theorem dL_law_666 : decode cL_law 666 = .ok (.if_icmp .eq 104, 3) := by decide +kernel
theorem dL_law_669 : decode cL_law 669 = .ok (.iconst 0, 1) := by decide +kernel
theorem dL_law_670 : decode cL_law 670 = .ok (.ireturn, 1) := by decide +kernel
theorem dL_law_671 : decode cL_law 671 = .ok (.aload_n 1, 1) := by decide +kernel
theorem dL_law_672 : decode cL_law 672 = .ok (.aload_n 0, 1) := by decide +kernel
theorem dL_law_673 : decode cL_law 673 = .ok (.iload_n 3, 1) := by decide +kernel
theorem dL_law_674 : decode cL_law 674 = .ok (.iconst 1, 1) := by decide +kernel
theorem dL_law_675 : decode cL_law 675 = .ok (.iadd, 1) := by decide +kernel
theorem dL_law_676 : decode cL_law 676 = .ok (.iaload, 1) := by decide +kernel
theorem dL_law_677 : decode cL_law 677 = .ok (.invokevirtual 86, 3) := by decide +kernel
theorem dL_law_680 : decode cL_law 680 = .ok (.aload_n 2, 1) := by decide +kernel
theorem dL_law_681 : decode cL_law 681 = .ok (.aload_n 0, 1) := by decide +kernel
theorem dL_law_682 : decode cL_law 682 = .ok (.iload_n 3, 1) := by decide +kernel
theorem dL_law_683 : decode cL_law 683 = .ok (.iconst 1, 1) := by decide +kernel
theorem dL_law_684 : decode cL_law 684 = .ok (.iadd, 1) := by decide +kernel
theorem dL_law_685 : decode cL_law 685 = .ok (.iaload, 1) := by decide +kernel
theorem dL_law_686 : decode cL_law 686 = .ok (.invokevirtual 89, 3) := by decide +kernel
theorem dL_law_689 : decode cL_law 689 = .ok (.if_icmp .eq 81, 3) := by decide +kernel
theorem dL_law_692 : decode cL_law 692 = .ok (.iconst 0, 1) := by decide +kernel
theorem dL_law_693 : decode cL_law 693 = .ok (.ireturn, 1) := by decide +kernel
theorem dL_law_694 : decode cL_law 694 = .ok (.aload_n 1, 1) := by decide +kernel
theorem dL_law_695 : decode cL_law 695 = .ok (.invokevirtual 90, 3) := by decide +kernel
theorem dL_law_698 : decode cL_law 698 = .ok (.aload_n 2, 1) := by decide +kernel
theorem dL_law_699 : decode cL_law 699 = .ok (.invokevirtual 93, 3) := by decide +kernel
theorem dL_law_702 : decode cL_law 702 = .ok (.if_icmp .eq 68, 3) := by decide +kernel
theorem dL_law_705 : decode cL_law 705 = .ok (.iconst 0, 1) := by decide +kernel
theorem dL_law_706 : decode cL_law 706 = .ok (.ireturn, 1) := by decide +kernel
theorem dL_law_707 : decode cL_law 707 = .ok (.aload_n 1, 1) := by decide +kernel
theorem dL_law_708 : decode cL_law 708 = .ok (.invokevirtual 94, 3) := by decide +kernel
theorem dL_law_711 : decode cL_law 711 = .ok (.aload_n 2, 1) := by decide +kernel
theorem dL_law_712 : decode cL_law 712 = .ok (.invokevirtual 97, 3) := by decide +kernel
theorem dL_law_715 : decode cL_law 715 = .ok (.if_icmp .eq 55, 3) := by decide +kernel
theorem dL_law_718 : decode cL_law 718 = .ok (.iconst 0, 1) := by decide +kernel
theorem dL_law_719 : decode cL_law 719 = .ok (.ireturn, 1) := by decide +kernel
theorem dL_law_720 : decode cL_law 720 = .ok (.aload_n 1, 1) := by decide +kernel
theorem dL_law_721 : decode cL_law 721 = .ok (.invokevirtual 98, 3) := by decide +kernel
theorem dL_law_724 : decode cL_law 724 = .ok (.aload_n 2, 1) := by decide +kernel
theorem dL_law_725 : decode cL_law 725 = .ok (.invokevirtual 101, 3) := by decide +kernel
theorem dL_law_728 : decode cL_law 728 = .ok (.if_icmp .eq 42, 3) := by decide +kernel
theorem dL_law_731 : decode cL_law 731 = .ok (.iconst 0, 1) := by decide +kernel
theorem dL_law_732 : decode cL_law 732 = .ok (.ireturn, 1) := by decide +kernel
theorem dL_law_733 : decode cL_law 733 = .ok (.aload_n 1, 1) := by decide +kernel
theorem dL_law_734 : decode cL_law 734 = .ok (.aload_n 0, 1) := by decide +kernel
theorem dL_law_735 : decode cL_law 735 = .ok (.iload_n 3, 1) := by decide +kernel
theorem dL_law_736 : decode cL_law 736 = .ok (.iconst 1, 1) := by decide +kernel
theorem dL_law_737 : decode cL_law 737 = .ok (.iadd, 1) := by decide +kernel
theorem dL_law_738 : decode cL_law 738 = .ok (.iaload, 1) := by decide +kernel
theorem dL_law_739 : decode cL_law 739 = .ok (.invokevirtual 102, 3) := by decide +kernel
theorem dL_law_742 : decode cL_law 742 = .ok (.aload_n 2, 1) := by decide +kernel
theorem dL_law_743 : decode cL_law 743 = .ok (.aload_n 0, 1) := by decide +kernel
theorem dL_law_744 : decode cL_law 744 = .ok (.iload_n 3, 1) := by decide +kernel
theorem dL_law_745 : decode cL_law 745 = .ok (.iconst 1, 1) := by decide +kernel
theorem dL_law_746 : decode cL_law 746 = .ok (.iadd, 1) := by decide +kernel
theorem dL_law_747 : decode cL_law 747 = .ok (.iaload, 1) := by decide +kernel
theorem dL_law_748 : decode cL_law 748 = .ok (.invokevirtual 105, 3) := by decide +kernel
theorem dL_law_751 : decode cL_law 751 = .ok (.if_icmp .eq 19, 3) := by decide +kernel
theorem dL_law_754 : decode cL_law 754 = .ok (.iconst 0, 1) := by decide +kernel
theorem dL_law_755 : decode cL_law 755 = .ok (.ireturn, 1) := by decide +kernel
theorem dL_law_756 : decode cL_law 756 = .ok (.aload_n 1, 1) := by decide +kernel
theorem dL_law_757 : decode cL_law 757 = .ok (.invokevirtual 106, 3) := by decide +kernel
theorem dL_law_760 : decode cL_law 760 = .ok (.aload_n 2, 1) := by decide +kernel
theorem dL_law_761 : decode cL_law 761 = .ok (.invokevirtual 110, 3) := by decide +kernel
theorem dL_law_764 : decode cL_law 764 = .ok (.lcmp, 1) := by decide +kernel
theorem dL_law_765 : decode cL_law 765 = .ok (.ifCond .eq 5, 3) := by decide +kernel
theorem dL_law_768 : decode cL_law 768 = .ok (.iconst 0, 1) := by decide +kernel
theorem dL_law_769 : decode cL_law 769 = .ok (.ireturn, 1) := by decide +kernel
theorem dL_law_770 : decode cL_law 770 = .ok (.iinc 3 5, 3) := by decide +kernel
theorem dL_law_773 : decode cL_law 773 = .ok (.goto (-755), 3) := by decide +kernel
theorem dL_law_776 : decode cL_law 776 = .ok (.iconst 1, 1) := by decide +kernel
theorem dL_law_777 : decode cL_law 777 = .ok (.ireturn, 1) := by decide +kernel
