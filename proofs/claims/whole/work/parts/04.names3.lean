theorem dX4_loose_40 : decode cX4_loose 40 = .ok (.iload_n 1, 1) := by decide +kernel
theorem dX4_loose_41 : decode cX4_loose 41 = .ok (.iaload, 1) := by decide +kernel
theorem dX4_loose_42 : decode cX4_loose 42 = .ok (.ireturn, 1) := by decide +kernel
theorem dX4_origins_0 : decode cX4_origins 0 = .ok (.aload_n 0, 1) := by decide +kernel
theorem dX4_origins_1 : decode cX4_origins 1 = .ok (.getfield 11, 3) := by decide +kernel
theorem dX4_origins_4 : decode cX4_origins 4 = .ok (.aload_n 0, 1) := by decide +kernel
theorem dX4_origins_5 : decode cX4_origins 5 = .ok (.getfield 15, 3) := by decide +kernel
theorem dX4_origins_8 : decode cX4_origins 8 = .ok (.aaload, 1) := by decide +kernel
theorem dX4_origins_9 : decode cX4_origins 9 = .ok (.astore_n 3, 1) := by decide +kernel
theorem dX4_origins_10 : decode cX4_origins 10 = .ok (.aload_n 3, 1) := by decide +kernel
theorem dX4_origins_11 : decode cX4_origins 11 = .ok (.iload_n 1, 1) := by decide +kernel
theorem dX4_origins_12 : decode cX4_origins 12 = .ok (.invokevirtual 86, 3) := by decide +kernel
theorem dX4_origins_15 : decode cX4_origins 15 = .ok (.ifCond .eq 10, 3) := by decide +kernel
theorem dX4_origins_18 : decode cX4_origins 18 = .ok (.iload_n 2, 1) := by decide +kernel
theorem dX4_origins_19 : decode cX4_origins 19 = .ok (.invokestatic 111, 3) := by decide +kernel
theorem dX4_origins_22 : decode cX4_origins 22 = .ok (.ifCond .ne 10, 3) := by decide +kernel
theorem dX4_origins_25 : decode cX4_origins 25 = .ok (.aload_n 0, 1) := by decide +kernel
theorem dX4_origins_26 : decode cX4_origins 26 = .ok (.bipush (-2), 2) := by decide +kernel
theorem dX4_origins_28 : decode cX4_origins 28 = .ok (.invokevirtual 90, 3) := by decide +kernel
theorem dX4_origins_31 : decode cX4_origins 31 = .ok (.ireturn, 1) := by decide +kernel
theorem dX4_origins_32 : decode cX4_origins 32 = .ok (.iconst 0, 1) := by decide +kernel
theorem dX4_origins_33 : decode cX4_origins 33 = .ok (.istore 4, 2) := by decide +kernel
theorem dX4_origins_35 : decode cX4_origins 35 = .ok (.iconst 0, 1) := by decide +kernel
theorem dX4_origins_36 : decode cX4_origins 36 = .ok (.istore 5, 2) := by decide +kernel
theorem dX4_origins_38 : decode cX4_origins 38 = .ok (.iload 5, 2) := by decide +kernel
theorem dX4_origins_40 : decode cX4_origins 40 = .ok (.bipush 8, 2) := by decide +kernel
theorem dX4_origins_42 : decode cX4_origins 42 = .ok (.if_icmp .ge 46, 3) := by decide +kernel
theorem dX4_origins_45 : decode cX4_origins 45 = .ok (.aload_n 0, 1) := by decide +kernel
theorem dX4_origins_46 : decode cX4_origins 46 = .ok (.getfield 25, 3) := by decide +kernel
theorem dX4_origins_49 : decode cX4_origins 49 = .ok (.aload_n 3, 1) := by decide +kernel
theorem dX4_origins_50 : decode cX4_origins 50 = .ok (.iconst 0, 1) := by decide +kernel
theorem dX4_origins_51 : decode cX4_origins 51 = .ok (.iconst 1, 1) := by decide +kernel
theorem dX4_origins_52 : decode cX4_origins 52 = .ok (.iload 5, 2) := by decide +kernel
theorem dX4_origins_54 : decode cX4_origins 54 = .ok (.ishl, 1) := by decide +kernel
theorem dX4_origins_55 : decode cX4_origins 55 = .ok (.invokevirtual 120, 3) := by decide +kernel
theorem dX4_origins_58 : decode cX4_origins 58 = .ok (.aload_n 0, 1) := by decide +kernel
theorem dX4_origins_59 : decode cX4_origins 59 = .ok (.getfield 25, 3) := by decide +kernel
theorem dX4_origins_62 : decode cX4_origins 62 = .ok (.iload_n 1, 1) := by decide +kernel
theorem dX4_origins_63 : decode cX4_origins 63 = .ok (.invokevirtual 128, 3) := by decide +kernel
theorem dX4_origins_66 : decode cX4_origins 66 = .ok (.iload_n 2, 1) := by decide +kernel
theorem dX4_origins_67 : decode cX4_origins 67 = .ok (.invokestatic 137, 3) := by decide +kernel
theorem dX4_origins_70 : decode cX4_origins 70 = .ok (.ifCond .eq 12, 3) := by decide +kernel
theorem dX4_origins_73 : decode cX4_origins 73 = .ok (.iload 4, 2) := by decide +kernel
theorem dX4_origins_75 : decode cX4_origins 75 = .ok (.iconst 1, 1) := by decide +kernel
theorem dX4_origins_76 : decode cX4_origins 76 = .ok (.iload 5, 2) := by decide +kernel
theorem dX4_origins_78 : decode cX4_origins 78 = .ok (.ishl, 1) := by decide +kernel
theorem dX4_origins_79 : decode cX4_origins 79 = .ok (.ior, 1) := by decide +kernel
theorem dX4_origins_80 : decode cX4_origins 80 = .ok (.istore 4, 2) := by decide +kernel
theorem dX4_origins_82 : decode cX4_origins 82 = .ok (.iinc 5 1, 3) := by decide +kernel
theorem dX4_origins_85 : decode cX4_origins 85 = .ok (.goto (-47), 3) := by decide +kernel
theorem dX4_origins_88 : decode cX4_origins 88 = .ok (.iload 4, 2) := by decide +kernel
theorem dX4_origins_90 : decode cX4_origins 90 = .ok (.ireturn, 1) := by decide +kernel
theorem dX4_summary_0 : decode cX4_summary 0 = .ok (.aload_n 0, 1) := by decide +kernel
theorem dX4_summary_1 : decode cX4_summary 1 = .ok (.getfield 11, 3) := by decide +kernel
theorem dX4_summary_4 : decode cX4_summary 4 = .ok (.aload_n 0, 1) := by decide +kernel
theorem dX4_summary_5 : decode cX4_summary 5 = .ok (.getfield 15, 3) := by decide +kernel
theorem dX4_summary_8 : decode cX4_summary 8 = .ok (.aaload, 1) := by decide +kernel
theorem dX4_summary_9 : decode cX4_summary 9 = .ok (.astore_n 3, 1) := by decide +kernel
theorem dX4_summary_10 : decode cX4_summary 10 = .ok (.aload_n 3, 1) := by decide +kernel
theorem dX4_summary_11 : decode cX4_summary 11 = .ok (.iload_n 1, 1) := by decide +kernel
theorem dX4_summary_12 : decode cX4_summary 12 = .ok (.invokevirtual 100, 3) := by decide +kernel
theorem dX4_summary_15 : decode cX4_summary 15 = .ok (.ifCond .eq 10, 3) := by decide +kernel
theorem dX4_summary_18 : decode cX4_summary 18 = .ok (.iload_n 2, 1) := by decide +kernel
theorem dX4_summary_19 : decode cX4_summary 19 = .ok (.invokestatic 111, 3) := by decide +kernel
theorem dX4_summary_22 : decode cX4_summary 22 = .ok (.ifCond .ne 10, 3) := by decide +kernel
theorem dX4_summary_25 : decode cX4_summary 25 = .ok (.aload_n 0, 1) := by decide +kernel
theorem dX4_summary_26 : decode cX4_summary 26 = .ok (.bipush (-2), 2) := by decide +kernel
theorem dX4_summary_28 : decode cX4_summary 28 = .ok (.invokevirtual 90, 3) := by decide +kernel
theorem dX4_summary_31 : decode cX4_summary 31 = .ok (.ireturn, 1) := by decide +kernel
theorem dX4_summary_32 : decode cX4_summary 32 = .ok (.aload_n 3, 1) := by decide +kernel
theorem dX4_summary_33 : decode cX4_summary 33 = .ok (.getfield 140, 3) := by decide +kernel
theorem dX4_summary_36 : decode cX4_summary 36 = .ok (.iload_n 1, 1) := by decide +kernel
theorem dX4_summary_37 : decode cX4_summary 37 = .ok (.iaload, 1) := by decide +kernel
theorem dX4_summary_38 : decode cX4_summary 38 = .ok (.istore 4, 2) := by decide +kernel
theorem dX4_summary_40 : decode cX4_summary 40 = .ok (.iload 4, 2) := by decide +kernel
theorem dX4_summary_42 : decode cX4_summary 42 = .ok (.iconst (-1), 1) := by decide +kernel
theorem dX4_summary_43 : decode cX4_summary 43 = .ok (.if_icmp .ne 10, 3) := by decide +kernel
theorem dX4_summary_46 : decode cX4_summary 46 = .ok (.aload_n 0, 1) := by decide +kernel
theorem dX4_summary_47 : decode cX4_summary 47 = .ok (.bipush (-3), 2) := by decide +kernel
theorem dX4_summary_49 : decode cX4_summary 49 = .ok (.invokevirtual 90, 3) := by decide +kernel
theorem dX4_summary_52 : decode cX4_summary 52 = .ok (.ireturn, 1) := by decide +kernel
theorem dX4_summary_53 : decode cX4_summary 53 = .ok (.aload_n 3, 1) := by decide +kernel
theorem dX4_summary_54 : decode cX4_summary 54 = .ok (.iload_n 1, 1) := by decide +kernel
theorem dX4_summary_55 : decode cX4_summary 55 = .ok (.iconst 1, 1) := by decide +kernel
theorem dX4_summary_56 : decode cX4_summary 56 = .ok (.iload_n 2, 1) := by decide +kernel
theorem dX4_summary_57 : decode cX4_summary 57 = .ok (.invokevirtual 114, 3) := by decide +kernel
theorem dX4_summary_60 : decode cX4_summary 60 = .ok (.istore 5, 2) := by decide +kernel
theorem dX4_summary_62 : decode cX4_summary 62 = .ok (.aload_n 0, 1) := by decide +kernel
theorem dX4_summary_63 : decode cX4_summary 63 = .ok (.getfield 25, 3) := by decide +kernel
theorem dX4_summary_66 : decode cX4_summary 66 = .ok (.aload_n 3, 1) := by decide +kernel
theorem dX4_summary_67 : decode cX4_summary 67 = .ok (.iload 4, 2) := by decide +kernel
theorem dX4_summary_69 : decode cX4_summary 69 = .ok (.iload 5, 2) := by decide +kernel
theorem dX4_summary_71 : decode cX4_summary 71 = .ok (.invokevirtual 120, 3) := by decide +kernel
theorem dX4_summary_74 : decode cX4_summary 74 = .ok (.iconst 0, 1) := by decide +kernel
theorem dX4_summary_75 : decode cX4_summary 75 = .ok (.istore 6, 2) := by decide +kernel
theorem dX4_summary_77 : decode cX4_summary 77 = .ok (.iconst 0, 1) := by decide +kernel
theorem dX4_summary_78 : decode cX4_summary 78 = .ok (.istore 7, 2) := by decide +kernel
theorem dX4_summary_80 : decode cX4_summary 80 = .ok (.iload 7, 2) := by decide +kernel
theorem dX4_summary_82 : decode cX4_summary 82 = .ok (.bipush 8, 2) := by decide +kernel
theorem dX4_summary_84 : decode cX4_summary 84 = .ok (.if_icmp .ge 50, 3) := by decide +kernel
theorem dX4_summary_87 : decode cX4_summary 87 = .ok (.iload 5, 2) := by decide +kernel
theorem dX4_summary_89 : decode cX4_summary 89 = .ok (.iload 7, 2) := by decide +kernel
theorem dX4_summary_91 : decode cX4_summary 91 = .ok (.invokestatic 137, 3) := by decide +kernel
theorem dX4_summary_94 : decode cX4_summary 94 = .ok (.ifCond .eq 34, 3) := by decide +kernel
theorem dX4_summary_97 : decode cX4_summary 97 = .ok (.iload 6, 2) := by decide +kernel
theorem dX4_summary_99 : decode cX4_summary 99 = .ok (.aload_n 3, 1) := by decide +kernel
theorem dX4_summary_100 : decode cX4_summary 100 = .ok (.iload_n 1, 1) := by decide +kernel
theorem dX4_summary_101 : decode cX4_summary 101 = .ok (.iconst 2, 1) := by decide +kernel
theorem dX4_summary_102 : decode cX4_summary 102 = .ok (.aload_n 0, 1) := by decide +kernel
theorem dX4_summary_103 : decode cX4_summary 103 = .ok (.getfield 25, 3) := by decide +kernel
theorem dX4_summary_106 : decode cX4_summary 106 = .ok (.getfield 143, 3) := by decide +kernel
theorem dX4_summary_109 : decode cX4_summary 109 = .ok (.aload_n 3, 1) := by decide +kernel
theorem dX4_summary_110 : decode cX4_summary 110 = .ok (.getfield 146, 3) := by decide +kernel
theorem dX4_summary_113 : decode cX4_summary 113 = .ok (.iload 4, 2) := by decide +kernel
theorem dX4_summary_115 : decode cX4_summary 115 = .ok (.iaload, 1) := by decide +kernel
theorem dX4_summary_116 : decode cX4_summary 116 = .ok (.iload 7, 2) := by decide +kernel
theorem dX4_summary_118 : decode cX4_summary 118 = .ok (.invokestatic 149, 3) := by decide +kernel
theorem dX4_summary_121 : decode cX4_summary 121 = .ok (.iaload, 1) := by decide +kernel
theorem dX4_summary_122 : decode cX4_summary 122 = .ok (.invokevirtual 152, 3) := by decide +kernel
theorem dX4_summary_125 : decode cX4_summary 125 = .ok (.ior, 1) := by decide +kernel
theorem dX4_summary_126 : decode cX4_summary 126 = .ok (.istore 6, 2) := by decide +kernel
theorem dX4_summary_128 : decode cX4_summary 128 = .ok (.iinc 7 1, 3) := by decide +kernel
theorem dX4_summary_131 : decode cX4_summary 131 = .ok (.goto (-51), 3) := by decide +kernel
theorem dX4_summary_134 : decode cX4_summary 134 = .ok (.iload 6, 2) := by decide +kernel
theorem dX4_summary_136 : decode cX4_summary 136 = .ok (.ireturn, 1) := by decide +kernel
theorem dX4_entry_0 : decode cX4_entry 0 = .ok (.iload_n 1, 1) := by decide +kernel
theorem dX4_entry_1 : decode cX4_entry 1 = .ok (.ifCond .lt 12, 3) := by decide +kernel
theorem dX4_entry_4 : decode cX4_entry 4 = .ok (.iload_n 2, 1) := by decide +kernel
theorem dX4_entry_5 : decode cX4_entry 5 = .ok (.ifCond .lt 8, 3) := by decide +kernel
theorem dX4_entry_8 : decode cX4_entry 8 = .ok (.iload_n 2, 1) := by decide +kernel
theorem dX4_entry_9 : decode cX4_entry 9 = .ok (.iconst 3, 1) := by decide +kernel
theorem dX4_entry_10 : decode cX4_entry 10 = .ok (.if_icmp .le 10, 3) := by decide +kernel
theorem dX4_entry_13 : decode cX4_entry 13 = .ok (.aload_n 0, 1) := by decide +kernel
theorem dX4_entry_14 : decode cX4_entry 14 = .ok (.bipush (-2), 2) := by decide +kernel
theorem dX4_entry_16 : decode cX4_entry 16 = .ok (.invokevirtual 90, 3) := by decide +kernel
theorem dX4_entry_19 : decode cX4_entry 19 = .ok (.ireturn, 1) := by decide +kernel
theorem dX4_entry_20 : decode cX4_entry 20 = .ok (.aload_n 0, 1) := by decide +kernel
theorem dX4_entry_21 : decode cX4_entry 21 = .ok (.getfield 11, 3) := by decide +kernel
theorem dX4_entry_24 : decode cX4_entry 24 = .ok (.aload_n 0, 1) := by decide +kernel
theorem dX4_entry_25 : decode cX4_entry 25 = .ok (.getfield 15, 3) := by decide +kernel
theorem dX4_entry_28 : decode cX4_entry 28 = .ok (.aaload, 1) := by decide +kernel
theorem dX4_entry_29 : decode cX4_entry 29 = .ok (.astore_n 3, 1) := by decide +kernel
theorem dX4_entry_30 : decode cX4_entry 30 = .ok (.aload_n 0, 1) := by decide +kernel
theorem dX4_entry_31 : decode cX4_entry 31 = .ok (.getfield 25, 3) := by decide +kernel
theorem dX4_entry_34 : decode cX4_entry 34 = .ok (.aload_n 3, 1) := by decide +kernel
theorem dX4_entry_35 : decode cX4_entry 35 = .ok (.iconst 0, 1) := by decide +kernel
theorem dX4_entry_36 : decode cX4_entry 36 = .ok (.aload_n 3, 1) := by decide +kernel
theorem dX4_entry_37 : decode cX4_entry 37 = .ok (.getfield 117, 3) := by decide +kernel
theorem dX4_entry_40 : decode cX4_entry 40 = .ok (.invokevirtual 120, 3) := by decide +kernel
theorem dX4_entry_43 : decode cX4_entry 43 = .ok (.iload_n 1, 1) := by decide +kernel
theorem dX4_entry_44 : decode cX4_entry 44 = .ok (.aload_n 0, 1) := by decide +kernel
theorem dX4_entry_45 : decode cX4_entry 45 = .ok (.getfield 25, 3) := by decide +kernel
theorem dX4_entry_48 : decode cX4_entry 48 = .ok (.getfield 155, 3) := by decide +kernel
theorem dX4_entry_51 : decode cX4_entry 51 = .ok (.if_icmp .ge 13, 3) := by decide +kernel
theorem dX4_entry_54 : decode cX4_entry 54 = .ok (.aload_n 0, 1) := by decide +kernel
theorem dX4_entry_55 : decode cX4_entry 55 = .ok (.aload_n 3, 1) := by decide +kernel
theorem dX4_entry_56 : decode cX4_entry 56 = .ok (.iload_n 1, 1) := by decide +kernel
theorem dX4_entry_57 : decode cX4_entry 57 = .ok (.iload_n 2, 1) := by decide +kernel
theorem dX4_entry_58 : decode cX4_entry 58 = .ok (.invokevirtual 158, 3) := by decide +kernel
theorem dX4_entry_61 : decode cX4_entry 61 = .ok (.goto 4, 3) := by decide +kernel
theorem dX4_entry_64 : decode cX4_entry 64 = .ok (.iconst (-1), 1) := by decide +kernel
theorem dX4_entry_65 : decode cX4_entry 65 = .ok (.ireturn, 1) := by decide +kernel
theorem dX4_witness_0 : decode cX4_witness 0 = .ok (.aload_n 0, 1) := by decide +kernel
theorem dX4_witness_1 : decode cX4_witness 1 = .ok (.getfield 11, 3) := by decide +kernel
theorem dX4_witness_4 : decode cX4_witness 4 = .ok (.aload_n 0, 1) := by decide +kernel
theorem dX4_witness_5 : decode cX4_witness 5 = .ok (.getfield 15, 3) := by decide +kernel
theorem dX4_witness_8 : decode cX4_witness 8 = .ok (.aaload, 1) := by decide +kernel
theorem dX4_witness_9 : decode cX4_witness 9 = .ok (.astore 4, 2) := by decide +kernel
theorem dX4_witness_11 : decode cX4_witness 11 = .ok (.aload 4, 2) := by decide +kernel
theorem dX4_witness_13 : decode cX4_witness 13 = .ok (.iload_n 1, 1) := by decide +kernel
theorem dX4_witness_14 : decode cX4_witness 14 = .ok (.invokevirtual 86, 3) := by decide +kernel
theorem dX4_witness_17 : decode cX4_witness 17 = .ok (.ifCond .eq 15, 3) := by decide +kernel
theorem dX4_witness_20 : decode cX4_witness 20 = .ok (.iload_n 2, 1) := by decide +kernel
theorem dX4_witness_21 : decode cX4_witness 21 = .ok (.invokestatic 111, 3) := by decide +kernel
theorem dX4_witness_24 : decode cX4_witness 24 = .ok (.ifCond .eq 8, 3) := by decide +kernel
theorem dX4_witness_27 : decode cX4_witness 27 = .ok (.iload_n 3, 1) := by decide +kernel
theorem dX4_witness_28 : decode cX4_witness 28 = .ok (.iconst (-1), 1) := by decide +kernel
theorem dX4_witness_29 : decode cX4_witness 29 = .ok (.if_icmp .ge 10, 3) := by decide +kernel
theorem dX4_witness_32 : decode cX4_witness 32 = .ok (.aload_n 0, 1) := by decide +kernel
theorem dX4_witness_33 : decode cX4_witness 33 = .ok (.bipush (-2), 2) := by decide +kernel
theorem dX4_witness_35 : decode cX4_witness 35 = .ok (.invokevirtual 90, 3) := by decide +kernel
theorem dX4_witness_38 : decode cX4_witness 38 = .ok (.ireturn, 1) := by decide +kernel
theorem dX4_witness_39 : decode cX4_witness 39 = .ok (.aload_n 0, 1) := by decide +kernel
theorem dX4_witness_40 : decode cX4_witness 40 = .ok (.getfield 25, 3) := by decide +kernel
theorem dX4_witness_43 : decode cX4_witness 43 = .ok (.aload 4, 2) := by decide +kernel
theorem dX4_witness_45 : decode cX4_witness 45 = .ok (.iconst 0, 1) := by decide +kernel
theorem dX4_witness_46 : decode cX4_witness 46 = .ok (.aload 4, 2) := by decide +kernel
theorem dX4_witness_48 : decode cX4_witness 48 = .ok (.getfield 117, 3) := by decide +kernel
theorem dX4_witness_51 : decode cX4_witness 51 = .ok (.invokevirtual 120, 3) := by decide +kernel
theorem dX4_witness_54 : decode cX4_witness 54 = .ok (.aload_n 0, 1) := by decide +kernel
theorem dX4_witness_55 : decode cX4_witness 55 = .ok (.getfield 25, 3) := by decide +kernel
theorem dX4_witness_58 : decode cX4_witness 58 = .ok (.iload_n 1, 1) := by decide +kernel
theorem dX4_witness_59 : decode cX4_witness 59 = .ok (.iload_n 2, 1) := by decide +kernel
theorem dX4_witness_60 : decode cX4_witness 60 = .ok (.invokevirtual 161, 3) := by decide +kernel
theorem dX4_witness_63 : decode cX4_witness 63 = .ok (.istore 5, 2) := by decide +kernel
theorem dX4_witness_65 : decode cX4_witness 65 = .ok (.iload 5, 2) := by decide +kernel
theorem dX4_witness_67 : decode cX4_witness 67 = .ok (.iconst (-1), 1) := by decide +kernel
theorem dX4_witness_68 : decode cX4_witness 68 = .ok (.if_icmp .ne 5, 3) := by decide +kernel
theorem dX4_witness_71 : decode cX4_witness 71 = .ok (.iconst (-1), 1) := by decide +kernel
theorem dX4_witness_72 : decode cX4_witness 72 = .ok (.ireturn, 1) := by decide +kernel
theorem dX4_witness_73 : decode cX4_witness 73 = .ok (.iload_n 3, 1) := by decide +kernel
theorem dX4_witness_74 : decode cX4_witness 74 = .ok (.iconst (-1), 1) := by decide +kernel
theorem dX4_witness_75 : decode cX4_witness 75 = .ok (.if_icmp .ne 14, 3) := by decide +kernel
theorem dX4_witness_78 : decode cX4_witness 78 = .ok (.aload_n 0, 1) := by decide +kernel
theorem dX4_witness_79 : decode cX4_witness 79 = .ok (.getfield 25, 3) := by decide +kernel
theorem dX4_witness_82 : decode cX4_witness 82 = .ok (.getfield 164, 3) := by decide +kernel
theorem dX4_witness_85 : decode cX4_witness 85 = .ok (.iload 5, 2) := by decide +kernel
theorem dX4_witness_87 : decode cX4_witness 87 = .ok (.iaload, 1) := by decide +kernel
theorem dX4_witness_88 : decode cX4_witness 88 = .ok (.ireturn, 1) := by decide +kernel
theorem dX4_witness_89 : decode cX4_witness 89 = .ok (.iload_n 3, 1) := by decide +kernel
theorem dX4_witness_90 : decode cX4_witness 90 = .ok (.aload_n 0, 1) := by decide +kernel
theorem dX4_witness_91 : decode cX4_witness 91 = .ok (.getfield 25, 3) := by decide +kernel
theorem dX4_witness_94 : decode cX4_witness 94 = .ok (.getfield 164, 3) := by decide +kernel
theorem dX4_witness_97 : decode cX4_witness 97 = .ok (.iload 5, 2) := by decide +kernel
theorem dX4_witness_99 : decode cX4_witness 99 = .ok (.iaload, 1) := by decide +kernel
theorem dX4_witness_100 : decode cX4_witness 100 = .ok (.if_icmp .ge 16, 3) := by decide +kernel
theorem dX4_witness_103 : decode cX4_witness 103 = .ok (.aload_n 0, 1) := by decide +kernel
theorem dX4_witness_104 : decode cX4_witness 104 = .ok (.getfield 25, 3) := by decide +kernel
theorem dX4_witness_107 : decode cX4_witness 107 = .ok (.iload 5, 2) := by decide +kernel
theorem dX4_witness_109 : decode cX4_witness 109 = .ok (.iload_n 3, 1) := by decide +kernel
theorem dX4_witness_110 : decode cX4_witness 110 = .ok (.invokevirtual 167, 3) := by decide +kernel
theorem dX4_witness_113 : decode cX4_witness 113 = .ok (.goto 4, 3) := by decide +kernel
theorem dX4_witness_116 : decode cX4_witness 116 = .ok (.iconst (-1), 1) := by decide +kernel
theorem dX4_witness_117 : decode cX4_witness 117 = .ok (.ireturn, 1) := by decide +kernel
theorem dX4_type_0 : decode cX4_type 0 = .ok (.iload_n 1, 1) := by decide +kernel
theorem dX4_type_1 : decode cX4_type 1 = .ok (.ifCond .lt 9, 3) := by decide +kernel
theorem dX4_type_4 : decode cX4_type 4 = .ok (.iload_n 1, 1) := by decide +kernel
theorem dX4_type_5 : decode cX4_type 5 = .ok (.bipush 127, 2) := by decide +kernel
theorem dX4_type_7 : decode cX4_type 7 = .ok (.if_icmp .le 10, 3) := by decide +kernel
theorem dX4_type_10 : decode cX4_type 10 = .ok (.aload_n 0, 1) := by decide +kernel
theorem dX4_type_11 : decode cX4_type 11 = .ok (.bipush (-2), 2) := by decide +kernel
theorem dX4_type_13 : decode cX4_type 13 = .ok (.invokevirtual 90, 3) := by decide +kernel
theorem dX4_type_16 : decode cX4_type 16 = .ok (.ireturn, 1) := by decide +kernel
theorem dX4_type_17 : decode cX4_type 17 = .ok (.aload_n 0, 1) := by decide +kernel
theorem dX4_type_18 : decode cX4_type 18 = .ok (.getfield 39, 3) := by decide +kernel
theorem dX4_type_21 : decode cX4_type 21 = .ok (.iload_n 1, 1) := by decide +kernel
theorem dX4_type_22 : decode cX4_type 22 = .ok (.invokevirtual 170, 3) := by decide +kernel
theorem dX4_type_25 : decode cX4_type 25 = .ok (.ifCond .eq 13, 3) := by decide +kernel
theorem dX4_type_28 : decode cX4_type 28 = .ok (.aload_n 0, 1) := by decide +kernel
theorem dX4_type_29 : decode cX4_type 29 = .ok (.getfield 39, 3) := by decide +kernel
theorem dX4_type_32 : decode cX4_type 32 = .ok (.getfield 173, 3) := by decide +kernel
theorem dX4_type_35 : decode cX4_type 35 = .ok (.goto 9, 3) := by decide +kernel
theorem dX4_type_38 : decode cX4_type 38 = .ok (.aload_n 0, 1) := by decide +kernel
theorem dX4_type_39 : decode cX4_type 39 = .ok (.bipush (-4), 2) := by decide +kernel
theorem dX4_type_41 : decode cX4_type 41 = .ok (.invokevirtual 90, 3) := by decide +kernel
theorem dX4_type_44 : decode cX4_type 44 = .ok (.ireturn, 1) := by decide +kernel
theorem dX4_clear_0 : decode cX4_clear 0 = .ok (.aload_n 0, 1) := by decide +kernel
theorem dX4_clear_1 : decode cX4_clear 1 = .ok (.getfield 39, 3) := by decide +kernel
theorem dX4_clear_4 : decode cX4_clear 4 = .ok (.getfield 173, 3) := by decide +kernel
theorem dX4_clear_7 : decode cX4_clear 7 = .ok (.istore_n 1, 1) := by decide +kernel
theorem dX4_clear_8 : decode cX4_clear 8 = .ok (.aload_n 0, 1) := by decide +kernel
theorem dX4_clear_9 : decode cX4_clear 9 = .ok (.getfield 39, 3) := by decide +kernel
theorem dX4_clear_12 : decode cX4_clear 12 = .ok (.iconst 0, 1) := by decide +kernel
theorem dX4_clear_13 : decode cX4_clear 13 = .ok (.putfield 173, 3) := by decide +kernel
theorem dX4_clear_16 : decode cX4_clear 16 = .ok (.iload_n 1, 1) := by decide +kernel
theorem dX4_clear_17 : decode cX4_clear 17 = .ok (.ireturn, 1) := by decide +kernel
theorem dX4_does_0 : decode cX4_does 0 = .ok (.aload_n 0, 1) := by decide +kernel
theorem dX4_does_1 : decode cX4_does 1 = .ok (.getfield 39, 3) := by decide +kernel
theorem dX4_does_4 : decode cX4_does 4 = .ok (.invokevirtual 176, 3) := by decide +kernel
theorem dX4_does_7 : decode cX4_does 7 = .ok (.istore_n 1, 1) := by decide +kernel
theorem dX4_does_8 : decode cX4_does 8 = .ok (.iload_n 1, 1) := by decide +kernel
theorem dX4_does_9 : decode cX4_does 9 = .ok (.iconst (-1), 1) := by decide +kernel
theorem dX4_does_10 : decode cX4_does 10 = .ok (.if_icmp .eq 8, 3) := by decide +kernel
theorem dX4_does_13 : decode cX4_does 13 = .ok (.bipush (-10), 2) := by decide +kernel
theorem dX4_does_15 : decode cX4_does 15 = .ok (.iload_n 1, 1) := by decide +kernel
theorem dX4_does_16 : decode cX4_does 16 = .ok (.isub, 1) := by decide +kernel
theorem dX4_does_17 : decode cX4_does 17 = .ok (.ireturn, 1) := by decide +kernel
theorem dX4_does_18 : decode cX4_does 18 = .ok (.aload_n 0, 1) := by decide +kernel
theorem dX4_does_19 : decode cX4_does 19 = .ok (.invokevirtual 57, 3) := by decide +kernel
theorem dX4_does_22 : decode cX4_does 22 = .ok (.astore_n 2, 1) := by decide +kernel
theorem dX4_does_23 : decode cX4_does 23 = .ok (.iconst 0, 1) := by decide +kernel
theorem dX4_does_24 : decode cX4_does 24 = .ok (.istore_n 3, 1) := by decide +kernel
theorem dX4_does_25 : decode cX4_does 25 = .ok (.iload_n 3, 1) := by decide +kernel
theorem dX4_does_26 : decode cX4_does 26 = .ok (.aload_n 0, 1) := by decide +kernel
theorem dX4_does_27 : decode cX4_does 27 = .ok (.getfield 39, 3) := by decide +kernel
theorem dX4_does_30 : decode cX4_does 30 = .ok (.getfield 179, 3) := by decide +kernel
theorem dX4_does_33 : decode cX4_does 33 = .ok (.if_icmp .ge 24, 3) := by decide +kernel
theorem dX4_does_36 : decode cX4_does 36 = .ok (.aload_n 0, 1) := by decide +kernel
theorem dX4_does_37 : decode cX4_does 37 = .ok (.aload_n 2, 1) := by decide +kernel
theorem dX4_does_38 : decode cX4_does 38 = .ok (.iload_n 3, 1) := by decide +kernel
theorem dX4_does_39 : decode cX4_does 39 = .ok (.invokevirtual 182, 3) := by decide +kernel
theorem dX4_does_42 : decode cX4_does 42 = .ok (.ifCond .ge 9, 3) := by decide +kernel
theorem dX4_does_45 : decode cX4_does 45 = .ok (.sipush (-1000), 3) := by decide +kernel
theorem dX4_does_48 : decode cX4_does 48 = .ok (.iload_n 3, 1) := by decide +kernel
theorem dX4_does_49 : decode cX4_does 49 = .ok (.isub, 1) := by decide +kernel
theorem dX4_does_50 : decode cX4_does 50 = .ok (.ireturn, 1) := by decide +kernel
theorem dX4_does_51 : decode cX4_does 51 = .ok (.iinc 3 1, 3) := by decide +kernel
theorem dX4_does_54 : decode cX4_does 54 = .ok (.goto (-29), 3) := by decide +kernel
theorem dX4_does_57 : decode cX4_does 57 = .ok (.aload_n 0, 1) := by decide +kernel
theorem dX4_does_58 : decode cX4_does 58 = .ok (.aload_n 0, 1) := by decide +kernel
theorem dX4_does_59 : decode cX4_does 59 = .ok (.getfield 39, 3) := by decide +kernel
theorem dX4_does_62 : decode cX4_does 62 = .ok (.getfield 179, 3) := by decide +kernel
theorem dX4_does_65 : decode cX4_does 65 = .ok (.invokevirtual 61, 3) := by decide +kernel
theorem dX4_does_68 : decode cX4_does 68 = .ok (.ireturn, 1) := by decide +kernel
theorem dX4_back_0 : decode cX4_back 0 = .ok (.aload_n 0, 1) := by decide +kernel
theorem dX4_back_1 : decode cX4_back 1 = .ok (.getfield 19, 3) := by decide +kernel
theorem dX4_back_4 : decode cX4_back 4 = .ok (.ifCond .ne 10, 3) := by decide +kernel
theorem dX4_back_7 : decode cX4_back 7 = .ok (.aload_n 0, 1) := by decide +kernel
theorem dX4_back_8 : decode cX4_back 8 = .ok (.bipush (-3), 2) := by decide +kernel
theorem dX4_back_10 : decode cX4_back 10 = .ok (.invokevirtual 90, 3) := by decide +kernel
theorem dX4_back_13 : decode cX4_back 13 = .ok (.ireturn, 1) := by decide +kernel
theorem dX4_back_14 : decode cX4_back 14 = .ok (.aload_n 0, 1) := by decide +kernel
theorem dX4_back_15 : decode cX4_back 15 = .ok (.dup, 1) := by decide +kernel
theorem dX4_back_16 : decode cX4_back 16 = .ok (.getfield 19, 3) := by decide +kernel
theorem dX4_back_19 : decode cX4_back 19 = .ok (.iconst 1, 1) := by decide +kernel
theorem dX4_back_20 : decode cX4_back 20 = .ok (.isub, 1) := by decide +kernel
theorem dX4_back_21 : decode cX4_back 21 = .ok (.putfield 19, 3) := by decide +kernel
theorem dX4_back_24 : decode cX4_back 24 = .ok (.aload_n 0, 1) := by decide +kernel
theorem dX4_back_25 : decode cX4_back 25 = .ok (.aload_n 0, 1) := by decide +kernel
theorem dX4_back_26 : decode cX4_back 26 = .ok (.getfield 15, 3) := by decide +kernel
theorem dX4_back_29 : decode cX4_back 29 = .ok (.bipush 7, 2) := by decide +kernel
theorem dX4_back_31 : decode cX4_back 31 = .ok (.iadd, 1) := by decide +kernel
theorem dX4_back_32 : decode cX4_back 32 = .ok (.iconst 1, 1) := by decide +kernel
theorem dX4_back_33 : decode cX4_back 33 = .ok (.isub, 1) := by decide +kernel
theorem dX4_back_34 : decode cX4_back 34 = .ok (.bipush 7, 2) := by decide +kernel
theorem dX4_back_36 : decode cX4_back 36 = .ok (.irem, 1) := by decide +kernel
theorem dX4_back_37 : decode cX4_back 37 = .ok (.invokevirtual 185, 3) := by decide +kernel
theorem dX4_back_40 : decode cX4_back 40 = .ok (.aload_n 0, 1) := by decide +kernel
theorem dX4_back_41 : decode cX4_back 41 = .ok (.getfield 19, 3) := by decide +kernel
theorem dX4_back_44 : decode cX4_back 44 = .ok (.ireturn, 1) := by decide +kernel
theorem dX4_told_0 : decode cX4_told 0 = .ok (.iload_n 1, 1) := by decide +kernel
theorem dX4_told_1 : decode cX4_told 1 = .ok (.ifCond .lt 8, 3) := by decide +kernel
theorem dX4_told_4 : decode cX4_told 4 = .ok (.iload_n 1, 1) := by decide +kernel
theorem dX4_told_5 : decode cX4_told 5 = .ok (.iconst 4, 1) := by decide +kernel
theorem dX4_told_6 : decode cX4_told 6 = .ok (.if_icmp .le 10, 3) := by decide +kernel
theorem dX4_told_9 : decode cX4_told 9 = .ok (.aload_n 0, 1) := by decide +kernel
theorem dX4_told_10 : decode cX4_told 10 = .ok (.bipush (-2), 2) := by decide +kernel
theorem dX4_told_12 : decode cX4_told 12 = .ok (.invokevirtual 90, 3) := by decide +kernel
theorem dX4_told_15 : decode cX4_told 15 = .ok (.ireturn, 1) := by decide +kernel
theorem dX4_told_16 : decode cX4_told 16 = .ok (.aload_n 0, 1) := by decide +kernel
theorem dX4_told_17 : decode cX4_told 17 = .ok (.iload_n 1, 1) := by decide +kernel
theorem dX4_told_18 : decode cX4_told 18 = .ok (.invokevirtual 189, 3) := by decide +kernel
theorem dX4_told_21 : decode cX4_told 21 = .ok (.ireturn, 1) := by decide +kernel
theorem dX4_digest_0 : decode cX4_digest 0 = .ok (.aload_n 0, 1) := by decide +kernel
theorem dX4_digest_1 : decode cX4_digest 1 = .ok (.getfield 11, 3) := by decide +kernel
theorem dX4_digest_4 : decode cX4_digest 4 = .ok (.aload_n 0, 1) := by decide +kernel
theorem dX4_digest_5 : decode cX4_digest 5 = .ok (.getfield 15, 3) := by decide +kernel
theorem dX4_digest_8 : decode cX4_digest 8 = .ok (.aaload, 1) := by decide +kernel
theorem dX4_digest_9 : decode cX4_digest 9 = .ok (.astore_n 1, 1) := by decide +kernel
theorem dX4_digest_10 : decode cX4_digest 10 = .ok (.aload_n 0, 1) := by decide +kernel
theorem dX4_digest_11 : decode cX4_digest 11 = .ok (.getfield 25, 3) := by decide +kernel
theorem dX4_digest_14 : decode cX4_digest 14 = .ok (.aload_n 1, 1) := by decide +kernel
theorem dX4_digest_15 : decode cX4_digest 15 = .ok (.iconst 0, 1) := by decide +kernel
theorem dX4_digest_16 : decode cX4_digest 16 = .ok (.aload_n 1, 1) := by decide +kernel
theorem dX4_digest_17 : decode cX4_digest 17 = .ok (.getfield 117, 3) := by decide +kernel
theorem dX4_digest_20 : decode cX4_digest 20 = .ok (.invokevirtual 120, 3) := by decide +kernel
theorem dX4_digest_23 : decode cX4_digest 23 = .ok (.aload_n 0, 1) := by decide +kernel
theorem dX4_digest_24 : decode cX4_digest 24 = .ok (.getfield 32, 3) := by decide +kernel
theorem dX4_digest_27 : decode cX4_digest 27 = .ok (.aload_n 1, 1) := by decide +kernel
theorem dX4_digest_28 : decode cX4_digest 28 = .ok (.invokevirtual 131, 3) := by decide +kernel
theorem dX4_digest_31 : decode cX4_digest 31 = .ok (.ldc2_w 192, 3) := by decide +kernel
theorem dX4_digest_34 : decode cX4_digest 34 = .ok (.lstore_n 2, 1) := by decide +kernel
theorem dX4_digest_35 : decode cX4_digest 35 = .ok (.iconst 0, 1) := by decide +kernel
theorem dX4_digest_36 : decode cX4_digest 36 = .ok (.istore 4, 2) := by decide +kernel
theorem dX4_digest_38 : decode cX4_digest 38 = .ok (.iload 4, 2) := by decide +kernel
theorem dX4_digest_40 : decode cX4_digest 40 = .ok (.iconst 4, 1) := by decide +kernel
theorem dX4_digest_41 : decode cX4_digest 41 = .ok (.if_icmp .gt 23, 3) := by decide +kernel
theorem dX4_digest_44 : decode cX4_digest 44 = .ok (.ldc2_w 194, 3) := by decide +kernel
theorem dX4_digest_47 : decode cX4_digest 47 = .ok (.lload_n 2, 1) := by decide +kernel
theorem dX4_digest_48 : decode cX4_digest 48 = .ok (.lmul, 1) := by decide +kernel
theorem dX4_digest_49 : decode cX4_digest 49 = .ok (.aload_n 0, 1) := by decide +kernel
theorem dX4_digest_50 : decode cX4_digest 50 = .ok (.iload 4, 2) := by decide +kernel
theorem dX4_digest_52 : decode cX4_digest 52 = .ok (.invokevirtual 189, 3) := by decide +kernel
theorem dX4_digest_55 : decode cX4_digest 55 = .ok (.i2l, 1) := by decide +kernel
theorem dX4_digest_56 : decode cX4_digest 56 = .ok (.ladd, 1) := by decide +kernel
theorem dX4_digest_57 : decode cX4_digest 57 = .ok (.lstore_n 2, 1) := by decide +kernel
theorem dX4_digest_58 : decode cX4_digest 58 = .ok (.iinc 4 1, 3) := by decide +kernel
theorem dX4_digest_61 : decode cX4_digest 61 = .ok (.goto (-23), 3) := by decide +kernel
theorem dX4_digest_64 : decode cX4_digest 64 = .ok (.iconst 0, 1) := by decide +kernel
theorem dX4_digest_65 : decode cX4_digest 65 = .ok (.istore 4, 2) := by decide +kernel
theorem dX4_digest_67 : decode cX4_digest 67 = .ok (.iload 4, 2) := by decide +kernel
theorem dX4_digest_69 : decode cX4_digest 69 = .ok (.iconst 5, 1) := by decide +kernel
theorem dX4_digest_70 : decode cX4_digest 70 = .ok (.if_icmp .gt 24, 3) := by decide +kernel
theorem dX4_digest_73 : decode cX4_digest 73 = .ok (.ldc2_w 194, 3) := by decide +kernel
theorem dX4_digest_76 : decode cX4_digest 76 = .ok (.lload_n 2, 1) := by decide +kernel
theorem dX4_digest_77 : decode cX4_digest 77 = .ok (.lmul, 1) := by decide +kernel
theorem dX4_digest_78 : decode cX4_digest 78 = .ok (.aload_n 0, 1) := by decide +kernel
theorem dX4_digest_79 : decode cX4_digest 79 = .ok (.aload_n 1, 1) := by decide +kernel
theorem dX4_digest_80 : decode cX4_digest 80 = .ok (.iload 4, 2) := by decide +kernel
theorem dX4_digest_82 : decode cX4_digest 82 = .ok (.invokevirtual 124, 3) := by decide +kernel
theorem dX4_digest_85 : decode cX4_digest 85 = .ok (.i2l, 1) := by decide +kernel
theorem dX4_digest_86 : decode cX4_digest 86 = .ok (.ladd, 1) := by decide +kernel
theorem dX4_digest_87 : decode cX4_digest 87 = .ok (.lstore_n 2, 1) := by decide +kernel
theorem dX4_digest_88 : decode cX4_digest 88 = .ok (.iinc 4 1, 3) := by decide +kernel
theorem dX4_digest_91 : decode cX4_digest 91 = .ok (.goto (-24), 3) := by decide +kernel
theorem dX4_digest_94 : decode cX4_digest 94 = .ok (.aload_n 0, 1) := by decide +kernel
theorem dX4_digest_95 : decode cX4_digest 95 = .ok (.aload_n 1, 1) := by decide +kernel
theorem dX4_digest_96 : decode cX4_digest 96 = .ok (.aload_n 0, 1) := by decide +kernel
theorem dX4_digest_97 : decode cX4_digest 97 = .ok (.aload_n 1, 1) := by decide +kernel
theorem dX4_digest_98 : decode cX4_digest 98 = .ok (.lload_n 2, 1) := by decide +kernel
theorem dX4_digest_99 : decode cX4_digest 99 = .ok (.invokevirtual 196, 3) := by decide +kernel
theorem dX4_digest_102 : decode cX4_digest 102 = .ok (.invokevirtual 200, 3) := by decide +kernel
theorem dX4_digest_105 : decode cX4_digest 105 = .ok (.lreturn, 1) := by decide +kernel
theorem dX4_isFact_0 : decode cX4_isFact 0 = .ok (.iload_n 0, 1) := by decide +kernel
theorem dX4_isFact_1 : decode cX4_isFact 1 = .ok (.ifCond .lt 13, 3) := by decide +kernel
theorem dX4_isFact_4 : decode cX4_isFact 4 = .ok (.iload_n 0, 1) := by decide +kernel
theorem dX4_isFact_5 : decode cX4_isFact 5 = .ok (.bipush 8, 2) := by decide +kernel
theorem dX4_isFact_7 : decode cX4_isFact 7 = .ok (.if_icmp .ge 7, 3) := by decide +kernel
theorem dX4_isFact_10 : decode cX4_isFact 10 = .ok (.iconst 1, 1) := by decide +kernel
theorem dX4_isFact_11 : decode cX4_isFact 11 = .ok (.goto 4, 3) := by decide +kernel
theorem dX4_isFact_14 : decode cX4_isFact 14 = .ok (.iconst 0, 1) := by decide +kernel
theorem dX4_isFact_15 : decode cX4_isFact 15 = .ok (.ireturn, 1) := by decide +kernel
theorem dX4_isFacts_0 : decode cX4_isFacts 0 = .ok (.iload_n 0, 1) := by decide +kernel
theorem dX4_isFacts_1 : decode cX4_isFacts 1 = .ok (.ifCond .lt 14, 3) := by decide +kernel
theorem dX4_isFacts_4 : decode cX4_isFacts 4 = .ok (.iload_n 0, 1) := by decide +kernel
theorem dX4_isFacts_5 : decode cX4_isFacts 5 = .ok (.sipush 255, 3) := by decide +kernel
theorem dX4_isFacts_8 : decode cX4_isFacts 8 = .ok (.if_icmp .gt 7, 3) := by decide +kernel
theorem dX4_isFacts_11 : decode cX4_isFacts 11 = .ok (.iconst 1, 1) := by decide +kernel
theorem dX4_isFacts_12 : decode cX4_isFacts 12 = .ok (.goto 4, 3) := by decide +kernel
theorem dX4_isFacts_15 : decode cX4_isFacts 15 = .ok (.iconst 0, 1) := by decide +kernel
theorem dX4_isFacts_16 : decode cX4_isFacts 16 = .ok (.ireturn, 1) := by decide +kernel
theorem dX4_has_0 : decode cX4_has 0 = .ok (.iload_n 0, 1) := by decide +kernel
theorem dX4_has_1 : decode cX4_has 1 = .ok (.iload_n 1, 1) := by decide +kernel
theorem dX4_has_2 : decode cX4_has 2 = .ok (.ishr, 1) := by decide +kernel
theorem dX4_has_3 : decode cX4_has 3 = .ok (.iconst 1, 1) := by decide +kernel
theorem dX4_has_4 : decode cX4_has 4 = .ok (.iand, 1) := by decide +kernel
theorem dX4_has_5 : decode cX4_has 5 = .ok (.ifCond .eq 7, 3) := by decide +kernel
theorem dX4_has_8 : decode cX4_has 8 = .ok (.iconst 1, 1) := by decide +kernel
theorem dX4_has_9 : decode cX4_has 9 = .ok (.goto 4, 3) := by decide +kernel
theorem dX4_has_12 : decode cX4_has 12 = .ok (.iconst 0, 1) := by decide +kernel
theorem dX4_has_13 : decode cX4_has 13 = .ok (.ireturn, 1) := by decide +kernel
theorem dX4_cell_0 : decode cX4_cell 0 = .ok (.iload_n 0, 1) := by decide +kernel
theorem dX4_cell_1 : decode cX4_cell 1 = .ok (.bipush 8, 2) := by decide +kernel
theorem dX4_cell_3 : decode cX4_cell 3 = .ok (.imul, 1) := by decide +kernel
theorem dX4_cell_4 : decode cX4_cell 4 = .ok (.iload_n 1, 1) := by decide +kernel
theorem dX4_cell_5 : decode cX4_cell 5 = .ok (.iadd, 1) := by decide +kernel
theorem dX4_cell_6 : decode cX4_cell 6 = .ok (.ireturn, 1) := by decide +kernel
theorem dX4_draft_0 : decode cX4_draft 0 = .ok (.aload_n 0, 1) := by decide +kernel
theorem dX4_draft_1 : decode cX4_draft 1 = .ok (.getfield 11, 3) := by decide +kernel
theorem dX4_draft_4 : decode cX4_draft 4 = .ok (.aload_n 0, 1) := by decide +kernel
theorem dX4_draft_5 : decode cX4_draft 5 = .ok (.getfield 15, 3) := by decide +kernel
theorem dX4_draft_8 : decode cX4_draft 8 = .ok (.iconst 1, 1) := by decide +kernel
theorem dX4_draft_9 : decode cX4_draft 9 = .ok (.iadd, 1) := by decide +kernel
theorem dX4_draft_10 : decode cX4_draft 10 = .ok (.bipush 7, 2) := by decide +kernel
theorem dX4_draft_12 : decode cX4_draft 12 = .ok (.irem, 1) := by decide +kernel
theorem dX4_draft_13 : decode cX4_draft 13 = .ok (.aaload, 1) := by decide +kernel
theorem dX4_draft_14 : decode cX4_draft 14 = .ok (.astore_n 1, 1) := by decide +kernel
theorem dX4_draft_15 : decode cX4_draft 15 = .ok (.aload_n 1, 1) := by decide +kernel
theorem dX4_draft_16 : decode cX4_draft 16 = .ok (.aload_n 0, 1) := by decide +kernel
theorem dX4_draft_17 : decode cX4_draft 17 = .ok (.getfield 11, 3) := by decide +kernel
theorem dX4_draft_20 : decode cX4_draft 20 = .ok (.aload_n 0, 1) := by decide +kernel
theorem dX4_draft_21 : decode cX4_draft 21 = .ok (.getfield 15, 3) := by decide +kernel
theorem dX4_draft_24 : decode cX4_draft 24 = .ok (.aaload, 1) := by decide +kernel
theorem dX4_draft_25 : decode cX4_draft 25 = .ok (.invokevirtual 203, 3) := by decide +kernel
theorem dX4_draft_28 : decode cX4_draft 28 = .ok (.aload_n 1, 1) := by decide +kernel
theorem dX4_draft_29 : decode cX4_draft 29 = .ok (.areturn, 1) := by decide +kernel
theorem dX4_settled_0 : decode cX4_settled 0 = .ok (.iload_n 1, 1) := by decide +kernel
theorem dX4_settled_1 : decode cX4_settled 1 = .ok (.ifCond .ge 9, 3) := by decide +kernel
theorem dX4_settled_4 : decode cX4_settled 4 = .ok (.aload_n 0, 1) := by decide +kernel
theorem dX4_settled_5 : decode cX4_settled 5 = .ok (.iload_n 1, 1) := by decide +kernel
theorem dX4_settled_6 : decode cX4_settled 6 = .ok (.invokevirtual 90, 3) := by decide +kernel
theorem dX4_settled_9 : decode cX4_settled 9 = .ok (.ireturn, 1) := by decide +kernel
theorem dX4_settled_10 : decode cX4_settled 10 = .ok (.aload_n 0, 1) := by decide +kernel
theorem dX4_settled_11 : decode cX4_settled 11 = .ok (.aload_n 0, 1) := by decide +kernel
theorem dX4_settled_12 : decode cX4_settled 12 = .ok (.getfield 19, 3) := by decide +kernel
theorem dX4_settled_15 : decode cX4_settled 15 = .ok (.iconst 1, 1) := by decide +kernel
theorem dX4_settled_16 : decode cX4_settled 16 = .ok (.iadd, 1) := by decide +kernel
theorem dX4_settled_17 : decode cX4_settled 17 = .ok (.iconst 5, 1) := by decide +kernel
theorem dX4_settled_18 : decode cX4_settled 18 = .ok (.invokestatic 206, 3) := by decide +kernel
theorem dX4_settled_21 : decode cX4_settled 21 = .ok (.putfield 19, 3) := by decide +kernel
theorem dX4_settled_24 : decode cX4_settled 24 = .ok (.aload_n 0, 1) := by decide +kernel
theorem dX4_settled_25 : decode cX4_settled 25 = .ok (.aload_n 0, 1) := by decide +kernel
theorem dX4_settled_26 : decode cX4_settled 26 = .ok (.getfield 15, 3) := by decide +kernel
theorem dX4_settled_29 : decode cX4_settled 29 = .ok (.iconst 1, 1) := by decide +kernel
theorem dX4_settled_30 : decode cX4_settled 30 = .ok (.iadd, 1) := by decide +kernel
theorem dX4_settled_31 : decode cX4_settled 31 = .ok (.bipush 7, 2) := by decide +kernel
theorem dX4_settled_33 : decode cX4_settled 33 = .ok (.irem, 1) := by decide +kernel
theorem dX4_settled_34 : decode cX4_settled 34 = .ok (.invokevirtual 185, 3) := by decide +kernel
theorem dX4_settled_37 : decode cX4_settled 37 = .ok (.iload_n 1, 1) := by decide +kernel
theorem dX4_settled_38 : decode cX4_settled 38 = .ok (.ireturn, 1) := by decide +kernel
theorem dX4_moveTo_0 : decode cX4_moveTo 0 = .ok (.aload_n 0, 1) := by decide +kernel
theorem dX4_moveTo_1 : decode cX4_moveTo 1 = .ok (.iload_n 1, 1) := by decide +kernel
theorem dX4_moveTo_2 : decode cX4_moveTo 2 = .ok (.putfield 15, 3) := by decide +kernel
theorem dX4_moveTo_5 : decode cX4_moveTo 5 = .ok (.aload_n 0, 1) := by decide +kernel
theorem dX4_moveTo_6 : decode cX4_moveTo 6 = .ok (.getfield 25, 3) := by decide +kernel
theorem dX4_moveTo_9 : decode cX4_moveTo 9 = .ok (.iconst 0, 1) := by decide +kernel
theorem dX4_moveTo_10 : decode cX4_moveTo 10 = .ok (.putfield 211, 3) := by decide +kernel
theorem dX4_moveTo_13 : decode cX4_moveTo 13 = .ok (.aload_n 0, 1) := by decide +kernel
theorem dX4_moveTo_14 : decode cX4_moveTo 14 = .ok (.getfield 32, 3) := by decide +kernel
theorem dX4_moveTo_17 : decode cX4_moveTo 17 = .ok (.iconst 0, 1) := by decide +kernel
theorem dX4_moveTo_18 : decode cX4_moveTo 18 = .ok (.putfield 215, 3) := by decide +kernel
theorem dX4_moveTo_21 : decode cX4_moveTo 21 = .ok (.return_, 1) := by decide +kernel
theorem dX4_refused_0 : decode cX4_refused 0 = .ok (.iload_n 1, 1) := by decide +kernel
theorem dX4_refused_1 : decode cX4_refused 1 = .ok (.bipush (-2), 2) := by decide +kernel
theorem dX4_refused_3 : decode cX4_refused 3 = .ok (.if_icmp .ne 16, 3) := by decide +kernel
theorem dX4_refused_6 : decode cX4_refused 6 = .ok (.aload_n 0, 1) := by decide +kernel
theorem dX4_refused_7 : decode cX4_refused 7 = .ok (.dup, 1) := by decide +kernel
theorem dX4_refused_8 : decode cX4_refused 8 = .ok (.getfield 43, 3) := by decide +kernel
theorem dX4_refused_11 : decode cX4_refused 11 = .ok (.iconst 1, 1) := by decide +kernel
theorem dX4_refused_12 : decode cX4_refused 12 = .ok (.iadd, 1) := by decide +kernel
theorem dX4_refused_13 : decode cX4_refused 13 = .ok (.putfield 43, 3) := by decide +kernel
theorem dX4_refused_16 : decode cX4_refused 16 = .ok (.goto 32, 3) := by decide +kernel
theorem dX4_refused_19 : decode cX4_refused 19 = .ok (.iload_n 1, 1) := by decide +kernel
theorem dX4_refused_20 : decode cX4_refused 20 = .ok (.bipush (-3), 2) := by decide +kernel
theorem dX4_refused_22 : decode cX4_refused 22 = .ok (.if_icmp .ne 16, 3) := by decide +kernel
theorem dX4_refused_25 : decode cX4_refused 25 = .ok (.aload_n 0, 1) := by decide +kernel
theorem dX4_refused_26 : decode cX4_refused 26 = .ok (.dup, 1) := by decide +kernel
theorem dX4_refused_27 : decode cX4_refused 27 = .ok (.getfield 46, 3) := by decide +kernel
theorem dX4_refused_30 : decode cX4_refused 30 = .ok (.iconst 1, 1) := by decide +kernel
theorem dX4_refused_31 : decode cX4_refused 31 = .ok (.iadd, 1) := by decide +kernel
theorem dX4_refused_32 : decode cX4_refused 32 = .ok (.putfield 46, 3) := by decide +kernel
theorem dX4_refused_35 : decode cX4_refused 35 = .ok (.goto 13, 3) := by decide +kernel
theorem dX4_refused_38 : decode cX4_refused 38 = .ok (.aload_n 0, 1) := by decide +kernel
theorem dX4_refused_39 : decode cX4_refused 39 = .ok (.dup, 1) := by decide +kernel
theorem dX4_refused_40 : decode cX4_refused 40 = .ok (.getfield 49, 3) := by decide +kernel
theorem dX4_refused_43 : decode cX4_refused 43 = .ok (.iconst 1, 1) := by decide +kernel
theorem dX4_refused_44 : decode cX4_refused 44 = .ok (.iadd, 1) := by decide +kernel
theorem dX4_refused_45 : decode cX4_refused 45 = .ok (.putfield 49, 3) := by decide +kernel
theorem dX4_refused_48 : decode cX4_refused 48 = .ok (.iload_n 1, 1) := by decide +kernel
theorem dX4_refused_49 : decode cX4_refused 49 = .ok (.ireturn, 1) := by decide +kernel
theorem dX4_partOfEdge_0 : decode cX4_partOfEdge 0 = .ok (.iload_n 3, 1) := by decide +kernel
theorem dX4_partOfEdge_1 : decode cX4_partOfEdge 1 = .ok (.lookupswitch 41 #[(0, 27), (1, 34)], 27) := by decide +kernel
theorem dX4_partOfEdge_28 : decode cX4_partOfEdge 28 = .ok (.aload_n 1, 1) := by decide +kernel
theorem dX4_partOfEdge_29 : decode cX4_partOfEdge 29 = .ok (.getfield 216, 3) := by decide +kernel
theorem dX4_partOfEdge_32 : decode cX4_partOfEdge 32 = .ok (.iload_n 2, 1) := by decide +kernel
theorem dX4_partOfEdge_33 : decode cX4_partOfEdge 33 = .ok (.iaload, 1) := by decide +kernel
theorem dX4_partOfEdge_34 : decode cX4_partOfEdge 34 = .ok (.ireturn, 1) := by decide +kernel
theorem dX4_partOfEdge_35 : decode cX4_partOfEdge 35 = .ok (.aload_n 1, 1) := by decide +kernel
theorem dX4_partOfEdge_36 : decode cX4_partOfEdge 36 = .ok (.getfield 219, 3) := by decide +kernel
theorem dX4_partOfEdge_39 : decode cX4_partOfEdge 39 = .ok (.iload_n 2, 1) := by decide +kernel
theorem dX4_partOfEdge_40 : decode cX4_partOfEdge 40 = .ok (.iaload, 1) := by decide +kernel
theorem dX4_partOfEdge_41 : decode cX4_partOfEdge 41 = .ok (.ireturn, 1) := by decide +kernel
theorem dX4_partOfEdge_42 : decode cX4_partOfEdge 42 = .ok (.aload_n 1, 1) := by decide +kernel
theorem dX4_partOfEdge_43 : decode cX4_partOfEdge 43 = .ok (.getfield 140, 3) := by decide +kernel
theorem dX4_partOfEdge_46 : decode cX4_partOfEdge 46 = .ok (.iload_n 2, 1) := by decide +kernel
theorem dX4_partOfEdge_47 : decode cX4_partOfEdge 47 = .ok (.iaload, 1) := by decide +kernel
theorem dX4_partOfEdge_48 : decode cX4_partOfEdge 48 = .ok (.ireturn, 1) := by decide +kernel
theorem dX4_partOfEntry_0 : decode cX4_partOfEntry 0 = .ok (.iload_n 3, 1) := by decide +kernel
theorem dX4_partOfEntry_1 : decode cX4_partOfEntry 1 = .ok (.tableswitch 59 0 2 #[27, 41, 50], 27) := by decide +kernel
theorem dX4_partOfEntry_28 : decode cX4_partOfEntry 28 = .ok (.aload_n 1, 1) := by decide +kernel
theorem dX4_partOfEntry_29 : decode cX4_partOfEntry 29 = .ok (.getfield 93, 3) := by decide +kernel
theorem dX4_partOfEntry_32 : decode cX4_partOfEntry 32 = .ok (.aload_n 0, 1) := by decide +kernel
theorem dX4_partOfEntry_33 : decode cX4_partOfEntry 33 = .ok (.getfield 25, 3) := by decide +kernel
theorem dX4_partOfEntry_36 : decode cX4_partOfEntry 36 = .ok (.iload_n 2, 1) := by decide +kernel
theorem dX4_partOfEntry_37 : decode cX4_partOfEntry 37 = .ok (.invokevirtual 222, 3) := by decide +kernel
theorem dX4_partOfEntry_40 : decode cX4_partOfEntry 40 = .ok (.iaload, 1) := by decide +kernel
theorem dX4_partOfEntry_41 : decode cX4_partOfEntry 41 = .ok (.ireturn, 1) := by decide +kernel
theorem dX4_partOfEntry_42 : decode cX4_partOfEntry 42 = .ok (.aload_n 0, 1) := by decide +kernel
theorem dX4_partOfEntry_43 : decode cX4_partOfEntry 43 = .ok (.getfield 25, 3) := by decide +kernel
theorem dX4_partOfEntry_46 : decode cX4_partOfEntry 46 = .ok (.iload_n 2, 1) := by decide +kernel
theorem dX4_partOfEntry_47 : decode cX4_partOfEntry 47 = .ok (.invokevirtual 225, 3) := by decide +kernel
theorem dX4_partOfEntry_50 : decode cX4_partOfEntry 50 = .ok (.ireturn, 1) := by decide +kernel
theorem dX4_partOfEntry_51 : decode cX4_partOfEntry 51 = .ok (.aload_n 0, 1) := by decide +kernel
theorem dX4_partOfEntry_52 : decode cX4_partOfEntry 52 = .ok (.getfield 25, 3) := by decide +kernel
theorem dX4_partOfEntry_55 : decode cX4_partOfEntry 55 = .ok (.iload_n 2, 1) := by decide +kernel
theorem dX4_partOfEntry_56 : decode cX4_partOfEntry 56 = .ok (.invokevirtual 222, 3) := by decide +kernel
theorem dX4_partOfEntry_59 : decode cX4_partOfEntry 59 = .ok (.ireturn, 1) := by decide +kernel
theorem dX4_partOfEntry_60 : decode cX4_partOfEntry 60 = .ok (.aload_n 0, 1) := by decide +kernel
theorem dX4_partOfEntry_61 : decode cX4_partOfEntry 61 = .ok (.getfield 25, 3) := by decide +kernel
theorem dX4_partOfEntry_64 : decode cX4_partOfEntry 64 = .ok (.iload_n 2, 1) := by decide +kernel
theorem dX4_partOfEntry_65 : decode cX4_partOfEntry 65 = .ok (.invokevirtual 228, 3) := by decide +kernel
theorem dX4_partOfEntry_68 : decode cX4_partOfEntry 68 = .ok (.ireturn, 1) := by decide +kernel
theorem dX4_counted_0 : decode cX4_counted 0 = .ok (.iload_n 2, 1) := by decide +kernel
theorem dX4_counted_1 : decode cX4_counted 1 = .ok (.tableswitch 63 0 4 #[35, 40, 45, 50, 55], 35) := by decide +kernel
theorem dX4_counted_36 : decode cX4_counted 36 = .ok (.aload_n 1, 1) := by decide +kernel
theorem dX4_counted_37 : decode cX4_counted 37 = .ok (.getfield 231, 3) := by decide +kernel
theorem dX4_counted_40 : decode cX4_counted 40 = .ok (.ireturn, 1) := by decide +kernel
theorem dX4_counted_41 : decode cX4_counted 41 = .ok (.aload_n 1, 1) := by decide +kernel
theorem dX4_counted_42 : decode cX4_counted 42 = .ok (.getfield 234, 3) := by decide +kernel
theorem dX4_counted_45 : decode cX4_counted 45 = .ok (.ireturn, 1) := by decide +kernel
theorem dX4_counted_46 : decode cX4_counted 46 = .ok (.aload_n 1, 1) := by decide +kernel
theorem dX4_counted_47 : decode cX4_counted 47 = .ok (.getfield 237, 3) := by decide +kernel
theorem dX4_counted_50 : decode cX4_counted 50 = .ok (.ireturn, 1) := by decide +kernel
theorem dX4_counted_51 : decode cX4_counted 51 = .ok (.aload_n 1, 1) := by decide +kernel
theorem dX4_counted_52 : decode cX4_counted 52 = .ok (.getfield 117, 3) := by decide +kernel
theorem dX4_counted_55 : decode cX4_counted 55 = .ok (.ireturn, 1) := by decide +kernel
theorem dX4_counted_56 : decode cX4_counted 56 = .ok (.aload_n 0, 1) := by decide +kernel
theorem dX4_counted_57 : decode cX4_counted 57 = .ok (.getfield 25, 3) := by decide +kernel
theorem dX4_counted_60 : decode cX4_counted 60 = .ok (.getfield 155, 3) := by decide +kernel
theorem dX4_counted_63 : decode cX4_counted 63 = .ok (.ireturn, 1) := by decide +kernel
theorem dX4_counted_64 : decode cX4_counted 64 = .ok (.aload_n 0, 1) := by decide +kernel
theorem dX4_counted_65 : decode cX4_counted 65 = .ok (.aload_n 1, 1) := by decide +kernel
theorem dX4_counted_66 : decode cX4_counted 66 = .ok (.invokevirtual 240, 3) := by decide +kernel
theorem dX4_counted_69 : decode cX4_counted 69 = .ok (.ireturn, 1) := by decide +kernel
theorem dX4_nodesReached_0 : decode cX4_nodesReached 0 = .ok (.iconst 0, 1) := by decide +kernel
theorem dX4_nodesReached_1 : decode cX4_nodesReached 1 = .ok (.istore_n 2, 1) := by decide +kernel
theorem dX4_nodesReached_2 : decode cX4_nodesReached 2 = .ok (.iconst 0, 1) := by decide +kernel
theorem dX4_nodesReached_3 : decode cX4_nodesReached 3 = .ok (.istore_n 3, 1) := by decide +kernel
theorem dX4_nodesReached_4 : decode cX4_nodesReached 4 = .ok (.iload_n 3, 1) := by decide +kernel
theorem dX4_nodesReached_5 : decode cX4_nodesReached 5 = .ok (.aload_n 1, 1) := by decide +kernel
theorem dX4_nodesReached_6 : decode cX4_nodesReached 6 = .ok (.getfield 234, 3) := by decide +kernel
theorem dX4_nodesReached_9 : decode cX4_nodesReached 9 = .ok (.if_icmp .ge 22, 3) := by decide +kernel
theorem dX4_nodesReached_12 : decode cX4_nodesReached 12 = .ok (.iload_n 2, 1) := by decide +kernel
theorem dX4_nodesReached_13 : decode cX4_nodesReached 13 = .ok (.aload_n 0, 1) := by decide +kernel
theorem dX4_nodesReached_14 : decode cX4_nodesReached 14 = .ok (.getfield 25, 3) := by decide +kernel
theorem dX4_nodesReached_17 : decode cX4_nodesReached 17 = .ok (.iload_n 3, 1) := by decide +kernel
theorem dX4_nodesReached_18 : decode cX4_nodesReached 18 = .ok (.invokevirtual 128, 3) := by decide +kernel
theorem dX4_nodesReached_21 : decode cX4_nodesReached 21 = .ok (.iconst 1, 1) := by decide +kernel
theorem dX4_nodesReached_22 : decode cX4_nodesReached 22 = .ok (.iand, 1) := by decide +kernel
theorem dX4_nodesReached_23 : decode cX4_nodesReached 23 = .ok (.iadd, 1) := by decide +kernel
theorem dX4_nodesReached_24 : decode cX4_nodesReached 24 = .ok (.istore_n 2, 1) := by decide +kernel
theorem dX4_nodesReached_25 : decode cX4_nodesReached 25 = .ok (.iinc 3 1, 3) := by decide +kernel
theorem dX4_nodesReached_28 : decode cX4_nodesReached 28 = .ok (.goto (-24), 3) := by decide +kernel
theorem dX4_nodesReached_31 : decode cX4_nodesReached 31 = .ok (.iload_n 2, 1) := by decide +kernel
theorem dX4_nodesReached_32 : decode cX4_nodesReached 32 = .ok (.ireturn, 1) := by decide +kernel
theorem dX4_tally_0 : decode cX4_tally 0 = .ok (.iload_n 1, 1) := by decide +kernel
theorem dX4_tally_1 : decode cX4_tally 1 = .ok (.tableswitch 54 0 3 #[31, 36, 41, 46], 31) := by decide +kernel
theorem dX4_tally_32 : decode cX4_tally 32 = .ok (.aload_n 0, 1) := by decide +kernel
theorem dX4_tally_33 : decode cX4_tally 33 = .ok (.getfield 43, 3) := by decide +kernel
theorem dX4_tally_36 : decode cX4_tally 36 = .ok (.ireturn, 1) := by decide +kernel
theorem dX4_tally_37 : decode cX4_tally 37 = .ok (.aload_n 0, 1) := by decide +kernel
theorem dX4_tally_38 : decode cX4_tally 38 = .ok (.getfield 46, 3) := by decide +kernel
theorem dX4_tally_41 : decode cX4_tally 41 = .ok (.ireturn, 1) := by decide +kernel
theorem dX4_tally_42 : decode cX4_tally 42 = .ok (.aload_n 0, 1) := by decide +kernel
theorem dX4_tally_43 : decode cX4_tally 43 = .ok (.getfield 49, 3) := by decide +kernel
theorem dX4_tally_46 : decode cX4_tally 46 = .ok (.ireturn, 1) := by decide +kernel
theorem dX4_tally_47 : decode cX4_tally 47 = .ok (.aload_n 0, 1) := by decide +kernel
theorem dX4_tally_48 : decode cX4_tally 48 = .ok (.getfield 39, 3) := by decide +kernel
theorem dX4_tally_51 : decode cX4_tally 51 = .ok (.getfield 173, 3) := by decide +kernel
theorem dX4_tally_54 : decode cX4_tally 54 = .ok (.ireturn, 1) := by decide +kernel
theorem dX4_tally_55 : decode cX4_tally 55 = .ok (.aload_n 0, 1) := by decide +kernel
theorem dX4_tally_56 : decode cX4_tally 56 = .ok (.getfield 19, 3) := by decide +kernel
theorem dX4_tally_59 : decode cX4_tally 59 = .ok (.ireturn, 1) := by decide +kernel
theorem dX4_obeyed_0 : decode cX4_obeyed 0 = .ok (.aload_n 0, 1) := by decide +kernel
theorem dX4_obeyed_1 : decode cX4_obeyed 1 = .ok (.getfield 39, 3) := by decide +kernel
theorem dX4_obeyed_4 : decode cX4_obeyed 4 = .ok (.iload_n 2, 1) := by decide +kernel
theorem dX4_obeyed_5 : decode cX4_obeyed 5 = .ok (.iconst 1, 1) := by decide +kernel
theorem dX4_obeyed_6 : decode cX4_obeyed 6 = .ok (.invokevirtual 244, 3) := by decide +kernel
theorem dX4_obeyed_9 : decode cX4_obeyed 9 = .ok (.istore_n 3, 1) := by decide +kernel
theorem dX4_obeyed_10 : decode cX4_obeyed 10 = .ok (.aload_n 0, 1) := by decide +kernel
theorem dX4_obeyed_11 : decode cX4_obeyed 11 = .ok (.getfield 39, 3) := by decide +kernel
theorem dX4_obeyed_14 : decode cX4_obeyed 14 = .ok (.iload_n 2, 1) := by decide +kernel
theorem dX4_obeyed_15 : decode cX4_obeyed 15 = .ok (.iconst 2, 1) := by decide +kernel
theorem dX4_obeyed_16 : decode cX4_obeyed 16 = .ok (.invokevirtual 244, 3) := by decide +kernel
theorem dX4_obeyed_19 : decode cX4_obeyed 19 = .ok (.istore 4, 2) := by decide +kernel
theorem dX4_obeyed_21 : decode cX4_obeyed 21 = .ok (.aload_n 0, 1) := by decide +kernel
theorem dX4_obeyed_22 : decode cX4_obeyed 22 = .ok (.getfield 39, 3) := by decide +kernel
theorem dX4_obeyed_25 : decode cX4_obeyed 25 = .ok (.iload_n 2, 1) := by decide +kernel
theorem dX4_obeyed_26 : decode cX4_obeyed 26 = .ok (.iconst 3, 1) := by decide +kernel
theorem dX4_obeyed_27 : decode cX4_obeyed 27 = .ok (.invokevirtual 244, 3) := by decide +kernel
theorem dX4_obeyed_30 : decode cX4_obeyed 30 = .ok (.istore 5, 2) := by decide +kernel
theorem dX4_obeyed_32 : decode cX4_obeyed 32 = .ok (.aload_n 0, 1) := by decide +kernel
theorem dX4_obeyed_33 : decode cX4_obeyed 33 = .ok (.getfield 39, 3) := by decide +kernel
theorem dX4_obeyed_36 : decode cX4_obeyed 36 = .ok (.iload_n 2, 1) := by decide +kernel
theorem dX4_obeyed_37 : decode cX4_obeyed 37 = .ok (.iconst 0, 1) := by decide +kernel
theorem dX4_obeyed_38 : decode cX4_obeyed 38 = .ok (.invokevirtual 244, 3) := by decide +kernel
theorem dX4_obeyed_41 : decode cX4_obeyed 41 = .ok (.tableswitch 137 99 115 #[102, 137, 94, 112, 137, 137, 137, 137, 137, 137, 137, 88, 137, 83, 137, 137, 131], 83) := by decide +kernel
theorem dX4_obeyed_124 : decode cX4_obeyed 124 = .ok (.aload_n 1, 1) := by decide +kernel
theorem dX4_obeyed_125 : decode cX4_obeyed 125 = .ok (.invokevirtual 53, 3) := by decide +kernel
theorem dX4_obeyed_128 : decode cX4_obeyed 128 = .ok (.ireturn, 1) := by decide +kernel
theorem dX4_obeyed_129 : decode cX4_obeyed 129 = .ok (.aload_n 1, 1) := by decide +kernel
theorem dX4_obeyed_130 : decode cX4_obeyed 130 = .ok (.iload_n 3, 1) := by decide +kernel
theorem dX4_obeyed_131 : decode cX4_obeyed 131 = .ok (.invokevirtual 65, 3) := by decide +kernel
theorem dX4_obeyed_134 : decode cX4_obeyed 134 = .ok (.ireturn, 1) := by decide +kernel
theorem dX4_obeyed_135 : decode cX4_obeyed 135 = .ok (.aload_n 1, 1) := by decide +kernel
theorem dX4_obeyed_136 : decode cX4_obeyed 136 = .ok (.iload_n 3, 1) := by decide +kernel
theorem dX4_obeyed_137 : decode cX4_obeyed 137 = .ok (.iload 4, 2) := by decide +kernel
theorem dX4_obeyed_139 : decode cX4_obeyed 139 = .ok (.invokevirtual 68, 3) := by decide +kernel
theorem dX4_obeyed_142 : decode cX4_obeyed 142 = .ok (.ireturn, 1) := by decide +kernel
theorem dX4_obeyed_143 : decode cX4_obeyed 143 = .ok (.aload_n 1, 1) := by decide +kernel
theorem dX4_obeyed_144 : decode cX4_obeyed 144 = .ok (.iload_n 3, 1) := by decide +kernel
theorem dX4_obeyed_145 : decode cX4_obeyed 145 = .ok (.iload 4, 2) := by decide +kernel
theorem dX4_obeyed_147 : decode cX4_obeyed 147 = .ok (.iload 5, 2) := by decide +kernel
theorem dX4_obeyed_149 : decode cX4_obeyed 149 = .ok (.invokevirtual 72, 3) := by decide +kernel
theorem dX4_obeyed_152 : decode cX4_obeyed 152 = .ok (.ireturn, 1) := by decide +kernel
theorem dX4_obeyed_153 : decode cX4_obeyed 153 = .ok (.aload_n 1, 1) := by decide +kernel
theorem dX4_obeyed_154 : decode cX4_obeyed 154 = .ok (.iload_n 3, 1) := by decide +kernel
theorem dX4_obeyed_155 : decode cX4_obeyed 155 = .ok (.iload 4, 2) := by decide +kernel
theorem dX4_obeyed_157 : decode cX4_obeyed 157 = .ok (.iload 5, 2) := by decide +kernel
theorem dX4_obeyed_159 : decode cX4_obeyed 159 = .ok (.aload_n 0, 1) := by decide +kernel
theorem dX4_obeyed_160 : decode cX4_obeyed 160 = .ok (.getfield 39, 3) := by decide +kernel
theorem dX4_obeyed_163 : decode cX4_obeyed 163 = .ok (.iload_n 2, 1) := by decide +kernel
theorem dX4_obeyed_164 : decode cX4_obeyed 164 = .ok (.iconst 4, 1) := by decide +kernel
theorem dX4_obeyed_165 : decode cX4_obeyed 165 = .ok (.invokevirtual 244, 3) := by decide +kernel
theorem dX4_obeyed_168 : decode cX4_obeyed 168 = .ok (.invokevirtual 76, 3) := by decide +kernel
theorem dX4_obeyed_171 : decode cX4_obeyed 171 = .ok (.ireturn, 1) := by decide +kernel
theorem dX4_obeyed_172 : decode cX4_obeyed 172 = .ok (.aload_n 1, 1) := by decide +kernel
theorem dX4_obeyed_173 : decode cX4_obeyed 173 = .ok (.iload_n 3, 1) := by decide +kernel
theorem dX4_obeyed_174 : decode cX4_obeyed 174 = .ok (.invokevirtual 80, 3) := by decide +kernel
theorem dX4_obeyed_177 : decode cX4_obeyed 177 = .ok (.ireturn, 1) := by decide +kernel
theorem dX4_obeyed_178 : decode cX4_obeyed 178 = .ok (.aload_n 1, 1) := by decide +kernel
theorem dX4_obeyed_179 : decode cX4_obeyed 179 = .ok (.iload_n 3, 1) := by decide +kernel
theorem dX4_obeyed_180 : decode cX4_obeyed 180 = .ok (.invokevirtual 83, 3) := by decide +kernel
theorem dX4_obeyed_183 : decode cX4_obeyed 183 = .ok (.ireturn, 1) := by decide +kernel
theorem dX4_digestOfNodes_0 : decode cX4_digestOfNodes 0 = .ok (.lload_n 2, 1) := by decide +kernel
theorem dX4_digestOfNodes_1 : decode cX4_digestOfNodes 1 = .ok (.lstore 4, 2) := by decide +kernel
theorem dX4_digestOfNodes_3 : decode cX4_digestOfNodes 3 = .ok (.iconst 0, 1) := by decide +kernel
theorem dX4_digestOfNodes_4 : decode cX4_digestOfNodes 4 = .ok (.istore 6, 2) := by decide +kernel
theorem dX4_digestOfNodes_6 : decode cX4_digestOfNodes 6 = .ok (.iload 6, 2) := by decide +kernel
theorem dX4_digestOfNodes_8 : decode cX4_digestOfNodes 8 = .ok (.aload_n 1, 1) := by decide +kernel
theorem dX4_digestOfNodes_9 : decode cX4_digestOfNodes 9 = .ok (.getfield 234, 3) := by decide +kernel
theorem dX4_digestOfNodes_12 : decode cX4_digestOfNodes 12 = .ok (.if_icmp .ge 82, 3) := by decide +kernel
theorem dX4_digestOfNodes_15 : decode cX4_digestOfNodes 15 = .ok (.ldc2_w 194, 3) := by decide +kernel
theorem dX4_digestOfNodes_18 : decode cX4_digestOfNodes 18 = .ok (.lload 4, 2) := by decide +kernel
theorem dX4_digestOfNodes_20 : decode cX4_digestOfNodes 20 = .ok (.lmul, 1) := by decide +kernel
theorem dX4_digestOfNodes_21 : decode cX4_digestOfNodes 21 = .ok (.aload_n 1, 1) := by decide +kernel
theorem dX4_digestOfNodes_22 : decode cX4_digestOfNodes 22 = .ok (.getfield 93, 3) := by decide +kernel
theorem dX4_digestOfNodes_25 : decode cX4_digestOfNodes 25 = .ok (.iload 6, 2) := by decide +kernel
theorem dX4_digestOfNodes_27 : decode cX4_digestOfNodes 27 = .ok (.iaload, 1) := by decide +kernel
theorem dX4_digestOfNodes_28 : decode cX4_digestOfNodes 28 = .ok (.i2l, 1) := by decide +kernel
theorem dX4_digestOfNodes_29 : decode cX4_digestOfNodes 29 = .ok (.ladd, 1) := by decide +kernel
theorem dX4_digestOfNodes_30 : decode cX4_digestOfNodes 30 = .ok (.lstore 4, 2) := by decide +kernel
theorem dX4_digestOfNodes_32 : decode cX4_digestOfNodes 32 = .ok (.ldc2_w 194, 3) := by decide +kernel
theorem dX4_digestOfNodes_35 : decode cX4_digestOfNodes 35 = .ok (.lload 4, 2) := by decide +kernel
theorem dX4_digestOfNodes_37 : decode cX4_digestOfNodes 37 = .ok (.lmul, 1) := by decide +kernel
theorem dX4_digestOfNodes_38 : decode cX4_digestOfNodes 38 = .ok (.aload_n 1, 1) := by decide +kernel
theorem dX4_digestOfNodes_39 : decode cX4_digestOfNodes 39 = .ok (.getfield 97, 3) := by decide +kernel
theorem dX4_digestOfNodes_42 : decode cX4_digestOfNodes 42 = .ok (.iload 6, 2) := by decide +kernel
theorem dX4_digestOfNodes_44 : decode cX4_digestOfNodes 44 = .ok (.iaload, 1) := by decide +kernel
theorem dX4_digestOfNodes_45 : decode cX4_digestOfNodes 45 = .ok (.i2l, 1) := by decide +kernel
theorem dX4_digestOfNodes_46 : decode cX4_digestOfNodes 46 = .ok (.ladd, 1) := by decide +kernel
theorem dX4_digestOfNodes_47 : decode cX4_digestOfNodes 47 = .ok (.lstore 4, 2) := by decide +kernel
theorem dX4_digestOfNodes_49 : decode cX4_digestOfNodes 49 = .ok (.ldc2_w 194, 3) := by decide +kernel
theorem dX4_digestOfNodes_52 : decode cX4_digestOfNodes 52 = .ok (.lload 4, 2) := by decide +kernel
theorem dX4_digestOfNodes_54 : decode cX4_digestOfNodes 54 = .ok (.lmul, 1) := by decide +kernel
theorem dX4_digestOfNodes_55 : decode cX4_digestOfNodes 55 = .ok (.aload_n 0, 1) := by decide +kernel
theorem dX4_digestOfNodes_56 : decode cX4_digestOfNodes 56 = .ok (.getfield 25, 3) := by decide +kernel
theorem dX4_digestOfNodes_59 : decode cX4_digestOfNodes 59 = .ok (.iload 6, 2) := by decide +kernel
theorem dX4_digestOfNodes_61 : decode cX4_digestOfNodes 61 = .ok (.invokevirtual 128, 3) := by decide +kernel
theorem dX4_digestOfNodes_64 : decode cX4_digestOfNodes 64 = .ok (.i2l, 1) := by decide +kernel
theorem dX4_digestOfNodes_65 : decode cX4_digestOfNodes 65 = .ok (.ladd, 1) := by decide +kernel
theorem dX4_digestOfNodes_66 : decode cX4_digestOfNodes 66 = .ok (.lstore 4, 2) := by decide +kernel
theorem dX4_digestOfNodes_68 : decode cX4_digestOfNodes 68 = .ok (.ldc2_w 194, 3) := by decide +kernel
theorem dX4_digestOfNodes_71 : decode cX4_digestOfNodes 71 = .ok (.lload 4, 2) := by decide +kernel
theorem dX4_digestOfNodes_73 : decode cX4_digestOfNodes 73 = .ok (.lmul, 1) := by decide +kernel
theorem dX4_digestOfNodes_74 : decode cX4_digestOfNodes 74 = .ok (.aload_n 0, 1) := by decide +kernel
theorem dX4_digestOfNodes_75 : decode cX4_digestOfNodes 75 = .ok (.getfield 32, 3) := by decide +kernel
theorem dX4_digestOfNodes_78 : decode cX4_digestOfNodes 78 = .ok (.getfield 134, 3) := by decide +kernel
theorem dX4_digestOfNodes_81 : decode cX4_digestOfNodes 81 = .ok (.iload 6, 2) := by decide +kernel
theorem dX4_digestOfNodes_83 : decode cX4_digestOfNodes 83 = .ok (.iaload, 1) := by decide +kernel
theorem dX4_digestOfNodes_84 : decode cX4_digestOfNodes 84 = .ok (.i2l, 1) := by decide +kernel
theorem dX4_digestOfNodes_85 : decode cX4_digestOfNodes 85 = .ok (.ladd, 1) := by decide +kernel
theorem dX4_digestOfNodes_86 : decode cX4_digestOfNodes 86 = .ok (.lstore 4, 2) := by decide +kernel
theorem dX4_digestOfNodes_88 : decode cX4_digestOfNodes 88 = .ok (.iinc 6 1, 3) := by decide +kernel
theorem dX4_digestOfNodes_91 : decode cX4_digestOfNodes 91 = .ok (.goto (-85), 3) := by decide +kernel
theorem dX4_digestOfNodes_94 : decode cX4_digestOfNodes 94 = .ok (.lload 4, 2) := by decide +kernel
theorem dX4_digestOfNodes_96 : decode cX4_digestOfNodes 96 = .ok (.lreturn, 1) := by decide +kernel
theorem dX4_digestOfEdges_0 : decode cX4_digestOfEdges 0 = .ok (.lload_n 2, 1) := by decide +kernel
theorem dX4_digestOfEdges_1 : decode cX4_digestOfEdges 1 = .ok (.lstore 4, 2) := by decide +kernel
theorem dX4_digestOfEdges_3 : decode cX4_digestOfEdges 3 = .ok (.iconst 0, 1) := by decide +kernel
theorem dX4_digestOfEdges_4 : decode cX4_digestOfEdges 4 = .ok (.istore 6, 2) := by decide +kernel
theorem dX4_digestOfEdges_6 : decode cX4_digestOfEdges 6 = .ok (.iload 6, 2) := by decide +kernel
theorem dX4_digestOfEdges_8 : decode cX4_digestOfEdges 8 = .ok (.aload_n 1, 1) := by decide +kernel
theorem dX4_digestOfEdges_9 : decode cX4_digestOfEdges 9 = .ok (.getfield 237, 3) := by decide +kernel
theorem dX4_digestOfEdges_12 : decode cX4_digestOfEdges 12 = .ok (.if_icmp .ge 96, 3) := by decide +kernel
theorem dX4_digestOfEdges_15 : decode cX4_digestOfEdges 15 = .ok (.iconst 0, 1) := by decide +kernel
theorem dX4_digestOfEdges_16 : decode cX4_digestOfEdges 16 = .ok (.istore 7, 2) := by decide +kernel
theorem dX4_digestOfEdges_18 : decode cX4_digestOfEdges 18 = .ok (.iload 7, 2) := by decide +kernel
theorem dX4_digestOfEdges_20 : decode cX4_digestOfEdges 20 = .ok (.iconst 2, 1) := by decide +kernel
theorem dX4_digestOfEdges_21 : decode cX4_digestOfEdges 21 = .ok (.if_icmp .gt 28, 3) := by decide +kernel
theorem dX4_digestOfEdges_24 : decode cX4_digestOfEdges 24 = .ok (.ldc2_w 194, 3) := by decide +kernel
theorem dX4_digestOfEdges_27 : decode cX4_digestOfEdges 27 = .ok (.lload 4, 2) := by decide +kernel
theorem dX4_digestOfEdges_29 : decode cX4_digestOfEdges 29 = .ok (.lmul, 1) := by decide +kernel
theorem dX4_digestOfEdges_30 : decode cX4_digestOfEdges 30 = .ok (.aload_n 0, 1) := by decide +kernel
theorem dX4_digestOfEdges_31 : decode cX4_digestOfEdges 31 = .ok (.aload_n 1, 1) := by decide +kernel
theorem dX4_digestOfEdges_32 : decode cX4_digestOfEdges 32 = .ok (.iload 6, 2) := by decide +kernel
theorem dX4_digestOfEdges_34 : decode cX4_digestOfEdges 34 = .ok (.iload 7, 2) := by decide +kernel
theorem dX4_digestOfEdges_36 : decode cX4_digestOfEdges 36 = .ok (.invokevirtual 103, 3) := by decide +kernel
theorem dX4_digestOfEdges_39 : decode cX4_digestOfEdges 39 = .ok (.i2l, 1) := by decide +kernel
theorem dX4_digestOfEdges_40 : decode cX4_digestOfEdges 40 = .ok (.ladd, 1) := by decide +kernel
theorem dX4_digestOfEdges_41 : decode cX4_digestOfEdges 41 = .ok (.lstore 4, 2) := by decide +kernel
theorem dX4_digestOfEdges_43 : decode cX4_digestOfEdges 43 = .ok (.iinc 7 1, 3) := by decide +kernel
theorem dX4_digestOfEdges_46 : decode cX4_digestOfEdges 46 = .ok (.goto (-28), 3) := by decide +kernel
theorem dX4_digestOfEdges_49 : decode cX4_digestOfEdges 49 = .ok (.aload_n 1, 1) := by decide +kernel
theorem dX4_digestOfEdges_50 : decode cX4_digestOfEdges 50 = .ok (.iload 6, 2) := by decide +kernel
theorem dX4_digestOfEdges_52 : decode cX4_digestOfEdges 52 = .ok (.invokevirtual 247, 3) := by decide +kernel
theorem dX4_digestOfEdges_55 : decode cX4_digestOfEdges 55 = .ok (.istore 7, 2) := by decide +kernel
theorem dX4_digestOfEdges_57 : decode cX4_digestOfEdges 57 = .ok (.iconst 0, 1) := by decide +kernel
theorem dX4_digestOfEdges_58 : decode cX4_digestOfEdges 58 = .ok (.istore 8, 2) := by decide +kernel
theorem dX4_digestOfEdges_60 : decode cX4_digestOfEdges 60 = .ok (.iload 8, 2) := by decide +kernel
theorem dX4_digestOfEdges_62 : decode cX4_digestOfEdges 62 = .ok (.iload 7, 2) := by decide +kernel
theorem dX4_digestOfEdges_64 : decode cX4_digestOfEdges 64 = .ok (.bipush 8, 2) := by decide +kernel
theorem dX4_digestOfEdges_66 : decode cX4_digestOfEdges 66 = .ok (.imul, 1) := by decide +kernel
theorem dX4_digestOfEdges_67 : decode cX4_digestOfEdges 67 = .ok (.if_icmp .ge 35, 3) := by decide +kernel
theorem dX4_digestOfEdges_70 : decode cX4_digestOfEdges 70 = .ok (.ldc2_w 194, 3) := by decide +kernel
theorem dX4_digestOfEdges_73 : decode cX4_digestOfEdges 73 = .ok (.lload 4, 2) := by decide +kernel
theorem dX4_digestOfEdges_75 : decode cX4_digestOfEdges 75 = .ok (.lmul, 1) := by decide +kernel
theorem dX4_digestOfEdges_76 : decode cX4_digestOfEdges 76 = .ok (.aload_n 1, 1) := by decide +kernel
theorem dX4_digestOfEdges_77 : decode cX4_digestOfEdges 77 = .ok (.iload 6, 2) := by decide +kernel
theorem dX4_digestOfEdges_79 : decode cX4_digestOfEdges 79 = .ok (.iload 8, 2) := by decide +kernel
theorem dX4_digestOfEdges_81 : decode cX4_digestOfEdges 81 = .ok (.bipush 8, 2) := by decide +kernel
theorem dX4_digestOfEdges_83 : decode cX4_digestOfEdges 83 = .ok (.idiv, 1) := by decide +kernel
theorem dX4_digestOfEdges_84 : decode cX4_digestOfEdges 84 = .ok (.iload 8, 2) := by decide +kernel
theorem dX4_digestOfEdges_86 : decode cX4_digestOfEdges 86 = .ok (.bipush 8, 2) := by decide +kernel
theorem dX4_digestOfEdges_88 : decode cX4_digestOfEdges 88 = .ok (.irem, 1) := by decide +kernel
theorem dX4_digestOfEdges_89 : decode cX4_digestOfEdges 89 = .ok (.invokevirtual 114, 3) := by decide +kernel
theorem dX4_digestOfEdges_92 : decode cX4_digestOfEdges 92 = .ok (.i2l, 1) := by decide +kernel
theorem dX4_digestOfEdges_93 : decode cX4_digestOfEdges 93 = .ok (.ladd, 1) := by decide +kernel
theorem dX4_digestOfEdges_94 : decode cX4_digestOfEdges 94 = .ok (.lstore 4, 2) := by decide +kernel
theorem dX4_digestOfEdges_96 : decode cX4_digestOfEdges 96 = .ok (.iinc 8 1, 3) := by decide +kernel
theorem dX4_digestOfEdges_99 : decode cX4_digestOfEdges 99 = .ok (.goto (-39), 3) := by decide +kernel
theorem dX4_digestOfEdges_102 : decode cX4_digestOfEdges 102 = .ok (.iinc 6 1, 3) := by decide +kernel
theorem dX4_digestOfEdges_105 : decode cX4_digestOfEdges 105 = .ok (.goto (-99), 3) := by decide +kernel
theorem dX4_digestOfEdges_108 : decode cX4_digestOfEdges 108 = .ok (.lload 4, 2) := by decide +kernel
theorem dX4_digestOfEdges_110 : decode cX4_digestOfEdges 110 = .ok (.lreturn, 1) := by decide +kernel
theorem dX5_init_0 : decode cX5_init 0 = .ok (.aload_n 0, 1) := by decide +kernel
theorem dX5_init_1 : decode cX5_init 1 = .ok (.invokespecial 1, 3) := by decide +kernel
theorem dX5_init_4 : decode cX5_init 4 = .ok (.aload_n 0, 1) := by decide +kernel
theorem dX5_init_5 : decode cX5_init 5 = .ok (.iconst 3, 1) := by decide +kernel
theorem dX5_init_6 : decode cX5_init 6 = .ok (.newarray .int, 2) := by decide +kernel
theorem dX5_init_8 : decode cX5_init 8 = .ok (.putfield 7, 3) := by decide +kernel
theorem dX5_init_11 : decode cX5_init 11 = .ok (.aload_n 0, 1) := by decide +kernel
theorem dX5_init_12 : decode cX5_init 12 = .ok (.sipush 926, 3) := by decide +kernel
theorem dX5_init_15 : decode cX5_init 15 = .ok (.newarray .int, 2) := by decide +kernel
theorem dX5_init_17 : decode cX5_init 17 = .ok (.putfield 13, 3) := by decide +kernel
theorem dX5_init_20 : decode cX5_init 20 = .ok (.aload_n 0, 1) := by decide +kernel
theorem dX5_init_21 : decode cX5_init 21 = .ok (.sipush 5556, 3) := by decide +kernel
theorem dX5_init_24 : decode cX5_init 24 = .ok (.newarray .int, 2) := by decide +kernel
theorem dX5_init_26 : decode cX5_init 26 = .ok (.putfield 16, 3) := by decide +kernel
theorem dX5_init_29 : decode cX5_init 29 = .ok (.aload_n 0, 1) := by decide +kernel
theorem dX5_init_30 : decode cX5_init 30 = .ok (.sipush 1536, 3) := by decide +kernel
theorem dX5_init_33 : decode cX5_init 33 = .ok (.newarray .int, 2) := by decide +kernel
theorem dX5_init_35 : decode cX5_init 35 = .ok (.putfield 19, 3) := by decide +kernel
theorem dX5_init_38 : decode cX5_init 38 = .ok (.aload_n 0, 1) := by decide +kernel
theorem dX5_init_39 : decode cX5_init 39 = .ok (.sipush 1536, 3) := by decide +kernel
theorem dX5_init_42 : decode cX5_init 42 = .ok (.newarray .int, 2) := by decide +kernel
theorem dX5_init_44 : decode cX5_init 44 = .ok (.putfield 22, 3) := by decide +kernel
theorem dX5_init_47 : decode cX5_init 47 = .ok (.aload_n 0, 1) := by decide +kernel
theorem dX5_init_48 : decode cX5_init 48 = .ok (.sipush 1536, 3) := by decide +kernel
theorem dX5_init_51 : decode cX5_init 51 = .ok (.newarray .int, 2) := by decide +kernel
theorem dX5_init_53 : decode cX5_init 53 = .ok (.putfield 25, 3) := by decide +kernel
theorem dX5_init_56 : decode cX5_init 56 = .ok (.aload_n 0, 1) := by decide +kernel
theorem dX5_init_57 : decode cX5_init 57 = .ok (.sipush 1536, 3) := by decide +kernel
theorem dX5_init_60 : decode cX5_init 60 = .ok (.newarray .int, 2) := by decide +kernel
theorem dX5_init_62 : decode cX5_init 62 = .ok (.putfield 28, 3) := by decide +kernel
theorem dX5_init_65 : decode cX5_init 65 = .ok (.aload_n 0, 1) := by decide +kernel
theorem dX5_init_66 : decode cX5_init 66 = .ok (.sipush 1536, 3) := by decide +kernel
theorem dX5_init_69 : decode cX5_init 69 = .ok (.newarray .int, 2) := by decide +kernel
theorem dX5_init_71 : decode cX5_init 71 = .ok (.putfield 31, 3) := by decide +kernel
theorem dX5_init_74 : decode cX5_init 74 = .ok (.aload_n 0, 1) := by decide +kernel
theorem dX5_init_75 : decode cX5_init 75 = .ok (.sipush 1536, 3) := by decide +kernel
theorem dX5_init_78 : decode cX5_init 78 = .ok (.newarray .int, 2) := by decide +kernel
theorem dX5_init_80 : decode cX5_init 80 = .ok (.putfield 34, 3) := by decide +kernel
theorem dX5_init_83 : decode cX5_init 83 = .ok (.aload_n 0, 1) := by decide +kernel
theorem dX5_init_84 : decode cX5_init 84 = .ok (.sipush 16384, 3) := by decide +kernel
theorem dX5_init_87 : decode cX5_init 87 = .ok (.newarray .int, 2) := by decide +kernel
theorem dX5_init_89 : decode cX5_init 89 = .ok (.putfield 37, 3) := by decide +kernel
theorem dX5_init_92 : decode cX5_init 92 = .ok (.aload_n 0, 1) := by decide +kernel
theorem dX5_init_93 : decode cX5_init 93 = .ok (.sipush 16384, 3) := by decide +kernel
theorem dX5_init_96 : decode cX5_init 96 = .ok (.newarray .int, 2) := by decide +kernel
theorem dX5_init_98 : decode cX5_init 98 = .ok (.putfield 40, 3) := by decide +kernel
theorem dX5_init_101 : decode cX5_init 101 = .ok (.aload_n 0, 1) := by decide +kernel
theorem dX5_init_102 : decode cX5_init 102 = .ok (.bipush 40, 2) := by decide +kernel
theorem dX5_init_104 : decode cX5_init 104 = .ok (.newarray .int, 2) := by decide +kernel
theorem dX5_init_106 : decode cX5_init 106 = .ok (.putfield 43, 3) := by decide +kernel
theorem dX5_init_109 : decode cX5_init 109 = .ok (.aload_n 0, 1) := by decide +kernel
theorem dX5_init_110 : decode cX5_init 110 = .ok (.bipush 40, 2) := by decide +kernel
theorem dX5_init_112 : decode cX5_init 112 = .ok (.newarray .int, 2) := by decide +kernel
theorem dX5_init_114 : decode cX5_init 114 = .ok (.putfield 46, 3) := by decide +kernel
theorem dX5_init_117 : decode cX5_init 117 = .ok (.aload_n 0, 1) := by decide +kernel
theorem dX5_init_118 : decode cX5_init 118 = .ok (.bipush 24, 2) := by decide +kernel
theorem dX5_init_120 : decode cX5_init 120 = .ok (.newarray .int, 2) := by decide +kernel
theorem dX5_init_122 : decode cX5_init 122 = .ok (.putfield 49, 3) := by decide +kernel
theorem dX5_init_125 : decode cX5_init 125 = .ok (.aload_n 0, 1) := by decide +kernel
theorem dX5_init_126 : decode cX5_init 126 = .ok (.sipush 8000, 3) := by decide +kernel
theorem dX5_init_129 : decode cX5_init 129 = .ok (.newarray .int, 2) := by decide +kernel
theorem dX5_init_131 : decode cX5_init 131 = .ok (.putfield 52, 3) := by decide +kernel
theorem dX5_init_134 : decode cX5_init 134 = .ok (.aload_n 0, 1) := by decide +kernel
theorem dX5_init_135 : decode cX5_init 135 = .ok (.sipush 1000, 3) := by decide +kernel
theorem dX5_init_138 : decode cX5_init 138 = .ok (.newarray .int, 2) := by decide +kernel
theorem dX5_init_140 : decode cX5_init 140 = .ok (.putfield 55, 3) := by decide +kernel
theorem dX5_init_143 : decode cX5_init 143 = .ok (.aload_n 0, 1) := by decide +kernel
theorem dX5_init_144 : decode cX5_init 144 = .ok (.bipush 120, 2) := by decide +kernel
theorem dX5_init_146 : decode cX5_init 146 = .ok (.newarray .int, 2) := by decide +kernel
theorem dX5_init_148 : decode cX5_init 148 = .ok (.putfield 58, 3) := by decide +kernel
theorem dX5_init_151 : decode cX5_init 151 = .ok (.aload_n 0, 1) := by decide +kernel
theorem dX5_init_152 : decode cX5_init 152 = .ok (.sipush 300, 3) := by decide +kernel
theorem dX5_init_155 : decode cX5_init 155 = .ok (.newarray .int, 2) := by decide +kernel
theorem dX5_init_157 : decode cX5_init 157 = .ok (.putfield 61, 3) := by decide +kernel
theorem dX5_init_160 : decode cX5_init 160 = .ok (.aload_n 0, 1) := by decide +kernel
theorem dX5_init_161 : decode cX5_init 161 = .ok (.getfield 13, 3) := by decide +kernel
theorem dX5_init_164 : decode cX5_init 164 = .ok (.iconst 3, 1) := by decide +kernel
theorem dX5_init_165 : decode cX5_init 165 = .ok (.iconst 1, 1) := by decide +kernel
theorem dX5_init_166 : decode cX5_init 166 = .ok (.iastore, 1) := by decide +kernel
theorem dX5_init_167 : decode cX5_init 167 = .ok (.aload_n 0, 1) := by decide +kernel
theorem dX5_init_168 : decode cX5_init 168 = .ok (.invokevirtual 64, 3) := by decide +kernel
theorem dX5_init_171 : decode cX5_init 171 = .ok (.pop, 1) := by decide +kernel
theorem dX5_init_172 : decode cX5_init 172 = .ok (.return_, 1) := by decide +kernel
theorem dX5_bad_0 : decode cX5_bad 0 = .ok (.aload_n 0, 1) := by decide +kernel
theorem dX5_bad_1 : decode cX5_bad 1 = .ok (.getfield 7, 3) := by decide +kernel
theorem dX5_bad_4 : decode cX5_bad 4 = .ok (.iconst 0, 1) := by decide +kernel
theorem dX5_bad_5 : decode cX5_bad 5 = .ok (.dup2, 1) := by decide +kernel
theorem dX5_bad_6 : decode cX5_bad 6 = .ok (.iaload, 1) := by decide +kernel
theorem dX5_bad_7 : decode cX5_bad 7 = .ok (.iconst 1, 1) := by decide +kernel
theorem dX5_bad_8 : decode cX5_bad 8 = .ok (.iadd, 1) := by decide +kernel
theorem dX5_bad_9 : decode cX5_bad 9 = .ok (.iastore, 1) := by decide +kernel
theorem dX5_bad_10 : decode cX5_bad 10 = .ok (.bipush (-2), 2) := by decide +kernel
theorem dX5_bad_12 : decode cX5_bad 12 = .ok (.ireturn, 1) := by decide +kernel
theorem dX5_no_0 : decode cX5_no 0 = .ok (.aload_n 0, 1) := by decide +kernel
theorem dX5_no_1 : decode cX5_no 1 = .ok (.getfield 7, 3) := by decide +kernel
theorem dX5_no_4 : decode cX5_no 4 = .ok (.iconst 1, 1) := by decide +kernel
theorem dX5_no_5 : decode cX5_no 5 = .ok (.dup2, 1) := by decide +kernel
theorem dX5_no_6 : decode cX5_no 6 = .ok (.iaload, 1) := by decide +kernel
theorem dX5_no_7 : decode cX5_no 7 = .ok (.iconst 1, 1) := by decide +kernel
theorem dX5_no_8 : decode cX5_no 8 = .ok (.iadd, 1) := by decide +kernel
theorem dX5_no_9 : decode cX5_no 9 = .ok (.iastore, 1) := by decide +kernel
theorem dX5_no_10 : decode cX5_no 10 = .ok (.bipush (-3), 2) := by decide +kernel
theorem dX5_no_12 : decode cX5_no 12 = .ok (.ireturn, 1) := by decide +kernel
theorem dX5_full_0 : decode cX5_full 0 = .ok (.aload_n 0, 1) := by decide +kernel
theorem dX5_full_1 : decode cX5_full 1 = .ok (.getfield 7, 3) := by decide +kernel
theorem dX5_full_4 : decode cX5_full 4 = .ok (.iconst 2, 1) := by decide +kernel
theorem dX5_full_5 : decode cX5_full 5 = .ok (.dup2, 1) := by decide +kernel
theorem dX5_full_6 : decode cX5_full 6 = .ok (.iaload, 1) := by decide +kernel
theorem dX5_full_7 : decode cX5_full 7 = .ok (.iconst 1, 1) := by decide +kernel
theorem dX5_full_8 : decode cX5_full 8 = .ok (.iadd, 1) := by decide +kernel
theorem dX5_full_9 : decode cX5_full 9 = .ok (.iastore, 1) := by decide +kernel
theorem dX5_full_10 : decode cX5_full 10 = .ok (.bipush (-4), 2) := by decide +kernel
theorem dX5_full_12 : decode cX5_full 12 = .ok (.ireturn, 1) := by decide +kernel
theorem dX5_counted_0 : decode cX5_counted 0 = .ok (.iload_n 1, 1) := by decide +kernel
theorem dX5_counted_1 : decode cX5_counted 1 = .ok (.bipush (-2), 2) := by decide +kernel
theorem dX5_counted_3 : decode cX5_counted 3 = .ok (.if_icmp .ne 10, 3) := by decide +kernel
theorem dX5_counted_6 : decode cX5_counted 6 = .ok (.aload_n 0, 1) := by decide +kernel
theorem dX5_counted_7 : decode cX5_counted 7 = .ok (.invokevirtual 68, 3) := by decide +kernel
theorem dX5_counted_10 : decode cX5_counted 10 = .ok (.goto 30, 3) := by decide +kernel
theorem dX5_counted_13 : decode cX5_counted 13 = .ok (.iload_n 1, 1) := by decide +kernel
theorem dX5_counted_14 : decode cX5_counted 14 = .ok (.bipush (-3), 2) := by decide +kernel
theorem dX5_counted_16 : decode cX5_counted 16 = .ok (.if_icmp .ne 10, 3) := by decide +kernel
theorem dX5_counted_19 : decode cX5_counted 19 = .ok (.aload_n 0, 1) := by decide +kernel
theorem dX5_counted_20 : decode cX5_counted 20 = .ok (.invokevirtual 71, 3) := by decide +kernel
theorem dX5_counted_23 : decode cX5_counted 23 = .ok (.goto 17, 3) := by decide +kernel
theorem dX5_counted_26 : decode cX5_counted 26 = .ok (.iload_n 1, 1) := by decide +kernel
theorem dX5_counted_27 : decode cX5_counted 27 = .ok (.bipush (-4), 2) := by decide +kernel
theorem dX5_counted_29 : decode cX5_counted 29 = .ok (.if_icmp .ne 10, 3) := by decide +kernel
theorem dX5_counted_32 : decode cX5_counted 32 = .ok (.aload_n 0, 1) := by decide +kernel
theorem dX5_counted_33 : decode cX5_counted 33 = .ok (.invokevirtual 74, 3) := by decide +kernel
theorem dX5_counted_36 : decode cX5_counted 36 = .ok (.goto 4, 3) := by decide +kernel
theorem dX5_counted_39 : decode cX5_counted 39 = .ok (.iload_n 1, 1) := by decide +kernel
theorem dX5_counted_40 : decode cX5_counted 40 = .ok (.ireturn, 1) := by decide +kernel
theorem dX5_in_0 : decode cX5_in 0 = .ok (.iload_n 0, 1) := by decide +kernel
theorem dX5_in_1 : decode cX5_in 1 = .ok (.iload_n 1, 1) := by decide +kernel
theorem dX5_in_2 : decode cX5_in 2 = .ok (.if_icmp .lt 12, 3) := by decide +kernel
theorem dX5_in_5 : decode cX5_in 5 = .ok (.iload_n 0, 1) := by decide +kernel
theorem dX5_in_6 : decode cX5_in 6 = .ok (.iload_n 2, 1) := by decide +kernel
theorem dX5_in_7 : decode cX5_in 7 = .ok (.if_icmp .gt 7, 3) := by decide +kernel
theorem dX5_in_10 : decode cX5_in 10 = .ok (.iconst 1, 1) := by decide +kernel
theorem dX5_in_11 : decode cX5_in 11 = .ok (.goto 4, 3) := by decide +kernel
theorem dX5_in_14 : decode cX5_in 14 = .ok (.iconst 0, 1) := by decide +kernel
theorem dX5_in_15 : decode cX5_in 15 = .ok (.ireturn, 1) := by decide +kernel
theorem dX5_puts_0 : decode cX5_puts 0 = .ok (.iconst 0, 1) := by decide +kernel
theorem dX5_puts_1 : decode cX5_puts 1 = .ok (.istore_n 2, 1) := by decide +kernel
theorem dX5_puts_2 : decode cX5_puts 2 = .ok (.iload_n 2, 1) := by decide +kernel
theorem dX5_puts_3 : decode cX5_puts 3 = .ok (.sipush 926, 3) := by decide +kernel
theorem dX5_puts_6 : decode cX5_puts 6 = .ok (.if_icmp .ge 27, 3) := by decide +kernel
theorem dX5_puts_9 : decode cX5_puts 9 = .ok (.aload_n 0, 1) := by decide +kernel
theorem dX5_puts_10 : decode cX5_puts 10 = .ok (.getfield 16, 3) := by decide +kernel
theorem dX5_puts_13 : decode cX5_puts 13 = .ok (.sipush 926, 3) := by decide +kernel
theorem dX5_puts_16 : decode cX5_puts 16 = .ok (.iload_n 1, 1) := by decide +kernel
theorem dX5_puts_17 : decode cX5_puts 17 = .ok (.imul, 1) := by decide +kernel
theorem dX5_puts_18 : decode cX5_puts 18 = .ok (.iload_n 2, 1) := by decide +kernel
theorem dX5_puts_19 : decode cX5_puts 19 = .ok (.iadd, 1) := by decide +kernel
theorem dX5_puts_20 : decode cX5_puts 20 = .ok (.aload_n 0, 1) := by decide +kernel
theorem dX5_puts_21 : decode cX5_puts 21 = .ok (.getfield 13, 3) := by decide +kernel
theorem dX5_puts_24 : decode cX5_puts 24 = .ok (.iload_n 2, 1) := by decide +kernel
theorem dX5_puts_25 : decode cX5_puts 25 = .ok (.iaload, 1) := by decide +kernel
theorem dX5_puts_26 : decode cX5_puts 26 = .ok (.iastore, 1) := by decide +kernel
theorem dX5_puts_27 : decode cX5_puts 27 = .ok (.iinc 2 1, 3) := by decide +kernel
theorem dX5_puts_30 : decode cX5_puts 30 = .ok (.goto (-28), 3) := by decide +kernel
theorem dX5_puts_33 : decode cX5_puts 33 = .ok (.return_, 1) := by decide +kernel
theorem dX5_takes_0 : decode cX5_takes 0 = .ok (.iconst 0, 1) := by decide +kernel
theorem dX5_takes_1 : decode cX5_takes 1 = .ok (.istore_n 2, 1) := by decide +kernel
theorem dX5_takes_2 : decode cX5_takes 2 = .ok (.iload_n 2, 1) := by decide +kernel
theorem dX5_takes_3 : decode cX5_takes 3 = .ok (.sipush 926, 3) := by decide +kernel
theorem dX5_takes_6 : decode cX5_takes 6 = .ok (.if_icmp .ge 27, 3) := by decide +kernel
theorem dX5_takes_9 : decode cX5_takes 9 = .ok (.aload_n 0, 1) := by decide +kernel
theorem dX5_takes_10 : decode cX5_takes 10 = .ok (.getfield 13, 3) := by decide +kernel
theorem dX5_takes_13 : decode cX5_takes 13 = .ok (.iload_n 2, 1) := by decide +kernel
theorem dX5_takes_14 : decode cX5_takes 14 = .ok (.aload_n 0, 1) := by decide +kernel
theorem dX5_takes_15 : decode cX5_takes 15 = .ok (.getfield 16, 3) := by decide +kernel
theorem dX5_takes_18 : decode cX5_takes 18 = .ok (.sipush 926, 3) := by decide +kernel
theorem dX5_takes_21 : decode cX5_takes 21 = .ok (.iload_n 1, 1) := by decide +kernel
theorem dX5_takes_22 : decode cX5_takes 22 = .ok (.imul, 1) := by decide +kernel
theorem dX5_takes_23 : decode cX5_takes 23 = .ok (.iload_n 2, 1) := by decide +kernel
theorem dX5_takes_24 : decode cX5_takes 24 = .ok (.iadd, 1) := by decide +kernel
theorem dX5_takes_25 : decode cX5_takes 25 = .ok (.iaload, 1) := by decide +kernel
theorem dX5_takes_26 : decode cX5_takes 26 = .ok (.iastore, 1) := by decide +kernel
theorem dX5_takes_27 : decode cX5_takes 27 = .ok (.iinc 2 1, 3) := by decide +kernel
theorem dX5_takes_30 : decode cX5_takes 30 = .ok (.goto (-28), 3) := by decide +kernel
theorem dX5_takes_33 : decode cX5_takes 33 = .ok (.aload_n 0, 1) := by decide +kernel
theorem dX5_takes_34 : decode cX5_takes 34 = .ok (.iconst 0, 1) := by decide +kernel
theorem dX5_takes_35 : decode cX5_takes 35 = .ok (.putfield 77, 3) := by decide +kernel
theorem dX5_takes_38 : decode cX5_takes 38 = .ok (.return_, 1) := by decide +kernel
theorem dX5_leavesState_0 : decode cX5_leavesState 0 = .ok (.aload_n 0, 1) := by decide +kernel
theorem dX5_leavesState_1 : decode cX5_leavesState 1 = .ok (.getfield 81, 3) := by decide +kernel
theorem dX5_leavesState_4 : decode cX5_leavesState 4 = .ok (.iconst 5, 1) := by decide +kernel
theorem dX5_leavesState_5 : decode cX5_leavesState 5 = .ok (.if_icmp .ne 44, 3) := by decide +kernel
theorem dX5_leavesState_8 : decode cX5_leavesState 8 = .ok (.iconst 0, 1) := by decide +kernel
theorem dX5_leavesState_9 : decode cX5_leavesState 9 = .ok (.istore_n 1, 1) := by decide +kernel
theorem dX5_leavesState_10 : decode cX5_leavesState 10 = .ok (.iload_n 1, 1) := by decide +kernel
theorem dX5_leavesState_11 : decode cX5_leavesState 11 = .ok (.sipush 3704, 3) := by decide +kernel
theorem dX5_leavesState_14 : decode cX5_leavesState 14 = .ok (.if_icmp .ge 25, 3) := by decide +kernel
theorem dX5_leavesState_17 : decode cX5_leavesState 17 = .ok (.aload_n 0, 1) := by decide +kernel
theorem dX5_leavesState_18 : decode cX5_leavesState 18 = .ok (.getfield 16, 3) := by decide +kernel
theorem dX5_leavesState_21 : decode cX5_leavesState 21 = .ok (.iload_n 1, 1) := by decide +kernel
theorem dX5_leavesState_22 : decode cX5_leavesState 22 = .ok (.aload_n 0, 1) := by decide +kernel
theorem dX5_leavesState_23 : decode cX5_leavesState 23 = .ok (.getfield 16, 3) := by decide +kernel
theorem dX5_leavesState_26 : decode cX5_leavesState 26 = .ok (.iload_n 1, 1) := by decide +kernel
theorem dX5_leavesState_27 : decode cX5_leavesState 27 = .ok (.sipush 926, 3) := by decide +kernel
theorem dX5_leavesState_30 : decode cX5_leavesState 30 = .ok (.iadd, 1) := by decide +kernel
theorem dX5_leavesState_31 : decode cX5_leavesState 31 = .ok (.iaload, 1) := by decide +kernel
theorem dX5_leavesState_32 : decode cX5_leavesState 32 = .ok (.iastore, 1) := by decide +kernel
theorem dX5_leavesState_33 : decode cX5_leavesState 33 = .ok (.iinc 1 1, 3) := by decide +kernel
theorem dX5_leavesState_36 : decode cX5_leavesState 36 = .ok (.goto (-26), 3) := by decide +kernel
theorem dX5_leavesState_39 : decode cX5_leavesState 39 = .ok (.aload_n 0, 1) := by decide +kernel
theorem dX5_leavesState_40 : decode cX5_leavesState 40 = .ok (.dup, 1) := by decide +kernel
theorem dX5_leavesState_41 : decode cX5_leavesState 41 = .ok (.getfield 81, 3) := by decide +kernel
theorem dX5_leavesState_44 : decode cX5_leavesState 44 = .ok (.iconst 1, 1) := by decide +kernel
theorem dX5_leavesState_45 : decode cX5_leavesState 45 = .ok (.isub, 1) := by decide +kernel
theorem dX5_leavesState_46 : decode cX5_leavesState 46 = .ok (.putfield 81, 3) := by decide +kernel
theorem dX5_leavesState_49 : decode cX5_leavesState 49 = .ok (.iconst 0, 1) := by decide +kernel
theorem dX5_leavesState_50 : decode cX5_leavesState 50 = .ok (.istore_n 1, 1) := by decide +kernel
theorem dX5_leavesState_51 : decode cX5_leavesState 51 = .ok (.iload_n 1, 1) := by decide +kernel
theorem dX5_leavesState_52 : decode cX5_leavesState 52 = .ok (.sipush 926, 3) := by decide +kernel
theorem dX5_leavesState_55 : decode cX5_leavesState 55 = .ok (.if_icmp .ge 34, 3) := by decide +kernel
theorem dX5_leavesState_58 : decode cX5_leavesState 58 = .ok (.aload_n 0, 1) := by decide +kernel
theorem dX5_leavesState_59 : decode cX5_leavesState 59 = .ok (.getfield 16, 3) := by decide +kernel
theorem dX5_leavesState_62 : decode cX5_leavesState 62 = .ok (.sipush 926, 3) := by decide +kernel
theorem dX5_leavesState_65 : decode cX5_leavesState 65 = .ok (.aload_n 0, 1) := by decide +kernel
theorem dX5_leavesState_66 : decode cX5_leavesState 66 = .ok (.getfield 81, 3) := by decide +kernel
theorem dX5_leavesState_69 : decode cX5_leavesState 69 = .ok (.imul, 1) := by decide +kernel
theorem dX5_leavesState_70 : decode cX5_leavesState 70 = .ok (.iload_n 1, 1) := by decide +kernel
theorem dX5_leavesState_71 : decode cX5_leavesState 71 = .ok (.iadd, 1) := by decide +kernel
theorem dX5_leavesState_72 : decode cX5_leavesState 72 = .ok (.aload_n 0, 1) := by decide +kernel
theorem dX5_leavesState_73 : decode cX5_leavesState 73 = .ok (.getfield 16, 3) := by decide +kernel
theorem dX5_leavesState_76 : decode cX5_leavesState 76 = .ok (.sipush 4630, 3) := by decide +kernel
theorem dX5_leavesState_79 : decode cX5_leavesState 79 = .ok (.iload_n 1, 1) := by decide +kernel
theorem dX5_leavesState_80 : decode cX5_leavesState 80 = .ok (.iadd, 1) := by decide +kernel
theorem dX5_leavesState_81 : decode cX5_leavesState 81 = .ok (.iaload, 1) := by decide +kernel
theorem dX5_leavesState_82 : decode cX5_leavesState 82 = .ok (.iastore, 1) := by decide +kernel
theorem dX5_leavesState_83 : decode cX5_leavesState 83 = .ok (.iinc 1 1, 3) := by decide +kernel
theorem dX5_leavesState_86 : decode cX5_leavesState 86 = .ok (.goto (-35), 3) := by decide +kernel
theorem dX5_leavesState_89 : decode cX5_leavesState 89 = .ok (.aload_n 0, 1) := by decide +kernel
theorem dX5_leavesState_90 : decode cX5_leavesState 90 = .ok (.dup, 1) := by decide +kernel
theorem dX5_leavesState_91 : decode cX5_leavesState 91 = .ok (.getfield 81, 3) := by decide +kernel
theorem dX5_leavesState_94 : decode cX5_leavesState 94 = .ok (.iconst 1, 1) := by decide +kernel
theorem dX5_leavesState_95 : decode cX5_leavesState 95 = .ok (.iadd, 1) := by decide +kernel
theorem dX5_leavesState_96 : decode cX5_leavesState 96 = .ok (.putfield 81, 3) := by decide +kernel
theorem dX5_leavesState_99 : decode cX5_leavesState 99 = .ok (.aload_n 0, 1) := by decide +kernel
theorem dX5_leavesState_100 : decode cX5_leavesState 100 = .ok (.iconst 0, 1) := by decide +kernel
theorem dX5_leavesState_101 : decode cX5_leavesState 101 = .ok (.putfield 77, 3) := by decide +kernel
theorem dX5_leavesState_104 : decode cX5_leavesState 104 = .ok (.return_, 1) := by decide +kernel
theorem dX5_back_0 : decode cX5_back 0 = .ok (.aload_n 0, 1) := by decide +kernel
theorem dX5_back_1 : decode cX5_back 1 = .ok (.getfield 81, 3) := by decide +kernel
theorem dX5_back_4 : decode cX5_back 4 = .ok (.ifCond .ne 8, 3) := by decide +kernel
theorem dX5_back_7 : decode cX5_back 7 = .ok (.aload_n 0, 1) := by decide +kernel
theorem dX5_back_8 : decode cX5_back 8 = .ok (.invokevirtual 71, 3) := by decide +kernel
theorem dX5_back_11 : decode cX5_back 11 = .ok (.ireturn, 1) := by decide +kernel
theorem dX5_back_12 : decode cX5_back 12 = .ok (.aload_n 0, 1) := by decide +kernel
theorem dX5_back_13 : decode cX5_back 13 = .ok (.dup, 1) := by decide +kernel
theorem dX5_back_14 : decode cX5_back 14 = .ok (.getfield 81, 3) := by decide +kernel
theorem dX5_back_17 : decode cX5_back 17 = .ok (.iconst 1, 1) := by decide +kernel
theorem dX5_back_18 : decode cX5_back 18 = .ok (.isub, 1) := by decide +kernel
theorem dX5_back_19 : decode cX5_back 19 = .ok (.putfield 81, 3) := by decide +kernel
theorem dX5_back_22 : decode cX5_back 22 = .ok (.aload_n 0, 1) := by decide +kernel
theorem dX5_back_23 : decode cX5_back 23 = .ok (.aload_n 0, 1) := by decide +kernel
theorem dX5_back_24 : decode cX5_back 24 = .ok (.getfield 81, 3) := by decide +kernel
theorem dX5_back_27 : decode cX5_back 27 = .ok (.invokevirtual 85, 3) := by decide +kernel
theorem dX5_back_30 : decode cX5_back 30 = .ok (.aload_n 0, 1) := by decide +kernel
theorem dX5_back_31 : decode cX5_back 31 = .ok (.getfield 81, 3) := by decide +kernel
theorem dX5_back_34 : decode cX5_back 34 = .ok (.ireturn, 1) := by decide +kernel
theorem dX5_isProc_0 : decode cX5_isProc 0 = .ok (.iload_n 1, 1) := by decide +kernel
theorem dX5_isProc_1 : decode cX5_isProc 1 = .ok (.iconst 0, 1) := by decide +kernel
theorem dX5_isProc_2 : decode cX5_isProc 2 = .ok (.aload_n 0, 1) := by decide +kernel
theorem dX5_isProc_3 : decode cX5_isProc 3 = .ok (.getfield 13, 3) := by decide +kernel
theorem dX5_isProc_6 : decode cX5_isProc 6 = .ok (.iconst 0, 1) := by decide +kernel
theorem dX5_isProc_7 : decode cX5_isProc 7 = .ok (.iaload, 1) := by decide +kernel
theorem dX5_isProc_8 : decode cX5_isProc 8 = .ok (.iconst 1, 1) := by decide +kernel
theorem dX5_isProc_9 : decode cX5_isProc 9 = .ok (.isub, 1) := by decide +kernel
theorem dX5_isProc_10 : decode cX5_isProc 10 = .ok (.invokestatic 89, 3) := by decide +kernel
theorem dX5_isProc_13 : decode cX5_isProc 13 = .ok (.ireturn, 1) := by decide +kernel
theorem dX5_isNode_0 : decode cX5_isNode 0 = .ok (.iload_n 1, 1) := by decide +kernel
theorem dX5_isNode_1 : decode cX5_isNode 1 = .ok (.iconst 0, 1) := by decide +kernel
theorem dX5_isNode_2 : decode cX5_isNode 2 = .ok (.aload_n 0, 1) := by decide +kernel
theorem dX5_isNode_3 : decode cX5_isNode 3 = .ok (.getfield 13, 3) := by decide +kernel
theorem dX5_isNode_6 : decode cX5_isNode 6 = .ok (.iconst 1, 1) := by decide +kernel
theorem dX5_isNode_7 : decode cX5_isNode 7 = .ok (.iaload, 1) := by decide +kernel
theorem dX5_isNode_8 : decode cX5_isNode 8 = .ok (.iconst 1, 1) := by decide +kernel
theorem dX5_isNode_9 : decode cX5_isNode 9 = .ok (.isub, 1) := by decide +kernel
theorem dX5_isNode_10 : decode cX5_isNode 10 = .ok (.invokestatic 89, 3) := by decide +kernel
theorem dX5_isNode_13 : decode cX5_isNode 13 = .ok (.ireturn, 1) := by decide +kernel
theorem dX5_isEdge_0 : decode cX5_isEdge 0 = .ok (.iload_n 1, 1) := by decide +kernel
theorem dX5_isEdge_1 : decode cX5_isEdge 1 = .ok (.iconst 0, 1) := by decide +kernel
theorem dX5_isEdge_2 : decode cX5_isEdge 2 = .ok (.aload_n 0, 1) := by decide +kernel
theorem dX5_isEdge_3 : decode cX5_isEdge 3 = .ok (.getfield 13, 3) := by decide +kernel
theorem dX5_isEdge_6 : decode cX5_isEdge 6 = .ok (.iconst 2, 1) := by decide +kernel
theorem dX5_isEdge_7 : decode cX5_isEdge 7 = .ok (.iaload, 1) := by decide +kernel
theorem dX5_isEdge_8 : decode cX5_isEdge 8 = .ok (.iconst 1, 1) := by decide +kernel
theorem dX5_isEdge_9 : decode cX5_isEdge 9 = .ok (.isub, 1) := by decide +kernel
theorem dX5_isEdge_10 : decode cX5_isEdge 10 = .ok (.invokestatic 89, 3) := by decide +kernel
theorem dX5_isEdge_13 : decode cX5_isEdge 13 = .ok (.ireturn, 1) := by decide +kernel
theorem dX5_procOf_0 : decode cX5_procOf 0 = .ok (.aload_n 0, 1) := by decide +kernel
theorem dX5_procOf_1 : decode cX5_procOf 1 = .ok (.getfield 13, 3) := by decide +kernel
theorem dX5_procOf_4 : decode cX5_procOf 4 = .ok (.bipush 14, 2) := by decide +kernel
theorem dX5_procOf_6 : decode cX5_procOf 6 = .ok (.iconst 2, 1) := by decide +kernel
theorem dX5_procOf_7 : decode cX5_procOf 7 = .ok (.iload_n 1, 1) := by decide +kernel
theorem dX5_procOf_8 : decode cX5_procOf 8 = .ok (.imul, 1) := by decide +kernel
theorem dX5_procOf_9 : decode cX5_procOf 9 = .ok (.iadd, 1) := by decide +kernel
theorem dX5_procOf_10 : decode cX5_procOf 10 = .ok (.iaload, 1) := by decide +kernel
theorem dX5_procOf_11 : decode cX5_procOf 11 = .ok (.ireturn, 1) := by decide +kernel
theorem dX5_sortOf_0 : decode cX5_sortOf 0 = .ok (.aload_n 0, 1) := by decide +kernel
theorem dX5_sortOf_1 : decode cX5_sortOf 1 = .ok (.getfield 13, 3) := by decide +kernel
theorem dX5_sortOf_4 : decode cX5_sortOf 4 = .ok (.bipush 14, 2) := by decide +kernel
theorem dX5_sortOf_6 : decode cX5_sortOf 6 = .ok (.iconst 2, 1) := by decide +kernel
theorem dX5_sortOf_7 : decode cX5_sortOf 7 = .ok (.iload_n 1, 1) := by decide +kernel
theorem dX5_sortOf_8 : decode cX5_sortOf 8 = .ok (.imul, 1) := by decide +kernel
theorem dX5_sortOf_9 : decode cX5_sortOf 9 = .ok (.iadd, 1) := by decide +kernel
theorem dX5_sortOf_10 : decode cX5_sortOf 10 = .ok (.iconst 1, 1) := by decide +kernel
theorem dX5_sortOf_11 : decode cX5_sortOf 11 = .ok (.iadd, 1) := by decide +kernel
theorem dX5_sortOf_12 : decode cX5_sortOf 12 = .ok (.iaload, 1) := by decide +kernel
theorem dX5_sortOf_13 : decode cX5_sortOf 13 = .ok (.ireturn, 1) := by decide +kernel
theorem dX5_edgeOf_0 : decode cX5_edgeOf 0 = .ok (.aload_n 0, 1) := by decide +kernel
theorem dX5_edgeOf_1 : decode cX5_edgeOf 1 = .ok (.getfield 13, 3) := by decide +kernel
theorem dX5_edgeOf_4 : decode cX5_edgeOf 4 = .ok (.bipush 62, 2) := by decide +kernel
theorem dX5_edgeOf_6 : decode cX5_edgeOf 6 = .ok (.bipush 27, 2) := by decide +kernel
theorem dX5_edgeOf_8 : decode cX5_edgeOf 8 = .ok (.iload_n 1, 1) := by decide +kernel
theorem dX5_edgeOf_9 : decode cX5_edgeOf 9 = .ok (.imul, 1) := by decide +kernel
theorem dX5_edgeOf_10 : decode cX5_edgeOf 10 = .ok (.iadd, 1) := by decide +kernel
theorem dX5_edgeOf_11 : decode cX5_edgeOf 11 = .ok (.iload_n 2, 1) := by decide +kernel
theorem dX5_edgeOf_12 : decode cX5_edgeOf 12 = .ok (.iadd, 1) := by decide +kernel
theorem dX5_edgeOf_13 : decode cX5_edgeOf 13 = .ok (.iaload, 1) := by decide +kernel
theorem dX5_edgeOf_14 : decode cX5_edgeOf 14 = .ok (.ireturn, 1) := by decide +kernel
theorem dX5_flowOf_0 : decode cX5_flowOf 0 = .ok (.aload_n 0, 1) := by decide +kernel
theorem dX5_flowOf_1 : decode cX5_flowOf 1 = .ok (.getfield 13, 3) := by decide +kernel
theorem dX5_flowOf_4 : decode cX5_flowOf 4 = .ok (.bipush 62, 2) := by decide +kernel
theorem dX5_flowOf_6 : decode cX5_flowOf 6 = .ok (.bipush 27, 2) := by decide +kernel
theorem dX5_flowOf_8 : decode cX5_flowOf 8 = .ok (.iload_n 1, 1) := by decide +kernel
theorem dX5_flowOf_9 : decode cX5_flowOf 9 = .ok (.imul, 1) := by decide +kernel
theorem dX5_flowOf_10 : decode cX5_flowOf 10 = .ok (.iadd, 1) := by decide +kernel
theorem dX5_flowOf_11 : decode cX5_flowOf 11 = .ok (.iconst 3, 1) := by decide +kernel
theorem dX5_flowOf_12 : decode cX5_flowOf 12 = .ok (.iadd, 1) := by decide +kernel
theorem dX5_flowOf_13 : decode cX5_flowOf 13 = .ok (.bipush 8, 2) := by decide +kernel
theorem dX5_flowOf_15 : decode cX5_flowOf 15 = .ok (.iload_n 2, 1) := by decide +kernel
theorem dX5_flowOf_16 : decode cX5_flowOf 16 = .ok (.imul, 1) := by decide +kernel
theorem dX5_flowOf_17 : decode cX5_flowOf 17 = .ok (.iadd, 1) := by decide +kernel
theorem dX5_flowOf_18 : decode cX5_flowOf 18 = .ok (.iload_n 3, 1) := by decide +kernel
theorem dX5_flowOf_19 : decode cX5_flowOf 19 = .ok (.iadd, 1) := by decide +kernel
theorem dX5_flowOf_20 : decode cX5_flowOf 20 = .ok (.iaload, 1) := by decide +kernel
theorem dX5_flowOf_21 : decode cX5_flowOf 21 = .ok (.ireturn, 1) := by decide +kernel
theorem dX5_addNode_0 : decode cX5_addNode 0 = .ok (.aload_n 0, 1) := by decide +kernel
theorem dX5_addNode_1 : decode cX5_addNode 1 = .ok (.getfield 13, 3) := by decide +kernel
theorem dX5_addNode_4 : decode cX5_addNode 4 = .ok (.iconst 1, 1) := by decide +kernel
theorem dX5_addNode_5 : decode cX5_addNode 5 = .ok (.iaload, 1) := by decide +kernel
theorem dX5_addNode_6 : decode cX5_addNode 6 = .ok (.istore_n 3, 1) := by decide +kernel
theorem dX5_addNode_7 : decode cX5_addNode 7 = .ok (.aload_n 0, 1) := by decide +kernel
theorem dX5_addNode_8 : decode cX5_addNode 8 = .ok (.getfield 13, 3) := by decide +kernel
theorem dX5_addNode_11 : decode cX5_addNode 11 = .ok (.bipush 14, 2) := by decide +kernel
theorem dX5_addNode_13 : decode cX5_addNode 13 = .ok (.iconst 2, 1) := by decide +kernel
theorem dX5_addNode_14 : decode cX5_addNode 14 = .ok (.iload_n 3, 1) := by decide +kernel
theorem dX5_addNode_15 : decode cX5_addNode 15 = .ok (.imul, 1) := by decide +kernel
theorem dX5_addNode_16 : decode cX5_addNode 16 = .ok (.iadd, 1) := by decide +kernel
theorem dX5_addNode_17 : decode cX5_addNode 17 = .ok (.iload_n 1, 1) := by decide +kernel
theorem dX5_addNode_18 : decode cX5_addNode 18 = .ok (.iastore, 1) := by decide +kernel
theorem dX5_addNode_19 : decode cX5_addNode 19 = .ok (.aload_n 0, 1) := by decide +kernel
theorem dX5_addNode_20 : decode cX5_addNode 20 = .ok (.getfield 13, 3) := by decide +kernel
theorem dX5_addNode_23 : decode cX5_addNode 23 = .ok (.bipush 14, 2) := by decide +kernel
theorem dX5_addNode_25 : decode cX5_addNode 25 = .ok (.iconst 2, 1) := by decide +kernel
theorem dX5_addNode_26 : decode cX5_addNode 26 = .ok (.iload_n 3, 1) := by decide +kernel
theorem dX5_addNode_27 : decode cX5_addNode 27 = .ok (.imul, 1) := by decide +kernel
theorem dX5_addNode_28 : decode cX5_addNode 28 = .ok (.iadd, 1) := by decide +kernel
theorem dX5_addNode_29 : decode cX5_addNode 29 = .ok (.iconst 1, 1) := by decide +kernel
theorem dX5_addNode_30 : decode cX5_addNode 30 = .ok (.iadd, 1) := by decide +kernel
theorem dX5_addNode_31 : decode cX5_addNode 31 = .ok (.iload_n 2, 1) := by decide +kernel
theorem dX5_addNode_32 : decode cX5_addNode 32 = .ok (.iastore, 1) := by decide +kernel
theorem dX5_addNode_33 : decode cX5_addNode 33 = .ok (.aload_n 0, 1) := by decide +kernel
theorem dX5_addNode_34 : decode cX5_addNode 34 = .ok (.getfield 13, 3) := by decide +kernel
theorem dX5_addNode_37 : decode cX5_addNode 37 = .ok (.iconst 1, 1) := by decide +kernel
theorem dX5_addNode_38 : decode cX5_addNode 38 = .ok (.dup2, 1) := by decide +kernel
theorem dX5_addNode_39 : decode cX5_addNode 39 = .ok (.iaload, 1) := by decide +kernel
theorem dX5_addNode_40 : decode cX5_addNode 40 = .ok (.iconst 1, 1) := by decide +kernel
theorem dX5_addNode_41 : decode cX5_addNode 41 = .ok (.iadd, 1) := by decide +kernel
theorem dX5_addNode_42 : decode cX5_addNode 42 = .ok (.iastore, 1) := by decide +kernel
theorem dX5_addNode_43 : decode cX5_addNode 43 = .ok (.iload_n 3, 1) := by decide +kernel
theorem dX5_addNode_44 : decode cX5_addNode 44 = .ok (.ireturn, 1) := by decide +kernel
theorem dX5_addProc_0 : decode cX5_addProc 0 = .ok (.aload_n 0, 1) := by decide +kernel
theorem dX5_addProc_1 : decode cX5_addProc 1 = .ok (.getfield 13, 3) := by decide +kernel
theorem dX5_addProc_4 : decode cX5_addProc 4 = .ok (.iconst 0, 1) := by decide +kernel
theorem dX5_addProc_5 : decode cX5_addProc 5 = .ok (.iaload, 1) := by decide +kernel
theorem dX5_addProc_6 : decode cX5_addProc 6 = .ok (.iconst 5, 1) := by decide +kernel
theorem dX5_addProc_7 : decode cX5_addProc 7 = .ok (.if_icmp .eq 16, 3) := by decide +kernel
theorem dX5_addProc_10 : decode cX5_addProc 10 = .ok (.aload_n 0, 1) := by decide +kernel
theorem dX5_addProc_11 : decode cX5_addProc 11 = .ok (.getfield 13, 3) := by decide +kernel
theorem dX5_addProc_14 : decode cX5_addProc 14 = .ok (.iconst 1, 1) := by decide +kernel
theorem dX5_addProc_15 : decode cX5_addProc 15 = .ok (.iaload, 1) := by decide +kernel
theorem dX5_addProc_16 : decode cX5_addProc 16 = .ok (.iconst 2, 1) := by decide +kernel
theorem dX5_addProc_17 : decode cX5_addProc 17 = .ok (.iadd, 1) := by decide +kernel
theorem dX5_addProc_18 : decode cX5_addProc 18 = .ok (.bipush 24, 2) := by decide +kernel
theorem dX5_addProc_20 : decode cX5_addProc 20 = .ok (.if_icmp .le 6, 3) := by decide +kernel
theorem dX5_addProc_23 : decode cX5_addProc 23 = .ok (.bipush (-4), 2) := by decide +kernel
theorem dX5_addProc_25 : decode cX5_addProc 25 = .ok (.ireturn, 1) := by decide +kernel
theorem dX5_addProc_26 : decode cX5_addProc 26 = .ok (.aload_n 0, 1) := by decide +kernel
theorem dX5_addProc_27 : decode cX5_addProc 27 = .ok (.getfield 13, 3) := by decide +kernel
theorem dX5_addProc_30 : decode cX5_addProc 30 = .ok (.iconst 0, 1) := by decide +kernel
theorem dX5_addProc_31 : decode cX5_addProc 31 = .ok (.iaload, 1) := by decide +kernel
theorem dX5_addProc_32 : decode cX5_addProc 32 = .ok (.istore_n 1, 1) := by decide +kernel
theorem dX5_addProc_33 : decode cX5_addProc 33 = .ok (.aload_n 0, 1) := by decide +kernel
theorem dX5_addProc_34 : decode cX5_addProc 34 = .ok (.getfield 13, 3) := by decide +kernel
theorem dX5_addProc_37 : decode cX5_addProc 37 = .ok (.iconst 4, 1) := by decide +kernel
theorem dX5_addProc_38 : decode cX5_addProc 38 = .ok (.iconst 2, 1) := by decide +kernel
theorem dX5_addProc_39 : decode cX5_addProc 39 = .ok (.iload_n 1, 1) := by decide +kernel
theorem dX5_addProc_40 : decode cX5_addProc 40 = .ok (.imul, 1) := by decide +kernel
theorem dX5_addProc_41 : decode cX5_addProc 41 = .ok (.iadd, 1) := by decide +kernel
theorem dX5_addProc_42 : decode cX5_addProc 42 = .ok (.aload_n 0, 1) := by decide +kernel
theorem dX5_addProc_43 : decode cX5_addProc 43 = .ok (.iload_n 1, 1) := by decide +kernel
theorem dX5_addProc_44 : decode cX5_addProc 44 = .ok (.iconst 0, 1) := by decide +kernel
theorem dX5_addProc_45 : decode cX5_addProc 45 = .ok (.invokevirtual 93, 3) := by decide +kernel
theorem dX5_addProc_48 : decode cX5_addProc 48 = .ok (.iastore, 1) := by decide +kernel
theorem dX5_addProc_49 : decode cX5_addProc 49 = .ok (.aload_n 0, 1) := by decide +kernel
theorem dX5_addProc_50 : decode cX5_addProc 50 = .ok (.getfield 13, 3) := by decide +kernel
theorem dX5_addProc_53 : decode cX5_addProc 53 = .ok (.iconst 4, 1) := by decide +kernel
theorem dX5_addProc_54 : decode cX5_addProc 54 = .ok (.iconst 2, 1) := by decide +kernel
theorem dX5_addProc_55 : decode cX5_addProc 55 = .ok (.iload_n 1, 1) := by decide +kernel
theorem dX5_addProc_56 : decode cX5_addProc 56 = .ok (.imul, 1) := by decide +kernel
theorem dX5_addProc_57 : decode cX5_addProc 57 = .ok (.iadd, 1) := by decide +kernel
theorem dX5_addProc_58 : decode cX5_addProc 58 = .ok (.iconst 1, 1) := by decide +kernel
theorem dX5_addProc_59 : decode cX5_addProc 59 = .ok (.iadd, 1) := by decide +kernel
theorem dX5_addProc_60 : decode cX5_addProc 60 = .ok (.aload_n 0, 1) := by decide +kernel
theorem dX5_addProc_61 : decode cX5_addProc 61 = .ok (.iload_n 1, 1) := by decide +kernel
theorem dX5_addProc_62 : decode cX5_addProc 62 = .ok (.iconst 1, 1) := by decide +kernel
theorem dX5_addProc_63 : decode cX5_addProc 63 = .ok (.invokevirtual 93, 3) := by decide +kernel
theorem dX5_addProc_66 : decode cX5_addProc 66 = .ok (.iastore, 1) := by decide +kernel
theorem dX5_addProc_67 : decode cX5_addProc 67 = .ok (.aload_n 0, 1) := by decide +kernel
theorem dX5_addProc_68 : decode cX5_addProc 68 = .ok (.getfield 13, 3) := by decide +kernel
theorem dX5_addProc_71 : decode cX5_addProc 71 = .ok (.iconst 0, 1) := by decide +kernel
theorem dX5_addProc_72 : decode cX5_addProc 72 = .ok (.dup2, 1) := by decide +kernel
theorem dX5_addProc_73 : decode cX5_addProc 73 = .ok (.iaload, 1) := by decide +kernel
theorem dX5_addProc_74 : decode cX5_addProc 74 = .ok (.iconst 1, 1) := by decide +kernel
theorem dX5_addProc_75 : decode cX5_addProc 75 = .ok (.iadd, 1) := by decide +kernel
theorem dX5_addProc_76 : decode cX5_addProc 76 = .ok (.iastore, 1) := by decide +kernel
theorem dX5_addProc_77 : decode cX5_addProc 77 = .ok (.iload_n 1, 1) := by decide +kernel
theorem dX5_addProc_78 : decode cX5_addProc 78 = .ok (.ireturn, 1) := by decide +kernel
theorem dX5_addAny_0 : decode cX5_addAny 0 = .ok (.aload_n 0, 1) := by decide +kernel
theorem dX5_addAny_1 : decode cX5_addAny 1 = .ok (.iload_n 1, 1) := by decide +kernel
theorem dX5_addAny_2 : decode cX5_addAny 2 = .ok (.invokevirtual 97, 3) := by decide +kernel
theorem dX5_addAny_5 : decode cX5_addAny 5 = .ok (.ifCond .ne 8, 3) := by decide +kernel
theorem dX5_addAny_8 : decode cX5_addAny 8 = .ok (.bipush (-2), 2) := by decide +kernel
theorem dX5_addAny_10 : decode cX5_addAny 10 = .ok (.goto 25, 3) := by decide +kernel
theorem dX5_addAny_13 : decode cX5_addAny 13 = .ok (.aload_n 0, 1) := by decide +kernel
theorem dX5_addAny_14 : decode cX5_addAny 14 = .ok (.getfield 13, 3) := by decide +kernel
theorem dX5_addAny_17 : decode cX5_addAny 17 = .ok (.iconst 1, 1) := by decide +kernel
theorem dX5_addAny_18 : decode cX5_addAny 18 = .ok (.iaload, 1) := by decide +kernel
theorem dX5_addAny_19 : decode cX5_addAny 19 = .ok (.bipush 24, 2) := by decide +kernel
theorem dX5_addAny_21 : decode cX5_addAny 21 = .ok (.if_icmp .ne 8, 3) := by decide +kernel
theorem dX5_addAny_24 : decode cX5_addAny 24 = .ok (.bipush (-4), 2) := by decide +kernel
theorem dX5_addAny_26 : decode cX5_addAny 26 = .ok (.goto 9, 3) := by decide +kernel
theorem dX5_addAny_29 : decode cX5_addAny 29 = .ok (.aload_n 0, 1) := by decide +kernel
theorem dX5_addAny_30 : decode cX5_addAny 30 = .ok (.iload_n 1, 1) := by decide +kernel
theorem dX5_addAny_31 : decode cX5_addAny 31 = .ok (.iconst 2, 1) := by decide +kernel
theorem dX5_addAny_32 : decode cX5_addAny 32 = .ok (.invokevirtual 93, 3) := by decide +kernel
theorem dX5_addAny_35 : decode cX5_addAny 35 = .ok (.ireturn, 1) := by decide +kernel
theorem dX5_addEdge_0 : decode cX5_addEdge 0 = .ok (.aload_n 0, 1) := by decide +kernel
theorem dX5_addEdge_1 : decode cX5_addEdge 1 = .ok (.iload_n 1, 1) := by decide +kernel
theorem dX5_addEdge_2 : decode cX5_addEdge 2 = .ok (.invokevirtual 101, 3) := by decide +kernel
theorem dX5_addEdge_5 : decode cX5_addEdge 5 = .ok (.ifCond .eq 24, 3) := by decide +kernel
theorem dX5_addEdge_8 : decode cX5_addEdge 8 = .ok (.aload_n 0, 1) := by decide +kernel
theorem dX5_addEdge_9 : decode cX5_addEdge 9 = .ok (.iload_n 2, 1) := by decide +kernel
theorem dX5_addEdge_10 : decode cX5_addEdge 10 = .ok (.invokevirtual 101, 3) := by decide +kernel
theorem dX5_addEdge_13 : decode cX5_addEdge 13 = .ok (.ifCond .eq 16, 3) := by decide +kernel
theorem dX5_addEdge_16 : decode cX5_addEdge 16 = .ok (.iload_n 3, 1) := by decide +kernel
theorem dX5_addEdge_17 : decode cX5_addEdge 17 = .ok (.iconst (-1), 1) := by decide +kernel
theorem dX5_addEdge_18 : decode cX5_addEdge 18 = .ok (.if_icmp .eq 14, 3) := by decide +kernel
theorem dX5_addEdge_21 : decode cX5_addEdge 21 = .ok (.aload_n 0, 1) := by decide +kernel
theorem dX5_addEdge_22 : decode cX5_addEdge 22 = .ok (.iload_n 3, 1) := by decide +kernel
theorem dX5_addEdge_23 : decode cX5_addEdge 23 = .ok (.invokevirtual 97, 3) := by decide +kernel
theorem dX5_addEdge_26 : decode cX5_addEdge 26 = .ok (.ifCond .ne 6, 3) := by decide +kernel
theorem dX5_addEdge_29 : decode cX5_addEdge 29 = .ok (.bipush (-2), 2) := by decide +kernel
theorem dX5_addEdge_31 : decode cX5_addEdge 31 = .ok (.ireturn, 1) := by decide +kernel
theorem dX5_addEdge_32 : decode cX5_addEdge 32 = .ok (.aload_n 0, 1) := by decide +kernel
theorem dX5_addEdge_33 : decode cX5_addEdge 33 = .ok (.iload_n 1, 1) := by decide +kernel
theorem dX5_addEdge_34 : decode cX5_addEdge 34 = .ok (.invokevirtual 104, 3) := by decide +kernel
theorem dX5_addEdge_37 : decode cX5_addEdge 37 = .ok (.aload_n 0, 1) := by decide +kernel
theorem dX5_addEdge_38 : decode cX5_addEdge 38 = .ok (.iload_n 2, 1) := by decide +kernel
theorem dX5_addEdge_39 : decode cX5_addEdge 39 = .ok (.invokevirtual 104, 3) := by decide +kernel
theorem dX5_addEdge_42 : decode cX5_addEdge 42 = .ok (.if_icmp .ne 20, 3) := by decide +kernel
theorem dX5_addEdge_45 : decode cX5_addEdge 45 = .ok (.aload_n 0, 1) := by decide +kernel
theorem dX5_addEdge_46 : decode cX5_addEdge 46 = .ok (.iload_n 1, 1) := by decide +kernel
theorem dX5_addEdge_47 : decode cX5_addEdge 47 = .ok (.invokevirtual 108, 3) := by decide +kernel
theorem dX5_addEdge_50 : decode cX5_addEdge 50 = .ok (.iconst 1, 1) := by decide +kernel
theorem dX5_addEdge_51 : decode cX5_addEdge 51 = .ok (.if_icmp .eq 11, 3) := by decide +kernel
theorem dX5_addEdge_54 : decode cX5_addEdge 54 = .ok (.aload_n 0, 1) := by decide +kernel
theorem dX5_addEdge_55 : decode cX5_addEdge 55 = .ok (.iload_n 2, 1) := by decide +kernel
theorem dX5_addEdge_56 : decode cX5_addEdge 56 = .ok (.invokevirtual 108, 3) := by decide +kernel
theorem dX5_addEdge_59 : decode cX5_addEdge 59 = .ok (.ifCond .ne 6, 3) := by decide +kernel
theorem dX5_addEdge_62 : decode cX5_addEdge 62 = .ok (.bipush (-2), 2) := by decide +kernel
theorem dX5_addEdge_64 : decode cX5_addEdge 64 = .ok (.ireturn, 1) := by decide +kernel
theorem dX5_addEdge_65 : decode cX5_addEdge 65 = .ok (.aload_n 0, 1) := by decide +kernel
theorem dX5_addEdge_66 : decode cX5_addEdge 66 = .ok (.getfield 13, 3) := by decide +kernel
theorem dX5_addEdge_69 : decode cX5_addEdge 69 = .ok (.iconst 2, 1) := by decide +kernel
theorem dX5_addEdge_70 : decode cX5_addEdge 70 = .ok (.iaload, 1) := by decide +kernel
theorem dX5_addEdge_71 : decode cX5_addEdge 71 = .ok (.bipush 32, 2) := by decide +kernel
theorem dX5_addEdge_73 : decode cX5_addEdge 73 = .ok (.if_icmp .ne 6, 3) := by decide +kernel
theorem dX5_addEdge_76 : decode cX5_addEdge 76 = .ok (.bipush (-4), 2) := by decide +kernel
theorem dX5_addEdge_78 : decode cX5_addEdge 78 = .ok (.ireturn, 1) := by decide +kernel
theorem dX5_addEdge_79 : decode cX5_addEdge 79 = .ok (.aload_n 0, 1) := by decide +kernel
theorem dX5_addEdge_80 : decode cX5_addEdge 80 = .ok (.getfield 13, 3) := by decide +kernel
theorem dX5_addEdge_83 : decode cX5_addEdge 83 = .ok (.iconst 2, 1) := by decide +kernel
theorem dX5_addEdge_84 : decode cX5_addEdge 84 = .ok (.iaload, 1) := by decide +kernel
theorem dX5_addEdge_85 : decode cX5_addEdge 85 = .ok (.istore 4, 2) := by decide +kernel
theorem dX5_addEdge_87 : decode cX5_addEdge 87 = .ok (.aload_n 0, 1) := by decide +kernel
theorem dX5_addEdge_88 : decode cX5_addEdge 88 = .ok (.getfield 13, 3) := by decide +kernel
theorem dX5_addEdge_91 : decode cX5_addEdge 91 = .ok (.bipush 62, 2) := by decide +kernel
theorem dX5_addEdge_93 : decode cX5_addEdge 93 = .ok (.bipush 27, 2) := by decide +kernel
theorem dX5_addEdge_95 : decode cX5_addEdge 95 = .ok (.iload 4, 2) := by decide +kernel
theorem dX5_addEdge_97 : decode cX5_addEdge 97 = .ok (.imul, 1) := by decide +kernel
theorem dX5_addEdge_98 : decode cX5_addEdge 98 = .ok (.iadd, 1) := by decide +kernel
theorem dX5_addEdge_99 : decode cX5_addEdge 99 = .ok (.iload_n 1, 1) := by decide +kernel
theorem dX5_addEdge_100 : decode cX5_addEdge 100 = .ok (.iastore, 1) := by decide +kernel
theorem dX5_addEdge_101 : decode cX5_addEdge 101 = .ok (.aload_n 0, 1) := by decide +kernel
theorem dX5_addEdge_102 : decode cX5_addEdge 102 = .ok (.getfield 13, 3) := by decide +kernel
theorem dX5_addEdge_105 : decode cX5_addEdge 105 = .ok (.bipush 62, 2) := by decide +kernel
theorem dX5_addEdge_107 : decode cX5_addEdge 107 = .ok (.bipush 27, 2) := by decide +kernel
theorem dX5_addEdge_109 : decode cX5_addEdge 109 = .ok (.iload 4, 2) := by decide +kernel
theorem dX5_addEdge_111 : decode cX5_addEdge 111 = .ok (.imul, 1) := by decide +kernel
theorem dX5_addEdge_112 : decode cX5_addEdge 112 = .ok (.iadd, 1) := by decide +kernel
theorem dX5_addEdge_113 : decode cX5_addEdge 113 = .ok (.iconst 1, 1) := by decide +kernel
theorem dX5_addEdge_114 : decode cX5_addEdge 114 = .ok (.iadd, 1) := by decide +kernel
theorem dX5_addEdge_115 : decode cX5_addEdge 115 = .ok (.iload_n 2, 1) := by decide +kernel
theorem dX5_addEdge_116 : decode cX5_addEdge 116 = .ok (.iastore, 1) := by decide +kernel
theorem dX5_addEdge_117 : decode cX5_addEdge 117 = .ok (.aload_n 0, 1) := by decide +kernel
theorem dX5_addEdge_118 : decode cX5_addEdge 118 = .ok (.getfield 13, 3) := by decide +kernel
theorem dX5_addEdge_121 : decode cX5_addEdge 121 = .ok (.bipush 62, 2) := by decide +kernel
theorem dX5_addEdge_123 : decode cX5_addEdge 123 = .ok (.bipush 27, 2) := by decide +kernel
theorem dX5_addEdge_125 : decode cX5_addEdge 125 = .ok (.iload 4, 2) := by decide +kernel
theorem dX5_addEdge_127 : decode cX5_addEdge 127 = .ok (.imul, 1) := by decide +kernel
theorem dX5_addEdge_128 : decode cX5_addEdge 128 = .ok (.iadd, 1) := by decide +kernel
theorem dX5_addEdge_129 : decode cX5_addEdge 129 = .ok (.iconst 2, 1) := by decide +kernel
theorem dX5_addEdge_130 : decode cX5_addEdge 130 = .ok (.iadd, 1) := by decide +kernel
theorem dX5_addEdge_131 : decode cX5_addEdge 131 = .ok (.iload_n 3, 1) := by decide +kernel
theorem dX5_addEdge_132 : decode cX5_addEdge 132 = .ok (.iastore, 1) := by decide +kernel
theorem dX5_addEdge_133 : decode cX5_addEdge 133 = .ok (.iconst 0, 1) := by decide +kernel
theorem dX5_addEdge_134 : decode cX5_addEdge 134 = .ok (.istore 5, 2) := by decide +kernel
theorem dX5_addEdge_136 : decode cX5_addEdge 136 = .ok (.iload 5, 2) := by decide +kernel
theorem dX5_addEdge_138 : decode cX5_addEdge 138 = .ok (.bipush 24, 2) := by decide +kernel
theorem dX5_addEdge_140 : decode cX5_addEdge 140 = .ok (.if_icmp .ge 34, 3) := by decide +kernel
theorem dX5_addEdge_143 : decode cX5_addEdge 143 = .ok (.aload_n 0, 1) := by decide +kernel
theorem dX5_addEdge_144 : decode cX5_addEdge 144 = .ok (.getfield 13, 3) := by decide +kernel
theorem dX5_addEdge_147 : decode cX5_addEdge 147 = .ok (.bipush 62, 2) := by decide +kernel
theorem dX5_addEdge_149 : decode cX5_addEdge 149 = .ok (.bipush 27, 2) := by decide +kernel
theorem dX5_addEdge_151 : decode cX5_addEdge 151 = .ok (.iload 4, 2) := by decide +kernel
theorem dX5_addEdge_153 : decode cX5_addEdge 153 = .ok (.imul, 1) := by decide +kernel
theorem dX5_addEdge_154 : decode cX5_addEdge 154 = .ok (.iadd, 1) := by decide +kernel
theorem dX5_addEdge_155 : decode cX5_addEdge 155 = .ok (.iconst 3, 1) := by decide +kernel
theorem dX5_addEdge_156 : decode cX5_addEdge 156 = .ok (.iadd, 1) := by decide +kernel
theorem dX5_addEdge_157 : decode cX5_addEdge 157 = .ok (.iload 5, 2) := by decide +kernel
theorem dX5_addEdge_159 : decode cX5_addEdge 159 = .ok (.iadd, 1) := by decide +kernel
theorem dX5_addEdge_160 : decode cX5_addEdge 160 = .ok (.iconst 1, 1) := by decide +kernel
theorem dX5_addEdge_161 : decode cX5_addEdge 161 = .ok (.iload 5, 2) := by decide +kernel
theorem dX5_addEdge_163 : decode cX5_addEdge 163 = .ok (.bipush 8, 2) := by decide +kernel
theorem dX5_addEdge_165 : decode cX5_addEdge 165 = .ok (.irem, 1) := by decide +kernel
theorem dX5_addEdge_166 : decode cX5_addEdge 166 = .ok (.ishl, 1) := by decide +kernel
theorem dX5_addEdge_167 : decode cX5_addEdge 167 = .ok (.iastore, 1) := by decide +kernel
theorem dX5_addEdge_168 : decode cX5_addEdge 168 = .ok (.iinc 5 1, 3) := by decide +kernel
theorem dX5_addEdge_171 : decode cX5_addEdge 171 = .ok (.goto (-35), 3) := by decide +kernel
theorem dX5_addEdge_174 : decode cX5_addEdge 174 = .ok (.aload_n 0, 1) := by decide +kernel
theorem dX5_addEdge_175 : decode cX5_addEdge 175 = .ok (.getfield 13, 3) := by decide +kernel
theorem dX5_addEdge_178 : decode cX5_addEdge 178 = .ok (.iconst 2, 1) := by decide +kernel
theorem dX5_addEdge_179 : decode cX5_addEdge 179 = .ok (.dup2, 1) := by decide +kernel
theorem dX5_addEdge_180 : decode cX5_addEdge 180 = .ok (.iaload, 1) := by decide +kernel
theorem dX5_addEdge_181 : decode cX5_addEdge 181 = .ok (.iconst 1, 1) := by decide +kernel
theorem dX5_addEdge_182 : decode cX5_addEdge 182 = .ok (.iadd, 1) := by decide +kernel
theorem dX5_addEdge_183 : decode cX5_addEdge 183 = .ok (.iastore, 1) := by decide +kernel
theorem dX5_addEdge_184 : decode cX5_addEdge 184 = .ok (.iload 4, 2) := by decide +kernel
theorem dX5_addEdge_186 : decode cX5_addEdge 186 = .ok (.ireturn, 1) := by decide +kernel
theorem dX5_addCall_0 : decode cX5_addCall 0 = .ok (.aload_n 0, 1) := by decide +kernel
theorem dX5_addCall_1 : decode cX5_addCall 1 = .ok (.iload_n 2, 1) := by decide +kernel
theorem dX5_addCall_2 : decode cX5_addCall 2 = .ok (.invokevirtual 97, 3) := by decide +kernel
theorem dX5_addCall_5 : decode cX5_addCall 5 = .ok (.ifCond .eq 13, 3) := by decide +kernel
theorem dX5_addCall_8 : decode cX5_addCall 8 = .ok (.aload_n 0, 1) := by decide +kernel
theorem dX5_addCall_9 : decode cX5_addCall 9 = .ok (.iload_n 1, 1) := by decide +kernel
theorem dX5_addCall_10 : decode cX5_addCall 10 = .ok (.iload_n 3, 1) := by decide +kernel
theorem dX5_addCall_11 : decode cX5_addCall 11 = .ok (.iload_n 2, 1) := by decide +kernel
theorem dX5_addCall_12 : decode cX5_addCall 12 = .ok (.invokevirtual 111, 3) := by decide +kernel
theorem dX5_addCall_15 : decode cX5_addCall 15 = .ok (.goto 5, 3) := by decide +kernel
theorem dX5_addCall_18 : decode cX5_addCall 18 = .ok (.bipush (-2), 2) := by decide +kernel
theorem dX5_addCall_20 : decode cX5_addCall 20 = .ok (.ireturn, 1) := by decide +kernel
theorem dX5_isFlow_0 : decode cX5_isFlow 0 = .ok (.aload_n 0, 1) := by decide +kernel
theorem dX5_isFlow_1 : decode cX5_isFlow 1 = .ok (.iload_n 1, 1) := by decide +kernel
theorem dX5_isFlow_2 : decode cX5_isFlow 2 = .ok (.invokevirtual 115, 3) := by decide +kernel
theorem dX5_isFlow_5 : decode cX5_isFlow 5 = .ok (.ifCond .eq 40, 3) := by decide +kernel
theorem dX5_isFlow_8 : decode cX5_isFlow 8 = .ok (.iload_n 2, 1) := by decide +kernel
theorem dX5_isFlow_9 : decode cX5_isFlow 9 = .ok (.iconst 0, 1) := by decide +kernel
theorem dX5_isFlow_10 : decode cX5_isFlow 10 = .ok (.aload_n 0, 1) := by decide +kernel
theorem dX5_isFlow_11 : decode cX5_isFlow 11 = .ok (.iload_n 1, 1) := by decide +kernel
theorem dX5_isFlow_12 : decode cX5_isFlow 12 = .ok (.iconst 2, 1) := by decide +kernel
theorem dX5_isFlow_13 : decode cX5_isFlow 13 = .ok (.invokevirtual 118, 3) := by decide +kernel
theorem dX5_isFlow_16 : decode cX5_isFlow 16 = .ok (.iconst (-1), 1) := by decide +kernel
theorem dX5_isFlow_17 : decode cX5_isFlow 17 = .ok (.if_icmp .ne 7, 3) := by decide +kernel
theorem dX5_isFlow_20 : decode cX5_isFlow 20 = .ok (.iconst 0, 1) := by decide +kernel
theorem dX5_isFlow_21 : decode cX5_isFlow 21 = .ok (.goto 4, 3) := by decide +kernel
theorem dX5_isFlow_24 : decode cX5_isFlow 24 = .ok (.iconst 2, 1) := by decide +kernel
theorem dX5_isFlow_25 : decode cX5_isFlow 25 = .ok (.invokestatic 89, 3) := by decide +kernel
theorem dX5_isFlow_28 : decode cX5_isFlow 28 = .ok (.ifCond .eq 17, 3) := by decide +kernel
theorem dX5_isFlow_31 : decode cX5_isFlow 31 = .ok (.iload_n 3, 1) := by decide +kernel
theorem dX5_isFlow_32 : decode cX5_isFlow 32 = .ok (.iconst 0, 1) := by decide +kernel
theorem dX5_isFlow_33 : decode cX5_isFlow 33 = .ok (.bipush 7, 2) := by decide +kernel
theorem dX5_isFlow_35 : decode cX5_isFlow 35 = .ok (.invokestatic 89, 3) := by decide +kernel
theorem dX5_isFlow_38 : decode cX5_isFlow 38 = .ok (.ifCond .eq 7, 3) := by decide +kernel
theorem dX5_isFlow_41 : decode cX5_isFlow 41 = .ok (.iconst 1, 1) := by decide +kernel
theorem dX5_isFlow_42 : decode cX5_isFlow 42 = .ok (.goto 4, 3) := by decide +kernel
theorem dX5_isFlow_45 : decode cX5_isFlow 45 = .ok (.iconst 0, 1) := by decide +kernel
theorem dX5_isFlow_46 : decode cX5_isFlow 46 = .ok (.ireturn, 1) := by decide +kernel
theorem dX5_setFlow_0 : decode cX5_setFlow 0 = .ok (.aload_n 0, 1) := by decide +kernel
theorem dX5_setFlow_1 : decode cX5_setFlow 1 = .ok (.iload_n 1, 1) := by decide +kernel
theorem dX5_setFlow_2 : decode cX5_setFlow 2 = .ok (.iload_n 2, 1) := by decide +kernel
theorem dX5_setFlow_3 : decode cX5_setFlow 3 = .ok (.iload_n 3, 1) := by decide +kernel
theorem dX5_setFlow_4 : decode cX5_setFlow 4 = .ok (.invokevirtual 121, 3) := by decide +kernel
theorem dX5_setFlow_7 : decode cX5_setFlow 7 = .ok (.ifCond .eq 31, 3) := by decide +kernel
theorem dX5_setFlow_10 : decode cX5_setFlow 10 = .ok (.iload 4, 2) := by decide +kernel
theorem dX5_setFlow_12 : decode cX5_setFlow 12 = .ok (.iconst 0, 1) := by decide +kernel
theorem dX5_setFlow_13 : decode cX5_setFlow 13 = .ok (.sipush 255, 3) := by decide +kernel
theorem dX5_setFlow_16 : decode cX5_setFlow 16 = .ok (.invokestatic 89, 3) := by decide +kernel
theorem dX5_setFlow_19 : decode cX5_setFlow 19 = .ok (.ifCond .eq 19, 3) := by decide +kernel
theorem dX5_setFlow_22 : decode cX5_setFlow 22 = .ok (.iload 4, 2) := by decide +kernel
theorem dX5_setFlow_24 : decode cX5_setFlow 24 = .ok (.iconst 1, 1) := by decide +kernel
theorem dX5_setFlow_25 : decode cX5_setFlow 25 = .ok (.iand, 1) := by decide +kernel
theorem dX5_setFlow_26 : decode cX5_setFlow 26 = .ok (.iload_n 3, 1) := by decide +kernel
theorem dX5_setFlow_27 : decode cX5_setFlow 27 = .ok (.ifCond .ne 7, 3) := by decide +kernel
theorem dX5_setFlow_30 : decode cX5_setFlow 30 = .ok (.iconst 1, 1) := by decide +kernel
theorem dX5_setFlow_31 : decode cX5_setFlow 31 = .ok (.goto 4, 3) := by decide +kernel
theorem dX5_setFlow_34 : decode cX5_setFlow 34 = .ok (.iconst 0, 1) := by decide +kernel
theorem dX5_setFlow_35 : decode cX5_setFlow 35 = .ok (.if_icmp .eq 6, 3) := by decide +kernel
theorem dX5_setFlow_38 : decode cX5_setFlow 38 = .ok (.bipush (-2), 2) := by decide +kernel
theorem dX5_setFlow_40 : decode cX5_setFlow 40 = .ok (.ireturn, 1) := by decide +kernel
theorem dX5_setFlow_41 : decode cX5_setFlow 41 = .ok (.aload_n 0, 1) := by decide +kernel
theorem dX5_setFlow_42 : decode cX5_setFlow 42 = .ok (.iload_n 1, 1) := by decide +kernel
theorem dX5_setFlow_43 : decode cX5_setFlow 43 = .ok (.iload_n 2, 1) := by decide +kernel
theorem dX5_setFlow_44 : decode cX5_setFlow 44 = .ok (.iload_n 3, 1) := by decide +kernel
theorem dX5_setFlow_45 : decode cX5_setFlow 45 = .ok (.invokevirtual 124, 3) := by decide +kernel
theorem dX5_setFlow_48 : decode cX5_setFlow 48 = .ok (.istore 5, 2) := by decide +kernel
theorem dX5_setFlow_50 : decode cX5_setFlow 50 = .ok (.aload_n 0, 1) := by decide +kernel
theorem dX5_setFlow_51 : decode cX5_setFlow 51 = .ok (.getfield 13, 3) := by decide +kernel
theorem dX5_setFlow_54 : decode cX5_setFlow 54 = .ok (.bipush 62, 2) := by decide +kernel
theorem dX5_setFlow_56 : decode cX5_setFlow 56 = .ok (.bipush 27, 2) := by decide +kernel
theorem dX5_setFlow_58 : decode cX5_setFlow 58 = .ok (.iload_n 1, 1) := by decide +kernel
theorem dX5_setFlow_59 : decode cX5_setFlow 59 = .ok (.imul, 1) := by decide +kernel
theorem dX5_setFlow_60 : decode cX5_setFlow 60 = .ok (.iadd, 1) := by decide +kernel
theorem dX5_setFlow_61 : decode cX5_setFlow 61 = .ok (.iconst 3, 1) := by decide +kernel
theorem dX5_setFlow_62 : decode cX5_setFlow 62 = .ok (.iadd, 1) := by decide +kernel
theorem dX5_setFlow_63 : decode cX5_setFlow 63 = .ok (.bipush 8, 2) := by decide +kernel
theorem dX5_setFlow_65 : decode cX5_setFlow 65 = .ok (.iload_n 2, 1) := by decide +kernel
theorem dX5_setFlow_66 : decode cX5_setFlow 66 = .ok (.imul, 1) := by decide +kernel
theorem dX5_setFlow_67 : decode cX5_setFlow 67 = .ok (.iadd, 1) := by decide +kernel
theorem dX5_setFlow_68 : decode cX5_setFlow 68 = .ok (.iload_n 3, 1) := by decide +kernel
theorem dX5_setFlow_69 : decode cX5_setFlow 69 = .ok (.iadd, 1) := by decide +kernel
theorem dX5_setFlow_70 : decode cX5_setFlow 70 = .ok (.iload 4, 2) := by decide +kernel
theorem dX5_setFlow_72 : decode cX5_setFlow 72 = .ok (.iastore, 1) := by decide +kernel
theorem dX5_setFlow_73 : decode cX5_setFlow 73 = .ok (.iload 5, 2) := by decide +kernel
theorem dX5_setFlow_75 : decode cX5_setFlow 75 = .ok (.ireturn, 1) := by decide +kernel
theorem dX5_setStart_0 : decode cX5_setStart 0 = .ok (.iload_n 1, 1) := by decide +kernel
theorem dX5_setStart_1 : decode cX5_setStart 1 = .ok (.iconst 0, 1) := by decide +kernel
theorem dX5_setStart_2 : decode cX5_setStart 2 = .ok (.sipush 255, 3) := by decide +kernel
theorem dX5_setStart_5 : decode cX5_setStart 5 = .ok (.invokestatic 89, 3) := by decide +kernel
theorem dX5_setStart_8 : decode cX5_setStart 8 = .ok (.ifCond .eq 9, 3) := by decide +kernel
theorem dX5_setStart_11 : decode cX5_setStart 11 = .ok (.iload_n 1, 1) := by decide +kernel
theorem dX5_setStart_12 : decode cX5_setStart 12 = .ok (.iconst 1, 1) := by decide +kernel
theorem dX5_setStart_13 : decode cX5_setStart 13 = .ok (.iand, 1) := by decide +kernel
theorem dX5_setStart_14 : decode cX5_setStart 14 = .ok (.ifCond .ne 6, 3) := by decide +kernel
theorem dX5_setStart_17 : decode cX5_setStart 17 = .ok (.bipush (-2), 2) := by decide +kernel
theorem dX5_setStart_19 : decode cX5_setStart 19 = .ok (.ireturn, 1) := by decide +kernel
theorem dX5_setStart_20 : decode cX5_setStart 20 = .ok (.aload_n 0, 1) := by decide +kernel
theorem dX5_setStart_21 : decode cX5_setStart 21 = .ok (.getfield 13, 3) := by decide +kernel
theorem dX5_setStart_24 : decode cX5_setStart 24 = .ok (.iconst 3, 1) := by decide +kernel
theorem dX5_setStart_25 : decode cX5_setStart 25 = .ok (.iaload, 1) := by decide +kernel
theorem dX5_setStart_26 : decode cX5_setStart 26 = .ok (.istore_n 2, 1) := by decide +kernel
theorem dX5_setStart_27 : decode cX5_setStart 27 = .ok (.aload_n 0, 1) := by decide +kernel
theorem dX5_setStart_28 : decode cX5_setStart 28 = .ok (.getfield 13, 3) := by decide +kernel
theorem dX5_setStart_31 : decode cX5_setStart 31 = .ok (.iconst 3, 1) := by decide +kernel
theorem dX5_setStart_32 : decode cX5_setStart 32 = .ok (.iload_n 1, 1) := by decide +kernel
theorem dX5_setStart_33 : decode cX5_setStart 33 = .ok (.iastore, 1) := by decide +kernel
theorem dX5_setStart_34 : decode cX5_setStart 34 = .ok (.iload_n 2, 1) := by decide +kernel
theorem dX5_setStart_35 : decode cX5_setStart 35 = .ok (.ireturn, 1) := by decide +kernel
theorem dX5_cutEdge_0 : decode cX5_cutEdge 0 = .ok (.aload_n 0, 1) := by decide +kernel
theorem dX5_cutEdge_1 : decode cX5_cutEdge 1 = .ok (.iload_n 1, 1) := by decide +kernel
theorem dX5_cutEdge_2 : decode cX5_cutEdge 2 = .ok (.invokevirtual 115, 3) := by decide +kernel
theorem dX5_cutEdge_5 : decode cX5_cutEdge 5 = .ok (.ifCond .ne 6, 3) := by decide +kernel
theorem dX5_cutEdge_8 : decode cX5_cutEdge 8 = .ok (.bipush (-2), 2) := by decide +kernel
theorem dX5_cutEdge_10 : decode cX5_cutEdge 10 = .ok (.ireturn, 1) := by decide +kernel
theorem dX5_cutEdge_11 : decode cX5_cutEdge 11 = .ok (.bipush 62, 2) := by decide +kernel
theorem dX5_cutEdge_13 : decode cX5_cutEdge 13 = .ok (.bipush 27, 2) := by decide +kernel
theorem dX5_cutEdge_15 : decode cX5_cutEdge 15 = .ok (.iload_n 1, 1) := by decide +kernel
theorem dX5_cutEdge_16 : decode cX5_cutEdge 16 = .ok (.imul, 1) := by decide +kernel
theorem dX5_cutEdge_17 : decode cX5_cutEdge 17 = .ok (.iadd, 1) := by decide +kernel
theorem dX5_cutEdge_18 : decode cX5_cutEdge 18 = .ok (.istore_n 2, 1) := by decide +kernel
theorem dX5_cutEdge_19 : decode cX5_cutEdge 19 = .ok (.iload_n 2, 1) := by decide +kernel
theorem dX5_cutEdge_20 : decode cX5_cutEdge 20 = .ok (.sipush 899, 3) := by decide +kernel
theorem dX5_cutEdge_23 : decode cX5_cutEdge 23 = .ok (.if_icmp .ge 24, 3) := by decide +kernel
theorem dX5_cutEdge_26 : decode cX5_cutEdge 26 = .ok (.aload_n 0, 1) := by decide +kernel
theorem dX5_cutEdge_27 : decode cX5_cutEdge 27 = .ok (.getfield 13, 3) := by decide +kernel
theorem dX5_cutEdge_30 : decode cX5_cutEdge 30 = .ok (.iload_n 2, 1) := by decide +kernel
theorem dX5_cutEdge_31 : decode cX5_cutEdge 31 = .ok (.aload_n 0, 1) := by decide +kernel
theorem dX5_cutEdge_32 : decode cX5_cutEdge 32 = .ok (.getfield 13, 3) := by decide +kernel
theorem dX5_cutEdge_35 : decode cX5_cutEdge 35 = .ok (.iload_n 2, 1) := by decide +kernel
theorem dX5_cutEdge_36 : decode cX5_cutEdge 36 = .ok (.bipush 27, 2) := by decide +kernel
theorem dX5_cutEdge_38 : decode cX5_cutEdge 38 = .ok (.iadd, 1) := by decide +kernel
theorem dX5_cutEdge_39 : decode cX5_cutEdge 39 = .ok (.iaload, 1) := by decide +kernel
theorem dX5_cutEdge_40 : decode cX5_cutEdge 40 = .ok (.iastore, 1) := by decide +kernel
theorem dX5_cutEdge_41 : decode cX5_cutEdge 41 = .ok (.iinc 2 1, 3) := by decide +kernel
theorem dX5_cutEdge_44 : decode cX5_cutEdge 44 = .ok (.goto (-25), 3) := by decide +kernel
theorem dX5_cutEdge_47 : decode cX5_cutEdge 47 = .ok (.aload_n 0, 1) := by decide +kernel
theorem dX5_cutEdge_48 : decode cX5_cutEdge 48 = .ok (.getfield 13, 3) := by decide +kernel
theorem dX5_cutEdge_51 : decode cX5_cutEdge 51 = .ok (.iconst 2, 1) := by decide +kernel
theorem dX5_cutEdge_52 : decode cX5_cutEdge 52 = .ok (.dup2, 1) := by decide +kernel
theorem dX5_cutEdge_53 : decode cX5_cutEdge 53 = .ok (.iaload, 1) := by decide +kernel
theorem dX5_cutEdge_54 : decode cX5_cutEdge 54 = .ok (.iconst 1, 1) := by decide +kernel
theorem dX5_cutEdge_55 : decode cX5_cutEdge 55 = .ok (.isub, 1) := by decide +kernel
theorem dX5_cutEdge_56 : decode cX5_cutEdge 56 = .ok (.iastore, 1) := by decide +kernel
theorem dX5_cutEdge_57 : decode cX5_cutEdge 57 = .ok (.aload_n 0, 1) := by decide +kernel
theorem dX5_cutEdge_58 : decode cX5_cutEdge 58 = .ok (.getfield 13, 3) := by decide +kernel
theorem dX5_cutEdge_61 : decode cX5_cutEdge 61 = .ok (.iconst 2, 1) := by decide +kernel
theorem dX5_cutEdge_62 : decode cX5_cutEdge 62 = .ok (.iaload, 1) := by decide +kernel
theorem dX5_cutEdge_63 : decode cX5_cutEdge 63 = .ok (.ireturn, 1) := by decide +kernel
theorem dX5_done_0 : decode cX5_done 0 = .ok (.iload_n 1, 1) := by decide +kernel
theorem dX5_done_1 : decode cX5_done 1 = .ok (.ifCond .ge 9, 3) := by decide +kernel
theorem dX5_done_4 : decode cX5_done 4 = .ok (.aload_n 0, 1) := by decide +kernel
theorem dX5_done_5 : decode cX5_done 5 = .ok (.iload_n 1, 1) := by decide +kernel
theorem dX5_done_6 : decode cX5_done 6 = .ok (.invokevirtual 127, 3) := by decide +kernel
theorem dX5_done_9 : decode cX5_done 9 = .ok (.ireturn, 1) := by decide +kernel
theorem dX5_done_10 : decode cX5_done 10 = .ok (.aload_n 0, 1) := by decide +kernel
theorem dX5_done_11 : decode cX5_done 11 = .ok (.invokevirtual 130, 3) := by decide +kernel
theorem dX5_done_14 : decode cX5_done 14 = .ok (.iload_n 1, 1) := by decide +kernel
theorem dX5_done_15 : decode cX5_done 15 = .ok (.ireturn, 1) := by decide +kernel
theorem dX5_proc_0 : decode cX5_proc 0 = .ok (.aload_n 0, 1) := by decide +kernel
theorem dX5_proc_1 : decode cX5_proc 1 = .ok (.iconst 5, 1) := by decide +kernel
theorem dX5_proc_2 : decode cX5_proc 2 = .ok (.invokevirtual 133, 3) := by decide +kernel
theorem dX5_proc_5 : decode cX5_proc 5 = .ok (.aload_n 0, 1) := by decide +kernel
theorem dX5_proc_6 : decode cX5_proc 6 = .ok (.aload_n 0, 1) := by decide +kernel
theorem dX5_proc_7 : decode cX5_proc 7 = .ok (.invokevirtual 64, 3) := by decide +kernel
theorem dX5_proc_10 : decode cX5_proc 10 = .ok (.invokevirtual 136, 3) := by decide +kernel
theorem dX5_proc_13 : decode cX5_proc 13 = .ok (.ireturn, 1) := by decide +kernel
theorem dX5_node_0 : decode cX5_node 0 = .ok (.aload_n 0, 1) := by decide +kernel
theorem dX5_node_1 : decode cX5_node 1 = .ok (.iconst 5, 1) := by decide +kernel
theorem dX5_node_2 : decode cX5_node 2 = .ok (.invokevirtual 133, 3) := by decide +kernel
theorem dX5_node_5 : decode cX5_node 5 = .ok (.aload_n 0, 1) := by decide +kernel
theorem dX5_node_6 : decode cX5_node 6 = .ok (.aload_n 0, 1) := by decide +kernel
theorem dX5_node_7 : decode cX5_node 7 = .ok (.iload_n 1, 1) := by decide +kernel
theorem dX5_node_8 : decode cX5_node 8 = .ok (.invokevirtual 139, 3) := by decide +kernel
theorem dX5_node_11 : decode cX5_node 11 = .ok (.invokevirtual 136, 3) := by decide +kernel
theorem dX5_node_14 : decode cX5_node 14 = .ok (.ireturn, 1) := by decide +kernel
theorem dX5_edge_0 : decode cX5_edge 0 = .ok (.aload_n 0, 1) := by decide +kernel
theorem dX5_edge_1 : decode cX5_edge 1 = .ok (.iconst 5, 1) := by decide +kernel
theorem dX5_edge_2 : decode cX5_edge 2 = .ok (.invokevirtual 133, 3) := by decide +kernel
theorem dX5_edge_5 : decode cX5_edge 5 = .ok (.aload_n 0, 1) := by decide +kernel
theorem dX5_edge_6 : decode cX5_edge 6 = .ok (.aload_n 0, 1) := by decide +kernel
theorem dX5_edge_7 : decode cX5_edge 7 = .ok (.iload_n 1, 1) := by decide +kernel
theorem dX5_edge_8 : decode cX5_edge 8 = .ok (.iload_n 2, 1) := by decide +kernel
theorem dX5_edge_9 : decode cX5_edge 9 = .ok (.iconst (-1), 1) := by decide +kernel
theorem dX5_edge_10 : decode cX5_edge 10 = .ok (.invokevirtual 111, 3) := by decide +kernel
theorem dX5_edge_13 : decode cX5_edge 13 = .ok (.invokevirtual 136, 3) := by decide +kernel
theorem dX5_edge_16 : decode cX5_edge 16 = .ok (.ireturn, 1) := by decide +kernel
theorem dX5_call_0 : decode cX5_call 0 = .ok (.aload_n 0, 1) := by decide +kernel
theorem dX5_call_1 : decode cX5_call 1 = .ok (.iconst 5, 1) := by decide +kernel
theorem dX5_call_2 : decode cX5_call 2 = .ok (.invokevirtual 133, 3) := by decide +kernel
theorem dX5_call_5 : decode cX5_call 5 = .ok (.aload_n 0, 1) := by decide +kernel
theorem dX5_call_6 : decode cX5_call 6 = .ok (.aload_n 0, 1) := by decide +kernel
theorem dX5_call_7 : decode cX5_call 7 = .ok (.iload_n 1, 1) := by decide +kernel
theorem dX5_call_8 : decode cX5_call 8 = .ok (.iload_n 2, 1) := by decide +kernel
theorem dX5_call_9 : decode cX5_call 9 = .ok (.iload_n 3, 1) := by decide +kernel
theorem dX5_call_10 : decode cX5_call 10 = .ok (.invokevirtual 142, 3) := by decide +kernel
theorem dX5_call_13 : decode cX5_call 13 = .ok (.invokevirtual 136, 3) := by decide +kernel
theorem dX5_call_16 : decode cX5_call 16 = .ok (.ireturn, 1) := by decide +kernel
theorem dX5_flows_0 : decode cX5_flows 0 = .ok (.aload_n 0, 1) := by decide +kernel
theorem dX5_flows_1 : decode cX5_flows 1 = .ok (.iconst 5, 1) := by decide +kernel
theorem dX5_flows_2 : decode cX5_flows 2 = .ok (.invokevirtual 133, 3) := by decide +kernel
theorem dX5_flows_5 : decode cX5_flows 5 = .ok (.aload_n 0, 1) := by decide +kernel
theorem dX5_flows_6 : decode cX5_flows 6 = .ok (.aload_n 0, 1) := by decide +kernel
theorem dX5_flows_7 : decode cX5_flows 7 = .ok (.iload_n 1, 1) := by decide +kernel
theorem dX5_flows_8 : decode cX5_flows 8 = .ok (.iload_n 2, 1) := by decide +kernel
theorem dX5_flows_9 : decode cX5_flows 9 = .ok (.iload_n 3, 1) := by decide +kernel
theorem dX5_flows_10 : decode cX5_flows 10 = .ok (.iload 4, 2) := by decide +kernel
theorem dX5_flows_12 : decode cX5_flows 12 = .ok (.invokevirtual 145, 3) := by decide +kernel
theorem dX5_flows_15 : decode cX5_flows 15 = .ok (.invokevirtual 136, 3) := by decide +kernel
theorem dX5_flows_18 : decode cX5_flows 18 = .ok (.ireturn, 1) := by decide +kernel
theorem dX5_starts_0 : decode cX5_starts 0 = .ok (.aload_n 0, 1) := by decide +kernel
theorem dX5_starts_1 : decode cX5_starts 1 = .ok (.iconst 5, 1) := by decide +kernel
theorem dX5_starts_2 : decode cX5_starts 2 = .ok (.invokevirtual 133, 3) := by decide +kernel
theorem dX5_starts_5 : decode cX5_starts 5 = .ok (.aload_n 0, 1) := by decide +kernel
theorem dX5_starts_6 : decode cX5_starts 6 = .ok (.aload_n 0, 1) := by decide +kernel
theorem dX5_starts_7 : decode cX5_starts 7 = .ok (.iload_n 1, 1) := by decide +kernel
theorem dX5_starts_8 : decode cX5_starts 8 = .ok (.invokevirtual 149, 3) := by decide +kernel
theorem dX5_starts_11 : decode cX5_starts 11 = .ok (.invokevirtual 136, 3) := by decide +kernel
theorem dX5_starts_14 : decode cX5_starts 14 = .ok (.ireturn, 1) := by decide +kernel
theorem dX5_cuts_0 : decode cX5_cuts 0 = .ok (.aload_n 0, 1) := by decide +kernel
theorem dX5_cuts_1 : decode cX5_cuts 1 = .ok (.iconst 5, 1) := by decide +kernel
theorem dX5_cuts_2 : decode cX5_cuts 2 = .ok (.invokevirtual 133, 3) := by decide +kernel
theorem dX5_cuts_5 : decode cX5_cuts 5 = .ok (.aload_n 0, 1) := by decide +kernel
theorem dX5_cuts_6 : decode cX5_cuts 6 = .ok (.aload_n 0, 1) := by decide +kernel
theorem dX5_cuts_7 : decode cX5_cuts 7 = .ok (.iload_n 1, 1) := by decide +kernel
theorem dX5_cuts_8 : decode cX5_cuts 8 = .ok (.invokevirtual 152, 3) := by decide +kernel
theorem dX5_cuts_11 : decode cX5_cuts 11 = .ok (.invokevirtual 136, 3) := by decide +kernel
theorem dX5_cuts_14 : decode cX5_cuts 14 = .ok (.ireturn, 1) := by decide +kernel
theorem dX5_at_0 : decode cX5_at 0 = .ok (.aload_n 0, 1) := by decide +kernel
theorem dX5_at_1 : decode cX5_at 1 = .ok (.iload_n 1, 1) := by decide +kernel
theorem dX5_at_2 : decode cX5_at 2 = .ok (.invokevirtual 101, 3) := by decide +kernel
theorem dX5_at_5 : decode cX5_at 5 = .ok (.ifCond .eq 28, 3) := by decide +kernel
theorem dX5_at_8 : decode cX5_at 8 = .ok (.iload_n 2, 1) := by decide +kernel
theorem dX5_at_9 : decode cX5_at 9 = .ok (.iconst 0, 1) := by decide +kernel
theorem dX5_at_10 : decode cX5_at 10 = .ok (.iconst 1, 1) := by decide +kernel
theorem dX5_at_11 : decode cX5_at 11 = .ok (.invokestatic 89, 3) := by decide +kernel
theorem dX5_at_14 : decode cX5_at 14 = .ok (.ifCond .eq 19, 3) := by decide +kernel
theorem dX5_at_17 : decode cX5_at 17 = .ok (.aload_n 0, 1) := by decide +kernel
theorem dX5_at_18 : decode cX5_at 18 = .ok (.getfield 13, 3) := by decide +kernel
theorem dX5_at_21 : decode cX5_at 21 = .ok (.bipush 14, 2) := by decide +kernel
theorem dX5_at_23 : decode cX5_at 23 = .ok (.iconst 2, 1) := by decide +kernel
theorem dX5_at_24 : decode cX5_at 24 = .ok (.iload_n 1, 1) := by decide +kernel
theorem dX5_at_25 : decode cX5_at 25 = .ok (.imul, 1) := by decide +kernel
theorem dX5_at_26 : decode cX5_at 26 = .ok (.iadd, 1) := by decide +kernel
theorem dX5_at_27 : decode cX5_at 27 = .ok (.iload_n 2, 1) := by decide +kernel
theorem dX5_at_28 : decode cX5_at 28 = .ok (.iadd, 1) := by decide +kernel
theorem dX5_at_29 : decode cX5_at 29 = .ok (.iaload, 1) := by decide +kernel
theorem dX5_at_30 : decode cX5_at 30 = .ok (.goto 7, 3) := by decide +kernel
theorem dX5_at_33 : decode cX5_at 33 = .ok (.aload_n 0, 1) := by decide +kernel
theorem dX5_at_34 : decode cX5_at 34 = .ok (.invokevirtual 68, 3) := by decide +kernel
theorem dX5_at_37 : decode cX5_at 37 = .ok (.ireturn, 1) := by decide +kernel
theorem dX5_about_0 : decode cX5_about 0 = .ok (.aload_n 0, 1) := by decide +kernel
theorem dX5_about_1 : decode cX5_about 1 = .ok (.iload_n 1, 1) := by decide +kernel
theorem dX5_about_2 : decode cX5_about 2 = .ok (.invokevirtual 115, 3) := by decide +kernel
theorem dX5_about_5 : decode cX5_about 5 = .ok (.ifCond .eq 21, 3) := by decide +kernel
theorem dX5_about_8 : decode cX5_about 8 = .ok (.iload_n 2, 1) := by decide +kernel
theorem dX5_about_9 : decode cX5_about 9 = .ok (.iconst 0, 1) := by decide +kernel
theorem dX5_about_10 : decode cX5_about 10 = .ok (.iconst 2, 1) := by decide +kernel
theorem dX5_about_11 : decode cX5_about 11 = .ok (.invokestatic 89, 3) := by decide +kernel
theorem dX5_about_14 : decode cX5_about 14 = .ok (.ifCond .eq 12, 3) := by decide +kernel
theorem dX5_about_17 : decode cX5_about 17 = .ok (.aload_n 0, 1) := by decide +kernel
theorem dX5_about_18 : decode cX5_about 18 = .ok (.iload_n 1, 1) := by decide +kernel
theorem dX5_about_19 : decode cX5_about 19 = .ok (.iload_n 2, 1) := by decide +kernel
theorem dX5_about_20 : decode cX5_about 20 = .ok (.invokevirtual 118, 3) := by decide +kernel
theorem dX5_about_23 : decode cX5_about 23 = .ok (.goto 7, 3) := by decide +kernel
theorem dX5_about_26 : decode cX5_about 26 = .ok (.aload_n 0, 1) := by decide +kernel
theorem dX5_about_27 : decode cX5_about 27 = .ok (.invokevirtual 68, 3) := by decide +kernel
theorem dX5_about_30 : decode cX5_about 30 = .ok (.ireturn, 1) := by decide +kernel
theorem dX5_goes_0 : decode cX5_goes 0 = .ok (.aload_n 0, 1) := by decide +kernel
theorem dX5_goes_1 : decode cX5_goes 1 = .ok (.iload_n 1, 1) := by decide +kernel
theorem dX5_goes_2 : decode cX5_goes 2 = .ok (.iload_n 2, 1) := by decide +kernel
theorem dX5_goes_3 : decode cX5_goes 3 = .ok (.iload_n 3, 1) := by decide +kernel
theorem dX5_goes_4 : decode cX5_goes 4 = .ok (.invokevirtual 121, 3) := by decide +kernel
theorem dX5_goes_7 : decode cX5_goes 7 = .ok (.ifCond .eq 13, 3) := by decide +kernel
theorem dX5_goes_10 : decode cX5_goes 10 = .ok (.aload_n 0, 1) := by decide +kernel
theorem dX5_goes_11 : decode cX5_goes 11 = .ok (.iload_n 1, 1) := by decide +kernel
theorem dX5_goes_12 : decode cX5_goes 12 = .ok (.iload_n 2, 1) := by decide +kernel
theorem dX5_goes_13 : decode cX5_goes 13 = .ok (.iload_n 3, 1) := by decide +kernel
theorem dX5_goes_14 : decode cX5_goes 14 = .ok (.invokevirtual 124, 3) := by decide +kernel
theorem dX5_goes_17 : decode cX5_goes 17 = .ok (.goto 7, 3) := by decide +kernel
theorem dX5_goes_20 : decode cX5_goes 20 = .ok (.aload_n 0, 1) := by decide +kernel
theorem dX5_goes_21 : decode cX5_goes 21 = .ok (.invokevirtual 68, 3) := by decide +kernel
theorem dX5_goes_24 : decode cX5_goes 24 = .ok (.ireturn, 1) := by decide +kernel
theorem dX5_key_0 : decode cX5_key 0 = .ok (.bipush 8, 2) := by decide +kernel
theorem dX5_key_2 : decode cX5_key 2 = .ok (.iload_n 1, 1) := by decide +kernel
theorem dX5_key_3 : decode cX5_key 3 = .ok (.imul, 1) := by decide +kernel
theorem dX5_key_4 : decode cX5_key 4 = .ok (.iload_n 0, 1) := by decide +kernel
theorem dX5_key_5 : decode cX5_key 5 = .ok (.iadd, 1) := by decide +kernel
theorem dX5_key_6 : decode cX5_key 6 = .ok (.bipush 8, 2) := by decide +kernel
theorem dX5_key_8 : decode cX5_key 8 = .ok (.imul, 1) := by decide +kernel
theorem dX5_key_9 : decode cX5_key 9 = .ok (.iload_n 2, 1) := by decide +kernel
theorem dX5_key_10 : decode cX5_key 10 = .ok (.iadd, 1) := by decide +kernel
theorem dX5_key_11 : decode cX5_key 11 = .ok (.ireturn, 1) := by decide +kernel
theorem dX5_clearTable_0 : decode cX5_clearTable 0 = .ok (.iconst 0, 1) := by decide +kernel
theorem dX5_clearTable_1 : decode cX5_clearTable 1 = .ok (.istore_n 1, 1) := by decide +kernel
theorem dX5_clearTable_2 : decode cX5_clearTable 2 = .ok (.iload_n 1, 1) := by decide +kernel
theorem dX5_clearTable_3 : decode cX5_clearTable 3 = .ok (.sipush 1536, 3) := by decide +kernel
theorem dX5_clearTable_6 : decode cX5_clearTable 6 = .ok (.if_icmp .ge 16, 3) := by decide +kernel
theorem dX5_clearTable_9 : decode cX5_clearTable 9 = .ok (.aload_n 0, 1) := by decide +kernel
theorem dX5_clearTable_10 : decode cX5_clearTable 10 = .ok (.getfield 19, 3) := by decide +kernel
theorem dX5_clearTable_13 : decode cX5_clearTable 13 = .ok (.iload_n 1, 1) := by decide +kernel
theorem dX5_clearTable_14 : decode cX5_clearTable 14 = .ok (.iconst 0, 1) := by decide +kernel
theorem dX5_clearTable_15 : decode cX5_clearTable 15 = .ok (.iastore, 1) := by decide +kernel
theorem dX5_clearTable_16 : decode cX5_clearTable 16 = .ok (.iinc 1 1, 3) := by decide +kernel
theorem dX5_clearTable_19 : decode cX5_clearTable 19 = .ok (.goto (-17), 3) := by decide +kernel
theorem dX5_clearTable_22 : decode cX5_clearTable 22 = .ok (.iconst 0, 1) := by decide +kernel
theorem dX5_clearTable_23 : decode cX5_clearTable 23 = .ok (.istore_n 1, 1) := by decide +kernel
theorem dX5_clearTable_24 : decode cX5_clearTable 24 = .ok (.iload_n 1, 1) := by decide +kernel
theorem dX5_clearTable_25 : decode cX5_clearTable 25 = .ok (.bipush 40, 2) := by decide +kernel
theorem dX5_clearTable_27 : decode cX5_clearTable 27 = .ok (.if_icmp .ge 23, 3) := by decide +kernel
theorem dX5_clearTable_30 : decode cX5_clearTable 30 = .ok (.aload_n 0, 1) := by decide +kernel
theorem dX5_clearTable_31 : decode cX5_clearTable 31 = .ok (.getfield 43, 3) := by decide +kernel
theorem dX5_clearTable_34 : decode cX5_clearTable 34 = .ok (.iload_n 1, 1) := by decide +kernel
theorem dX5_clearTable_35 : decode cX5_clearTable 35 = .ok (.iconst (-1), 1) := by decide +kernel
theorem dX5_clearTable_36 : decode cX5_clearTable 36 = .ok (.iastore, 1) := by decide +kernel
theorem dX5_clearTable_37 : decode cX5_clearTable 37 = .ok (.aload_n 0, 1) := by decide +kernel
theorem dX5_clearTable_38 : decode cX5_clearTable 38 = .ok (.getfield 46, 3) := by decide +kernel
theorem dX5_clearTable_41 : decode cX5_clearTable 41 = .ok (.iload_n 1, 1) := by decide +kernel
theorem dX5_clearTable_42 : decode cX5_clearTable 42 = .ok (.iconst (-1), 1) := by decide +kernel
theorem dX5_clearTable_43 : decode cX5_clearTable 43 = .ok (.iastore, 1) := by decide +kernel
theorem dX5_clearTable_44 : decode cX5_clearTable 44 = .ok (.iinc 1 1, 3) := by decide +kernel
theorem dX5_clearTable_47 : decode cX5_clearTable 47 = .ok (.goto (-23), 3) := by decide +kernel
theorem dX5_clearTable_50 : decode cX5_clearTable 50 = .ok (.aload_n 0, 1) := by decide +kernel
theorem dX5_clearTable_51 : decode cX5_clearTable 51 = .ok (.iconst 0, 1) := by decide +kernel
theorem dX5_clearTable_52 : decode cX5_clearTable 52 = .ok (.putfield 155, 3) := by decide +kernel
theorem dX5_clearTable_55 : decode cX5_clearTable 55 = .ok (.aload_n 0, 1) := by decide +kernel
theorem dX5_clearTable_56 : decode cX5_clearTable 56 = .ok (.iconst 0, 1) := by decide +kernel
theorem dX5_clearTable_57 : decode cX5_clearTable 57 = .ok (.putfield 158, 3) := by decide +kernel
theorem dX5_clearTable_60 : decode cX5_clearTable 60 = .ok (.return_, 1) := by decide +kernel
theorem dX5_comes_0 : decode cX5_comes 0 = .ok (.iload_n 1, 1) := by decide +kernel
theorem dX5_comes_1 : decode cX5_comes 1 = .ok (.iload_n 2, 1) := by decide +kernel
theorem dX5_comes_2 : decode cX5_comes 2 = .ok (.iload_n 3, 1) := by decide +kernel
theorem dX5_comes_3 : decode cX5_comes 3 = .ok (.invokestatic 161, 3) := by decide +kernel
theorem dX5_comes_6 : decode cX5_comes 6 = .ok (.istore 6, 2) := by decide +kernel
theorem dX5_comes_8 : decode cX5_comes 8 = .ok (.aload_n 0, 1) := by decide +kernel
theorem dX5_comes_9 : decode cX5_comes 9 = .ok (.getfield 19, 3) := by decide +kernel
theorem dX5_comes_12 : decode cX5_comes 12 = .ok (.iload 6, 2) := by decide +kernel
theorem dX5_comes_14 : decode cX5_comes 14 = .ok (.iaload, 1) := by decide +kernel
theorem dX5_comes_15 : decode cX5_comes 15 = .ok (.ifCond .ne 76, 3) := by decide +kernel
theorem dX5_comes_18 : decode cX5_comes 18 = .ok (.aload_n 0, 1) := by decide +kernel
theorem dX5_comes_19 : decode cX5_comes 19 = .ok (.getfield 22, 3) := by decide +kernel
theorem dX5_comes_22 : decode cX5_comes 22 = .ok (.aload_n 0, 1) := by decide +kernel
theorem dX5_comes_23 : decode cX5_comes 23 = .ok (.getfield 155, 3) := by decide +kernel
theorem dX5_comes_26 : decode cX5_comes 26 = .ok (.iload_n 1, 1) := by decide +kernel
theorem dX5_comes_27 : decode cX5_comes 27 = .ok (.iastore, 1) := by decide +kernel
theorem dX5_comes_28 : decode cX5_comes 28 = .ok (.aload_n 0, 1) := by decide +kernel
theorem dX5_comes_29 : decode cX5_comes 29 = .ok (.getfield 25, 3) := by decide +kernel
theorem dX5_comes_32 : decode cX5_comes 32 = .ok (.aload_n 0, 1) := by decide +kernel
theorem dX5_comes_33 : decode cX5_comes 33 = .ok (.getfield 155, 3) := by decide +kernel
theorem dX5_comes_36 : decode cX5_comes 36 = .ok (.iload_n 2, 1) := by decide +kernel
theorem dX5_comes_37 : decode cX5_comes 37 = .ok (.iastore, 1) := by decide +kernel
theorem dX5_comes_38 : decode cX5_comes 38 = .ok (.aload_n 0, 1) := by decide +kernel
theorem dX5_comes_39 : decode cX5_comes 39 = .ok (.getfield 28, 3) := by decide +kernel
theorem dX5_comes_42 : decode cX5_comes 42 = .ok (.aload_n 0, 1) := by decide +kernel
theorem dX5_comes_43 : decode cX5_comes 43 = .ok (.getfield 155, 3) := by decide +kernel
theorem dX5_comes_46 : decode cX5_comes 46 = .ok (.iload_n 3, 1) := by decide +kernel
theorem dX5_comes_47 : decode cX5_comes 47 = .ok (.iastore, 1) := by decide +kernel
theorem dX5_comes_48 : decode cX5_comes 48 = .ok (.aload_n 0, 1) := by decide +kernel
theorem dX5_comes_49 : decode cX5_comes 49 = .ok (.getfield 31, 3) := by decide +kernel
theorem dX5_comes_52 : decode cX5_comes 52 = .ok (.aload_n 0, 1) := by decide +kernel
theorem dX5_comes_53 : decode cX5_comes 53 = .ok (.getfield 155, 3) := by decide +kernel
theorem dX5_comes_56 : decode cX5_comes 56 = .ok (.iload 4, 2) := by decide +kernel
theorem dX5_comes_58 : decode cX5_comes 58 = .ok (.iastore, 1) := by decide +kernel
theorem dX5_comes_59 : decode cX5_comes 59 = .ok (.aload_n 0, 1) := by decide +kernel
theorem dX5_comes_60 : decode cX5_comes 60 = .ok (.getfield 34, 3) := by decide +kernel
theorem dX5_comes_63 : decode cX5_comes 63 = .ok (.aload_n 0, 1) := by decide +kernel
theorem dX5_comes_64 : decode cX5_comes 64 = .ok (.getfield 155, 3) := by decide +kernel
theorem dX5_comes_67 : decode cX5_comes 67 = .ok (.iload 5, 2) := by decide +kernel
theorem dX5_comes_69 : decode cX5_comes 69 = .ok (.iastore, 1) := by decide +kernel
theorem dX5_comes_70 : decode cX5_comes 70 = .ok (.aload_n 0, 1) := by decide +kernel
theorem dX5_comes_71 : decode cX5_comes 71 = .ok (.dup, 1) := by decide +kernel
theorem dX5_comes_72 : decode cX5_comes 72 = .ok (.getfield 155, 3) := by decide +kernel
theorem dX5_comes_75 : decode cX5_comes 75 = .ok (.iconst 1, 1) := by decide +kernel
theorem dX5_comes_76 : decode cX5_comes 76 = .ok (.iadd, 1) := by decide +kernel
theorem dX5_comes_77 : decode cX5_comes 77 = .ok (.putfield 155, 3) := by decide +kernel
theorem dX5_comes_80 : decode cX5_comes 80 = .ok (.aload_n 0, 1) := by decide +kernel
theorem dX5_comes_81 : decode cX5_comes 81 = .ok (.getfield 19, 3) := by decide +kernel
theorem dX5_comes_84 : decode cX5_comes 84 = .ok (.iload 6, 2) := by decide +kernel
theorem dX5_comes_86 : decode cX5_comes 86 = .ok (.aload_n 0, 1) := by decide +kernel
theorem dX5_comes_87 : decode cX5_comes 87 = .ok (.getfield 155, 3) := by decide +kernel
theorem dX5_comes_90 : decode cX5_comes 90 = .ok (.iastore, 1) := by decide +kernel
theorem dX5_comes_91 : decode cX5_comes 91 = .ok (.return_, 1) := by decide +kernel
theorem dX5_notes_0 : decode cX5_notes 0 = .ok (.bipush 8, 2) := by decide +kernel
theorem dX5_notes_2 : decode cX5_notes 2 = .ok (.iload_n 1, 1) := by decide +kernel
theorem dX5_notes_3 : decode cX5_notes 3 = .ok (.imul, 1) := by decide +kernel
theorem dX5_notes_4 : decode cX5_notes 4 = .ok (.iload_n 2, 1) := by decide +kernel
theorem dX5_notes_5 : decode cX5_notes 5 = .ok (.iadd, 1) := by decide +kernel
theorem dX5_notes_6 : decode cX5_notes 6 = .ok (.istore 5, 2) := by decide +kernel
theorem dX5_notes_8 : decode cX5_notes 8 = .ok (.aload_n 0, 1) := by decide +kernel
theorem dX5_notes_9 : decode cX5_notes 9 = .ok (.getfield 37, 3) := by decide +kernel
theorem dX5_notes_12 : decode cX5_notes 12 = .ok (.aload_n 0, 1) := by decide +kernel
theorem dX5_notes_13 : decode cX5_notes 13 = .ok (.getfield 158, 3) := by decide +kernel
theorem dX5_notes_16 : decode cX5_notes 16 = .ok (.bipush 32, 2) := by decide +kernel
theorem dX5_notes_18 : decode cX5_notes 18 = .ok (.iload_n 3, 1) := by decide +kernel
theorem dX5_notes_19 : decode cX5_notes 19 = .ok (.imul, 1) := by decide +kernel
theorem dX5_notes_20 : decode cX5_notes 20 = .ok (.iload 4, 2) := by decide +kernel
theorem dX5_notes_22 : decode cX5_notes 22 = .ok (.iadd, 1) := by decide +kernel
theorem dX5_notes_23 : decode cX5_notes 23 = .ok (.iastore, 1) := by decide +kernel
theorem dX5_notes_24 : decode cX5_notes 24 = .ok (.aload_n 0, 1) := by decide +kernel
theorem dX5_notes_25 : decode cX5_notes 25 = .ok (.getfield 40, 3) := by decide +kernel
theorem dX5_notes_28 : decode cX5_notes 28 = .ok (.aload_n 0, 1) := by decide +kernel
theorem dX5_notes_29 : decode cX5_notes 29 = .ok (.getfield 158, 3) := by decide +kernel
theorem dX5_notes_32 : decode cX5_notes 32 = .ok (.iconst (-1), 1) := by decide +kernel
theorem dX5_notes_33 : decode cX5_notes 33 = .ok (.iastore, 1) := by decide +kernel
theorem dX5_notes_34 : decode cX5_notes 34 = .ok (.aload_n 0, 1) := by decide +kernel
theorem dX5_notes_35 : decode cX5_notes 35 = .ok (.getfield 46, 3) := by decide +kernel
theorem dX5_notes_38 : decode cX5_notes 38 = .ok (.iload 5, 2) := by decide +kernel
theorem dX5_notes_40 : decode cX5_notes 40 = .ok (.iaload, 1) := by decide +kernel
theorem dX5_notes_41 : decode cX5_notes 41 = .ok (.iconst (-1), 1) := by decide +kernel
theorem dX5_notes_42 : decode cX5_notes 42 = .ok (.if_icmp .ne 17, 3) := by decide +kernel
theorem dX5_notes_45 : decode cX5_notes 45 = .ok (.aload_n 0, 1) := by decide +kernel
theorem dX5_notes_46 : decode cX5_notes 46 = .ok (.getfield 43, 3) := by decide +kernel
theorem dX5_notes_49 : decode cX5_notes 49 = .ok (.iload 5, 2) := by decide +kernel
theorem dX5_notes_51 : decode cX5_notes 51 = .ok (.aload_n 0, 1) := by decide +kernel
theorem dX5_notes_52 : decode cX5_notes 52 = .ok (.getfield 158, 3) := by decide +kernel
theorem dX5_notes_55 : decode cX5_notes 55 = .ok (.iastore, 1) := by decide +kernel
theorem dX5_notes_56 : decode cX5_notes 56 = .ok (.goto 19, 3) := by decide +kernel
theorem dX5_notes_59 : decode cX5_notes 59 = .ok (.aload_n 0, 1) := by decide +kernel
theorem dX5_notes_60 : decode cX5_notes 60 = .ok (.getfield 40, 3) := by decide +kernel
theorem dX5_notes_63 : decode cX5_notes 63 = .ok (.aload_n 0, 1) := by decide +kernel
theorem dX5_notes_64 : decode cX5_notes 64 = .ok (.getfield 46, 3) := by decide +kernel
theorem dX5_notes_67 : decode cX5_notes 67 = .ok (.iload 5, 2) := by decide +kernel
theorem dX5_notes_69 : decode cX5_notes 69 = .ok (.iaload, 1) := by decide +kernel
theorem dX5_notes_70 : decode cX5_notes 70 = .ok (.aload_n 0, 1) := by decide +kernel
theorem dX5_notes_71 : decode cX5_notes 71 = .ok (.getfield 158, 3) := by decide +kernel
theorem dX5_notes_74 : decode cX5_notes 74 = .ok (.iastore, 1) := by decide +kernel
theorem dX5_notes_75 : decode cX5_notes 75 = .ok (.aload_n 0, 1) := by decide +kernel
theorem dX5_notes_76 : decode cX5_notes 76 = .ok (.getfield 46, 3) := by decide +kernel
theorem dX5_notes_79 : decode cX5_notes 79 = .ok (.iload 5, 2) := by decide +kernel
theorem dX5_notes_81 : decode cX5_notes 81 = .ok (.aload_n 0, 1) := by decide +kernel
theorem dX5_notes_82 : decode cX5_notes 82 = .ok (.getfield 158, 3) := by decide +kernel
theorem dX5_notes_85 : decode cX5_notes 85 = .ok (.iastore, 1) := by decide +kernel
theorem dX5_notes_86 : decode cX5_notes 86 = .ok (.aload_n 0, 1) := by decide +kernel
theorem dX5_notes_87 : decode cX5_notes 87 = .ok (.dup, 1) := by decide +kernel
theorem dX5_notes_88 : decode cX5_notes 88 = .ok (.getfield 158, 3) := by decide +kernel
theorem dX5_notes_91 : decode cX5_notes 91 = .ok (.iconst 1, 1) := by decide +kernel
theorem dX5_notes_92 : decode cX5_notes 92 = .ok (.iadd, 1) := by decide +kernel
theorem dX5_notes_93 : decode cX5_notes 93 = .ok (.putfield 158, 3) := by decide +kernel
theorem dX5_notes_96 : decode cX5_notes 96 = .ok (.return_, 1) := by decide +kernel
theorem dX5_allCome_0 : decode cX5_allCome 0 = .ok (.iconst 0, 1) := by decide +kernel
theorem dX5_allCome_1 : decode cX5_allCome 1 = .ok (.istore 6, 2) := by decide +kernel
theorem dX5_allCome_3 : decode cX5_allCome 3 = .ok (.iload 6, 2) := by decide +kernel
theorem dX5_allCome_5 : decode cX5_allCome 5 = .ok (.bipush 8, 2) := by decide +kernel
theorem dX5_allCome_7 : decode cX5_allCome 7 = .ok (.if_icmp .ge 31, 3) := by decide +kernel
theorem dX5_allCome_10 : decode cX5_allCome 10 = .ok (.iload_n 3, 1) := by decide +kernel
theorem dX5_allCome_11 : decode cX5_allCome 11 = .ok (.iload 6, 2) := by decide +kernel
theorem dX5_allCome_13 : decode cX5_allCome 13 = .ok (.ishr, 1) := by decide +kernel
theorem dX5_allCome_14 : decode cX5_allCome 14 = .ok (.iconst 1, 1) := by decide +kernel
theorem dX5_allCome_15 : decode cX5_allCome 15 = .ok (.iand, 1) := by decide +kernel
theorem dX5_allCome_16 : decode cX5_allCome 16 = .ok (.iconst 1, 1) := by decide +kernel
theorem dX5_allCome_17 : decode cX5_allCome 17 = .ok (.if_icmp .ne 15, 3) := by decide +kernel
theorem dX5_allCome_20 : decode cX5_allCome 20 = .ok (.aload_n 0, 1) := by decide +kernel
theorem dX5_allCome_21 : decode cX5_allCome 21 = .ok (.iload_n 1, 1) := by decide +kernel
theorem dX5_allCome_22 : decode cX5_allCome 22 = .ok (.iload_n 2, 1) := by decide +kernel
theorem dX5_allCome_23 : decode cX5_allCome 23 = .ok (.iload 6, 2) := by decide +kernel
theorem dX5_allCome_25 : decode cX5_allCome 25 = .ok (.iload 4, 2) := by decide +kernel
theorem dX5_allCome_27 : decode cX5_allCome 27 = .ok (.iload 5, 2) := by decide +kernel
theorem dX5_allCome_29 : decode cX5_allCome 29 = .ok (.invokevirtual 164, 3) := by decide +kernel
theorem dX5_allCome_32 : decode cX5_allCome 32 = .ok (.iinc 6 1, 3) := by decide +kernel
theorem dX5_allCome_35 : decode cX5_allCome 35 = .ok (.goto (-32), 3) := by decide +kernel
theorem dX5_allCome_38 : decode cX5_allCome 38 = .ok (.return_, 1) := by decide +kernel
theorem dX5_takesCall_0 : decode cX5_takesCall 0 = .ok (.aload_n 0, 1) := by decide +kernel
theorem dX5_takesCall_1 : decode cX5_takesCall 1 = .ok (.iload_n 2, 1) := by decide +kernel
theorem dX5_takesCall_2 : decode cX5_takesCall 2 = .ok (.iconst 2, 1) := by decide +kernel
theorem dX5_takesCall_3 : decode cX5_takesCall 3 = .ok (.invokevirtual 118, 3) := by decide +kernel
theorem dX5_takesCall_6 : decode cX5_takesCall 6 = .ok (.istore_n 3, 1) := by decide +kernel
theorem dX5_takesCall_7 : decode cX5_takesCall 7 = .ok (.aload_n 0, 1) := by decide +kernel
theorem dX5_takesCall_8 : decode cX5_takesCall 8 = .ok (.getfield 13, 3) := by decide +kernel
theorem dX5_takesCall_11 : decode cX5_takesCall 11 = .ok (.iconst 4, 1) := by decide +kernel
theorem dX5_takesCall_12 : decode cX5_takesCall 12 = .ok (.iconst 2, 1) := by decide +kernel
theorem dX5_takesCall_13 : decode cX5_takesCall 13 = .ok (.iload_n 3, 1) := by decide +kernel
theorem dX5_takesCall_14 : decode cX5_takesCall 14 = .ok (.imul, 1) := by decide +kernel
theorem dX5_takesCall_15 : decode cX5_takesCall 15 = .ok (.iadd, 1) := by decide +kernel
theorem dX5_takesCall_16 : decode cX5_takesCall 16 = .ok (.iconst 1, 1) := by decide +kernel
theorem dX5_takesCall_17 : decode cX5_takesCall 17 = .ok (.iadd, 1) := by decide +kernel
theorem dX5_takesCall_18 : decode cX5_takesCall 18 = .ok (.iaload, 1) := by decide +kernel
theorem dX5_takesCall_19 : decode cX5_takesCall 19 = .ok (.istore 4, 2) := by decide +kernel
theorem dX5_takesCall_21 : decode cX5_takesCall 21 = .ok (.iconst 0, 1) := by decide +kernel
theorem dX5_takesCall_22 : decode cX5_takesCall 22 = .ok (.istore 5, 2) := by decide +kernel
theorem dX5_takesCall_24 : decode cX5_takesCall 24 = .ok (.iload 5, 2) := by decide +kernel
theorem dX5_takesCall_26 : decode cX5_takesCall 26 = .ok (.bipush 8, 2) := by decide +kernel
theorem dX5_takesCall_28 : decode cX5_takesCall 28 = .ok (.if_icmp .ge 125, 3) := by decide +kernel
theorem dX5_takesCall_31 : decode cX5_takesCall 31 = .ok (.aload_n 0, 1) := by decide +kernel
theorem dX5_takesCall_32 : decode cX5_takesCall 32 = .ok (.iload_n 2, 1) := by decide +kernel
theorem dX5_takesCall_33 : decode cX5_takesCall 33 = .ok (.iconst 1, 1) := by decide +kernel
theorem dX5_takesCall_34 : decode cX5_takesCall 34 = .ok (.aload_n 0, 1) := by decide +kernel
theorem dX5_takesCall_35 : decode cX5_takesCall 35 = .ok (.getfield 28, 3) := by decide +kernel
theorem dX5_takesCall_38 : decode cX5_takesCall 38 = .ok (.iload_n 1, 1) := by decide +kernel
theorem dX5_takesCall_39 : decode cX5_takesCall 39 = .ok (.iaload, 1) := by decide +kernel
theorem dX5_takesCall_40 : decode cX5_takesCall 40 = .ok (.invokevirtual 124, 3) := by decide +kernel
theorem dX5_takesCall_43 : decode cX5_takesCall 43 = .ok (.iload 5, 2) := by decide +kernel
theorem dX5_takesCall_45 : decode cX5_takesCall 45 = .ok (.ishr, 1) := by decide +kernel
theorem dX5_takesCall_46 : decode cX5_takesCall 46 = .ok (.iconst 1, 1) := by decide +kernel
theorem dX5_takesCall_47 : decode cX5_takesCall 47 = .ok (.iand, 1) := by decide +kernel
theorem dX5_takesCall_48 : decode cX5_takesCall 48 = .ok (.iconst 1, 1) := by decide +kernel
theorem dX5_takesCall_49 : decode cX5_takesCall 49 = .ok (.if_icmp .ne 98, 3) := by decide +kernel
theorem dX5_takesCall_52 : decode cX5_takesCall 52 = .ok (.aload_n 0, 1) := by decide +kernel
theorem dX5_takesCall_53 : decode cX5_takesCall 53 = .ok (.iload 5, 2) := by decide +kernel
theorem dX5_takesCall_55 : decode cX5_takesCall 55 = .ok (.aload_n 0, 1) := by decide +kernel
theorem dX5_takesCall_56 : decode cX5_takesCall 56 = .ok (.getfield 13, 3) := by decide +kernel
theorem dX5_takesCall_59 : decode cX5_takesCall 59 = .ok (.iconst 4, 1) := by decide +kernel
theorem dX5_takesCall_60 : decode cX5_takesCall 60 = .ok (.iconst 2, 1) := by decide +kernel
theorem dX5_takesCall_61 : decode cX5_takesCall 61 = .ok (.iload_n 3, 1) := by decide +kernel
theorem dX5_takesCall_62 : decode cX5_takesCall 62 = .ok (.imul, 1) := by decide +kernel
theorem dX5_takesCall_63 : decode cX5_takesCall 63 = .ok (.iadd, 1) := by decide +kernel
theorem dX5_takesCall_64 : decode cX5_takesCall 64 = .ok (.iaload, 1) := by decide +kernel
theorem dX5_takesCall_65 : decode cX5_takesCall 65 = .ok (.iload 5, 2) := by decide +kernel
theorem dX5_takesCall_67 : decode cX5_takesCall 67 = .ok (.iload_n 1, 1) := by decide +kernel
theorem dX5_takesCall_68 : decode cX5_takesCall 68 = .ok (.iconst (-1), 1) := by decide +kernel
theorem dX5_takesCall_69 : decode cX5_takesCall 69 = .ok (.invokevirtual 164, 3) := by decide +kernel
theorem dX5_takesCall_72 : decode cX5_takesCall 72 = .ok (.aload_n 0, 1) := by decide +kernel
theorem dX5_takesCall_73 : decode cX5_takesCall 73 = .ok (.iload_n 3, 1) := by decide +kernel
theorem dX5_takesCall_74 : decode cX5_takesCall 74 = .ok (.iload 5, 2) := by decide +kernel
theorem dX5_takesCall_76 : decode cX5_takesCall 76 = .ok (.iload_n 1, 1) := by decide +kernel
theorem dX5_takesCall_77 : decode cX5_takesCall 77 = .ok (.iload_n 2, 1) := by decide +kernel
theorem dX5_takesCall_78 : decode cX5_takesCall 78 = .ok (.invokevirtual 168, 3) := by decide +kernel
theorem dX5_takesCall_81 : decode cX5_takesCall 81 = .ok (.iconst 0, 1) := by decide +kernel
theorem dX5_takesCall_82 : decode cX5_takesCall 82 = .ok (.istore 6, 2) := by decide +kernel
theorem dX5_takesCall_84 : decode cX5_takesCall 84 = .ok (.iload 6, 2) := by decide +kernel
theorem dX5_takesCall_86 : decode cX5_takesCall 86 = .ok (.bipush 8, 2) := by decide +kernel
theorem dX5_takesCall_88 : decode cX5_takesCall 88 = .ok (.if_icmp .ge 59, 3) := by decide +kernel
theorem dX5_takesCall_91 : decode cX5_takesCall 91 = .ok (.aload_n 0, 1) := by decide +kernel
theorem dX5_takesCall_92 : decode cX5_takesCall 92 = .ok (.getfield 19, 3) := by decide +kernel
theorem dX5_takesCall_95 : decode cX5_takesCall 95 = .ok (.iload 5, 2) := by decide +kernel
theorem dX5_takesCall_97 : decode cX5_takesCall 97 = .ok (.iload 4, 2) := by decide +kernel
theorem dX5_takesCall_99 : decode cX5_takesCall 99 = .ok (.iload 6, 2) := by decide +kernel
theorem dX5_takesCall_101 : decode cX5_takesCall 101 = .ok (.invokestatic 161, 3) := by decide +kernel
theorem dX5_takesCall_104 : decode cX5_takesCall 104 = .ok (.iaload, 1) := by decide +kernel
theorem dX5_takesCall_105 : decode cX5_takesCall 105 = .ok (.iconst 1, 1) := by decide +kernel
theorem dX5_takesCall_106 : decode cX5_takesCall 106 = .ok (.isub, 1) := by decide +kernel
theorem dX5_takesCall_107 : decode cX5_takesCall 107 = .ok (.istore 7, 2) := by decide +kernel
theorem dX5_takesCall_109 : decode cX5_takesCall 109 = .ok (.iload 7, 2) := by decide +kernel
theorem dX5_takesCall_111 : decode cX5_takesCall 111 = .ok (.ifCond .lt 30, 3) := by decide +kernel
theorem dX5_takesCall_114 : decode cX5_takesCall 114 = .ok (.aload_n 0, 1) := by decide +kernel
theorem dX5_takesCall_115 : decode cX5_takesCall 115 = .ok (.aload_n 0, 1) := by decide +kernel
theorem dX5_takesCall_116 : decode cX5_takesCall 116 = .ok (.getfield 22, 3) := by decide +kernel
theorem dX5_takesCall_119 : decode cX5_takesCall 119 = .ok (.iload_n 1, 1) := by decide +kernel
theorem dX5_takesCall_120 : decode cX5_takesCall 120 = .ok (.iaload, 1) := by decide +kernel
theorem dX5_takesCall_121 : decode cX5_takesCall 121 = .ok (.aload_n 0, 1) := by decide +kernel
theorem dX5_takesCall_122 : decode cX5_takesCall 122 = .ok (.iload_n 2, 1) := by decide +kernel
theorem dX5_takesCall_123 : decode cX5_takesCall 123 = .ok (.iconst 1, 1) := by decide +kernel
theorem dX5_takesCall_124 : decode cX5_takesCall 124 = .ok (.invokevirtual 118, 3) := by decide +kernel
theorem dX5_takesCall_127 : decode cX5_takesCall 127 = .ok (.aload_n 0, 1) := by decide +kernel
theorem dX5_takesCall_128 : decode cX5_takesCall 128 = .ok (.iload_n 2, 1) := by decide +kernel
theorem dX5_takesCall_129 : decode cX5_takesCall 129 = .ok (.iconst 2, 1) := by decide +kernel
theorem dX5_takesCall_130 : decode cX5_takesCall 130 = .ok (.iload 6, 2) := by decide +kernel
theorem dX5_takesCall_132 : decode cX5_takesCall 132 = .ok (.invokevirtual 124, 3) := by decide +kernel
theorem dX5_takesCall_135 : decode cX5_takesCall 135 = .ok (.iload_n 1, 1) := by decide +kernel
theorem dX5_takesCall_136 : decode cX5_takesCall 136 = .ok (.iload 7, 2) := by decide +kernel
theorem dX5_takesCall_138 : decode cX5_takesCall 138 = .ok (.invokevirtual 172, 3) := by decide +kernel
theorem dX5_takesCall_141 : decode cX5_takesCall 141 = .ok (.iinc 6 1, 3) := by decide +kernel
theorem dX5_takesCall_144 : decode cX5_takesCall 144 = .ok (.goto (-60), 3) := by decide +kernel
theorem dX5_takesCall_147 : decode cX5_takesCall 147 = .ok (.iinc 5 1, 3) := by decide +kernel
theorem dX5_takesCall_150 : decode cX5_takesCall 150 = .ok (.goto (-126), 3) := by decide +kernel
theorem dX5_takesCall_153 : decode cX5_takesCall 153 = .ok (.return_, 1) := by decide +kernel
theorem dX5_takesEntry_0 : decode cX5_takesEntry 0 = .ok (.aload_n 0, 1) := by decide +kernel
theorem dX5_takesEntry_1 : decode cX5_takesEntry 1 = .ok (.getfield 25, 3) := by decide +kernel
theorem dX5_takesEntry_4 : decode cX5_takesEntry 4 = .ok (.iload_n 1, 1) := by decide +kernel
theorem dX5_takesEntry_5 : decode cX5_takesEntry 5 = .ok (.iaload, 1) := by decide +kernel
theorem dX5_takesEntry_6 : decode cX5_takesEntry 6 = .ok (.istore_n 2, 1) := by decide +kernel
theorem dX5_takesEntry_7 : decode cX5_takesEntry 7 = .ok (.aload_n 0, 1) := by decide +kernel
theorem dX5_takesEntry_8 : decode cX5_takesEntry 8 = .ok (.iload_n 2, 1) := by decide +kernel
theorem dX5_takesEntry_9 : decode cX5_takesEntry 9 = .ok (.invokevirtual 108, 3) := by decide +kernel
theorem dX5_takesEntry_12 : decode cX5_takesEntry 12 = .ok (.iconst 1, 1) := by decide +kernel
theorem dX5_takesEntry_13 : decode cX5_takesEntry 13 = .ok (.if_icmp .ne 96, 3) := by decide +kernel
theorem dX5_takesEntry_16 : decode cX5_takesEntry 16 = .ok (.aload_n 0, 1) := by decide +kernel
theorem dX5_takesEntry_17 : decode cX5_takesEntry 17 = .ok (.getfield 43, 3) := by decide +kernel
theorem dX5_takesEntry_20 : decode cX5_takesEntry 20 = .ok (.bipush 8, 2) := by decide +kernel
theorem dX5_takesEntry_22 : decode cX5_takesEntry 22 = .ok (.aload_n 0, 1) := by decide +kernel
theorem dX5_takesEntry_23 : decode cX5_takesEntry 23 = .ok (.iload_n 2, 1) := by decide +kernel
theorem dX5_takesEntry_24 : decode cX5_takesEntry 24 = .ok (.invokevirtual 104, 3) := by decide +kernel
theorem dX5_takesEntry_27 : decode cX5_takesEntry 27 = .ok (.imul, 1) := by decide +kernel
theorem dX5_takesEntry_28 : decode cX5_takesEntry 28 = .ok (.aload_n 0, 1) := by decide +kernel
theorem dX5_takesEntry_29 : decode cX5_takesEntry 29 = .ok (.getfield 22, 3) := by decide +kernel
theorem dX5_takesEntry_32 : decode cX5_takesEntry 32 = .ok (.iload_n 1, 1) := by decide +kernel
theorem dX5_takesEntry_33 : decode cX5_takesEntry 33 = .ok (.iaload, 1) := by decide +kernel
theorem dX5_takesEntry_34 : decode cX5_takesEntry 34 = .ok (.iadd, 1) := by decide +kernel
theorem dX5_takesEntry_35 : decode cX5_takesEntry 35 = .ok (.iaload, 1) := by decide +kernel
theorem dX5_takesEntry_36 : decode cX5_takesEntry 36 = .ok (.istore_n 3, 1) := by decide +kernel
theorem dX5_takesEntry_37 : decode cX5_takesEntry 37 = .ok (.iload_n 3, 1) := by decide +kernel
theorem dX5_takesEntry_38 : decode cX5_takesEntry 38 = .ok (.iconst (-1), 1) := by decide +kernel
theorem dX5_takesEntry_39 : decode cX5_takesEntry 39 = .ok (.if_icmp .eq 69, 3) := by decide +kernel
theorem dX5_takesEntry_42 : decode cX5_takesEntry 42 = .ok (.aload_n 0, 1) := by decide +kernel
theorem dX5_takesEntry_43 : decode cX5_takesEntry 43 = .ok (.getfield 37, 3) := by decide +kernel
theorem dX5_takesEntry_46 : decode cX5_takesEntry 46 = .ok (.iload_n 3, 1) := by decide +kernel
theorem dX5_takesEntry_47 : decode cX5_takesEntry 47 = .ok (.iaload, 1) := by decide +kernel
theorem dX5_takesEntry_48 : decode cX5_takesEntry 48 = .ok (.bipush 32, 2) := by decide +kernel
theorem dX5_takesEntry_50 : decode cX5_takesEntry 50 = .ok (.idiv, 1) := by decide +kernel
theorem dX5_takesEntry_51 : decode cX5_takesEntry 51 = .ok (.istore 4, 2) := by decide +kernel
theorem dX5_takesEntry_53 : decode cX5_takesEntry 53 = .ok (.aload_n 0, 1) := by decide +kernel
theorem dX5_takesEntry_54 : decode cX5_takesEntry 54 = .ok (.getfield 37, 3) := by decide +kernel
theorem dX5_takesEntry_57 : decode cX5_takesEntry 57 = .ok (.iload_n 3, 1) := by decide +kernel
theorem dX5_takesEntry_58 : decode cX5_takesEntry 58 = .ok (.iaload, 1) := by decide +kernel
theorem dX5_takesEntry_59 : decode cX5_takesEntry 59 = .ok (.bipush 32, 2) := by decide +kernel
theorem dX5_takesEntry_61 : decode cX5_takesEntry 61 = .ok (.irem, 1) := by decide +kernel
theorem dX5_takesEntry_62 : decode cX5_takesEntry 62 = .ok (.istore 5, 2) := by decide +kernel
theorem dX5_takesEntry_64 : decode cX5_takesEntry 64 = .ok (.aload_n 0, 1) := by decide +kernel
theorem dX5_takesEntry_65 : decode cX5_takesEntry 65 = .ok (.aload_n 0, 1) := by decide +kernel
theorem dX5_takesEntry_66 : decode cX5_takesEntry 66 = .ok (.getfield 22, 3) := by decide +kernel
theorem dX5_takesEntry_69 : decode cX5_takesEntry 69 = .ok (.iload 4, 2) := by decide +kernel
theorem dX5_takesEntry_71 : decode cX5_takesEntry 71 = .ok (.iaload, 1) := by decide +kernel
theorem dX5_takesEntry_72 : decode cX5_takesEntry 72 = .ok (.aload_n 0, 1) := by decide +kernel
theorem dX5_takesEntry_73 : decode cX5_takesEntry 73 = .ok (.iload 5, 2) := by decide +kernel
theorem dX5_takesEntry_75 : decode cX5_takesEntry 75 = .ok (.iconst 1, 1) := by decide +kernel
theorem dX5_takesEntry_76 : decode cX5_takesEntry 76 = .ok (.invokevirtual 118, 3) := by decide +kernel
theorem dX5_takesEntry_79 : decode cX5_takesEntry 79 = .ok (.aload_n 0, 1) := by decide +kernel
theorem dX5_takesEntry_80 : decode cX5_takesEntry 80 = .ok (.iload 5, 2) := by decide +kernel
