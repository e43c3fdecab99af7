theorem dX9_sayBegin_0 : decode cX9_sayBegin 0 = .ok (.aload_n 0, 1) := by decide +kernel
theorem dX9_sayBegin_1 : decode cX9_sayBegin 1 = .ok (.bipush 60, 2) := by decide +kernel
theorem dX9_sayBegin_3 : decode cX9_sayBegin 3 = .ok (.invokevirtual 11, 3) := by decide +kernel
theorem dX9_sayBegin_6 : decode cX9_sayBegin 6 = .ok (.aload_n 0, 1) := by decide +kernel
theorem dX9_sayBegin_7 : decode cX9_sayBegin 7 = .ok (.aload_n 0, 1) := by decide +kernel
theorem dX9_sayBegin_8 : decode cX9_sayBegin 8 = .ok (.getfield 90, 3) := by decide +kernel
theorem dX9_sayBegin_11 : decode cX9_sayBegin 11 = .ok (.bipush 8, 2) := by decide +kernel
theorem dX9_sayBegin_13 : decode cX9_sayBegin 13 = .ok (.iload_n 1, 1) := by decide +kernel
theorem dX9_sayBegin_14 : decode cX9_sayBegin 14 = .ok (.imul, 1) := by decide +kernel
theorem dX9_sayBegin_15 : decode cX9_sayBegin 15 = .ok (.aload_n 0, 1) := by decide +kernel
theorem dX9_sayBegin_16 : decode cX9_sayBegin 16 = .ok (.getfield 93, 3) := by decide +kernel
theorem dX9_sayBegin_19 : decode cX9_sayBegin 19 = .ok (.iload_n 1, 1) := by decide +kernel
theorem dX9_sayBegin_20 : decode cX9_sayBegin 20 = .ok (.iaload, 1) := by decide +kernel
theorem dX9_sayBegin_21 : decode cX9_sayBegin 21 = .ok (.invokevirtual 281, 3) := by decide +kernel
theorem dX9_sayBegin_24 : decode cX9_sayBegin 24 = .ok (.iconst 4, 1) := by decide +kernel
theorem dX9_sayBegin_25 : decode cX9_sayBegin 25 = .ok (.iload_n 1, 1) := by decide +kernel
theorem dX9_sayBegin_26 : decode cX9_sayBegin 26 = .ok (.imul, 1) := by decide +kernel
theorem dX9_sayBegin_27 : decode cX9_sayBegin 27 = .ok (.istore_n 2, 1) := by decide +kernel
theorem dX9_sayBegin_28 : decode cX9_sayBegin 28 = .ok (.iload_n 2, 1) := by decide +kernel
theorem dX9_sayBegin_29 : decode cX9_sayBegin 29 = .ok (.iconst 4, 1) := by decide +kernel
theorem dX9_sayBegin_30 : decode cX9_sayBegin 30 = .ok (.iload_n 1, 1) := by decide +kernel
theorem dX9_sayBegin_31 : decode cX9_sayBegin 31 = .ok (.imul, 1) := by decide +kernel
theorem dX9_sayBegin_32 : decode cX9_sayBegin 32 = .ok (.aload_n 0, 1) := by decide +kernel
theorem dX9_sayBegin_33 : decode cX9_sayBegin 33 = .ok (.getfield 114, 3) := by decide +kernel
theorem dX9_sayBegin_36 : decode cX9_sayBegin 36 = .ok (.iload_n 1, 1) := by decide +kernel
theorem dX9_sayBegin_37 : decode cX9_sayBegin 37 = .ok (.iaload, 1) := by decide +kernel
theorem dX9_sayBegin_38 : decode cX9_sayBegin 38 = .ok (.iadd, 1) := by decide +kernel
theorem dX9_sayBegin_39 : decode cX9_sayBegin 39 = .ok (.if_icmp .ge 70, 3) := by decide +kernel
theorem dX9_sayBegin_42 : decode cX9_sayBegin 42 = .ok (.aload_n 0, 1) := by decide +kernel
theorem dX9_sayBegin_43 : decode cX9_sayBegin 43 = .ok (.bipush 32, 2) := by decide +kernel
theorem dX9_sayBegin_45 : decode cX9_sayBegin 45 = .ok (.invokevirtual 11, 3) := by decide +kernel
theorem dX9_sayBegin_48 : decode cX9_sayBegin 48 = .ok (.aload_n 0, 1) := by decide +kernel
theorem dX9_sayBegin_49 : decode cX9_sayBegin 49 = .ok (.aload_n 0, 1) := by decide +kernel
theorem dX9_sayBegin_50 : decode cX9_sayBegin 50 = .ok (.getfield 275, 3) := by decide +kernel
theorem dX9_sayBegin_53 : decode cX9_sayBegin 53 = .ok (.bipush 8, 2) := by decide +kernel
theorem dX9_sayBegin_55 : decode cX9_sayBegin 55 = .ok (.iload_n 2, 1) := by decide +kernel
theorem dX9_sayBegin_56 : decode cX9_sayBegin 56 = .ok (.imul, 1) := by decide +kernel
theorem dX9_sayBegin_57 : decode cX9_sayBegin 57 = .ok (.aload_n 0, 1) := by decide +kernel
theorem dX9_sayBegin_58 : decode cX9_sayBegin 58 = .ok (.getfield 269, 3) := by decide +kernel
theorem dX9_sayBegin_61 : decode cX9_sayBegin 61 = .ok (.iload_n 2, 1) := by decide +kernel
theorem dX9_sayBegin_62 : decode cX9_sayBegin 62 = .ok (.iaload, 1) := by decide +kernel
theorem dX9_sayBegin_63 : decode cX9_sayBegin 63 = .ok (.invokevirtual 281, 3) := by decide +kernel
theorem dX9_sayBegin_66 : decode cX9_sayBegin 66 = .ok (.aload_n 0, 1) := by decide +kernel
theorem dX9_sayBegin_67 : decode cX9_sayBegin 67 = .ok (.bipush 61, 2) := by decide +kernel
theorem dX9_sayBegin_69 : decode cX9_sayBegin 69 = .ok (.invokevirtual 11, 3) := by decide +kernel
theorem dX9_sayBegin_72 : decode cX9_sayBegin 72 = .ok (.aload_n 0, 1) := by decide +kernel
theorem dX9_sayBegin_73 : decode cX9_sayBegin 73 = .ok (.bipush 34, 2) := by decide +kernel
theorem dX9_sayBegin_75 : decode cX9_sayBegin 75 = .ok (.invokevirtual 11, 3) := by decide +kernel
theorem dX9_sayBegin_78 : decode cX9_sayBegin 78 = .ok (.aload_n 0, 1) := by decide +kernel
theorem dX9_sayBegin_79 : decode cX9_sayBegin 79 = .ok (.aload_n 0, 1) := by decide +kernel
theorem dX9_sayBegin_80 : decode cX9_sayBegin 80 = .ok (.getfield 278, 3) := by decide +kernel
theorem dX9_sayBegin_83 : decode cX9_sayBegin 83 = .ok (.bipush 60, 2) := by decide +kernel
theorem dX9_sayBegin_85 : decode cX9_sayBegin 85 = .ok (.iload_n 2, 1) := by decide +kernel
theorem dX9_sayBegin_86 : decode cX9_sayBegin 86 = .ok (.imul, 1) := by decide +kernel
theorem dX9_sayBegin_87 : decode cX9_sayBegin 87 = .ok (.aload_n 0, 1) := by decide +kernel
theorem dX9_sayBegin_88 : decode cX9_sayBegin 88 = .ok (.getfield 272, 3) := by decide +kernel
theorem dX9_sayBegin_91 : decode cX9_sayBegin 91 = .ok (.iload_n 2, 1) := by decide +kernel
theorem dX9_sayBegin_92 : decode cX9_sayBegin 92 = .ok (.iaload, 1) := by decide +kernel
theorem dX9_sayBegin_93 : decode cX9_sayBegin 93 = .ok (.iconst 0, 1) := by decide +kernel
theorem dX9_sayBegin_94 : decode cX9_sayBegin 94 = .ok (.invokevirtual 285, 3) := by decide +kernel
theorem dX9_sayBegin_97 : decode cX9_sayBegin 97 = .ok (.aload_n 0, 1) := by decide +kernel
theorem dX9_sayBegin_98 : decode cX9_sayBegin 98 = .ok (.bipush 34, 2) := by decide +kernel
theorem dX9_sayBegin_100 : decode cX9_sayBegin 100 = .ok (.invokevirtual 11, 3) := by decide +kernel
theorem dX9_sayBegin_103 : decode cX9_sayBegin 103 = .ok (.iinc 2 1, 3) := by decide +kernel
theorem dX9_sayBegin_106 : decode cX9_sayBegin 106 = .ok (.goto (-78), 3) := by decide +kernel
theorem dX9_sayBegin_109 : decode cX9_sayBegin 109 = .ok (.aload_n 0, 1) := by decide +kernel
theorem dX9_sayBegin_110 : decode cX9_sayBegin 110 = .ok (.bipush 62, 2) := by decide +kernel
theorem dX9_sayBegin_112 : decode cX9_sayBegin 112 = .ok (.invokevirtual 11, 3) := by decide +kernel
theorem dX9_sayBegin_115 : decode cX9_sayBegin 115 = .ok (.return_, 1) := by decide +kernel
theorem dX9_sayEnd_0 : decode cX9_sayEnd 0 = .ok (.aload_n 0, 1) := by decide +kernel
theorem dX9_sayEnd_1 : decode cX9_sayEnd 1 = .ok (.getfield 86, 3) := by decide +kernel
theorem dX9_sayEnd_4 : decode cX9_sayEnd 4 = .ok (.iload_n 1, 1) := by decide +kernel
theorem dX9_sayEnd_5 : decode cX9_sayEnd 5 = .ok (.iaload, 1) := by decide +kernel
theorem dX9_sayEnd_6 : decode cX9_sayEnd 6 = .ok (.invokestatic 260, 3) := by decide +kernel
theorem dX9_sayEnd_9 : decode cX9_sayEnd 9 = .ok (.ifCond .eq 4, 3) := by decide +kernel
theorem dX9_sayEnd_12 : decode cX9_sayEnd 12 = .ok (.return_, 1) := by decide +kernel
theorem dX9_sayEnd_13 : decode cX9_sayEnd 13 = .ok (.aload_n 0, 1) := by decide +kernel
theorem dX9_sayEnd_14 : decode cX9_sayEnd 14 = .ok (.bipush 60, 2) := by decide +kernel
theorem dX9_sayEnd_16 : decode cX9_sayEnd 16 = .ok (.invokevirtual 11, 3) := by decide +kernel
theorem dX9_sayEnd_19 : decode cX9_sayEnd 19 = .ok (.aload_n 0, 1) := by decide +kernel
theorem dX9_sayEnd_20 : decode cX9_sayEnd 20 = .ok (.bipush 47, 2) := by decide +kernel
theorem dX9_sayEnd_22 : decode cX9_sayEnd 22 = .ok (.invokevirtual 11, 3) := by decide +kernel
theorem dX9_sayEnd_25 : decode cX9_sayEnd 25 = .ok (.aload_n 0, 1) := by decide +kernel
theorem dX9_sayEnd_26 : decode cX9_sayEnd 26 = .ok (.aload_n 0, 1) := by decide +kernel
theorem dX9_sayEnd_27 : decode cX9_sayEnd 27 = .ok (.getfield 90, 3) := by decide +kernel
theorem dX9_sayEnd_30 : decode cX9_sayEnd 30 = .ok (.bipush 8, 2) := by decide +kernel
theorem dX9_sayEnd_32 : decode cX9_sayEnd 32 = .ok (.iload_n 1, 1) := by decide +kernel
theorem dX9_sayEnd_33 : decode cX9_sayEnd 33 = .ok (.imul, 1) := by decide +kernel
theorem dX9_sayEnd_34 : decode cX9_sayEnd 34 = .ok (.aload_n 0, 1) := by decide +kernel
theorem dX9_sayEnd_35 : decode cX9_sayEnd 35 = .ok (.getfield 93, 3) := by decide +kernel
theorem dX9_sayEnd_38 : decode cX9_sayEnd 38 = .ok (.iload_n 1, 1) := by decide +kernel
theorem dX9_sayEnd_39 : decode cX9_sayEnd 39 = .ok (.iaload, 1) := by decide +kernel
theorem dX9_sayEnd_40 : decode cX9_sayEnd 40 = .ok (.invokevirtual 281, 3) := by decide +kernel
theorem dX9_sayEnd_43 : decode cX9_sayEnd 43 = .ok (.aload_n 0, 1) := by decide +kernel
theorem dX9_sayEnd_44 : decode cX9_sayEnd 44 = .ok (.bipush 62, 2) := by decide +kernel
theorem dX9_sayEnd_46 : decode cX9_sayEnd 46 = .ok (.invokevirtual 11, 3) := by decide +kernel
theorem dX9_sayEnd_49 : decode cX9_sayEnd 49 = .ok (.return_, 1) := by decide +kernel
theorem dX9_there_0 : decode cX9_there 0 = .ok (.iload_n 1, 1) := by decide +kernel
theorem dX9_there_1 : decode cX9_there 1 = .ok (.ifCond .lt 22, 3) := by decide +kernel
theorem dX9_there_4 : decode cX9_there 4 = .ok (.iload_n 1, 1) := by decide +kernel
theorem dX9_there_5 : decode cX9_there 5 = .ok (.bipush 120, 2) := by decide +kernel
theorem dX9_there_7 : decode cX9_there 7 = .ok (.if_icmp .ge 16, 3) := by decide +kernel
theorem dX9_there_10 : decode cX9_there 10 = .ok (.aload_n 0, 1) := by decide +kernel
theorem dX9_there_11 : decode cX9_there 11 = .ok (.getfield 75, 3) := by decide +kernel
theorem dX9_there_14 : decode cX9_there 14 = .ok (.iload_n 1, 1) := by decide +kernel
theorem dX9_there_15 : decode cX9_there 15 = .ok (.baload, 1) := by decide +kernel
theorem dX9_there_16 : decode cX9_there 16 = .ok (.ifCond .eq 7, 3) := by decide +kernel
theorem dX9_there_19 : decode cX9_there 19 = .ok (.iconst 1, 1) := by decide +kernel
theorem dX9_there_20 : decode cX9_there 20 = .ok (.goto 4, 3) := by decide +kernel
theorem dX9_there_23 : decode cX9_there 23 = .ok (.iconst 0, 1) := by decide +kernel
theorem dX9_there_24 : decode cX9_there 24 = .ok (.ireturn, 1) := by decide +kernel
theorem dX9_serialise_0 : decode cX9_serialise 0 = .ok (.aload_n 0, 1) := by decide +kernel
theorem dX9_serialise_1 : decode cX9_serialise 1 = .ok (.iload_n 1, 1) := by decide +kernel
theorem dX9_serialise_2 : decode cX9_serialise 2 = .ok (.invokevirtual 289, 3) := by decide +kernel
theorem dX9_serialise_5 : decode cX9_serialise 5 = .ok (.ifCond .ne 5, 3) := by decide +kernel
theorem dX9_serialise_8 : decode cX9_serialise 8 = .ok (.iconst (-1), 1) := by decide +kernel
theorem dX9_serialise_9 : decode cX9_serialise 9 = .ok (.ireturn, 1) := by decide +kernel
theorem dX9_serialise_10 : decode cX9_serialise 10 = .ok (.aload_n 0, 1) := by decide +kernel
theorem dX9_serialise_11 : decode cX9_serialise 11 = .ok (.iconst 0, 1) := by decide +kernel
theorem dX9_serialise_12 : decode cX9_serialise 12 = .ok (.putfield 1, 3) := by decide +kernel
theorem dX9_serialise_15 : decode cX9_serialise 15 = .ok (.iload_n 1, 1) := by decide +kernel
theorem dX9_serialise_16 : decode cX9_serialise 16 = .ok (.istore_n 2, 1) := by decide +kernel
theorem dX9_serialise_17 : decode cX9_serialise 17 = .ok (.iconst 1, 1) := by decide +kernel
theorem dX9_serialise_18 : decode cX9_serialise 18 = .ok (.istore_n 3, 1) := by decide +kernel
theorem dX9_serialise_19 : decode cX9_serialise 19 = .ok (.iload_n 3, 1) := by decide +kernel
theorem dX9_serialise_20 : decode cX9_serialise 20 = .ok (.ifCond .eq 167, 3) := by decide +kernel
theorem dX9_serialise_23 : decode cX9_serialise 23 = .ok (.aload_n 0, 1) := by decide +kernel
theorem dX9_serialise_24 : decode cX9_serialise 24 = .ok (.getfield 86, 3) := by decide +kernel
theorem dX9_serialise_27 : decode cX9_serialise 27 = .ok (.iload_n 2, 1) := by decide +kernel
theorem dX9_serialise_28 : decode cX9_serialise 28 = .ok (.iaload, 1) := by decide +kernel
theorem dX9_serialise_29 : decode cX9_serialise 29 = .ok (.bipush 17, 2) := by decide +kernel
theorem dX9_serialise_31 : decode cX9_serialise 31 = .ok (.if_icmp .ne 56, 3) := by decide +kernel
theorem dX9_serialise_34 : decode cX9_serialise 34 = .ok (.aload_n 0, 1) := by decide +kernel
theorem dX9_serialise_35 : decode cX9_serialise 35 = .ok (.aload_n 0, 1) := by decide +kernel
theorem dX9_serialise_36 : decode cX9_serialise 36 = .ok (.getfield 199, 3) := by decide +kernel
theorem dX9_serialise_39 : decode cX9_serialise 39 = .ok (.sipush 400, 3) := by decide +kernel
theorem dX9_serialise_42 : decode cX9_serialise 42 = .ok (.iload_n 2, 1) := by decide +kernel
theorem dX9_serialise_43 : decode cX9_serialise 43 = .ok (.imul, 1) := by decide +kernel
theorem dX9_serialise_44 : decode cX9_serialise 44 = .ok (.aload_n 0, 1) := by decide +kernel
theorem dX9_serialise_45 : decode cX9_serialise 45 = .ok (.getfield 117, 3) := by decide +kernel
theorem dX9_serialise_48 : decode cX9_serialise 48 = .ok (.iload_n 2, 1) := by decide +kernel
theorem dX9_serialise_49 : decode cX9_serialise 49 = .ok (.iaload, 1) := by decide +kernel
theorem dX9_serialise_50 : decode cX9_serialise 50 = .ok (.aload_n 0, 1) := by decide +kernel
theorem dX9_serialise_51 : decode cX9_serialise 51 = .ok (.getfield 99, 3) := by decide +kernel
theorem dX9_serialise_54 : decode cX9_serialise 54 = .ok (.iload_n 2, 1) := by decide +kernel
theorem dX9_serialise_55 : decode cX9_serialise 55 = .ok (.iaload, 1) := by decide +kernel
theorem dX9_serialise_56 : decode cX9_serialise 56 = .ok (.iconst (-1), 1) := by decide +kernel
theorem dX9_serialise_57 : decode cX9_serialise 57 = .ok (.if_icmp .eq 23, 3) := by decide +kernel
theorem dX9_serialise_60 : decode cX9_serialise 60 = .ok (.aload_n 0, 1) := by decide +kernel
theorem dX9_serialise_61 : decode cX9_serialise 61 = .ok (.getfield 86, 3) := by decide +kernel
theorem dX9_serialise_64 : decode cX9_serialise 64 = .ok (.aload_n 0, 1) := by decide +kernel
theorem dX9_serialise_65 : decode cX9_serialise 65 = .ok (.getfield 99, 3) := by decide +kernel
theorem dX9_serialise_68 : decode cX9_serialise 68 = .ok (.iload_n 2, 1) := by decide +kernel
theorem dX9_serialise_69 : decode cX9_serialise 69 = .ok (.iaload, 1) := by decide +kernel
theorem dX9_serialise_70 : decode cX9_serialise 70 = .ok (.iaload, 1) := by decide +kernel
theorem dX9_serialise_71 : decode cX9_serialise 71 = .ok (.bipush 15, 2) := by decide +kernel
theorem dX9_serialise_73 : decode cX9_serialise 73 = .ok (.if_icmp .ne 7, 3) := by decide +kernel
theorem dX9_serialise_76 : decode cX9_serialise 76 = .ok (.iconst 1, 1) := by decide +kernel
theorem dX9_serialise_77 : decode cX9_serialise 77 = .ok (.goto 4, 3) := by decide +kernel
theorem dX9_serialise_80 : decode cX9_serialise 80 = .ok (.iconst 0, 1) := by decide +kernel
theorem dX9_serialise_81 : decode cX9_serialise 81 = .ok (.invokevirtual 285, 3) := by decide +kernel
theorem dX9_serialise_84 : decode cX9_serialise 84 = .ok (.goto 8, 3) := by decide +kernel
theorem dX9_serialise_87 : decode cX9_serialise 87 = .ok (.aload_n 0, 1) := by decide +kernel
theorem dX9_serialise_88 : decode cX9_serialise 88 = .ok (.iload_n 2, 1) := by decide +kernel
theorem dX9_serialise_89 : decode cX9_serialise 89 = .ok (.invokevirtual 292, 3) := by decide +kernel
theorem dX9_serialise_92 : decode cX9_serialise 92 = .ok (.aload_n 0, 1) := by decide +kernel
theorem dX9_serialise_93 : decode cX9_serialise 93 = .ok (.getfield 102, 3) := by decide +kernel
theorem dX9_serialise_96 : decode cX9_serialise 96 = .ok (.iload_n 2, 1) := by decide +kernel
theorem dX9_serialise_97 : decode cX9_serialise 97 = .ok (.iaload, 1) := by decide +kernel
theorem dX9_serialise_98 : decode cX9_serialise 98 = .ok (.iconst (-1), 1) := by decide +kernel
theorem dX9_serialise_99 : decode cX9_serialise 99 = .ok (.if_icmp .eq 13, 3) := by decide +kernel
theorem dX9_serialise_102 : decode cX9_serialise 102 = .ok (.aload_n 0, 1) := by decide +kernel
theorem dX9_serialise_103 : decode cX9_serialise 103 = .ok (.getfield 102, 3) := by decide +kernel
theorem dX9_serialise_106 : decode cX9_serialise 106 = .ok (.iload_n 2, 1) := by decide +kernel
theorem dX9_serialise_107 : decode cX9_serialise 107 = .ok (.iaload, 1) := by decide +kernel
theorem dX9_serialise_108 : decode cX9_serialise 108 = .ok (.istore_n 2, 1) := by decide +kernel
theorem dX9_serialise_109 : decode cX9_serialise 109 = .ok (.goto (-90), 3) := by decide +kernel
theorem dX9_serialise_112 : decode cX9_serialise 112 = .ok (.aload_n 0, 1) := by decide +kernel
theorem dX9_serialise_113 : decode cX9_serialise 113 = .ok (.getfield 86, 3) := by decide +kernel
theorem dX9_serialise_116 : decode cX9_serialise 116 = .ok (.iload_n 2, 1) := by decide +kernel
theorem dX9_serialise_117 : decode cX9_serialise 117 = .ok (.iaload, 1) := by decide +kernel
theorem dX9_serialise_118 : decode cX9_serialise 118 = .ok (.bipush 17, 2) := by decide +kernel
theorem dX9_serialise_120 : decode cX9_serialise 120 = .ok (.if_icmp .eq 8, 3) := by decide +kernel
theorem dX9_serialise_123 : decode cX9_serialise 123 = .ok (.aload_n 0, 1) := by decide +kernel
theorem dX9_serialise_124 : decode cX9_serialise 124 = .ok (.iload_n 2, 1) := by decide +kernel
theorem dX9_serialise_125 : decode cX9_serialise 125 = .ok (.invokevirtual 295, 3) := by decide +kernel
theorem dX9_serialise_128 : decode cX9_serialise 128 = .ok (.iload_n 2, 1) := by decide +kernel
theorem dX9_serialise_129 : decode cX9_serialise 129 = .ok (.iload_n 1, 1) := by decide +kernel
theorem dX9_serialise_130 : decode cX9_serialise 130 = .ok (.if_icmp .eq 28, 3) := by decide +kernel
theorem dX9_serialise_133 : decode cX9_serialise 133 = .ok (.aload_n 0, 1) := by decide +kernel
theorem dX9_serialise_134 : decode cX9_serialise 134 = .ok (.getfield 108, 3) := by decide +kernel
theorem dX9_serialise_137 : decode cX9_serialise 137 = .ok (.iload_n 2, 1) := by decide +kernel
theorem dX9_serialise_138 : decode cX9_serialise 138 = .ok (.iaload, 1) := by decide +kernel
theorem dX9_serialise_139 : decode cX9_serialise 139 = .ok (.iconst (-1), 1) := by decide +kernel
theorem dX9_serialise_140 : decode cX9_serialise 140 = .ok (.if_icmp .ne 18, 3) := by decide +kernel
theorem dX9_serialise_143 : decode cX9_serialise 143 = .ok (.aload_n 0, 1) := by decide +kernel
theorem dX9_serialise_144 : decode cX9_serialise 144 = .ok (.getfield 99, 3) := by decide +kernel
theorem dX9_serialise_147 : decode cX9_serialise 147 = .ok (.iload_n 2, 1) := by decide +kernel
theorem dX9_serialise_148 : decode cX9_serialise 148 = .ok (.iaload, 1) := by decide +kernel
theorem dX9_serialise_149 : decode cX9_serialise 149 = .ok (.istore_n 2, 1) := by decide +kernel
theorem dX9_serialise_150 : decode cX9_serialise 150 = .ok (.aload_n 0, 1) := by decide +kernel
theorem dX9_serialise_151 : decode cX9_serialise 151 = .ok (.iload_n 2, 1) := by decide +kernel
theorem dX9_serialise_152 : decode cX9_serialise 152 = .ok (.invokevirtual 295, 3) := by decide +kernel
theorem dX9_serialise_155 : decode cX9_serialise 155 = .ok (.goto (-27), 3) := by decide +kernel
theorem dX9_serialise_158 : decode cX9_serialise 158 = .ok (.iload_n 2, 1) := by decide +kernel
theorem dX9_serialise_159 : decode cX9_serialise 159 = .ok (.iload_n 1, 1) := by decide +kernel
theorem dX9_serialise_160 : decode cX9_serialise 160 = .ok (.if_icmp .eq 7, 3) := by decide +kernel
theorem dX9_serialise_163 : decode cX9_serialise 163 = .ok (.iconst 1, 1) := by decide +kernel
theorem dX9_serialise_164 : decode cX9_serialise 164 = .ok (.goto 4, 3) := by decide +kernel
theorem dX9_serialise_167 : decode cX9_serialise 167 = .ok (.iconst 0, 1) := by decide +kernel
theorem dX9_serialise_168 : decode cX9_serialise 168 = .ok (.istore_n 3, 1) := by decide +kernel
theorem dX9_serialise_169 : decode cX9_serialise 169 = .ok (.iload_n 3, 1) := by decide +kernel
theorem dX9_serialise_170 : decode cX9_serialise 170 = .ok (.ifCond .eq 12, 3) := by decide +kernel
theorem dX9_serialise_173 : decode cX9_serialise 173 = .ok (.aload_n 0, 1) := by decide +kernel
theorem dX9_serialise_174 : decode cX9_serialise 174 = .ok (.getfield 108, 3) := by decide +kernel
theorem dX9_serialise_177 : decode cX9_serialise 177 = .ok (.iload_n 2, 1) := by decide +kernel
theorem dX9_serialise_178 : decode cX9_serialise 178 = .ok (.iaload, 1) := by decide +kernel
theorem dX9_serialise_179 : decode cX9_serialise 179 = .ok (.goto 4, 3) := by decide +kernel
theorem dX9_serialise_182 : decode cX9_serialise 182 = .ok (.iload_n 2, 1) := by decide +kernel
theorem dX9_serialise_183 : decode cX9_serialise 183 = .ok (.istore_n 2, 1) := by decide +kernel
theorem dX9_serialise_184 : decode cX9_serialise 184 = .ok (.goto (-165), 3) := by decide +kernel
theorem dX9_serialise_187 : decode cX9_serialise 187 = .ok (.aload_n 0, 1) := by decide +kernel
theorem dX9_serialise_188 : decode cX9_serialise 188 = .ok (.getfield 1, 3) := by decide +kernel
theorem dX9_serialise_191 : decode cX9_serialise 191 = .ok (.ireturn, 1) := by decide +kernel
theorem dX9_node_0 : decode cX9_node 0 = .ok (.aload_n 0, 1) := by decide +kernel
theorem dX9_node_1 : decode cX9_node 1 = .ok (.iload_n 1, 1) := by decide +kernel
theorem dX9_node_2 : decode cX9_node 2 = .ok (.invokevirtual 289, 3) := by decide +kernel
theorem dX9_node_5 : decode cX9_node 5 = .ok (.ifCond .ne 5, 3) := by decide +kernel
theorem dX9_node_8 : decode cX9_node 8 = .ok (.iconst (-1), 1) := by decide +kernel
theorem dX9_node_9 : decode cX9_node 9 = .ok (.ireturn, 1) := by decide +kernel
theorem dX9_node_10 : decode cX9_node 10 = .ok (.iconst 0, 1) := by decide +kernel
theorem dX9_node_11 : decode cX9_node 11 = .ok (.istore_n 3, 1) := by decide +kernel
theorem dX9_node_12 : decode cX9_node 12 = .ok (.iload_n 2, 1) := by decide +kernel
theorem dX9_node_13 : decode cX9_node 13 = .ok (.tableswitch 155 0 6 #[43, 50, 57, 88, 119, 126, 148], 43) := by decide +kernel
theorem dX9_node_56 : decode cX9_node 56 = .ok (.aload_n 0, 1) := by decide +kernel
theorem dX9_node_57 : decode cX9_node 57 = .ok (.getfield 86, 3) := by decide +kernel
theorem dX9_node_60 : decode cX9_node 60 = .ok (.iload_n 1, 1) := by decide +kernel
theorem dX9_node_61 : decode cX9_node 61 = .ok (.iaload, 1) := by decide +kernel
theorem dX9_node_62 : decode cX9_node 62 = .ok (.ireturn, 1) := by decide +kernel
theorem dX9_node_63 : decode cX9_node 63 = .ok (.aload_n 0, 1) := by decide +kernel
theorem dX9_node_64 : decode cX9_node 64 = .ok (.getfield 99, 3) := by decide +kernel
theorem dX9_node_67 : decode cX9_node 67 = .ok (.iload_n 1, 1) := by decide +kernel
theorem dX9_node_68 : decode cX9_node 68 = .ok (.iaload, 1) := by decide +kernel
theorem dX9_node_69 : decode cX9_node 69 = .ok (.ireturn, 1) := by decide +kernel
theorem dX9_node_70 : decode cX9_node 70 = .ok (.aload_n 0, 1) := by decide +kernel
theorem dX9_node_71 : decode cX9_node 71 = .ok (.getfield 102, 3) := by decide +kernel
theorem dX9_node_74 : decode cX9_node 74 = .ok (.iload_n 1, 1) := by decide +kernel
theorem dX9_node_75 : decode cX9_node 75 = .ok (.iaload, 1) := by decide +kernel
theorem dX9_node_76 : decode cX9_node 76 = .ok (.istore 4, 2) := by decide +kernel
theorem dX9_node_78 : decode cX9_node 78 = .ok (.iload 4, 2) := by decide +kernel
theorem dX9_node_80 : decode cX9_node 80 = .ok (.iconst (-1), 1) := by decide +kernel
theorem dX9_node_81 : decode cX9_node 81 = .ok (.if_icmp .eq 18, 3) := by decide +kernel
theorem dX9_node_84 : decode cX9_node 84 = .ok (.iinc 3 1, 3) := by decide +kernel
theorem dX9_node_87 : decode cX9_node 87 = .ok (.aload_n 0, 1) := by decide +kernel
theorem dX9_node_88 : decode cX9_node 88 = .ok (.getfield 108, 3) := by decide +kernel
theorem dX9_node_91 : decode cX9_node 91 = .ok (.iload 4, 2) := by decide +kernel
theorem dX9_node_93 : decode cX9_node 93 = .ok (.iaload, 1) := by decide +kernel
theorem dX9_node_94 : decode cX9_node 94 = .ok (.istore 4, 2) := by decide +kernel
theorem dX9_node_96 : decode cX9_node 96 = .ok (.goto (-18), 3) := by decide +kernel
theorem dX9_node_99 : decode cX9_node 99 = .ok (.iload_n 3, 1) := by decide +kernel
theorem dX9_node_100 : decode cX9_node 100 = .ok (.ireturn, 1) := by decide +kernel
theorem dX9_node_101 : decode cX9_node 101 = .ok (.aload_n 0, 1) := by decide +kernel
theorem dX9_node_102 : decode cX9_node 102 = .ok (.getfield 111, 3) := by decide +kernel
theorem dX9_node_105 : decode cX9_node 105 = .ok (.iload_n 1, 1) := by decide +kernel
theorem dX9_node_106 : decode cX9_node 106 = .ok (.iaload, 1) := by decide +kernel
theorem dX9_node_107 : decode cX9_node 107 = .ok (.istore 4, 2) := by decide +kernel
theorem dX9_node_109 : decode cX9_node 109 = .ok (.iload 4, 2) := by decide +kernel
theorem dX9_node_111 : decode cX9_node 111 = .ok (.iconst (-1), 1) := by decide +kernel
theorem dX9_node_112 : decode cX9_node 112 = .ok (.if_icmp .eq 18, 3) := by decide +kernel
theorem dX9_node_115 : decode cX9_node 115 = .ok (.iinc 3 1, 3) := by decide +kernel
theorem dX9_node_118 : decode cX9_node 118 = .ok (.aload_n 0, 1) := by decide +kernel
theorem dX9_node_119 : decode cX9_node 119 = .ok (.getfield 111, 3) := by decide +kernel
theorem dX9_node_122 : decode cX9_node 122 = .ok (.iload 4, 2) := by decide +kernel
theorem dX9_node_124 : decode cX9_node 124 = .ok (.iaload, 1) := by decide +kernel
theorem dX9_node_125 : decode cX9_node 125 = .ok (.istore 4, 2) := by decide +kernel
theorem dX9_node_127 : decode cX9_node 127 = .ok (.goto (-18), 3) := by decide +kernel
theorem dX9_node_130 : decode cX9_node 130 = .ok (.iload_n 3, 1) := by decide +kernel
theorem dX9_node_131 : decode cX9_node 131 = .ok (.ireturn, 1) := by decide +kernel
theorem dX9_node_132 : decode cX9_node 132 = .ok (.aload_n 0, 1) := by decide +kernel
theorem dX9_node_133 : decode cX9_node 133 = .ok (.getfield 114, 3) := by decide +kernel
theorem dX9_node_136 : decode cX9_node 136 = .ok (.iload_n 1, 1) := by decide +kernel
theorem dX9_node_137 : decode cX9_node 137 = .ok (.iaload, 1) := by decide +kernel
theorem dX9_node_138 : decode cX9_node 138 = .ok (.ireturn, 1) := by decide +kernel
theorem dX9_node_139 : decode cX9_node 139 = .ok (.aload_n 0, 1) := by decide +kernel
theorem dX9_node_140 : decode cX9_node 140 = .ok (.getfield 86, 3) := by decide +kernel
theorem dX9_node_143 : decode cX9_node 143 = .ok (.iload_n 1, 1) := by decide +kernel
theorem dX9_node_144 : decode cX9_node 144 = .ok (.iaload, 1) := by decide +kernel
theorem dX9_node_145 : decode cX9_node 145 = .ok (.bipush 17, 2) := by decide +kernel
theorem dX9_node_147 : decode cX9_node 147 = .ok (.if_icmp .ne 12, 3) := by decide +kernel
theorem dX9_node_150 : decode cX9_node 150 = .ok (.aload_n 0, 1) := by decide +kernel
theorem dX9_node_151 : decode cX9_node 151 = .ok (.getfield 117, 3) := by decide +kernel
theorem dX9_node_154 : decode cX9_node 154 = .ok (.iload_n 1, 1) := by decide +kernel
theorem dX9_node_155 : decode cX9_node 155 = .ok (.iaload, 1) := by decide +kernel
theorem dX9_node_156 : decode cX9_node 156 = .ok (.goto 4, 3) := by decide +kernel
theorem dX9_node_159 : decode cX9_node 159 = .ok (.iconst 0, 1) := by decide +kernel
theorem dX9_node_160 : decode cX9_node 160 = .ok (.ireturn, 1) := by decide +kernel
theorem dX9_node_161 : decode cX9_node 161 = .ok (.aload_n 0, 1) := by decide +kernel
theorem dX9_node_162 : decode cX9_node 162 = .ok (.getfield 96, 3) := by decide +kernel
theorem dX9_node_165 : decode cX9_node 165 = .ok (.iload_n 1, 1) := by decide +kernel
theorem dX9_node_166 : decode cX9_node 166 = .ok (.iaload, 1) := by decide +kernel
theorem dX9_node_167 : decode cX9_node 167 = .ok (.ireturn, 1) := by decide +kernel
theorem dX9_node_168 : decode cX9_node 168 = .ok (.iconst (-1), 1) := by decide +kernel
theorem dX9_node_169 : decode cX9_node 169 = .ok (.ireturn, 1) := by decide +kernel
theorem dX9_kid_0 : decode cX9_kid 0 = .ok (.aload_n 0, 1) := by decide +kernel
theorem dX9_kid_1 : decode cX9_kid 1 = .ok (.iload_n 1, 1) := by decide +kernel
theorem dX9_kid_2 : decode cX9_kid 2 = .ok (.invokevirtual 289, 3) := by decide +kernel
theorem dX9_kid_5 : decode cX9_kid 5 = .ok (.ifCond .eq 7, 3) := by decide +kernel
theorem dX9_kid_8 : decode cX9_kid 8 = .ok (.iload_n 2, 1) := by decide +kernel
theorem dX9_kid_9 : decode cX9_kid 9 = .ok (.ifCond .ge 5, 3) := by decide +kernel
theorem dX9_kid_12 : decode cX9_kid 12 = .ok (.iconst (-1), 1) := by decide +kernel
theorem dX9_kid_13 : decode cX9_kid 13 = .ok (.ireturn, 1) := by decide +kernel
theorem dX9_kid_14 : decode cX9_kid 14 = .ok (.aload_n 0, 1) := by decide +kernel
theorem dX9_kid_15 : decode cX9_kid 15 = .ok (.getfield 102, 3) := by decide +kernel
theorem dX9_kid_18 : decode cX9_kid 18 = .ok (.iload_n 1, 1) := by decide +kernel
theorem dX9_kid_19 : decode cX9_kid 19 = .ok (.iaload, 1) := by decide +kernel
theorem dX9_kid_20 : decode cX9_kid 20 = .ok (.istore_n 3, 1) := by decide +kernel
theorem dX9_kid_21 : decode cX9_kid 21 = .ok (.iconst 0, 1) := by decide +kernel
theorem dX9_kid_22 : decode cX9_kid 22 = .ok (.istore 4, 2) := by decide +kernel
theorem dX9_kid_24 : decode cX9_kid 24 = .ok (.iload 4, 2) := by decide +kernel
theorem dX9_kid_26 : decode cX9_kid 26 = .ok (.iload_n 2, 1) := by decide +kernel
theorem dX9_kid_27 : decode cX9_kid 27 = .ok (.if_icmp .ge 21, 3) := by decide +kernel
theorem dX9_kid_30 : decode cX9_kid 30 = .ok (.iload_n 3, 1) := by decide +kernel
theorem dX9_kid_31 : decode cX9_kid 31 = .ok (.iconst (-1), 1) := by decide +kernel
theorem dX9_kid_32 : decode cX9_kid 32 = .ok (.if_icmp .eq 16, 3) := by decide +kernel
theorem dX9_kid_35 : decode cX9_kid 35 = .ok (.aload_n 0, 1) := by decide +kernel
theorem dX9_kid_36 : decode cX9_kid 36 = .ok (.getfield 108, 3) := by decide +kernel
theorem dX9_kid_39 : decode cX9_kid 39 = .ok (.iload_n 3, 1) := by decide +kernel
theorem dX9_kid_40 : decode cX9_kid 40 = .ok (.iaload, 1) := by decide +kernel
theorem dX9_kid_41 : decode cX9_kid 41 = .ok (.istore_n 3, 1) := by decide +kernel
theorem dX9_kid_42 : decode cX9_kid 42 = .ok (.iinc 4 1, 3) := by decide +kernel
theorem dX9_kid_45 : decode cX9_kid 45 = .ok (.goto (-21), 3) := by decide +kernel
theorem dX9_kid_48 : decode cX9_kid 48 = .ok (.iload_n 3, 1) := by decide +kernel
theorem dX9_kid_49 : decode cX9_kid 49 = .ok (.ireturn, 1) := by decide +kernel
theorem dX9_name_0 : decode cX9_name 0 = .ok (.aload_n 0, 1) := by decide +kernel
theorem dX9_name_1 : decode cX9_name 1 = .ok (.iload_n 1, 1) := by decide +kernel
theorem dX9_name_2 : decode cX9_name 2 = .ok (.invokevirtual 289, 3) := by decide +kernel
theorem dX9_name_5 : decode cX9_name 5 = .ok (.ifCond .ne 5, 3) := by decide +kernel
theorem dX9_name_8 : decode cX9_name 8 = .ok (.iconst (-1), 1) := by decide +kernel
theorem dX9_name_9 : decode cX9_name 9 = .ok (.ireturn, 1) := by decide +kernel
theorem dX9_name_10 : decode cX9_name 10 = .ok (.aload_n 0, 1) := by decide +kernel
theorem dX9_name_11 : decode cX9_name 11 = .ok (.iconst 0, 1) := by decide +kernel
theorem dX9_name_12 : decode cX9_name 12 = .ok (.putfield 1, 3) := by decide +kernel
theorem dX9_name_15 : decode cX9_name 15 = .ok (.aload_n 0, 1) := by decide +kernel
theorem dX9_name_16 : decode cX9_name 16 = .ok (.getfield 86, 3) := by decide +kernel
theorem dX9_name_19 : decode cX9_name 19 = .ok (.iload_n 1, 1) := by decide +kernel
theorem dX9_name_20 : decode cX9_name 20 = .ok (.iaload, 1) := by decide +kernel
theorem dX9_name_21 : decode cX9_name 21 = .ok (.bipush 17, 2) := by decide +kernel
theorem dX9_name_23 : decode cX9_name 23 = .ok (.if_icmp .ne 25, 3) := by decide +kernel
theorem dX9_name_26 : decode cX9_name 26 = .ok (.aload_n 0, 1) := by decide +kernel
theorem dX9_name_27 : decode cX9_name 27 = .ok (.aload_n 0, 1) := by decide +kernel
theorem dX9_name_28 : decode cX9_name 28 = .ok (.getfield 199, 3) := by decide +kernel
theorem dX9_name_31 : decode cX9_name 31 = .ok (.sipush 400, 3) := by decide +kernel
theorem dX9_name_34 : decode cX9_name 34 = .ok (.iload_n 1, 1) := by decide +kernel
theorem dX9_name_35 : decode cX9_name 35 = .ok (.imul, 1) := by decide +kernel
theorem dX9_name_36 : decode cX9_name 36 = .ok (.aload_n 0, 1) := by decide +kernel
theorem dX9_name_37 : decode cX9_name 37 = .ok (.getfield 117, 3) := by decide +kernel
theorem dX9_name_40 : decode cX9_name 40 = .ok (.iload_n 1, 1) := by decide +kernel
theorem dX9_name_41 : decode cX9_name 41 = .ok (.iaload, 1) := by decide +kernel
theorem dX9_name_42 : decode cX9_name 42 = .ok (.invokevirtual 281, 3) := by decide +kernel
theorem dX9_name_45 : decode cX9_name 45 = .ok (.goto 21, 3) := by decide +kernel
theorem dX9_name_48 : decode cX9_name 48 = .ok (.aload_n 0, 1) := by decide +kernel
theorem dX9_name_49 : decode cX9_name 49 = .ok (.aload_n 0, 1) := by decide +kernel
theorem dX9_name_50 : decode cX9_name 50 = .ok (.getfield 90, 3) := by decide +kernel
theorem dX9_name_53 : decode cX9_name 53 = .ok (.bipush 8, 2) := by decide +kernel
theorem dX9_name_55 : decode cX9_name 55 = .ok (.iload_n 1, 1) := by decide +kernel
theorem dX9_name_56 : decode cX9_name 56 = .ok (.imul, 1) := by decide +kernel
theorem dX9_name_57 : decode cX9_name 57 = .ok (.aload_n 0, 1) := by decide +kernel
theorem dX9_name_58 : decode cX9_name 58 = .ok (.getfield 93, 3) := by decide +kernel
theorem dX9_name_61 : decode cX9_name 61 = .ok (.iload_n 1, 1) := by decide +kernel
theorem dX9_name_62 : decode cX9_name 62 = .ok (.iaload, 1) := by decide +kernel
theorem dX9_name_63 : decode cX9_name 63 = .ok (.invokevirtual 281, 3) := by decide +kernel
theorem dX9_name_66 : decode cX9_name 66 = .ok (.aload_n 0, 1) := by decide +kernel
theorem dX9_name_67 : decode cX9_name 67 = .ok (.getfield 1, 3) := by decide +kernel
theorem dX9_name_70 : decode cX9_name 70 = .ok (.ireturn, 1) := by decide +kernel
theorem dX9_init_0 : decode cX9_init 0 = .ok (.aload_n 0, 1) := by decide +kernel
theorem dX9_init_1 : decode cX9_init 1 = .ok (.invokespecial 298, 3) := by decide +kernel
theorem dX9_init_4 : decode cX9_init 4 = .ok (.aload_n 0, 1) := by decide +kernel
theorem dX9_init_5 : decode cX9_init 5 = .ok (.sipush 2000, 3) := by decide +kernel
theorem dX9_init_8 : decode cX9_init 8 = .ok (.newarray .byte, 2) := by decide +kernel
theorem dX9_init_10 : decode cX9_init 10 = .ok (.putfield 24, 3) := by decide +kernel
theorem dX9_init_13 : decode cX9_init 13 = .ok (.aload_n 0, 1) := by decide +kernel
theorem dX9_init_14 : decode cX9_init 14 = .ok (.sipush 2000, 3) := by decide +kernel
theorem dX9_init_17 : decode cX9_init 17 = .ok (.newarray .byte, 2) := by decide +kernel
theorem dX9_init_19 : decode cX9_init 19 = .ok (.putfield 21, 3) := by decide +kernel
theorem dX9_init_22 : decode cX9_init 22 = .ok (.aload_n 0, 1) := by decide +kernel
theorem dX9_init_23 : decode cX9_init 23 = .ok (.sipush 8000, 3) := by decide +kernel
theorem dX9_init_26 : decode cX9_init 26 = .ok (.newarray .byte, 2) := by decide +kernel
theorem dX9_init_28 : decode cX9_init 28 = .ok (.putfield 7, 3) := by decide +kernel
theorem dX9_init_31 : decode cX9_init 31 = .ok (.aload_n 0, 1) := by decide +kernel
theorem dX9_init_32 : decode cX9_init 32 = .ok (.bipush 120, 2) := by decide +kernel
theorem dX9_init_34 : decode cX9_init 34 = .ok (.newarray .boolean, 2) := by decide +kernel
theorem dX9_init_36 : decode cX9_init 36 = .ok (.putfield 75, 3) := by decide +kernel
theorem dX9_init_39 : decode cX9_init 39 = .ok (.aload_n 0, 1) := by decide +kernel
theorem dX9_init_40 : decode cX9_init 40 = .ok (.bipush 120, 2) := by decide +kernel
theorem dX9_init_42 : decode cX9_init 42 = .ok (.newarray .int, 2) := by decide +kernel
theorem dX9_init_44 : decode cX9_init 44 = .ok (.putfield 86, 3) := by decide +kernel
theorem dX9_init_47 : decode cX9_init 47 = .ok (.aload_n 0, 1) := by decide +kernel
theorem dX9_init_48 : decode cX9_init 48 = .ok (.sipush 960, 3) := by decide +kernel
theorem dX9_init_51 : decode cX9_init 51 = .ok (.newarray .byte, 2) := by decide +kernel
theorem dX9_init_53 : decode cX9_init 53 = .ok (.putfield 90, 3) := by decide +kernel
theorem dX9_init_56 : decode cX9_init 56 = .ok (.aload_n 0, 1) := by decide +kernel
theorem dX9_init_57 : decode cX9_init 57 = .ok (.bipush 120, 2) := by decide +kernel
theorem dX9_init_59 : decode cX9_init 59 = .ok (.newarray .int, 2) := by decide +kernel
theorem dX9_init_61 : decode cX9_init 61 = .ok (.putfield 93, 3) := by decide +kernel
theorem dX9_init_64 : decode cX9_init 64 = .ok (.aload_n 0, 1) := by decide +kernel
theorem dX9_init_65 : decode cX9_init 65 = .ok (.bipush 120, 2) := by decide +kernel
theorem dX9_init_67 : decode cX9_init 67 = .ok (.newarray .int, 2) := by decide +kernel
theorem dX9_init_69 : decode cX9_init 69 = .ok (.putfield 99, 3) := by decide +kernel
theorem dX9_init_72 : decode cX9_init 72 = .ok (.aload_n 0, 1) := by decide +kernel
theorem dX9_init_73 : decode cX9_init 73 = .ok (.bipush 120, 2) := by decide +kernel
theorem dX9_init_75 : decode cX9_init 75 = .ok (.newarray .int, 2) := by decide +kernel
theorem dX9_init_77 : decode cX9_init 77 = .ok (.putfield 102, 3) := by decide +kernel
theorem dX9_init_80 : decode cX9_init 80 = .ok (.aload_n 0, 1) := by decide +kernel
theorem dX9_init_81 : decode cX9_init 81 = .ok (.bipush 120, 2) := by decide +kernel
theorem dX9_init_83 : decode cX9_init 83 = .ok (.newarray .int, 2) := by decide +kernel
theorem dX9_init_85 : decode cX9_init 85 = .ok (.putfield 105, 3) := by decide +kernel
theorem dX9_init_88 : decode cX9_init 88 = .ok (.aload_n 0, 1) := by decide +kernel
theorem dX9_init_89 : decode cX9_init 89 = .ok (.bipush 120, 2) := by decide +kernel
theorem dX9_init_91 : decode cX9_init 91 = .ok (.newarray .int, 2) := by decide +kernel
theorem dX9_init_93 : decode cX9_init 93 = .ok (.putfield 108, 3) := by decide +kernel
theorem dX9_init_96 : decode cX9_init 96 = .ok (.aload_n 0, 1) := by decide +kernel
theorem dX9_init_97 : decode cX9_init 97 = .ok (.bipush 120, 2) := by decide +kernel
theorem dX9_init_99 : decode cX9_init 99 = .ok (.newarray .int, 2) := by decide +kernel
theorem dX9_init_101 : decode cX9_init 101 = .ok (.putfield 111, 3) := by decide +kernel
theorem dX9_init_104 : decode cX9_init 104 = .ok (.aload_n 0, 1) := by decide +kernel
theorem dX9_init_105 : decode cX9_init 105 = .ok (.bipush 120, 2) := by decide +kernel
theorem dX9_init_107 : decode cX9_init 107 = .ok (.newarray .int, 2) := by decide +kernel
theorem dX9_init_109 : decode cX9_init 109 = .ok (.putfield 96, 3) := by decide +kernel
theorem dX9_init_112 : decode cX9_init 112 = .ok (.aload_n 0, 1) := by decide +kernel
theorem dX9_init_113 : decode cX9_init 113 = .ok (.bipush 120, 2) := by decide +kernel
theorem dX9_init_115 : decode cX9_init 115 = .ok (.newarray .int, 2) := by decide +kernel
theorem dX9_init_117 : decode cX9_init 117 = .ok (.putfield 114, 3) := by decide +kernel
theorem dX9_init_120 : decode cX9_init 120 = .ok (.aload_n 0, 1) := by decide +kernel
theorem dX9_init_121 : decode cX9_init 121 = .ok (.sipush 3840, 3) := by decide +kernel
theorem dX9_init_124 : decode cX9_init 124 = .ok (.newarray .byte, 2) := by decide +kernel
theorem dX9_init_126 : decode cX9_init 126 = .ok (.putfield 275, 3) := by decide +kernel
theorem dX9_init_129 : decode cX9_init 129 = .ok (.aload_n 0, 1) := by decide +kernel
theorem dX9_init_130 : decode cX9_init 130 = .ok (.sipush 480, 3) := by decide +kernel
theorem dX9_init_133 : decode cX9_init 133 = .ok (.newarray .int, 2) := by decide +kernel
theorem dX9_init_135 : decode cX9_init 135 = .ok (.putfield 269, 3) := by decide +kernel
theorem dX9_init_138 : decode cX9_init 138 = .ok (.aload_n 0, 1) := by decide +kernel
theorem dX9_init_139 : decode cX9_init 139 = .ok (.sipush 28800, 3) := by decide +kernel
theorem dX9_init_142 : decode cX9_init 142 = .ok (.newarray .byte, 2) := by decide +kernel
theorem dX9_init_144 : decode cX9_init 144 = .ok (.putfield 278, 3) := by decide +kernel
theorem dX9_init_147 : decode cX9_init 147 = .ok (.aload_n 0, 1) := by decide +kernel
theorem dX9_init_148 : decode cX9_init 148 = .ok (.sipush 480, 3) := by decide +kernel
theorem dX9_init_151 : decode cX9_init 151 = .ok (.newarray .int, 2) := by decide +kernel
theorem dX9_init_153 : decode cX9_init 153 = .ok (.putfield 272, 3) := by decide +kernel
theorem dX9_init_156 : decode cX9_init 156 = .ok (.aload_n 0, 1) := by decide +kernel
theorem dX9_init_157 : decode cX9_init 157 = .ok (.ldc_w 303, 3) := by decide +kernel
theorem dX9_init_160 : decode cX9_init 160 = .ok (.newarray .byte, 2) := by decide +kernel
theorem dX9_init_162 : decode cX9_init 162 = .ok (.putfield 199, 3) := by decide +kernel
theorem dX9_init_165 : decode cX9_init 165 = .ok (.aload_n 0, 1) := by decide +kernel
theorem dX9_init_166 : decode cX9_init 166 = .ok (.bipush 120, 2) := by decide +kernel
theorem dX9_init_168 : decode cX9_init 168 = .ok (.newarray .int, 2) := by decide +kernel
theorem dX9_init_170 : decode cX9_init 170 = .ok (.putfield 117, 3) := by decide +kernel
theorem dX9_init_173 : decode cX9_init 173 = .ok (.aload_n 0, 1) := by decide +kernel
theorem dX9_init_174 : decode cX9_init 174 = .ok (.bipush 120, 2) := by decide +kernel
theorem dX9_init_176 : decode cX9_init 176 = .ok (.newarray .boolean, 2) := by decide +kernel
theorem dX9_init_178 : decode cX9_init 178 = .ok (.putfield 120, 3) := by decide +kernel
theorem dX9_init_181 : decode cX9_init 181 = .ok (.aload_n 0, 1) := by decide +kernel
theorem dX9_init_182 : decode cX9_init 182 = .ok (.bipush 120, 2) := by decide +kernel
theorem dX9_init_184 : decode cX9_init 184 = .ok (.newarray .int, 2) := by decide +kernel
theorem dX9_init_186 : decode cX9_init 186 = .ok (.putfield 257, 3) := by decide +kernel
theorem dX9_init_189 : decode cX9_init 189 = .ok (.aload_n 0, 1) := by decide +kernel
theorem dX9_init_190 : decode cX9_init 190 = .ok (.bipush 40, 2) := by decide +kernel
theorem dX9_init_192 : decode cX9_init 192 = .ok (.newarray .int, 2) := by decide +kernel
theorem dX9_init_194 : decode cX9_init 194 = .ok (.putfield 133, 3) := by decide +kernel
theorem dX9_init_197 : decode cX9_init 197 = .ok (.aload_n 0, 1) := by decide +kernel
theorem dX9_init_198 : decode cX9_init 198 = .ok (.bipush 40, 2) := by decide +kernel
theorem dX9_init_200 : decode cX9_init 200 = .ok (.newarray .int, 2) := by decide +kernel
theorem dX9_init_202 : decode cX9_init 202 = .ok (.putfield 136, 3) := by decide +kernel
theorem dX9_init_205 : decode cX9_init 205 = .ok (.aload_n 0, 1) := by decide +kernel
theorem dX9_init_206 : decode cX9_init 206 = .ok (.bipush 22, 2) := by decide +kernel
theorem dX9_init_208 : decode cX9_init 208 = .ok (.newarray .int, 2) := by decide +kernel
theorem dX9_init_210 : decode cX9_init 210 = .ok (.putfield 156, 3) := by decide +kernel
theorem dX9_init_213 : decode cX9_init 213 = .ok (.aload_n 0, 1) := by decide +kernel
theorem dX9_init_214 : decode cX9_init 214 = .ok (.sipush 2000, 3) := by decide +kernel
theorem dX9_init_217 : decode cX9_init 217 = .ok (.newarray .byte, 2) := by decide +kernel
theorem dX9_init_219 : decode cX9_init 219 = .ok (.putfield 142, 3) := by decide +kernel
theorem dX9_init_222 : decode cX9_init 222 = .ok (.aload_n 0, 1) := by decide +kernel
theorem dX9_init_223 : decode cX9_init 223 = .ok (.bipush 8, 2) := by decide +kernel
theorem dX9_init_225 : decode cX9_init 225 = .ok (.newarray .byte, 2) := by decide +kernel
theorem dX9_init_227 : decode cX9_init 227 = .ok (.putfield 208, 3) := by decide +kernel
theorem dX9_init_230 : decode cX9_init 230 = .ok (.aload_n 0, 1) := by decide +kernel
theorem dX9_init_231 : decode cX9_init 231 = .ok (.bipush 32, 2) := by decide +kernel
theorem dX9_init_233 : decode cX9_init 233 = .ok (.newarray .byte, 2) := by decide +kernel
theorem dX9_init_235 : decode cX9_init 235 = .ok (.putfield 244, 3) := by decide +kernel
theorem dX9_init_238 : decode cX9_init 238 = .ok (.aload_n 0, 1) := by decide +kernel
theorem dX9_init_239 : decode cX9_init 239 = .ok (.iconst 4, 1) := by decide +kernel
theorem dX9_init_240 : decode cX9_init 240 = .ok (.newarray .int, 2) := by decide +kernel
theorem dX9_init_242 : decode cX9_init 242 = .ok (.putfield 241, 3) := by decide +kernel
theorem dX9_init_245 : decode cX9_init 245 = .ok (.aload_n 0, 1) := by decide +kernel
theorem dX9_init_246 : decode cX9_init 246 = .ok (.sipush 240, 3) := by decide +kernel
theorem dX9_init_249 : decode cX9_init 249 = .ok (.newarray .byte, 2) := by decide +kernel
theorem dX9_init_251 : decode cX9_init 251 = .ok (.putfield 254, 3) := by decide +kernel
theorem dX9_init_254 : decode cX9_init 254 = .ok (.aload_n 0, 1) := by decide +kernel
theorem dX9_init_255 : decode cX9_init 255 = .ok (.iconst 4, 1) := by decide +kernel
theorem dX9_init_256 : decode cX9_init 256 = .ok (.newarray .int, 2) := by decide +kernel
theorem dX9_init_258 : decode cX9_init 258 = .ok (.putfield 251, 3) := by decide +kernel
theorem dX9_init_261 : decode cX9_init 261 = .ok (.aload_n 0, 1) := by decide +kernel
theorem dX9_init_262 : decode cX9_init 262 = .ok (.sipush 2000, 3) := by decide +kernel
theorem dX9_init_265 : decode cX9_init 265 = .ok (.newarray .int, 2) := by decide +kernel
theorem dX9_init_267 : decode cX9_init 267 = .ok (.putfield 229, 3) := by decide +kernel
theorem dX9_init_270 : decode cX9_init 270 = .ok (.aload_n 0, 1) := by decide +kernel
theorem dX9_init_271 : decode cX9_init 271 = .ok (.bipush 8, 2) := by decide +kernel
theorem dX9_init_273 : decode cX9_init 273 = .ok (.newarray .byte, 2) := by decide +kernel
theorem dX9_init_275 : decode cX9_init 275 = .ok (.putfield 235, 3) := by decide +kernel
theorem dX9_init_278 : decode cX9_init 278 = .ok (.aload_n 0, 1) := by decide +kernel
theorem dX9_init_279 : decode cX9_init 279 = .ok (.bipush 60, 2) := by decide +kernel
theorem dX9_init_281 : decode cX9_init 281 = .ok (.newarray .byte, 2) := by decide +kernel
theorem dX9_init_283 : decode cX9_init 283 = .ok (.putfield 238, 3) := by decide +kernel
theorem dX9_init_286 : decode cX9_init 286 = .ok (.aload_n 0, 1) := by decide +kernel
theorem dX9_init_287 : decode cX9_init 287 = .ok (.invokevirtual 152, 3) := by decide +kernel
theorem dX9_init_290 : decode cX9_init 290 = .ok (.return_, 1) := by decide +kernel
theorem dX9_putFour_0 : decode cX9_putFour 0 = .ok (.bipush 24, 2) := by decide +kernel
theorem dX9_putFour_2 : decode cX9_putFour 2 = .ok (.istore_n 2, 1) := by decide +kernel
theorem dX9_putFour_3 : decode cX9_putFour 3 = .ok (.iload_n 2, 1) := by decide +kernel
theorem dX9_putFour_4 : decode cX9_putFour 4 = .ok (.ifCond .lt 32, 3) := by decide +kernel
theorem dX9_putFour_7 : decode cX9_putFour 7 = .ok (.aload_n 0, 1) := by decide +kernel
theorem dX9_putFour_8 : decode cX9_putFour 8 = .ok (.getfield 24, 3) := by decide +kernel
theorem dX9_putFour_11 : decode cX9_putFour 11 = .ok (.aload_n 0, 1) := by decide +kernel
theorem dX9_putFour_12 : decode cX9_putFour 12 = .ok (.getfield 15, 3) := by decide +kernel
theorem dX9_putFour_15 : decode cX9_putFour 15 = .ok (.iload_n 1, 1) := by decide +kernel
theorem dX9_putFour_16 : decode cX9_putFour 16 = .ok (.iload_n 2, 1) := by decide +kernel
theorem dX9_putFour_17 : decode cX9_putFour 17 = .ok (.ishr, 1) := by decide +kernel
theorem dX9_putFour_18 : decode cX9_putFour 18 = .ok (.i2b, 1) := by decide +kernel
theorem dX9_putFour_19 : decode cX9_putFour 19 = .ok (.bastore, 1) := by decide +kernel
theorem dX9_putFour_20 : decode cX9_putFour 20 = .ok (.aload_n 0, 1) := by decide +kernel
theorem dX9_putFour_21 : decode cX9_putFour 21 = .ok (.dup, 1) := by decide +kernel
theorem dX9_putFour_22 : decode cX9_putFour 22 = .ok (.getfield 15, 3) := by decide +kernel
theorem dX9_putFour_25 : decode cX9_putFour 25 = .ok (.iconst 1, 1) := by decide +kernel
theorem dX9_putFour_26 : decode cX9_putFour 26 = .ok (.iadd, 1) := by decide +kernel
theorem dX9_putFour_27 : decode cX9_putFour 27 = .ok (.putfield 15, 3) := by decide +kernel
theorem dX9_putFour_30 : decode cX9_putFour 30 = .ok (.iinc 2 (-8), 3) := by decide +kernel
theorem dX9_putFour_33 : decode cX9_putFour 33 = .ok (.goto (-30), 3) := by decide +kernel
theorem dX9_putFour_36 : decode cX9_putFour 36 = .ok (.return_, 1) := by decide +kernel
theorem dX9_feed_0 : decode cX9_feed 0 = .ok (.aload_n 0, 1) := by decide +kernel
theorem dX9_feed_1 : decode cX9_feed 1 = .ok (.getfield 15, 3) := by decide +kernel
theorem dX9_feed_4 : decode cX9_feed 4 = .ok (.bipush 20, 2) := by decide +kernel
theorem dX9_feed_6 : decode cX9_feed 6 = .ok (.iadd, 1) := by decide +kernel
theorem dX9_feed_7 : decode cX9_feed 7 = .ok (.sipush 2000, 3) := by decide +kernel
theorem dX9_feed_10 : decode cX9_feed 10 = .ok (.if_icmp .le 5, 3) := by decide +kernel
theorem dX9_feed_13 : decode cX9_feed 13 = .ok (.iconst (-1), 1) := by decide +kernel
theorem dX9_feed_14 : decode cX9_feed 14 = .ok (.ireturn, 1) := by decide +kernel
theorem dX9_feed_15 : decode cX9_feed 15 = .ok (.aload_n 0, 1) := by decide +kernel
theorem dX9_feed_16 : decode cX9_feed 16 = .ok (.iload_n 1, 1) := by decide +kernel
theorem dX9_feed_17 : decode cX9_feed 17 = .ok (.invokevirtual 304, 3) := by decide +kernel
theorem dX9_feed_20 : decode cX9_feed 20 = .ok (.aload_n 0, 1) := by decide +kernel
theorem dX9_feed_21 : decode cX9_feed 21 = .ok (.iload_n 2, 1) := by decide +kernel
theorem dX9_feed_22 : decode cX9_feed 22 = .ok (.invokevirtual 304, 3) := by decide +kernel
theorem dX9_feed_25 : decode cX9_feed 25 = .ok (.aload_n 0, 1) := by decide +kernel
theorem dX9_feed_26 : decode cX9_feed 26 = .ok (.iload_n 3, 1) := by decide +kernel
theorem dX9_feed_27 : decode cX9_feed 27 = .ok (.invokevirtual 304, 3) := by decide +kernel
theorem dX9_feed_30 : decode cX9_feed 30 = .ok (.aload_n 0, 1) := by decide +kernel
theorem dX9_feed_31 : decode cX9_feed 31 = .ok (.iload 4, 2) := by decide +kernel
theorem dX9_feed_33 : decode cX9_feed 33 = .ok (.invokevirtual 304, 3) := by decide +kernel
theorem dX9_feed_36 : decode cX9_feed 36 = .ok (.aload_n 0, 1) := by decide +kernel
theorem dX9_feed_37 : decode cX9_feed 37 = .ok (.iload 5, 2) := by decide +kernel
theorem dX9_feed_39 : decode cX9_feed 39 = .ok (.invokevirtual 304, 3) := by decide +kernel
theorem dX9_feed_42 : decode cX9_feed 42 = .ok (.aload_n 0, 1) := by decide +kernel
theorem dX9_feed_43 : decode cX9_feed 43 = .ok (.getfield 15, 3) := by decide +kernel
theorem dX9_feed_46 : decode cX9_feed 46 = .ok (.ireturn, 1) := by decide +kernel
theorem dX9_end_0 : decode cX9_end 0 = .ok (.iload_n 1, 1) := by decide +kernel
theorem dX9_end_1 : decode cX9_end 1 = .ok (.ifCond .lt 11, 3) := by decide +kernel
theorem dX9_end_4 : decode cX9_end 4 = .ok (.iload_n 1, 1) := by decide +kernel
theorem dX9_end_5 : decode cX9_end 5 = .ok (.aload_n 0, 1) := by decide +kernel
theorem dX9_end_6 : decode cX9_end 6 = .ok (.getfield 15, 3) := by decide +kernel
theorem dX9_end_9 : decode cX9_end 9 = .ok (.if_icmp .le 5, 3) := by decide +kernel
theorem dX9_end_12 : decode cX9_end 12 = .ok (.iconst (-1), 1) := by decide +kernel
theorem dX9_end_13 : decode cX9_end 13 = .ok (.ireturn, 1) := by decide +kernel
theorem dX9_end_14 : decode cX9_end 14 = .ok (.aload_n 0, 1) := by decide +kernel
theorem dX9_end_15 : decode cX9_end 15 = .ok (.iload_n 1, 1) := by decide +kernel
theorem dX9_end_16 : decode cX9_end 16 = .ok (.putfield 15, 3) := by decide +kernel
theorem dX9_end_19 : decode cX9_end 19 = .ok (.iload_n 1, 1) := by decide +kernel
theorem dX9_end_20 : decode cX9_end 20 = .ok (.ireturn, 1) := by decide +kernel
theorem dX9_out_0 : decode cX9_out 0 = .ok (.iload_n 1, 1) := by decide +kernel
theorem dX9_out_1 : decode cX9_out 1 = .ok (.ifCond .lt 11, 3) := by decide +kernel
theorem dX9_out_4 : decode cX9_out 4 = .ok (.iload_n 1, 1) := by decide +kernel
theorem dX9_out_5 : decode cX9_out 5 = .ok (.aload_n 0, 1) := by decide +kernel
theorem dX9_out_6 : decode cX9_out 6 = .ok (.getfield 1, 3) := by decide +kernel
theorem dX9_out_9 : decode cX9_out 9 = .ok (.if_icmp .lt 7, 3) := by decide +kernel
theorem dX9_out_12 : decode cX9_out 12 = .ok (.iconst (-1), 1) := by decide +kernel
theorem dX9_out_13 : decode cX9_out 13 = .ok (.goto 13, 3) := by decide +kernel
theorem dX9_out_16 : decode cX9_out 16 = .ok (.aload_n 0, 1) := by decide +kernel
theorem dX9_out_17 : decode cX9_out 17 = .ok (.getfield 7, 3) := by decide +kernel
theorem dX9_out_20 : decode cX9_out 20 = .ok (.iload_n 1, 1) := by decide +kernel
theorem dX9_out_21 : decode cX9_out 21 = .ok (.baload, 1) := by decide +kernel
theorem dX9_out_22 : decode cX9_out 22 = .ok (.sipush 255, 3) := by decide +kernel
theorem dX9_out_25 : decode cX9_out 25 = .ok (.iand, 1) := by decide +kernel
theorem dX9_out_26 : decode cX9_out 26 = .ok (.ireturn, 1) := by decide +kernel
theorem dX9_page_0 : decode cX9_page 0 = .ok (.aload_n 0, 1) := by decide +kernel
theorem dX9_page_1 : decode cX9_page 1 = .ok (.invokevirtual 307, 3) := by decide +kernel
theorem dX9_page_4 : decode cX9_page 4 = .ok (.istore_n 1, 1) := by decide +kernel
theorem dX9_page_5 : decode cX9_page 5 = .ok (.iload_n 1, 1) := by decide +kernel
theorem dX9_page_6 : decode cX9_page 6 = .ok (.ifCond .lt 8, 3) := by decide +kernel
theorem dX9_page_9 : decode cX9_page 9 = .ok (.iload_n 1, 1) := by decide +kernel
theorem dX9_page_10 : decode cX9_page 10 = .ok (.invokestatic 311, 3) := by decide +kernel
theorem dX9_page_13 : decode cX9_page 13 = .ok (.ireturn, 1) := by decide +kernel
theorem dX9_page_14 : decode cX9_page 14 = .ok (.aload_n 0, 1) := by decide +kernel
theorem dX9_page_15 : decode cX9_page 15 = .ok (.getfield 18, 3) := by decide +kernel
theorem dX9_page_18 : decode cX9_page 18 = .ok (.sipush 1500, 3) := by decide +kernel
theorem dX9_page_21 : decode cX9_page 21 = .ok (.if_icmp .le 5, 3) := by decide +kernel
theorem dX9_page_24 : decode cX9_page 24 = .ok (.iconst (-1), 1) := by decide +kernel
theorem dX9_page_25 : decode cX9_page 25 = .ok (.ireturn, 1) := by decide +kernel
theorem dX9_page_26 : decode cX9_page 26 = .ok (.aload_n 0, 1) := by decide +kernel
theorem dX9_page_27 : decode cX9_page 27 = .ok (.aload_n 0, 1) := by decide +kernel
theorem dX9_page_28 : decode cX9_page 28 = .ok (.getfield 18, 3) := by decide +kernel
theorem dX9_page_31 : decode cX9_page 31 = .ok (.putfield 139, 3) := by decide +kernel
theorem dX9_page_34 : decode cX9_page 34 = .ok (.iconst 0, 1) := by decide +kernel
theorem dX9_page_35 : decode cX9_page 35 = .ok (.istore_n 2, 1) := by decide +kernel
theorem dX9_page_36 : decode cX9_page 36 = .ok (.iload_n 2, 1) := by decide +kernel
theorem dX9_page_37 : decode cX9_page 37 = .ok (.aload_n 0, 1) := by decide +kernel
theorem dX9_page_38 : decode cX9_page 38 = .ok (.getfield 18, 3) := by decide +kernel
theorem dX9_page_41 : decode cX9_page 41 = .ok (.if_icmp .ge 21, 3) := by decide +kernel
theorem dX9_page_44 : decode cX9_page 44 = .ok (.aload_n 0, 1) := by decide +kernel
theorem dX9_page_45 : decode cX9_page 45 = .ok (.getfield 142, 3) := by decide +kernel
theorem dX9_page_48 : decode cX9_page 48 = .ok (.iload_n 2, 1) := by decide +kernel
theorem dX9_page_49 : decode cX9_page 49 = .ok (.aload_n 0, 1) := by decide +kernel
theorem dX9_page_50 : decode cX9_page 50 = .ok (.getfield 21, 3) := by decide +kernel
theorem dX9_page_53 : decode cX9_page 53 = .ok (.iload_n 2, 1) := by decide +kernel
theorem dX9_page_54 : decode cX9_page 54 = .ok (.baload, 1) := by decide +kernel
theorem dX9_page_55 : decode cX9_page 55 = .ok (.bastore, 1) := by decide +kernel
theorem dX9_page_56 : decode cX9_page 56 = .ok (.iinc 2 1, 3) := by decide +kernel
theorem dX9_page_59 : decode cX9_page 59 = .ok (.goto (-23), 3) := by decide +kernel
theorem dX9_page_62 : decode cX9_page 62 = .ok (.aload_n 0, 1) := by decide +kernel
theorem dX9_page_63 : decode cX9_page 63 = .ok (.invokevirtual 314, 3) := by decide +kernel
theorem dX9_page_66 : decode cX9_page 66 = .ok (.aload_n 0, 1) := by decide +kernel
theorem dX9_page_67 : decode cX9_page 67 = .ok (.getfield 79, 3) := by decide +kernel
theorem dX9_page_70 : decode cX9_page 70 = .ok (.ireturn, 1) := by decide +kernel
theorem dX9_wrongName_0 : decode cX9_wrongName 0 = .ok (.iconst 0, 1) := by decide +kernel
theorem dX9_wrongName_1 : decode cX9_wrongName 1 = .ok (.istore_n 2, 1) := by decide +kernel
theorem dX9_wrongName_2 : decode cX9_wrongName 2 = .ok (.iload_n 2, 1) := by decide +kernel
theorem dX9_wrongName_3 : decode cX9_wrongName 3 = .ok (.iload_n 1, 1) := by decide +kernel
theorem dX9_wrongName_4 : decode cX9_wrongName 4 = .ok (.if_icmp .ge 43, 3) := by decide +kernel
theorem dX9_wrongName_7 : decode cX9_wrongName 7 = .ok (.iload_n 2, 1) := by decide +kernel
theorem dX9_wrongName_8 : decode cX9_wrongName 8 = .ok (.bipush 8, 2) := by decide +kernel
theorem dX9_wrongName_10 : decode cX9_wrongName 10 = .ok (.if_icmp .ge 37, 3) := by decide +kernel
theorem dX9_wrongName_13 : decode cX9_wrongName 13 = .ok (.aload_n 0, 1) := by decide +kernel
theorem dX9_wrongName_14 : decode cX9_wrongName 14 = .ok (.getfield 21, 3) := by decide +kernel
theorem dX9_wrongName_17 : decode cX9_wrongName 17 = .ok (.iload_n 2, 1) := by decide +kernel
theorem dX9_wrongName_18 : decode cX9_wrongName 18 = .ok (.baload, 1) := by decide +kernel
theorem dX9_wrongName_19 : decode cX9_wrongName 19 = .ok (.invokestatic 27, 3) := by decide +kernel
theorem dX9_wrongName_22 : decode cX9_wrongName 22 = .ok (.ifCond .ne 19, 3) := by decide +kernel
theorem dX9_wrongName_25 : decode cX9_wrongName 25 = .ok (.iload_n 2, 1) := by decide +kernel
theorem dX9_wrongName_26 : decode cX9_wrongName 26 = .ok (.ifCond .le 21, 3) := by decide +kernel
theorem dX9_wrongName_29 : decode cX9_wrongName 29 = .ok (.aload_n 0, 1) := by decide +kernel
theorem dX9_wrongName_30 : decode cX9_wrongName 30 = .ok (.getfield 21, 3) := by decide +kernel
theorem dX9_wrongName_33 : decode cX9_wrongName 33 = .ok (.iload_n 2, 1) := by decide +kernel
theorem dX9_wrongName_34 : decode cX9_wrongName 34 = .ok (.baload, 1) := by decide +kernel
theorem dX9_wrongName_35 : decode cX9_wrongName 35 = .ok (.invokestatic 205, 3) := by decide +kernel
theorem dX9_wrongName_38 : decode cX9_wrongName 38 = .ok (.ifCond .eq 9, 3) := by decide +kernel
theorem dX9_wrongName_41 : decode cX9_wrongName 41 = .ok (.iinc 2 1, 3) := by decide +kernel
theorem dX9_wrongName_44 : decode cX9_wrongName 44 = .ok (.goto (-42), 3) := by decide +kernel
theorem dX9_wrongName_47 : decode cX9_wrongName 47 = .ok (.iload_n 2, 1) := by decide +kernel
theorem dX9_wrongName_48 : decode cX9_wrongName 48 = .ok (.iload_n 1, 1) := by decide +kernel
theorem dX9_wrongName_49 : decode cX9_wrongName 49 = .ok (.if_icmp .lt 7, 3) := by decide +kernel
theorem dX9_wrongName_52 : decode cX9_wrongName 52 = .ok (.iload_n 2, 1) := by decide +kernel
theorem dX9_wrongName_53 : decode cX9_wrongName 53 = .ok (.ifCond .ne 7, 3) := by decide +kernel
theorem dX9_wrongName_56 : decode cX9_wrongName 56 = .ok (.iload_n 2, 1) := by decide +kernel
theorem dX9_wrongName_57 : decode cX9_wrongName 57 = .ok (.goto 4, 3) := by decide +kernel
theorem dX9_wrongName_60 : decode cX9_wrongName 60 = .ok (.iconst (-1), 1) := by decide +kernel
theorem dX9_wrongName_61 : decode cX9_wrongName 61 = .ok (.ireturn, 1) := by decide +kernel
theorem dX9_takeName_0 : decode cX9_takeName 0 = .ok (.aload_n 0, 1) := by decide +kernel
theorem dX9_takeName_1 : decode cX9_takeName 1 = .ok (.invokevirtual 307, 3) := by decide +kernel
theorem dX9_takeName_4 : decode cX9_takeName 4 = .ok (.istore_n 1, 1) := by decide +kernel
theorem dX9_takeName_5 : decode cX9_takeName 5 = .ok (.iload_n 1, 1) := by decide +kernel
theorem dX9_takeName_6 : decode cX9_takeName 6 = .ok (.ifCond .lt 7, 3) := by decide +kernel
theorem dX9_takeName_9 : decode cX9_takeName 9 = .ok (.iload_n 1, 1) := by decide +kernel
theorem dX9_takeName_10 : decode cX9_takeName 10 = .ok (.goto 11, 3) := by decide +kernel
theorem dX9_takeName_13 : decode cX9_takeName 13 = .ok (.aload_n 0, 1) := by decide +kernel
theorem dX9_takeName_14 : decode cX9_takeName 14 = .ok (.aload_n 0, 1) := by decide +kernel
theorem dX9_takeName_15 : decode cX9_takeName 15 = .ok (.getfield 18, 3) := by decide +kernel
theorem dX9_takeName_18 : decode cX9_takeName 18 = .ok (.invokevirtual 317, 3) := by decide +kernel
theorem dX9_takeName_21 : decode cX9_takeName 21 = .ok (.ireturn, 1) := by decide +kernel
theorem dX9_isElement_0 : decode cX9_isElement 0 = .ok (.aload_n 0, 1) := by decide +kernel
theorem dX9_isElement_1 : decode cX9_isElement 1 = .ok (.iload_n 1, 1) := by decide +kernel
theorem dX9_isElement_2 : decode cX9_isElement 2 = .ok (.invokevirtual 289, 3) := by decide +kernel
theorem dX9_isElement_5 : decode cX9_isElement 5 = .ok (.ifCond .eq 18, 3) := by decide +kernel
theorem dX9_isElement_8 : decode cX9_isElement 8 = .ok (.aload_n 0, 1) := by decide +kernel
theorem dX9_isElement_9 : decode cX9_isElement 9 = .ok (.getfield 86, 3) := by decide +kernel
theorem dX9_isElement_12 : decode cX9_isElement 12 = .ok (.iload_n 1, 1) := by decide +kernel
theorem dX9_isElement_13 : decode cX9_isElement 13 = .ok (.iaload, 1) := by decide +kernel
theorem dX9_isElement_14 : decode cX9_isElement 14 = .ok (.bipush 17, 2) := by decide +kernel
theorem dX9_isElement_16 : decode cX9_isElement 16 = .ok (.if_icmp .eq 7, 3) := by decide +kernel
theorem dX9_isElement_19 : decode cX9_isElement 19 = .ok (.iconst 1, 1) := by decide +kernel
theorem dX9_isElement_20 : decode cX9_isElement 20 = .ok (.goto 4, 3) := by decide +kernel
theorem dX9_isElement_23 : decode cX9_isElement 23 = .ok (.iconst 0, 1) := by decide +kernel
theorem dX9_isElement_24 : decode cX9_isElement 24 = .ok (.ireturn, 1) := by decide +kernel
theorem dX9_attributeNamed_0 : decode cX9_attributeNamed 0 = .ok (.iconst 4, 1) := by decide +kernel
theorem dX9_attributeNamed_1 : decode cX9_attributeNamed 1 = .ok (.iload_n 1, 1) := by decide +kernel
theorem dX9_attributeNamed_2 : decode cX9_attributeNamed 2 = .ok (.imul, 1) := by decide +kernel
theorem dX9_attributeNamed_3 : decode cX9_attributeNamed 3 = .ok (.istore_n 3, 1) := by decide +kernel
theorem dX9_attributeNamed_4 : decode cX9_attributeNamed 4 = .ok (.iload_n 3, 1) := by decide +kernel
theorem dX9_attributeNamed_5 : decode cX9_attributeNamed 5 = .ok (.iconst 4, 1) := by decide +kernel
theorem dX9_attributeNamed_6 : decode cX9_attributeNamed 6 = .ok (.iload_n 1, 1) := by decide +kernel
theorem dX9_attributeNamed_7 : decode cX9_attributeNamed 7 = .ok (.imul, 1) := by decide +kernel
theorem dX9_attributeNamed_8 : decode cX9_attributeNamed 8 = .ok (.aload_n 0, 1) := by decide +kernel
theorem dX9_attributeNamed_9 : decode cX9_attributeNamed 9 = .ok (.getfield 114, 3) := by decide +kernel
theorem dX9_attributeNamed_12 : decode cX9_attributeNamed 12 = .ok (.iload_n 1, 1) := by decide +kernel
theorem dX9_attributeNamed_13 : decode cX9_attributeNamed 13 = .ok (.iaload, 1) := by decide +kernel
theorem dX9_attributeNamed_14 : decode cX9_attributeNamed 14 = .ok (.iadd, 1) := by decide +kernel
theorem dX9_attributeNamed_15 : decode cX9_attributeNamed 15 = .ok (.if_icmp .ge 41, 3) := by decide +kernel
theorem dX9_attributeNamed_18 : decode cX9_attributeNamed 18 = .ok (.aload_n 0, 1) := by decide +kernel
theorem dX9_attributeNamed_19 : decode cX9_attributeNamed 19 = .ok (.getfield 269, 3) := by decide +kernel
theorem dX9_attributeNamed_22 : decode cX9_attributeNamed 22 = .ok (.iload_n 3, 1) := by decide +kernel
theorem dX9_attributeNamed_23 : decode cX9_attributeNamed 23 = .ok (.iaload, 1) := by decide +kernel
theorem dX9_attributeNamed_24 : decode cX9_attributeNamed 24 = .ok (.iload_n 2, 1) := by decide +kernel
theorem dX9_attributeNamed_25 : decode cX9_attributeNamed 25 = .ok (.if_icmp .ne 25, 3) := by decide +kernel
theorem dX9_attributeNamed_28 : decode cX9_attributeNamed 28 = .ok (.aload_n 0, 1) := by decide +kernel
theorem dX9_attributeNamed_29 : decode cX9_attributeNamed 29 = .ok (.getfield 275, 3) := by decide +kernel
theorem dX9_attributeNamed_32 : decode cX9_attributeNamed 32 = .ok (.bipush 8, 2) := by decide +kernel
theorem dX9_attributeNamed_34 : decode cX9_attributeNamed 34 = .ok (.iload_n 3, 1) := by decide +kernel
theorem dX9_attributeNamed_35 : decode cX9_attributeNamed 35 = .ok (.imul, 1) := by decide +kernel
theorem dX9_attributeNamed_36 : decode cX9_attributeNamed 36 = .ok (.aload_n 0, 1) := by decide +kernel
theorem dX9_attributeNamed_37 : decode cX9_attributeNamed 37 = .ok (.getfield 21, 3) := by decide +kernel
theorem dX9_attributeNamed_40 : decode cX9_attributeNamed 40 = .ok (.iconst 0, 1) := by decide +kernel
theorem dX9_attributeNamed_41 : decode cX9_attributeNamed 41 = .ok (.iload_n 2, 1) := by decide +kernel
theorem dX9_attributeNamed_42 : decode cX9_attributeNamed 42 = .ok (.invokestatic 247, 3) := by decide +kernel
theorem dX9_attributeNamed_45 : decode cX9_attributeNamed 45 = .ok (.ifCond .eq 5, 3) := by decide +kernel
theorem dX9_attributeNamed_48 : decode cX9_attributeNamed 48 = .ok (.iload_n 3, 1) := by decide +kernel
theorem dX9_attributeNamed_49 : decode cX9_attributeNamed 49 = .ok (.ireturn, 1) := by decide +kernel
theorem dX9_attributeNamed_50 : decode cX9_attributeNamed 50 = .ok (.iinc 3 1, 3) := by decide +kernel
theorem dX9_attributeNamed_53 : decode cX9_attributeNamed 53 = .ok (.goto (-49), 3) := by decide +kernel
theorem dX9_attributeNamed_56 : decode cX9_attributeNamed 56 = .ok (.iconst (-1), 1) := by decide +kernel
theorem dX9_attributeNamed_57 : decode cX9_attributeNamed 57 = .ok (.ireturn, 1) := by decide +kernel
theorem dX9_attribute_0 : decode cX9_attribute 0 = .ok (.aload_n 0, 1) := by decide +kernel
theorem dX9_attribute_1 : decode cX9_attribute 1 = .ok (.invokevirtual 320, 3) := by decide +kernel
theorem dX9_attribute_4 : decode cX9_attribute 4 = .ok (.istore_n 2, 1) := by decide +kernel
theorem dX9_attribute_5 : decode cX9_attribute 5 = .ok (.iload_n 2, 1) := by decide +kernel
theorem dX9_attribute_6 : decode cX9_attribute 6 = .ok (.ifCond .lt 8, 3) := by decide +kernel
theorem dX9_attribute_9 : decode cX9_attribute 9 = .ok (.iload_n 2, 1) := by decide +kernel
theorem dX9_attribute_10 : decode cX9_attribute 10 = .ok (.invokestatic 311, 3) := by decide +kernel
theorem dX9_attribute_13 : decode cX9_attribute 13 = .ok (.ireturn, 1) := by decide +kernel
theorem dX9_attribute_14 : decode cX9_attribute 14 = .ok (.aload_n 0, 1) := by decide +kernel
theorem dX9_attribute_15 : decode cX9_attribute 15 = .ok (.iload_n 1, 1) := by decide +kernel
theorem dX9_attribute_16 : decode cX9_attribute 16 = .ok (.invokevirtual 323, 3) := by decide +kernel
theorem dX9_attribute_19 : decode cX9_attribute 19 = .ok (.ifCond .eq 15, 3) := by decide +kernel
theorem dX9_attribute_22 : decode cX9_attribute 22 = .ok (.aload_n 0, 1) := by decide +kernel
theorem dX9_attribute_23 : decode cX9_attribute 23 = .ok (.iload_n 1, 1) := by decide +kernel
theorem dX9_attribute_24 : decode cX9_attribute 24 = .ok (.aload_n 0, 1) := by decide +kernel
theorem dX9_attribute_25 : decode cX9_attribute 25 = .ok (.getfield 18, 3) := by decide +kernel
theorem dX9_attribute_28 : decode cX9_attribute 28 = .ok (.invokevirtual 326, 3) := by decide +kernel
theorem dX9_attribute_31 : decode cX9_attribute 31 = .ok (.goto 4, 3) := by decide +kernel
theorem dX9_attribute_34 : decode cX9_attribute 34 = .ok (.iconst (-1), 1) := by decide +kernel
theorem dX9_attribute_35 : decode cX9_attribute 35 = .ok (.istore_n 3, 1) := by decide +kernel
theorem dX9_attribute_36 : decode cX9_attribute 36 = .ok (.iload_n 3, 1) := by decide +kernel
theorem dX9_attribute_37 : decode cX9_attribute 37 = .ok (.iconst (-1), 1) := by decide +kernel
theorem dX9_attribute_38 : decode cX9_attribute 38 = .ok (.if_icmp .ne 5, 3) := by decide +kernel
theorem dX9_attribute_41 : decode cX9_attribute 41 = .ok (.iconst (-1), 1) := by decide +kernel
theorem dX9_attribute_42 : decode cX9_attribute 42 = .ok (.ireturn, 1) := by decide +kernel
theorem dX9_attribute_43 : decode cX9_attribute 43 = .ok (.aload_n 0, 1) := by decide +kernel
theorem dX9_attribute_44 : decode cX9_attribute 44 = .ok (.iconst 0, 1) := by decide +kernel
theorem dX9_attribute_45 : decode cX9_attribute 45 = .ok (.putfield 1, 3) := by decide +kernel
theorem dX9_attribute_48 : decode cX9_attribute 48 = .ok (.aload_n 0, 1) := by decide +kernel
theorem dX9_attribute_49 : decode cX9_attribute 49 = .ok (.aload_n 0, 1) := by decide +kernel
theorem dX9_attribute_50 : decode cX9_attribute 50 = .ok (.getfield 278, 3) := by decide +kernel
theorem dX9_attribute_53 : decode cX9_attribute 53 = .ok (.bipush 60, 2) := by decide +kernel
theorem dX9_attribute_55 : decode cX9_attribute 55 = .ok (.iload_n 3, 1) := by decide +kernel
theorem dX9_attribute_56 : decode cX9_attribute 56 = .ok (.imul, 1) := by decide +kernel
theorem dX9_attribute_57 : decode cX9_attribute 57 = .ok (.aload_n 0, 1) := by decide +kernel
theorem dX9_attribute_58 : decode cX9_attribute 58 = .ok (.getfield 272, 3) := by decide +kernel
theorem dX9_attribute_61 : decode cX9_attribute 61 = .ok (.iload_n 3, 1) := by decide +kernel
theorem dX9_attribute_62 : decode cX9_attribute 62 = .ok (.iaload, 1) := by decide +kernel
theorem dX9_attribute_63 : decode cX9_attribute 63 = .ok (.invokevirtual 281, 3) := by decide +kernel
theorem dX9_attribute_66 : decode cX9_attribute 66 = .ok (.aload_n 0, 1) := by decide +kernel
theorem dX9_attribute_67 : decode cX9_attribute 67 = .ok (.getfield 1, 3) := by decide +kernel
theorem dX9_attribute_70 : decode cX9_attribute 70 = .ok (.ireturn, 1) := by decide +kernel
theorem dX9_fault_0 : decode cX9_fault 0 = .ok (.iload_n 1, 1) := by decide +kernel
theorem dX9_fault_1 : decode cX9_fault 1 = .ok (.ifCond .lt 17, 3) := by decide +kernel
theorem dX9_fault_4 : decode cX9_fault 4 = .ok (.iload_n 1, 1) := by decide +kernel
theorem dX9_fault_5 : decode cX9_fault 5 = .ok (.aload_n 0, 1) := by decide +kernel
theorem dX9_fault_6 : decode cX9_fault 6 = .ok (.getfield 130, 3) := by decide +kernel
theorem dX9_fault_9 : decode cX9_fault 9 = .ok (.if_icmp .ge 9, 3) := by decide +kernel
theorem dX9_fault_12 : decode cX9_fault 12 = .ok (.iload_n 1, 1) := by decide +kernel
theorem dX9_fault_13 : decode cX9_fault 13 = .ok (.bipush 40, 2) := by decide +kernel
theorem dX9_fault_15 : decode cX9_fault 15 = .ok (.if_icmp .lt 5, 3) := by decide +kernel
theorem dX9_fault_18 : decode cX9_fault 18 = .ok (.iconst (-1), 1) := by decide +kernel
theorem dX9_fault_19 : decode cX9_fault 19 = .ok (.ireturn, 1) := by decide +kernel
theorem dX9_fault_20 : decode cX9_fault 20 = .ok (.iload_n 2, 1) := by decide +kernel
theorem dX9_fault_21 : decode cX9_fault 21 = .ok (.ifCond .ne 12, 3) := by decide +kernel
theorem dX9_fault_24 : decode cX9_fault 24 = .ok (.aload_n 0, 1) := by decide +kernel
theorem dX9_fault_25 : decode cX9_fault 25 = .ok (.getfield 133, 3) := by decide +kernel
theorem dX9_fault_28 : decode cX9_fault 28 = .ok (.iload_n 1, 1) := by decide +kernel
theorem dX9_fault_29 : decode cX9_fault 29 = .ok (.iaload, 1) := by decide +kernel
theorem dX9_fault_30 : decode cX9_fault 30 = .ok (.goto 18, 3) := by decide +kernel
theorem dX9_fault_33 : decode cX9_fault 33 = .ok (.iload_n 2, 1) := by decide +kernel
theorem dX9_fault_34 : decode cX9_fault 34 = .ok (.iconst 1, 1) := by decide +kernel
theorem dX9_fault_35 : decode cX9_fault 35 = .ok (.if_icmp .ne 12, 3) := by decide +kernel
theorem dX9_fault_38 : decode cX9_fault 38 = .ok (.aload_n 0, 1) := by decide +kernel
theorem dX9_fault_39 : decode cX9_fault 39 = .ok (.getfield 136, 3) := by decide +kernel
theorem dX9_fault_42 : decode cX9_fault 42 = .ok (.iload_n 1, 1) := by decide +kernel
theorem dX9_fault_43 : decode cX9_fault 43 = .ok (.iaload, 1) := by decide +kernel
theorem dX9_fault_44 : decode cX9_fault 44 = .ok (.goto 4, 3) := by decide +kernel
theorem dX9_fault_47 : decode cX9_fault 47 = .ok (.iconst (-1), 1) := by decide +kernel
theorem dX9_fault_48 : decode cX9_fault 48 = .ok (.ireturn, 1) := by decide +kernel
theorem dX9_faults_0 : decode cX9_faults 0 = .ok (.aload_n 0, 1) := by decide +kernel
theorem dX9_faults_1 : decode cX9_faults 1 = .ok (.getfield 130, 3) := by decide +kernel
theorem dX9_faults_4 : decode cX9_faults 4 = .ok (.ireturn, 1) := by decide +kernel
theorem dX9_add_0 : decode cX9_add 0 = .ok (.aload_n 0, 1) := by decide +kernel
theorem dX9_add_1 : decode cX9_add 1 = .ok (.invokevirtual 320, 3) := by decide +kernel
theorem dX9_add_4 : decode cX9_add 4 = .ok (.istore_n 2, 1) := by decide +kernel
theorem dX9_add_5 : decode cX9_add 5 = .ok (.iload_n 2, 1) := by decide +kernel
theorem dX9_add_6 : decode cX9_add 6 = .ok (.ifCond .lt 8, 3) := by decide +kernel
theorem dX9_add_9 : decode cX9_add 9 = .ok (.iload_n 2, 1) := by decide +kernel
theorem dX9_add_10 : decode cX9_add 10 = .ok (.invokestatic 311, 3) := by decide +kernel
theorem dX9_add_13 : decode cX9_add 13 = .ok (.ireturn, 1) := by decide +kernel
theorem dX9_add_14 : decode cX9_add 14 = .ok (.aload_n 0, 1) := by decide +kernel
theorem dX9_add_15 : decode cX9_add 15 = .ok (.iload_n 1, 1) := by decide +kernel
theorem dX9_add_16 : decode cX9_add 16 = .ok (.invokevirtual 323, 3) := by decide +kernel
theorem dX9_add_19 : decode cX9_add 19 = .ok (.ifCond .eq 15, 3) := by decide +kernel
theorem dX9_add_22 : decode cX9_add 22 = .ok (.aload_n 0, 1) := by decide +kernel
theorem dX9_add_23 : decode cX9_add 23 = .ok (.getfield 86, 3) := by decide +kernel
theorem dX9_add_26 : decode cX9_add 26 = .ok (.iload_n 1, 1) := by decide +kernel
theorem dX9_add_27 : decode cX9_add 27 = .ok (.iaload, 1) := by decide +kernel
theorem dX9_add_28 : decode cX9_add 28 = .ok (.invokestatic 260, 3) := by decide +kernel
theorem dX9_add_31 : decode cX9_add 31 = .ok (.ifCond .eq 5, 3) := by decide +kernel
theorem dX9_add_34 : decode cX9_add 34 = .ok (.iconst (-1), 1) := by decide +kernel
theorem dX9_add_35 : decode cX9_add 35 = .ok (.ireturn, 1) := by decide +kernel
theorem dX9_add_36 : decode cX9_add 36 = .ok (.aload_n 0, 1) := by decide +kernel
theorem dX9_add_37 : decode cX9_add 37 = .ok (.iload_n 1, 1) := by decide +kernel
theorem dX9_add_38 : decode cX9_add 38 = .ok (.invokevirtual 82, 3) := by decide +kernel
theorem dX9_add_41 : decode cX9_add 41 = .ok (.istore_n 3, 1) := by decide +kernel
theorem dX9_add_42 : decode cX9_add 42 = .ok (.iload_n 3, 1) := by decide +kernel
theorem dX9_add_43 : decode cX9_add 43 = .ok (.iconst (-1), 1) := by decide +kernel
theorem dX9_add_44 : decode cX9_add 44 = .ok (.if_icmp .ne 5, 3) := by decide +kernel
theorem dX9_add_47 : decode cX9_add 47 = .ok (.iconst (-1), 1) := by decide +kernel
theorem dX9_add_48 : decode cX9_add 48 = .ok (.ireturn, 1) := by decide +kernel
theorem dX9_add_49 : decode cX9_add 49 = .ok (.aload_n 0, 1) := by decide +kernel
theorem dX9_add_50 : decode cX9_add 50 = .ok (.aload_n 0, 1) := by decide +kernel
theorem dX9_add_51 : decode cX9_add 51 = .ok (.getfield 18, 3) := by decide +kernel
theorem dX9_add_54 : decode cX9_add 54 = .ok (.putfield 202, 3) := by decide +kernel
theorem dX9_add_57 : decode cX9_add 57 = .ok (.iconst 0, 1) := by decide +kernel
theorem dX9_add_58 : decode cX9_add 58 = .ok (.istore 4, 2) := by decide +kernel
theorem dX9_add_60 : decode cX9_add 60 = .ok (.iload 4, 2) := by decide +kernel
theorem dX9_add_62 : decode cX9_add 62 = .ok (.aload_n 0, 1) := by decide +kernel
theorem dX9_add_63 : decode cX9_add 63 = .ok (.getfield 18, 3) := by decide +kernel
theorem dX9_add_66 : decode cX9_add 66 = .ok (.if_icmp .ge 23, 3) := by decide +kernel
theorem dX9_add_69 : decode cX9_add 69 = .ok (.aload_n 0, 1) := by decide +kernel
theorem dX9_add_70 : decode cX9_add 70 = .ok (.getfield 208, 3) := by decide +kernel
theorem dX9_add_73 : decode cX9_add 73 = .ok (.iload 4, 2) := by decide +kernel
theorem dX9_add_75 : decode cX9_add 75 = .ok (.aload_n 0, 1) := by decide +kernel
theorem dX9_add_76 : decode cX9_add 76 = .ok (.getfield 21, 3) := by decide +kernel
theorem dX9_add_79 : decode cX9_add 79 = .ok (.iload 4, 2) := by decide +kernel
theorem dX9_add_81 : decode cX9_add 81 = .ok (.baload, 1) := by decide +kernel
theorem dX9_add_82 : decode cX9_add 82 = .ok (.bastore, 1) := by decide +kernel
theorem dX9_add_83 : decode cX9_add 83 = .ok (.iinc 4 1, 3) := by decide +kernel
theorem dX9_add_86 : decode cX9_add 86 = .ok (.goto (-26), 3) := by decide +kernel
theorem dX9_add_89 : decode cX9_add 89 = .ok (.aload_n 0, 1) := by decide +kernel
theorem dX9_add_90 : decode cX9_add 90 = .ok (.iload_n 3, 1) := by decide +kernel
theorem dX9_add_91 : decode cX9_add 91 = .ok (.aload_n 0, 1) := by decide +kernel
theorem dX9_add_92 : decode cX9_add 92 = .ok (.getfield 208, 3) := by decide +kernel
theorem dX9_add_95 : decode cX9_add 95 = .ok (.iconst 0, 1) := by decide +kernel
theorem dX9_add_96 : decode cX9_add 96 = .ok (.aload_n 0, 1) := by decide +kernel
theorem dX9_add_97 : decode cX9_add 97 = .ok (.getfield 202, 3) := by decide +kernel
theorem dX9_add_100 : decode cX9_add 100 = .ok (.invokestatic 223, 3) := by decide +kernel
theorem dX9_add_103 : decode cX9_add 103 = .ok (.invokevirtual 266, 3) := by decide +kernel
theorem dX9_add_106 : decode cX9_add 106 = .ok (.iload_n 3, 1) := by decide +kernel
theorem dX9_add_107 : decode cX9_add 107 = .ok (.ireturn, 1) := by decide +kernel
theorem dX9_less_0 : decode cX9_less 0 = .ok (.iload_n 0, 1) := by decide +kernel
theorem dX9_less_1 : decode cX9_less 1 = .ok (.iload_n 1, 1) := by decide +kernel
theorem dX9_less_2 : decode cX9_less 2 = .ok (.if_icmp .ge 7, 3) := by decide +kernel
theorem dX9_less_5 : decode cX9_less 5 = .ok (.iload_n 0, 1) := by decide +kernel
theorem dX9_less_6 : decode cX9_less 6 = .ok (.goto 4, 3) := by decide +kernel
theorem dX9_less_9 : decode cX9_less 9 = .ok (.iload_n 1, 1) := by decide +kernel
theorem dX9_less_10 : decode cX9_less 10 = .ok (.ireturn, 1) := by decide +kernel
theorem dX9_text_0 : decode cX9_text 0 = .ok (.aload_n 0, 1) := by decide +kernel
theorem dX9_text_1 : decode cX9_text 1 = .ok (.invokevirtual 307, 3) := by decide +kernel
theorem dX9_text_4 : decode cX9_text 4 = .ok (.istore_n 2, 1) := by decide +kernel
theorem dX9_text_5 : decode cX9_text 5 = .ok (.iload_n 2, 1) := by decide +kernel
theorem dX9_text_6 : decode cX9_text 6 = .ok (.ifCond .lt 8, 3) := by decide +kernel
theorem dX9_text_9 : decode cX9_text 9 = .ok (.iload_n 2, 1) := by decide +kernel
theorem dX9_text_10 : decode cX9_text 10 = .ok (.invokestatic 311, 3) := by decide +kernel
theorem dX9_text_13 : decode cX9_text 13 = .ok (.ireturn, 1) := by decide +kernel
theorem dX9_text_14 : decode cX9_text 14 = .ok (.aload_n 0, 1) := by decide +kernel
theorem dX9_text_15 : decode cX9_text 15 = .ok (.iload_n 1, 1) := by decide +kernel
theorem dX9_text_16 : decode cX9_text 16 = .ok (.invokevirtual 323, 3) := by decide +kernel
theorem dX9_text_19 : decode cX9_text 19 = .ok (.ifCond .eq 26, 3) := by decide +kernel
theorem dX9_text_22 : decode cX9_text 22 = .ok (.aload_n 0, 1) := by decide +kernel
theorem dX9_text_23 : decode cX9_text 23 = .ok (.getfield 86, 3) := by decide +kernel
theorem dX9_text_26 : decode cX9_text 26 = .ok (.iload_n 1, 1) := by decide +kernel
theorem dX9_text_27 : decode cX9_text 27 = .ok (.iaload, 1) := by decide +kernel
theorem dX9_text_28 : decode cX9_text 28 = .ok (.invokestatic 260, 3) := by decide +kernel
theorem dX9_text_31 : decode cX9_text 31 = .ok (.ifCond .ne 14, 3) := by decide +kernel
theorem dX9_text_34 : decode cX9_text 34 = .ok (.aload_n 0, 1) := by decide +kernel
theorem dX9_text_35 : decode cX9_text 35 = .ok (.getfield 96, 3) := by decide +kernel
theorem dX9_text_38 : decode cX9_text 38 = .ok (.iload_n 1, 1) := by decide +kernel
theorem dX9_text_39 : decode cX9_text 39 = .ok (.iaload, 1) := by decide +kernel
theorem dX9_text_40 : decode cX9_text 40 = .ok (.bipush 20, 2) := by decide +kernel
theorem dX9_text_42 : decode cX9_text 42 = .ok (.if_icmp .ne 5, 3) := by decide +kernel
theorem dX9_text_45 : decode cX9_text 45 = .ok (.iconst (-1), 1) := by decide +kernel
theorem dX9_text_46 : decode cX9_text 46 = .ok (.ireturn, 1) := by decide +kernel
theorem dX9_text_47 : decode cX9_text 47 = .ok (.aload_n 0, 1) := by decide +kernel
theorem dX9_text_48 : decode cX9_text 48 = .ok (.getfield 18, 3) := by decide +kernel
theorem dX9_text_51 : decode cX9_text 51 = .ok (.ifCond .le 24, 3) := by decide +kernel
theorem dX9_text_54 : decode cX9_text 54 = .ok (.aload_n 0, 1) := by decide +kernel
theorem dX9_text_55 : decode cX9_text 55 = .ok (.getfield 79, 3) := by decide +kernel
theorem dX9_text_58 : decode cX9_text 58 = .ok (.bipush 120, 2) := by decide +kernel
theorem dX9_text_60 : decode cX9_text 60 = .ok (.if_icmp .ne 15, 3) := by decide +kernel
theorem dX9_text_63 : decode cX9_text 63 = .ok (.aload_n 0, 1) := by decide +kernel
theorem dX9_text_64 : decode cX9_text 64 = .ok (.getfield 102, 3) := by decide +kernel
theorem dX9_text_67 : decode cX9_text 67 = .ok (.iload_n 1, 1) := by decide +kernel
theorem dX9_text_68 : decode cX9_text 68 = .ok (.iaload, 1) := by decide +kernel
theorem dX9_text_69 : decode cX9_text 69 = .ok (.iconst (-1), 1) := by decide +kernel
theorem dX9_text_70 : decode cX9_text 70 = .ok (.if_icmp .ne 5, 3) := by decide +kernel
theorem dX9_text_73 : decode cX9_text 73 = .ok (.iconst (-1), 1) := by decide +kernel
theorem dX9_text_74 : decode cX9_text 74 = .ok (.ireturn, 1) := by decide +kernel
theorem dX9_text_75 : decode cX9_text 75 = .ok (.aload_n 0, 1) := by decide +kernel
theorem dX9_text_76 : decode cX9_text 76 = .ok (.getfield 102, 3) := by decide +kernel
theorem dX9_text_79 : decode cX9_text 79 = .ok (.iload_n 1, 1) := by decide +kernel
theorem dX9_text_80 : decode cX9_text 80 = .ok (.iaload, 1) := by decide +kernel
theorem dX9_text_81 : decode cX9_text 81 = .ok (.iconst (-1), 1) := by decide +kernel
theorem dX9_text_82 : decode cX9_text 82 = .ok (.if_icmp .eq 16, 3) := by decide +kernel
theorem dX9_text_85 : decode cX9_text 85 = .ok (.aload_n 0, 1) := by decide +kernel
theorem dX9_text_86 : decode cX9_text 86 = .ok (.aload_n 0, 1) := by decide +kernel
theorem dX9_text_87 : decode cX9_text 87 = .ok (.getfield 102, 3) := by decide +kernel
theorem dX9_text_90 : decode cX9_text 90 = .ok (.iload_n 1, 1) := by decide +kernel
theorem dX9_text_91 : decode cX9_text 91 = .ok (.iaload, 1) := by decide +kernel
theorem dX9_text_92 : decode cX9_text 92 = .ok (.invokevirtual 329, 3) := by decide +kernel
theorem dX9_text_95 : decode cX9_text 95 = .ok (.goto (-20), 3) := by decide +kernel
theorem dX9_text_98 : decode cX9_text 98 = .ok (.aload_n 0, 1) := by decide +kernel
theorem dX9_text_99 : decode cX9_text 99 = .ok (.getfield 18, 3) := by decide +kernel
theorem dX9_text_102 : decode cX9_text 102 = .ok (.ifCond .le 73, 3) := by decide +kernel
theorem dX9_text_105 : decode cX9_text 105 = .ok (.aload_n 0, 1) := by decide +kernel
theorem dX9_text_106 : decode cX9_text 106 = .ok (.iload_n 1, 1) := by decide +kernel
theorem dX9_text_107 : decode cX9_text 107 = .ok (.invokevirtual 82, 3) := by decide +kernel
theorem dX9_text_110 : decode cX9_text 110 = .ok (.istore_n 3, 1) := by decide +kernel
theorem dX9_text_111 : decode cX9_text 111 = .ok (.aload_n 0, 1) := by decide +kernel
theorem dX9_text_112 : decode cX9_text 112 = .ok (.getfield 86, 3) := by decide +kernel
theorem dX9_text_115 : decode cX9_text 115 = .ok (.iload_n 3, 1) := by decide +kernel
theorem dX9_text_116 : decode cX9_text 116 = .ok (.bipush 17, 2) := by decide +kernel
theorem dX9_text_118 : decode cX9_text 118 = .ok (.iastore, 1) := by decide +kernel
theorem dX9_text_119 : decode cX9_text 119 = .ok (.aload_n 0, 1) := by decide +kernel
theorem dX9_text_120 : decode cX9_text 120 = .ok (.getfield 117, 3) := by decide +kernel
theorem dX9_text_123 : decode cX9_text 123 = .ok (.iload_n 3, 1) := by decide +kernel
theorem dX9_text_124 : decode cX9_text 124 = .ok (.sipush 400, 3) := by decide +kernel
theorem dX9_text_127 : decode cX9_text 127 = .ok (.aload_n 0, 1) := by decide +kernel
theorem dX9_text_128 : decode cX9_text 128 = .ok (.getfield 18, 3) := by decide +kernel
theorem dX9_text_131 : decode cX9_text 131 = .ok (.invokestatic 332, 3) := by decide +kernel
theorem dX9_text_134 : decode cX9_text 134 = .ok (.iastore, 1) := by decide +kernel
theorem dX9_text_135 : decode cX9_text 135 = .ok (.iconst 0, 1) := by decide +kernel
theorem dX9_text_136 : decode cX9_text 136 = .ok (.istore 4, 2) := by decide +kernel
theorem dX9_text_138 : decode cX9_text 138 = .ok (.iload 4, 2) := by decide +kernel
theorem dX9_text_140 : decode cX9_text 140 = .ok (.aload_n 0, 1) := by decide +kernel
theorem dX9_text_141 : decode cX9_text 141 = .ok (.getfield 117, 3) := by decide +kernel
theorem dX9_text_144 : decode cX9_text 144 = .ok (.iload_n 3, 1) := by decide +kernel
theorem dX9_text_145 : decode cX9_text 145 = .ok (.iaload, 1) := by decide +kernel
theorem dX9_text_146 : decode cX9_text 146 = .ok (.if_icmp .ge 29, 3) := by decide +kernel
theorem dX9_text_149 : decode cX9_text 149 = .ok (.aload_n 0, 1) := by decide +kernel
theorem dX9_text_150 : decode cX9_text 150 = .ok (.getfield 199, 3) := by decide +kernel
theorem dX9_text_153 : decode cX9_text 153 = .ok (.sipush 400, 3) := by decide +kernel
theorem dX9_text_156 : decode cX9_text 156 = .ok (.iload_n 3, 1) := by decide +kernel
theorem dX9_text_157 : decode cX9_text 157 = .ok (.imul, 1) := by decide +kernel
theorem dX9_text_158 : decode cX9_text 158 = .ok (.iload 4, 2) := by decide +kernel
theorem dX9_text_160 : decode cX9_text 160 = .ok (.iadd, 1) := by decide +kernel
theorem dX9_text_161 : decode cX9_text 161 = .ok (.aload_n 0, 1) := by decide +kernel
theorem dX9_text_162 : decode cX9_text 162 = .ok (.getfield 21, 3) := by decide +kernel
theorem dX9_text_165 : decode cX9_text 165 = .ok (.iload 4, 2) := by decide +kernel
theorem dX9_text_167 : decode cX9_text 167 = .ok (.baload, 1) := by decide +kernel
theorem dX9_text_168 : decode cX9_text 168 = .ok (.bastore, 1) := by decide +kernel
theorem dX9_text_169 : decode cX9_text 169 = .ok (.iinc 4 1, 3) := by decide +kernel
theorem dX9_text_172 : decode cX9_text 172 = .ok (.goto (-34), 3) := by decide +kernel
theorem dX9_text_175 : decode cX9_text 175 = .ok (.aload_n 0, 1) := by decide +kernel
theorem dX9_text_176 : decode cX9_text 176 = .ok (.getfield 79, 3) := by decide +kernel
theorem dX9_text_179 : decode cX9_text 179 = .ok (.ireturn, 1) := by decide +kernel
theorem dX9_set_0 : decode cX9_set 0 = .ok (.aload_n 0, 1) := by decide +kernel
theorem dX9_set_1 : decode cX9_set 1 = .ok (.invokevirtual 307, 3) := by decide +kernel
theorem dX9_set_4 : decode cX9_set 4 = .ok (.istore_n 2, 1) := by decide +kernel
theorem dX9_set_5 : decode cX9_set 5 = .ok (.iload_n 2, 1) := by decide +kernel
theorem dX9_set_6 : decode cX9_set 6 = .ok (.ifCond .lt 8, 3) := by decide +kernel
theorem dX9_set_9 : decode cX9_set 9 = .ok (.iload_n 2, 1) := by decide +kernel
theorem dX9_set_10 : decode cX9_set 10 = .ok (.invokestatic 311, 3) := by decide +kernel
theorem dX9_set_13 : decode cX9_set 13 = .ok (.ireturn, 1) := by decide +kernel
theorem dX9_set_14 : decode cX9_set 14 = .ok (.iconst 0, 1) := by decide +kernel
theorem dX9_set_15 : decode cX9_set 15 = .ok (.istore_n 3, 1) := by decide +kernel
theorem dX9_set_16 : decode cX9_set 16 = .ok (.iload_n 3, 1) := by decide +kernel
theorem dX9_set_17 : decode cX9_set 17 = .ok (.aload_n 0, 1) := by decide +kernel
theorem dX9_set_18 : decode cX9_set 18 = .ok (.getfield 18, 3) := by decide +kernel
theorem dX9_set_21 : decode cX9_set 21 = .ok (.if_icmp .ge 20, 3) := by decide +kernel
theorem dX9_set_24 : decode cX9_set 24 = .ok (.aload_n 0, 1) := by decide +kernel
theorem dX9_set_25 : decode cX9_set 25 = .ok (.getfield 21, 3) := by decide +kernel
theorem dX9_set_28 : decode cX9_set 28 = .ok (.iload_n 3, 1) := by decide +kernel
theorem dX9_set_29 : decode cX9_set 29 = .ok (.baload, 1) := by decide +kernel
theorem dX9_set_30 : decode cX9_set 30 = .ok (.bipush 61, 2) := by decide +kernel
theorem dX9_set_32 : decode cX9_set 32 = .ok (.if_icmp .eq 9, 3) := by decide +kernel
theorem dX9_set_35 : decode cX9_set 35 = .ok (.iinc 3 1, 3) := by decide +kernel
theorem dX9_set_38 : decode cX9_set 38 = .ok (.goto (-22), 3) := by decide +kernel
theorem dX9_set_41 : decode cX9_set 41 = .ok (.aload_n 0, 1) := by decide +kernel
theorem dX9_set_42 : decode cX9_set 42 = .ok (.iload_n 3, 1) := by decide +kernel
theorem dX9_set_43 : decode cX9_set 43 = .ok (.invokevirtual 317, 3) := by decide +kernel
theorem dX9_set_46 : decode cX9_set 46 = .ok (.istore_n 2, 1) := by decide +kernel
theorem dX9_set_47 : decode cX9_set 47 = .ok (.iload_n 2, 1) := by decide +kernel
theorem dX9_set_48 : decode cX9_set 48 = .ok (.ifCond .ge 11, 3) := by decide +kernel
theorem dX9_set_51 : decode cX9_set 51 = .ok (.iload_n 3, 1) := by decide +kernel
theorem dX9_set_52 : decode cX9_set 52 = .ok (.aload_n 0, 1) := by decide +kernel
theorem dX9_set_53 : decode cX9_set 53 = .ok (.getfield 18, 3) := by decide +kernel
theorem dX9_set_56 : decode cX9_set 56 = .ok (.if_icmp .ne 19, 3) := by decide +kernel
theorem dX9_set_59 : decode cX9_set 59 = .ok (.iload_n 2, 1) := by decide +kernel
theorem dX9_set_60 : decode cX9_set 60 = .ok (.ifCond .lt 7, 3) := by decide +kernel
theorem dX9_set_63 : decode cX9_set 63 = .ok (.iload_n 2, 1) := by decide +kernel
theorem dX9_set_64 : decode cX9_set 64 = .ok (.goto 7, 3) := by decide +kernel
theorem dX9_set_67 : decode cX9_set 67 = .ok (.aload_n 0, 1) := by decide +kernel
theorem dX9_set_68 : decode cX9_set 68 = .ok (.getfield 18, 3) := by decide +kernel
theorem dX9_set_71 : decode cX9_set 71 = .ok (.invokestatic 311, 3) := by decide +kernel
theorem dX9_set_74 : decode cX9_set 74 = .ok (.ireturn, 1) := by decide +kernel
theorem dX9_set_75 : decode cX9_set 75 = .ok (.aload_n 0, 1) := by decide +kernel
theorem dX9_set_76 : decode cX9_set 76 = .ok (.iload_n 1, 1) := by decide +kernel
theorem dX9_set_77 : decode cX9_set 77 = .ok (.invokevirtual 323, 3) := by decide +kernel
theorem dX9_set_80 : decode cX9_set 80 = .ok (.ifCond .ne 5, 3) := by decide +kernel
theorem dX9_set_83 : decode cX9_set 83 = .ok (.iconst (-1), 1) := by decide +kernel
theorem dX9_set_84 : decode cX9_set 84 = .ok (.ireturn, 1) := by decide +kernel
theorem dX9_set_85 : decode cX9_set 85 = .ok (.aload_n 0, 1) := by decide +kernel
theorem dX9_set_86 : decode cX9_set 86 = .ok (.iload_n 1, 1) := by decide +kernel
theorem dX9_set_87 : decode cX9_set 87 = .ok (.iload_n 3, 1) := by decide +kernel
theorem dX9_set_88 : decode cX9_set 88 = .ok (.invokevirtual 326, 3) := by decide +kernel
theorem dX9_set_91 : decode cX9_set 91 = .ok (.istore 4, 2) := by decide +kernel
theorem dX9_set_93 : decode cX9_set 93 = .ok (.iload 4, 2) := by decide +kernel
theorem dX9_set_95 : decode cX9_set 95 = .ok (.iconst (-1), 1) := by decide +kernel
theorem dX9_set_96 : decode cX9_set 96 = .ok (.if_icmp .ne 15, 3) := by decide +kernel
theorem dX9_set_99 : decode cX9_set 99 = .ok (.aload_n 0, 1) := by decide +kernel
theorem dX9_set_100 : decode cX9_set 100 = .ok (.getfield 114, 3) := by decide +kernel
theorem dX9_set_103 : decode cX9_set 103 = .ok (.iload_n 1, 1) := by decide +kernel
theorem dX9_set_104 : decode cX9_set 104 = .ok (.iaload, 1) := by decide +kernel
theorem dX9_set_105 : decode cX9_set 105 = .ok (.iconst 4, 1) := by decide +kernel
theorem dX9_set_106 : decode cX9_set 106 = .ok (.if_icmp .ne 5, 3) := by decide +kernel
theorem dX9_set_109 : decode cX9_set 109 = .ok (.iconst (-1), 1) := by decide +kernel
theorem dX9_set_110 : decode cX9_set 110 = .ok (.ireturn, 1) := by decide +kernel
theorem dX9_set_111 : decode cX9_set 111 = .ok (.iload 4, 2) := by decide +kernel
theorem dX9_set_113 : decode cX9_set 113 = .ok (.iconst (-1), 1) := by decide +kernel
theorem dX9_set_114 : decode cX9_set 114 = .ok (.if_icmp .ne 68, 3) := by decide +kernel
theorem dX9_set_117 : decode cX9_set 117 = .ok (.iconst 4, 1) := by decide +kernel
theorem dX9_set_118 : decode cX9_set 118 = .ok (.iload_n 1, 1) := by decide +kernel
theorem dX9_set_119 : decode cX9_set 119 = .ok (.imul, 1) := by decide +kernel
theorem dX9_set_120 : decode cX9_set 120 = .ok (.aload_n 0, 1) := by decide +kernel
theorem dX9_set_121 : decode cX9_set 121 = .ok (.getfield 114, 3) := by decide +kernel
theorem dX9_set_124 : decode cX9_set 124 = .ok (.iload_n 1, 1) := by decide +kernel
theorem dX9_set_125 : decode cX9_set 125 = .ok (.iaload, 1) := by decide +kernel
theorem dX9_set_126 : decode cX9_set 126 = .ok (.iadd, 1) := by decide +kernel
theorem dX9_set_127 : decode cX9_set 127 = .ok (.istore 4, 2) := by decide +kernel
theorem dX9_set_129 : decode cX9_set 129 = .ok (.aload_n 0, 1) := by decide +kernel
theorem dX9_set_130 : decode cX9_set 130 = .ok (.getfield 114, 3) := by decide +kernel
theorem dX9_set_133 : decode cX9_set 133 = .ok (.iload_n 1, 1) := by decide +kernel
theorem dX9_set_134 : decode cX9_set 134 = .ok (.dup2, 1) := by decide +kernel
theorem dX9_set_135 : decode cX9_set 135 = .ok (.iaload, 1) := by decide +kernel
theorem dX9_set_136 : decode cX9_set 136 = .ok (.iconst 1, 1) := by decide +kernel
theorem dX9_set_137 : decode cX9_set 137 = .ok (.iadd, 1) := by decide +kernel
theorem dX9_set_138 : decode cX9_set 138 = .ok (.iastore, 1) := by decide +kernel
theorem dX9_set_139 : decode cX9_set 139 = .ok (.aload_n 0, 1) := by decide +kernel
theorem dX9_set_140 : decode cX9_set 140 = .ok (.getfield 269, 3) := by decide +kernel
theorem dX9_set_143 : decode cX9_set 143 = .ok (.iload 4, 2) := by decide +kernel
theorem dX9_set_145 : decode cX9_set 145 = .ok (.iload_n 3, 1) := by decide +kernel
theorem dX9_set_146 : decode cX9_set 146 = .ok (.iastore, 1) := by decide +kernel
theorem dX9_set_147 : decode cX9_set 147 = .ok (.iconst 0, 1) := by decide +kernel
theorem dX9_set_148 : decode cX9_set 148 = .ok (.istore 5, 2) := by decide +kernel
theorem dX9_set_150 : decode cX9_set 150 = .ok (.iload 5, 2) := by decide +kernel
theorem dX9_set_152 : decode cX9_set 152 = .ok (.iload_n 3, 1) := by decide +kernel
theorem dX9_set_153 : decode cX9_set 153 = .ok (.if_icmp .ge 29, 3) := by decide +kernel
theorem dX9_set_156 : decode cX9_set 156 = .ok (.aload_n 0, 1) := by decide +kernel
theorem dX9_set_157 : decode cX9_set 157 = .ok (.getfield 275, 3) := by decide +kernel
theorem dX9_set_160 : decode cX9_set 160 = .ok (.bipush 8, 2) := by decide +kernel
theorem dX9_set_162 : decode cX9_set 162 = .ok (.iload 4, 2) := by decide +kernel
theorem dX9_set_164 : decode cX9_set 164 = .ok (.imul, 1) := by decide +kernel
theorem dX9_set_165 : decode cX9_set 165 = .ok (.iload 5, 2) := by decide +kernel
theorem dX9_set_167 : decode cX9_set 167 = .ok (.iadd, 1) := by decide +kernel
theorem dX9_set_168 : decode cX9_set 168 = .ok (.aload_n 0, 1) := by decide +kernel
theorem dX9_set_169 : decode cX9_set 169 = .ok (.getfield 21, 3) := by decide +kernel
theorem dX9_set_172 : decode cX9_set 172 = .ok (.iload 5, 2) := by decide +kernel
theorem dX9_set_174 : decode cX9_set 174 = .ok (.baload, 1) := by decide +kernel
theorem dX9_set_175 : decode cX9_set 175 = .ok (.bastore, 1) := by decide +kernel
theorem dX9_set_176 : decode cX9_set 176 = .ok (.iinc 5 1, 3) := by decide +kernel
theorem dX9_set_179 : decode cX9_set 179 = .ok (.goto (-29), 3) := by decide +kernel
theorem dX9_set_182 : decode cX9_set 182 = .ok (.aload_n 0, 1) := by decide +kernel
theorem dX9_set_183 : decode cX9_set 183 = .ok (.getfield 272, 3) := by decide +kernel
theorem dX9_set_186 : decode cX9_set 186 = .ok (.iload 4, 2) := by decide +kernel
theorem dX9_set_188 : decode cX9_set 188 = .ok (.bipush 60, 2) := by decide +kernel
theorem dX9_set_190 : decode cX9_set 190 = .ok (.aload_n 0, 1) := by decide +kernel
theorem dX9_set_191 : decode cX9_set 191 = .ok (.getfield 18, 3) := by decide +kernel
theorem dX9_set_194 : decode cX9_set 194 = .ok (.iload_n 3, 1) := by decide +kernel
theorem dX9_set_195 : decode cX9_set 195 = .ok (.isub, 1) := by decide +kernel
theorem dX9_set_196 : decode cX9_set 196 = .ok (.iconst 1, 1) := by decide +kernel
theorem dX9_set_197 : decode cX9_set 197 = .ok (.isub, 1) := by decide +kernel
theorem dX9_set_198 : decode cX9_set 198 = .ok (.invokestatic 332, 3) := by decide +kernel
theorem dX9_set_201 : decode cX9_set 201 = .ok (.iastore, 1) := by decide +kernel
theorem dX9_set_202 : decode cX9_set 202 = .ok (.iconst 0, 1) := by decide +kernel
theorem dX9_set_203 : decode cX9_set 203 = .ok (.istore 5, 2) := by decide +kernel
theorem dX9_set_205 : decode cX9_set 205 = .ok (.iload 5, 2) := by decide +kernel
theorem dX9_set_207 : decode cX9_set 207 = .ok (.aload_n 0, 1) := by decide +kernel
theorem dX9_set_208 : decode cX9_set 208 = .ok (.getfield 272, 3) := by decide +kernel
theorem dX9_set_211 : decode cX9_set 211 = .ok (.iload 4, 2) := by decide +kernel
theorem dX9_set_213 : decode cX9_set 213 = .ok (.iaload, 1) := by decide +kernel
theorem dX9_set_214 : decode cX9_set 214 = .ok (.if_icmp .ge 33, 3) := by decide +kernel
theorem dX9_set_217 : decode cX9_set 217 = .ok (.aload_n 0, 1) := by decide +kernel
theorem dX9_set_218 : decode cX9_set 218 = .ok (.getfield 278, 3) := by decide +kernel
theorem dX9_set_221 : decode cX9_set 221 = .ok (.bipush 60, 2) := by decide +kernel
theorem dX9_set_223 : decode cX9_set 223 = .ok (.iload 4, 2) := by decide +kernel
theorem dX9_set_225 : decode cX9_set 225 = .ok (.imul, 1) := by decide +kernel
theorem dX9_set_226 : decode cX9_set 226 = .ok (.iload 5, 2) := by decide +kernel
theorem dX9_set_228 : decode cX9_set 228 = .ok (.iadd, 1) := by decide +kernel
theorem dX9_set_229 : decode cX9_set 229 = .ok (.aload_n 0, 1) := by decide +kernel
theorem dX9_set_230 : decode cX9_set 230 = .ok (.getfield 21, 3) := by decide +kernel
theorem dX9_set_233 : decode cX9_set 233 = .ok (.iload_n 3, 1) := by decide +kernel
theorem dX9_set_234 : decode cX9_set 234 = .ok (.iconst 1, 1) := by decide +kernel
theorem dX9_set_235 : decode cX9_set 235 = .ok (.iadd, 1) := by decide +kernel
theorem dX9_set_236 : decode cX9_set 236 = .ok (.iload 5, 2) := by decide +kernel
theorem dX9_set_238 : decode cX9_set 238 = .ok (.iadd, 1) := by decide +kernel
theorem dX9_set_239 : decode cX9_set 239 = .ok (.baload, 1) := by decide +kernel
theorem dX9_set_240 : decode cX9_set 240 = .ok (.bastore, 1) := by decide +kernel
theorem dX9_set_241 : decode cX9_set 241 = .ok (.iinc 5 1, 3) := by decide +kernel
theorem dX9_set_244 : decode cX9_set 244 = .ok (.goto (-39), 3) := by decide +kernel
theorem dX9_set_247 : decode cX9_set 247 = .ok (.aload_n 0, 1) := by decide +kernel
theorem dX9_set_248 : decode cX9_set 248 = .ok (.getfield 114, 3) := by decide +kernel
theorem dX9_set_251 : decode cX9_set 251 = .ok (.iload_n 1, 1) := by decide +kernel
theorem dX9_set_252 : decode cX9_set 252 = .ok (.iaload, 1) := by decide +kernel
theorem dX9_set_253 : decode cX9_set 253 = .ok (.ireturn, 1) := by decide +kernel
