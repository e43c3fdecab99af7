theorem dX9_remove_0 : decode cX9_remove 0 = .ok (.aload_n 0, 1) := by decide +kernel
theorem dX9_remove_1 : decode cX9_remove 1 = .ok (.iload_n 1, 1) := by decide +kernel
theorem dX9_remove_2 : decode cX9_remove 2 = .ok (.invokevirtual 289, 3) := by decide +kernel
theorem dX9_remove_5 : decode cX9_remove 5 = .ok (.ifCond .eq 7, 3) := by decide +kernel
theorem dX9_remove_8 : decode cX9_remove 8 = .ok (.iload_n 1, 1) := by decide +kernel
theorem dX9_remove_9 : decode cX9_remove 9 = .ok (.ifCond .ne 5, 3) := by decide +kernel
theorem dX9_remove_12 : decode cX9_remove 12 = .ok (.iconst (-1), 1) := by decide +kernel
theorem dX9_remove_13 : decode cX9_remove 13 = .ok (.ireturn, 1) := by decide +kernel
theorem dX9_remove_14 : decode cX9_remove 14 = .ok (.aload_n 0, 1) := by decide +kernel
theorem dX9_remove_15 : decode cX9_remove 15 = .ok (.iload_n 1, 1) := by decide +kernel
theorem dX9_remove_16 : decode cX9_remove 16 = .ok (.invokevirtual 329, 3) := by decide +kernel
theorem dX9_remove_19 : decode cX9_remove 19 = .ok (.aload_n 0, 1) := by decide +kernel
theorem dX9_remove_20 : decode cX9_remove 20 = .ok (.getfield 79, 3) := by decide +kernel
theorem dX9_remove_23 : decode cX9_remove 23 = .ok (.ireturn, 1) := by decide +kernel
theorem dX9_find_0 : decode cX9_find 0 = .ok (.aload_n 0, 1) := by decide +kernel
theorem dX9_find_1 : decode cX9_find 1 = .ok (.invokevirtual 320, 3) := by decide +kernel
theorem dX9_find_4 : decode cX9_find 4 = .ok (.istore_n 2, 1) := by decide +kernel
theorem dX9_find_5 : decode cX9_find 5 = .ok (.iload_n 2, 1) := by decide +kernel
theorem dX9_find_6 : decode cX9_find 6 = .ok (.ifCond .lt 8, 3) := by decide +kernel
theorem dX9_find_9 : decode cX9_find 9 = .ok (.iload_n 2, 1) := by decide +kernel
theorem dX9_find_10 : decode cX9_find 10 = .ok (.invokestatic 311, 3) := by decide +kernel
theorem dX9_find_13 : decode cX9_find 13 = .ok (.ireturn, 1) := by decide +kernel
theorem dX9_find_14 : decode cX9_find 14 = .ok (.iload_n 1, 1) := by decide +kernel
theorem dX9_find_15 : decode cX9_find 15 = .ok (.iconst (-1), 1) := by decide +kernel
theorem dX9_find_16 : decode cX9_find 16 = .ok (.if_icmp .eq 13, 3) := by decide +kernel
theorem dX9_find_19 : decode cX9_find 19 = .ok (.aload_n 0, 1) := by decide +kernel
theorem dX9_find_20 : decode cX9_find 20 = .ok (.iload_n 1, 1) := by decide +kernel
theorem dX9_find_21 : decode cX9_find 21 = .ok (.invokevirtual 289, 3) := by decide +kernel
theorem dX9_find_24 : decode cX9_find 24 = .ok (.ifCond .ne 5, 3) := by decide +kernel
theorem dX9_find_27 : decode cX9_find 27 = .ok (.iconst (-1), 1) := by decide +kernel
theorem dX9_find_28 : decode cX9_find 28 = .ok (.ireturn, 1) := by decide +kernel
theorem dX9_find_29 : decode cX9_find 29 = .ok (.iload_n 1, 1) := by decide +kernel
theorem dX9_find_30 : decode cX9_find 30 = .ok (.iconst (-1), 1) := by decide +kernel
theorem dX9_find_31 : decode cX9_find 31 = .ok (.if_icmp .ne 7, 3) := by decide +kernel
theorem dX9_find_34 : decode cX9_find 34 = .ok (.iconst 0, 1) := by decide +kernel
theorem dX9_find_35 : decode cX9_find 35 = .ok (.goto 9, 3) := by decide +kernel
theorem dX9_find_38 : decode cX9_find 38 = .ok (.aload_n 0, 1) := by decide +kernel
theorem dX9_find_39 : decode cX9_find 39 = .ok (.iload_n 1, 1) := by decide +kernel
theorem dX9_find_40 : decode cX9_find 40 = .ok (.iconst 0, 1) := by decide +kernel
theorem dX9_find_41 : decode cX9_find 41 = .ok (.invokevirtual 127, 3) := by decide +kernel
theorem dX9_find_44 : decode cX9_find 44 = .ok (.istore_n 3, 1) := by decide +kernel
theorem dX9_find_45 : decode cX9_find 45 = .ok (.iload_n 3, 1) := by decide +kernel
theorem dX9_find_46 : decode cX9_find 46 = .ok (.iconst (-1), 1) := by decide +kernel
theorem dX9_find_47 : decode cX9_find 47 = .ok (.if_icmp .eq 60, 3) := by decide +kernel
theorem dX9_find_50 : decode cX9_find 50 = .ok (.aload_n 0, 1) := by decide +kernel
theorem dX9_find_51 : decode cX9_find 51 = .ok (.getfield 86, 3) := by decide +kernel
theorem dX9_find_54 : decode cX9_find 54 = .ok (.iload_n 3, 1) := by decide +kernel
theorem dX9_find_55 : decode cX9_find 55 = .ok (.iaload, 1) := by decide +kernel
theorem dX9_find_56 : decode cX9_find 56 = .ok (.bipush 17, 2) := by decide +kernel
theorem dX9_find_58 : decode cX9_find 58 = .ok (.if_icmp .eq 39, 3) := by decide +kernel
theorem dX9_find_61 : decode cX9_find 61 = .ok (.aload_n 0, 1) := by decide +kernel
theorem dX9_find_62 : decode cX9_find 62 = .ok (.getfield 93, 3) := by decide +kernel
theorem dX9_find_65 : decode cX9_find 65 = .ok (.iload_n 3, 1) := by decide +kernel
theorem dX9_find_66 : decode cX9_find 66 = .ok (.iaload, 1) := by decide +kernel
theorem dX9_find_67 : decode cX9_find 67 = .ok (.aload_n 0, 1) := by decide +kernel
theorem dX9_find_68 : decode cX9_find 68 = .ok (.getfield 18, 3) := by decide +kernel
theorem dX9_find_71 : decode cX9_find 71 = .ok (.if_icmp .ne 26, 3) := by decide +kernel
theorem dX9_find_74 : decode cX9_find 74 = .ok (.aload_n 0, 1) := by decide +kernel
theorem dX9_find_75 : decode cX9_find 75 = .ok (.getfield 90, 3) := by decide +kernel
theorem dX9_find_78 : decode cX9_find 78 = .ok (.bipush 8, 2) := by decide +kernel
theorem dX9_find_80 : decode cX9_find 80 = .ok (.iload_n 3, 1) := by decide +kernel
theorem dX9_find_81 : decode cX9_find 81 = .ok (.imul, 1) := by decide +kernel
theorem dX9_find_82 : decode cX9_find 82 = .ok (.aload_n 0, 1) := by decide +kernel
theorem dX9_find_83 : decode cX9_find 83 = .ok (.getfield 21, 3) := by decide +kernel
theorem dX9_find_86 : decode cX9_find 86 = .ok (.iconst 0, 1) := by decide +kernel
theorem dX9_find_87 : decode cX9_find 87 = .ok (.aload_n 0, 1) := by decide +kernel
theorem dX9_find_88 : decode cX9_find 88 = .ok (.getfield 18, 3) := by decide +kernel
theorem dX9_find_91 : decode cX9_find 91 = .ok (.invokestatic 247, 3) := by decide +kernel
theorem dX9_find_94 : decode cX9_find 94 = .ok (.ifCond .ne 13, 3) := by decide +kernel
theorem dX9_find_97 : decode cX9_find 97 = .ok (.aload_n 0, 1) := by decide +kernel
theorem dX9_find_98 : decode cX9_find 98 = .ok (.iload_n 3, 1) := by decide +kernel
theorem dX9_find_99 : decode cX9_find 99 = .ok (.iconst 0, 1) := by decide +kernel
theorem dX9_find_100 : decode cX9_find 100 = .ok (.invokevirtual 127, 3) := by decide +kernel
theorem dX9_find_103 : decode cX9_find 103 = .ok (.istore_n 3, 1) := by decide +kernel
theorem dX9_find_104 : decode cX9_find 104 = .ok (.goto (-59), 3) := by decide +kernel
theorem dX9_find_107 : decode cX9_find 107 = .ok (.iload_n 3, 1) := by decide +kernel
theorem dX9_find_108 : decode cX9_find 108 = .ok (.ireturn, 1) := by decide +kernel
