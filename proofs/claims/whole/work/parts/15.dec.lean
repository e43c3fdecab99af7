theorem dX9_say_0 : decode cX9_say 0 = .ok (.aload_n 0, 1) := by decide +kernel
theorem dX9_say_1 : decode cX9_say 1 = .ok (.getfield 1, 3) := by decide +kernel
theorem dX9_say_4 : decode cX9_say 4 = .ok (.sipush 8000, 3) := by decide +kernel
theorem dX9_say_7 : decode cX9_say 7 = .ok (.if_icmp .ge 24, 3) := by decide +kernel
theorem dX9_say_10 : decode cX9_say 10 = .ok (.aload_n 0, 1) := by decide +kernel
theorem dX9_say_11 : decode cX9_say 11 = .ok (.getfield 7, 3) := by decide +kernel
theorem dX9_say_14 : decode cX9_say 14 = .ok (.aload_n 0, 1) := by decide +kernel
theorem dX9_say_15 : decode cX9_say 15 = .ok (.getfield 1, 3) := by decide +kernel
theorem dX9_say_18 : decode cX9_say 18 = .ok (.iload_n 1, 1) := by decide +kernel
theorem dX9_say_19 : decode cX9_say 19 = .ok (.i2b, 1) := by decide +kernel
theorem dX9_say_20 : decode cX9_say 20 = .ok (.bastore, 1) := by decide +kernel
theorem dX9_say_21 : decode cX9_say 21 = .ok (.aload_n 0, 1) := by decide +kernel
theorem dX9_say_22 : decode cX9_say 22 = .ok (.dup, 1) := by decide +kernel
theorem dX9_say_23 : decode cX9_say 23 = .ok (.getfield 1, 3) := by decide +kernel
theorem dX9_say_26 : decode cX9_say 26 = .ok (.iconst 1, 1) := by decide +kernel
theorem dX9_say_27 : decode cX9_say 27 = .ok (.iadd, 1) := by decide +kernel
theorem dX9_say_28 : decode cX9_say 28 = .ok (.putfield 1, 3) := by decide +kernel
theorem dX9_say_31 : decode cX9_say 31 = .ok (.return_, 1) := by decide +kernel
theorem dX9_sayAll_0 : decode cX9_sayAll 0 = .ok (.iconst 0, 1) := by decide +kernel
theorem dX9_sayAll_1 : decode cX9_sayAll 1 = .ok (.istore 4, 2) := by decide +kernel
theorem dX9_sayAll_3 : decode cX9_sayAll 3 = .ok (.iload 4, 2) := by decide +kernel
theorem dX9_sayAll_5 : decode cX9_sayAll 5 = .ok (.iload_n 3, 1) := by decide +kernel
theorem dX9_sayAll_6 : decode cX9_sayAll 6 = .ok (.if_icmp .ge 19, 3) := by decide +kernel
theorem dX9_sayAll_9 : decode cX9_sayAll 9 = .ok (.aload_n 0, 1) := by decide +kernel
theorem dX9_sayAll_10 : decode cX9_sayAll 10 = .ok (.aload_n 1, 1) := by decide +kernel
theorem dX9_sayAll_11 : decode cX9_sayAll 11 = .ok (.iload_n 2, 1) := by decide +kernel
theorem dX9_sayAll_12 : decode cX9_sayAll 12 = .ok (.iload 4, 2) := by decide +kernel
theorem dX9_sayAll_14 : decode cX9_sayAll 14 = .ok (.iadd, 1) := by decide +kernel
theorem dX9_sayAll_15 : decode cX9_sayAll 15 = .ok (.baload, 1) := by decide +kernel
theorem dX9_sayAll_16 : decode cX9_sayAll 16 = .ok (.invokevirtual 11, 3) := by decide +kernel
theorem dX9_sayAll_19 : decode cX9_sayAll 19 = .ok (.iinc 4 1, 3) := by decide +kernel
theorem dX9_sayAll_22 : decode cX9_sayAll 22 = .ok (.goto (-19), 3) := by decide +kernel
theorem dX9_sayAll_25 : decode cX9_sayAll 25 = .ok (.return_, 1) := by decide +kernel
theorem dX9_take_0 : decode cX9_take 0 = .ok (.aload_n 0, 1) := by decide +kernel
theorem dX9_take_1 : decode cX9_take 1 = .ok (.aload_n 0, 1) := by decide +kernel
theorem dX9_take_2 : decode cX9_take 2 = .ok (.getfield 15, 3) := by decide +kernel
theorem dX9_take_5 : decode cX9_take 5 = .ok (.putfield 18, 3) := by decide +kernel
theorem dX9_take_8 : decode cX9_take 8 = .ok (.iconst 0, 1) := by decide +kernel
theorem dX9_take_9 : decode cX9_take 9 = .ok (.istore_n 1, 1) := by decide +kernel
theorem dX9_take_10 : decode cX9_take 10 = .ok (.iload_n 1, 1) := by decide +kernel
theorem dX9_take_11 : decode cX9_take 11 = .ok (.aload_n 0, 1) := by decide +kernel
theorem dX9_take_12 : decode cX9_take 12 = .ok (.getfield 18, 3) := by decide +kernel
theorem dX9_take_15 : decode cX9_take 15 = .ok (.if_icmp .ge 21, 3) := by decide +kernel
theorem dX9_take_18 : decode cX9_take 18 = .ok (.aload_n 0, 1) := by decide +kernel
theorem dX9_take_19 : decode cX9_take 19 = .ok (.getfield 21, 3) := by decide +kernel
theorem dX9_take_22 : decode cX9_take 22 = .ok (.iload_n 1, 1) := by decide +kernel
theorem dX9_take_23 : decode cX9_take 23 = .ok (.aload_n 0, 1) := by decide +kernel
theorem dX9_take_24 : decode cX9_take 24 = .ok (.getfield 24, 3) := by decide +kernel
theorem dX9_take_27 : decode cX9_take 27 = .ok (.iload_n 1, 1) := by decide +kernel
theorem dX9_take_28 : decode cX9_take 28 = .ok (.baload, 1) := by decide +kernel
theorem dX9_take_29 : decode cX9_take 29 = .ok (.bastore, 1) := by decide +kernel
theorem dX9_take_30 : decode cX9_take 30 = .ok (.iinc 1 1, 3) := by decide +kernel
theorem dX9_take_33 : decode cX9_take 33 = .ok (.goto (-23), 3) := by decide +kernel
theorem dX9_take_36 : decode cX9_take 36 = .ok (.aload_n 0, 1) := by decide +kernel
theorem dX9_take_37 : decode cX9_take 37 = .ok (.iconst 0, 1) := by decide +kernel
theorem dX9_take_38 : decode cX9_take 38 = .ok (.putfield 15, 3) := by decide +kernel
theorem dX9_take_41 : decode cX9_take 41 = .ok (.iconst 0, 1) := by decide +kernel
theorem dX9_take_42 : decode cX9_take 42 = .ok (.istore_n 1, 1) := by decide +kernel
theorem dX9_take_43 : decode cX9_take 43 = .ok (.iload_n 1, 1) := by decide +kernel
theorem dX9_take_44 : decode cX9_take 44 = .ok (.aload_n 0, 1) := by decide +kernel
theorem dX9_take_45 : decode cX9_take 45 = .ok (.getfield 18, 3) := by decide +kernel
theorem dX9_take_48 : decode cX9_take 48 = .ok (.if_icmp .ge 36, 3) := by decide +kernel
theorem dX9_take_51 : decode cX9_take 51 = .ok (.aload_n 0, 1) := by decide +kernel
theorem dX9_take_52 : decode cX9_take 52 = .ok (.getfield 21, 3) := by decide +kernel
theorem dX9_take_55 : decode cX9_take 55 = .ok (.iload_n 1, 1) := by decide +kernel
theorem dX9_take_56 : decode cX9_take 56 = .ok (.baload, 1) := by decide +kernel
theorem dX9_take_57 : decode cX9_take 57 = .ok (.istore_n 2, 1) := by decide +kernel
theorem dX9_take_58 : decode cX9_take 58 = .ok (.iload_n 2, 1) := by decide +kernel
theorem dX9_take_59 : decode cX9_take 59 = .ok (.bipush 10, 2) := by decide +kernel
theorem dX9_take_61 : decode cX9_take 61 = .ok (.if_icmp .eq 17, 3) := by decide +kernel
theorem dX9_take_64 : decode cX9_take 64 = .ok (.iload_n 2, 1) := by decide +kernel
theorem dX9_take_65 : decode cX9_take 65 = .ok (.bipush 32, 2) := by decide +kernel
theorem dX9_take_67 : decode cX9_take 67 = .ok (.if_icmp .lt 9, 3) := by decide +kernel
theorem dX9_take_70 : decode cX9_take 70 = .ok (.iload_n 2, 1) := by decide +kernel
theorem dX9_take_71 : decode cX9_take 71 = .ok (.bipush 126, 2) := by decide +kernel
theorem dX9_take_73 : decode cX9_take 73 = .ok (.if_icmp .le 5, 3) := by decide +kernel
theorem dX9_take_76 : decode cX9_take 76 = .ok (.iload_n 1, 1) := by decide +kernel
theorem dX9_take_77 : decode cX9_take 77 = .ok (.ireturn, 1) := by decide +kernel
theorem dX9_take_78 : decode cX9_take 78 = .ok (.iinc 1 1, 3) := by decide +kernel
theorem dX9_take_81 : decode cX9_take 81 = .ok (.goto (-38), 3) := by decide +kernel
theorem dX9_take_84 : decode cX9_take 84 = .ok (.iconst (-1), 1) := by decide +kernel
theorem dX9_take_85 : decode cX9_take 85 = .ok (.ireturn, 1) := by decide +kernel
theorem dX9_wrong_0 : decode cX9_wrong 0 = .ok (.sipush (-1000), 3) := by decide +kernel
theorem dX9_wrong_3 : decode cX9_wrong 3 = .ok (.iload_n 0, 1) := by decide +kernel
theorem dX9_wrong_4 : decode cX9_wrong 4 = .ok (.isub, 1) := by decide +kernel
theorem dX9_wrong_5 : decode cX9_wrong 5 = .ok (.ireturn, 1) := by decide +kernel
theorem dX9_isSmall_0 : decode cX9_isSmall 0 = .ok (.iload_n 0, 1) := by decide +kernel
theorem dX9_isSmall_1 : decode cX9_isSmall 1 = .ok (.bipush 97, 2) := by decide +kernel
theorem dX9_isSmall_3 : decode cX9_isSmall 3 = .ok (.if_icmp .lt 13, 3) := by decide +kernel
theorem dX9_isSmall_6 : decode cX9_isSmall 6 = .ok (.iload_n 0, 1) := by decide +kernel
theorem dX9_isSmall_7 : decode cX9_isSmall 7 = .ok (.bipush 122, 2) := by decide +kernel
theorem dX9_isSmall_9 : decode cX9_isSmall 9 = .ok (.if_icmp .gt 7, 3) := by decide +kernel
theorem dX9_isSmall_12 : decode cX9_isSmall 12 = .ok (.iconst 1, 1) := by decide +kernel
theorem dX9_isSmall_13 : decode cX9_isSmall 13 = .ok (.goto 4, 3) := by decide +kernel
theorem dX9_isSmall_16 : decode cX9_isSmall 16 = .ok (.iconst 0, 1) := by decide +kernel
theorem dX9_isSmall_17 : decode cX9_isSmall 17 = .ok (.ireturn, 1) := by decide +kernel
theorem dX9_isDigit_0 : decode cX9_isDigit 0 = .ok (.iload_n 0, 1) := by decide +kernel
theorem dX9_isDigit_1 : decode cX9_isDigit 1 = .ok (.bipush 48, 2) := by decide +kernel
theorem dX9_isDigit_3 : decode cX9_isDigit 3 = .ok (.if_icmp .lt 13, 3) := by decide +kernel
theorem dX9_isDigit_6 : decode cX9_isDigit 6 = .ok (.iload_n 0, 1) := by decide +kernel
theorem dX9_isDigit_7 : decode cX9_isDigit 7 = .ok (.bipush 57, 2) := by decide +kernel
theorem dX9_isDigit_9 : decode cX9_isDigit 9 = .ok (.if_icmp .gt 7, 3) := by decide +kernel
theorem dX9_isDigit_12 : decode cX9_isDigit 12 = .ok (.iconst 1, 1) := by decide +kernel
theorem dX9_isDigit_13 : decode cX9_isDigit 13 = .ok (.goto 4, 3) := by decide +kernel
theorem dX9_isDigit_16 : decode cX9_isDigit 16 = .ok (.iconst 0, 1) := by decide +kernel
theorem dX9_isDigit_17 : decode cX9_isDigit 17 = .ok (.ireturn, 1) := by decide +kernel
theorem dX9_isLetter_0 : decode cX9_isLetter 0 = .ok (.iload_n 0, 1) := by decide +kernel
theorem dX9_isLetter_1 : decode cX9_isLetter 1 = .ok (.invokestatic 27, 3) := by decide +kernel
theorem dX9_isLetter_4 : decode cX9_isLetter 4 = .ok (.ifCond .ne 15, 3) := by decide +kernel
theorem dX9_isLetter_7 : decode cX9_isLetter 7 = .ok (.iload_n 0, 1) := by decide +kernel
theorem dX9_isLetter_8 : decode cX9_isLetter 8 = .ok (.bipush 65, 2) := by decide +kernel
theorem dX9_isLetter_10 : decode cX9_isLetter 10 = .ok (.if_icmp .lt 13, 3) := by decide +kernel
theorem dX9_isLetter_13 : decode cX9_isLetter 13 = .ok (.iload_n 0, 1) := by decide +kernel
theorem dX9_isLetter_14 : decode cX9_isLetter 14 = .ok (.bipush 90, 2) := by decide +kernel
theorem dX9_isLetter_16 : decode cX9_isLetter 16 = .ok (.if_icmp .gt 7, 3) := by decide +kernel
theorem dX9_isLetter_19 : decode cX9_isLetter 19 = .ok (.iconst 1, 1) := by decide +kernel
theorem dX9_isLetter_20 : decode cX9_isLetter 20 = .ok (.goto 4, 3) := by decide +kernel
theorem dX9_isLetter_23 : decode cX9_isLetter 23 = .ok (.iconst 0, 1) := by decide +kernel
theorem dX9_isLetter_24 : decode cX9_isLetter 24 = .ok (.ireturn, 1) := by decide +kernel
theorem dX9_small_0 : decode cX9_small 0 = .ok (.iload_n 0, 1) := by decide +kernel
theorem dX9_small_1 : decode cX9_small 1 = .ok (.bipush 65, 2) := by decide +kernel
theorem dX9_small_3 : decode cX9_small 3 = .ok (.if_icmp .lt 16, 3) := by decide +kernel
theorem dX9_small_6 : decode cX9_small 6 = .ok (.iload_n 0, 1) := by decide +kernel
theorem dX9_small_7 : decode cX9_small 7 = .ok (.bipush 90, 2) := by decide +kernel
theorem dX9_small_9 : decode cX9_small 9 = .ok (.if_icmp .gt 10, 3) := by decide +kernel
theorem dX9_small_12 : decode cX9_small 12 = .ok (.iload_n 0, 1) := by decide +kernel
theorem dX9_small_13 : decode cX9_small 13 = .ok (.bipush 32, 2) := by decide +kernel
theorem dX9_small_15 : decode cX9_small 15 = .ok (.iadd, 1) := by decide +kernel
theorem dX9_small_16 : decode cX9_small 16 = .ok (.goto 4, 3) := by decide +kernel
theorem dX9_small_19 : decode cX9_small 19 = .ok (.iload_n 0, 1) := by decide +kernel
theorem dX9_small_20 : decode cX9_small 20 = .ok (.ireturn, 1) := by decide +kernel
theorem dX9_isBlank_0 : decode cX9_isBlank 0 = .ok (.iload_n 0, 1) := by decide +kernel
theorem dX9_isBlank_1 : decode cX9_isBlank 1 = .ok (.bipush 10, 2) := by decide +kernel
theorem dX9_isBlank_3 : decode cX9_isBlank 3 = .ok (.if_icmp .eq 9, 3) := by decide +kernel
theorem dX9_isBlank_6 : decode cX9_isBlank 6 = .ok (.iload_n 0, 1) := by decide +kernel
theorem dX9_isBlank_7 : decode cX9_isBlank 7 = .ok (.bipush 32, 2) := by decide +kernel
theorem dX9_isBlank_9 : decode cX9_isBlank 9 = .ok (.if_icmp .ne 7, 3) := by decide +kernel
theorem dX9_isBlank_12 : decode cX9_isBlank 12 = .ok (.iconst 1, 1) := by decide +kernel
theorem dX9_isBlank_13 : decode cX9_isBlank 13 = .ok (.goto 4, 3) := by decide +kernel
theorem dX9_isBlank_16 : decode cX9_isBlank 16 = .ok (.iconst 0, 1) := by decide +kernel
theorem dX9_isBlank_17 : decode cX9_isBlank 17 = .ok (.ireturn, 1) := by decide +kernel
theorem dX9_same_0 : decode cX9_same 0 = .ok (.iconst 0, 1) := by decide +kernel
theorem dX9_same_1 : decode cX9_same 1 = .ok (.istore 5, 2) := by decide +kernel
theorem dX9_same_3 : decode cX9_same 3 = .ok (.iload 5, 2) := by decide +kernel
theorem dX9_same_5 : decode cX9_same 5 = .ok (.iload 4, 2) := by decide +kernel
theorem dX9_same_7 : decode cX9_same 7 = .ok (.if_icmp .ge 26, 3) := by decide +kernel
theorem dX9_same_10 : decode cX9_same 10 = .ok (.aload_n 0, 1) := by decide +kernel
theorem dX9_same_11 : decode cX9_same 11 = .ok (.iload_n 1, 1) := by decide +kernel
theorem dX9_same_12 : decode cX9_same 12 = .ok (.iload 5, 2) := by decide +kernel
theorem dX9_same_14 : decode cX9_same 14 = .ok (.iadd, 1) := by decide +kernel
theorem dX9_same_15 : decode cX9_same 15 = .ok (.baload, 1) := by decide +kernel
theorem dX9_same_16 : decode cX9_same 16 = .ok (.aload_n 2, 1) := by decide +kernel
theorem dX9_same_17 : decode cX9_same 17 = .ok (.iload_n 3, 1) := by decide +kernel
theorem dX9_same_18 : decode cX9_same 18 = .ok (.iload 5, 2) := by decide +kernel
theorem dX9_same_20 : decode cX9_same 20 = .ok (.iadd, 1) := by decide +kernel
theorem dX9_same_21 : decode cX9_same 21 = .ok (.baload, 1) := by decide +kernel
theorem dX9_same_22 : decode cX9_same 22 = .ok (.if_icmp .eq 5, 3) := by decide +kernel
theorem dX9_same_25 : decode cX9_same 25 = .ok (.iconst 0, 1) := by decide +kernel
theorem dX9_same_26 : decode cX9_same 26 = .ok (.ireturn, 1) := by decide +kernel
theorem dX9_same_27 : decode cX9_same 27 = .ok (.iinc 5 1, 3) := by decide +kernel
theorem dX9_same_30 : decode cX9_same 30 = .ok (.goto (-27), 3) := by decide +kernel
theorem dX9_same_33 : decode cX9_same 33 = .ok (.iconst 1, 1) := by decide +kernel
theorem dX9_same_34 : decode cX9_same 34 = .ok (.ireturn, 1) := by decide +kernel
theorem dX9_isWord_0 : decode cX9_isWord 0 = .ok (.iload_n 1, 1) := by decide +kernel
theorem dX9_isWord_1 : decode cX9_isWord 1 = .ok (.istore 5, 2) := by decide +kernel
theorem dX9_isWord_3 : decode cX9_isWord 3 = .ok (.lload_n 3, 1) := by decide +kernel
theorem dX9_isWord_4 : decode cX9_isWord 4 = .ok (.lstore 6, 2) := by decide +kernel
theorem dX9_isWord_6 : decode cX9_isWord 6 = .ok (.lload 6, 2) := by decide +kernel
theorem dX9_isWord_8 : decode cX9_isWord 8 = .ok (.lconst 0, 1) := by decide +kernel
theorem dX9_isWord_9 : decode cX9_isWord 9 = .ok (.lcmp, 1) := by decide +kernel
theorem dX9_isWord_10 : decode cX9_isWord 10 = .ok (.ifCond .le 40, 3) := by decide +kernel
theorem dX9_isWord_13 : decode cX9_isWord 13 = .ok (.iload 5, 2) := by decide +kernel
theorem dX9_isWord_15 : decode cX9_isWord 15 = .ok (.iload_n 2, 1) := by decide +kernel
theorem dX9_isWord_16 : decode cX9_isWord 16 = .ok (.if_icmp .ge 20, 3) := by decide +kernel
theorem dX9_isWord_19 : decode cX9_isWord 19 = .ok (.aload_n 0, 1) := by decide +kernel
theorem dX9_isWord_20 : decode cX9_isWord 20 = .ok (.iload 5, 2) := by decide +kernel
theorem dX9_isWord_22 : decode cX9_isWord 22 = .ok (.baload, 1) := by decide +kernel
theorem dX9_isWord_23 : decode cX9_isWord 23 = .ok (.bipush 96, 2) := by decide +kernel
theorem dX9_isWord_25 : decode cX9_isWord 25 = .ok (.lload 6, 2) := by decide +kernel
theorem dX9_isWord_27 : decode cX9_isWord 27 = .ok (.ldc2_w 31, 3) := by decide +kernel
theorem dX9_isWord_30 : decode cX9_isWord 30 = .ok (.land, 1) := by decide +kernel
theorem dX9_isWord_31 : decode cX9_isWord 31 = .ok (.l2i, 1) := by decide +kernel
theorem dX9_isWord_32 : decode cX9_isWord 32 = .ok (.iadd, 1) := by decide +kernel
theorem dX9_isWord_33 : decode cX9_isWord 33 = .ok (.if_icmp .eq 5, 3) := by decide +kernel
theorem dX9_isWord_36 : decode cX9_isWord 36 = .ok (.iconst 0, 1) := by decide +kernel
theorem dX9_isWord_37 : decode cX9_isWord 37 = .ok (.ireturn, 1) := by decide +kernel
theorem dX9_isWord_38 : decode cX9_isWord 38 = .ok (.iinc 5 1, 3) := by decide +kernel
theorem dX9_isWord_41 : decode cX9_isWord 41 = .ok (.lload 6, 2) := by decide +kernel
theorem dX9_isWord_43 : decode cX9_isWord 43 = .ok (.iconst 5, 1) := by decide +kernel
theorem dX9_isWord_44 : decode cX9_isWord 44 = .ok (.lshr, 1) := by decide +kernel
theorem dX9_isWord_45 : decode cX9_isWord 45 = .ok (.lstore 6, 2) := by decide +kernel
theorem dX9_isWord_47 : decode cX9_isWord 47 = .ok (.goto (-41), 3) := by decide +kernel
theorem dX9_isWord_50 : decode cX9_isWord 50 = .ok (.iconst 1, 1) := by decide +kernel
theorem dX9_isWord_51 : decode cX9_isWord 51 = .ok (.ireturn, 1) := by decide +kernel
theorem dX9_lengthOf_0 : decode cX9_lengthOf 0 = .ok (.iconst 0, 1) := by decide +kernel
theorem dX9_lengthOf_1 : decode cX9_lengthOf 1 = .ok (.istore_n 2, 1) := by decide +kernel
theorem dX9_lengthOf_2 : decode cX9_lengthOf 2 = .ok (.lload_n 0, 1) := by decide +kernel
theorem dX9_lengthOf_3 : decode cX9_lengthOf 3 = .ok (.lstore_n 3, 1) := by decide +kernel
theorem dX9_lengthOf_4 : decode cX9_lengthOf 4 = .ok (.lload_n 3, 1) := by decide +kernel
theorem dX9_lengthOf_5 : decode cX9_lengthOf 5 = .ok (.lconst 0, 1) := by decide +kernel
theorem dX9_lengthOf_6 : decode cX9_lengthOf 6 = .ok (.lcmp, 1) := by decide +kernel
theorem dX9_lengthOf_7 : decode cX9_lengthOf 7 = .ok (.ifCond .le 13, 3) := by decide +kernel
theorem dX9_lengthOf_10 : decode cX9_lengthOf 10 = .ok (.iinc 2 1, 3) := by decide +kernel
theorem dX9_lengthOf_13 : decode cX9_lengthOf 13 = .ok (.lload_n 3, 1) := by decide +kernel
theorem dX9_lengthOf_14 : decode cX9_lengthOf 14 = .ok (.iconst 5, 1) := by decide +kernel
theorem dX9_lengthOf_15 : decode cX9_lengthOf 15 = .ok (.lshr, 1) := by decide +kernel
theorem dX9_lengthOf_16 : decode cX9_lengthOf 16 = .ok (.lstore_n 3, 1) := by decide +kernel
theorem dX9_lengthOf_17 : decode cX9_lengthOf 17 = .ok (.goto (-13), 3) := by decide +kernel
theorem dX9_lengthOf_20 : decode cX9_lengthOf 20 = .ok (.iload_n 2, 1) := by decide +kernel
theorem dX9_lengthOf_21 : decode cX9_lengthOf 21 = .ok (.ireturn, 1) := by decide +kernel
theorem dX9_isEmptyTag_0 : decode cX9_isEmptyTag 0 = .ok (.iload_n 0, 1) := by decide +kernel
theorem dX9_isEmptyTag_1 : decode cX9_isEmptyTag 1 = .ok (.bipush 10, 2) := by decide +kernel
theorem dX9_isEmptyTag_3 : decode cX9_isEmptyTag 3 = .ok (.if_icmp .lt 13, 3) := by decide +kernel
theorem dX9_isEmptyTag_6 : decode cX9_isEmptyTag 6 = .ok (.iload_n 0, 1) := by decide +kernel
theorem dX9_isEmptyTag_7 : decode cX9_isEmptyTag 7 = .ok (.bipush 13, 2) := by decide +kernel
theorem dX9_isEmptyTag_9 : decode cX9_isEmptyTag 9 = .ok (.if_icmp .gt 7, 3) := by decide +kernel
theorem dX9_isEmptyTag_12 : decode cX9_isEmptyTag 12 = .ok (.iconst 1, 1) := by decide +kernel
theorem dX9_isEmptyTag_13 : decode cX9_isEmptyTag 13 = .ok (.goto 4, 3) := by decide +kernel
theorem dX9_isEmptyTag_16 : decode cX9_isEmptyTag 16 = .ok (.iconst 0, 1) := by decide +kernel
theorem dX9_isEmptyTag_17 : decode cX9_isEmptyTag 17 = .ok (.ireturn, 1) := by decide +kernel
theorem dX9_isBlockTag_0 : decode cX9_isBlockTag 0 = .ok (.iload_n 0, 1) := by decide +kernel
theorem dX9_isBlockTag_1 : decode cX9_isBlockTag 1 = .ok (.iconst 5, 1) := by decide +kernel
theorem dX9_isBlockTag_2 : decode cX9_isBlockTag 2 = .ok (.if_icmp .le 9, 3) := by decide +kernel
theorem dX9_isBlockTag_5 : decode cX9_isBlockTag 5 = .ok (.iload_n 0, 1) := by decide +kernel
theorem dX9_isBlockTag_6 : decode cX9_isBlockTag 6 = .ok (.bipush 11, 2) := by decide +kernel
theorem dX9_isBlockTag_8 : decode cX9_isBlockTag 8 = .ok (.if_icmp .ne 7, 3) := by decide +kernel
theorem dX9_isBlockTag_11 : decode cX9_isBlockTag 11 = .ok (.iconst 1, 1) := by decide +kernel
theorem dX9_isBlockTag_12 : decode cX9_isBlockTag 12 = .ok (.goto 4, 3) := by decide +kernel
theorem dX9_isBlockTag_15 : decode cX9_isBlockTag 15 = .ok (.iconst 0, 1) := by decide +kernel
theorem dX9_isBlockTag_16 : decode cX9_isBlockTag 16 = .ok (.ireturn, 1) := by decide +kernel
theorem dX9_tagWord_0 : decode cX9_tagWord 0 = .ok (.iload_n 0, 1) := by decide +kernel
theorem dX9_tagWord_1 : decode cX9_tagWord 1 = .ok (.tableswitch 133 0 14 #[75, 79, 83, 87, 91, 95, 99, 103, 105, 109, 113, 117, 121, 125, 129], 75) := by decide +kernel
theorem dX9_tagWord_76 : decode cX9_tagWord 76 = .ok (.ldc2_w 45, 3) := by decide +kernel
theorem dX9_tagWord_79 : decode cX9_tagWord 79 = .ok (.lreturn, 1) := by decide +kernel
theorem dX9_tagWord_80 : decode cX9_tagWord 80 = .ok (.ldc2_w 47, 3) := by decide +kernel
theorem dX9_tagWord_83 : decode cX9_tagWord 83 = .ok (.lreturn, 1) := by decide +kernel
theorem dX9_tagWord_84 : decode cX9_tagWord 84 = .ok (.ldc2_w 49, 3) := by decide +kernel
theorem dX9_tagWord_87 : decode cX9_tagWord 87 = .ok (.lreturn, 1) := by decide +kernel
theorem dX9_tagWord_88 : decode cX9_tagWord 88 = .ok (.ldc2_w 51, 3) := by decide +kernel
theorem dX9_tagWord_91 : decode cX9_tagWord 91 = .ok (.lreturn, 1) := by decide +kernel
theorem dX9_tagWord_92 : decode cX9_tagWord 92 = .ok (.ldc2_w 53, 3) := by decide +kernel
theorem dX9_tagWord_95 : decode cX9_tagWord 95 = .ok (.lreturn, 1) := by decide +kernel
theorem dX9_tagWord_96 : decode cX9_tagWord 96 = .ok (.ldc2_w 55, 3) := by decide +kernel
theorem dX9_tagWord_99 : decode cX9_tagWord 99 = .ok (.lreturn, 1) := by decide +kernel
theorem dX9_tagWord_100 : decode cX9_tagWord 100 = .ok (.ldc2_w 57, 3) := by decide +kernel
theorem dX9_tagWord_103 : decode cX9_tagWord 103 = .ok (.lreturn, 1) := by decide +kernel
theorem dX9_tagWord_104 : decode cX9_tagWord 104 = .ok (.lconst 1, 1) := by decide +kernel
theorem dX9_tagWord_105 : decode cX9_tagWord 105 = .ok (.lreturn, 1) := by decide +kernel
theorem dX9_tagWord_106 : decode cX9_tagWord 106 = .ok (.ldc2_w 59, 3) := by decide +kernel
theorem dX9_tagWord_109 : decode cX9_tagWord 109 = .ok (.lreturn, 1) := by decide +kernel
theorem dX9_tagWord_110 : decode cX9_tagWord 110 = .ok (.ldc2_w 61, 3) := by decide +kernel
theorem dX9_tagWord_113 : decode cX9_tagWord 113 = .ok (.lreturn, 1) := by decide +kernel
theorem dX9_tagWord_114 : decode cX9_tagWord 114 = .ok (.ldc2_w 63, 3) := by decide +kernel
theorem dX9_tagWord_117 : decode cX9_tagWord 117 = .ok (.lreturn, 1) := by decide +kernel
theorem dX9_tagWord_118 : decode cX9_tagWord 118 = .ok (.ldc2_w 65, 3) := by decide +kernel
theorem dX9_tagWord_121 : decode cX9_tagWord 121 = .ok (.lreturn, 1) := by decide +kernel
theorem dX9_tagWord_122 : decode cX9_tagWord 122 = .ok (.ldc2_w 67, 3) := by decide +kernel
theorem dX9_tagWord_125 : decode cX9_tagWord 125 = .ok (.lreturn, 1) := by decide +kernel
theorem dX9_tagWord_126 : decode cX9_tagWord 126 = .ok (.ldc2_w 69, 3) := by decide +kernel
theorem dX9_tagWord_129 : decode cX9_tagWord 129 = .ok (.lreturn, 1) := by decide +kernel
theorem dX9_tagWord_130 : decode cX9_tagWord 130 = .ok (.ldc2_w 71, 3) := by decide +kernel
theorem dX9_tagWord_133 : decode cX9_tagWord 133 = .ok (.lreturn, 1) := by decide +kernel
theorem dX9_tagWord_134 : decode cX9_tagWord 134 = .ok (.ldc2_w 73, 3) := by decide +kernel
theorem dX9_tagWord_137 : decode cX9_tagWord 137 = .ok (.lreturn, 1) := by decide +kernel
theorem dX9_tagOf_0 : decode cX9_tagOf 0 = .ok (.iconst 0, 1) := by decide +kernel
theorem dX9_tagOf_1 : decode cX9_tagOf 1 = .ok (.istore_n 3, 1) := by decide +kernel
theorem dX9_tagOf_2 : decode cX9_tagOf 2 = .ok (.iload_n 3, 1) := by decide +kernel
theorem dX9_tagOf_3 : decode cX9_tagOf 3 = .ok (.bipush 16, 2) := by decide +kernel
theorem dX9_tagOf_5 : decode cX9_tagOf 5 = .ok (.if_icmp .ge 69, 3) := by decide +kernel
theorem dX9_tagOf_8 : decode cX9_tagOf 8 = .ok (.iload_n 3, 1) := by decide +kernel
theorem dX9_tagOf_9 : decode cX9_tagOf 9 = .ok (.invokestatic 33, 3) := by decide +kernel
theorem dX9_tagOf_12 : decode cX9_tagOf 12 = .ok (.lstore 4, 2) := by decide +kernel
theorem dX9_tagOf_14 : decode cX9_tagOf 14 = .ok (.iload_n 3, 1) := by decide +kernel
theorem dX9_tagOf_15 : decode cX9_tagOf 15 = .ok (.iconst 2, 1) := by decide +kernel
theorem dX9_tagOf_16 : decode cX9_tagOf 16 = .ok (.if_icmp .ne 28, 3) := by decide +kernel
theorem dX9_tagOf_19 : decode cX9_tagOf 19 = .ok (.iload_n 2, 1) := by decide +kernel
theorem dX9_tagOf_20 : decode cX9_tagOf 20 = .ok (.iconst 2, 1) := by decide +kernel
theorem dX9_tagOf_21 : decode cX9_tagOf 21 = .ok (.if_icmp .ne 47, 3) := by decide +kernel
theorem dX9_tagOf_24 : decode cX9_tagOf 24 = .ok (.aload_n 0, 1) := by decide +kernel
theorem dX9_tagOf_25 : decode cX9_tagOf 25 = .ok (.iload_n 1, 1) := by decide +kernel
theorem dX9_tagOf_26 : decode cX9_tagOf 26 = .ok (.baload, 1) := by decide +kernel
theorem dX9_tagOf_27 : decode cX9_tagOf 27 = .ok (.bipush 104, 2) := by decide +kernel
theorem dX9_tagOf_29 : decode cX9_tagOf 29 = .ok (.if_icmp .ne 39, 3) := by decide +kernel
theorem dX9_tagOf_32 : decode cX9_tagOf 32 = .ok (.aload_n 0, 1) := by decide +kernel
theorem dX9_tagOf_33 : decode cX9_tagOf 33 = .ok (.iload_n 1, 1) := by decide +kernel
theorem dX9_tagOf_34 : decode cX9_tagOf 34 = .ok (.iconst 1, 1) := by decide +kernel
theorem dX9_tagOf_35 : decode cX9_tagOf 35 = .ok (.iadd, 1) := by decide +kernel
theorem dX9_tagOf_36 : decode cX9_tagOf 36 = .ok (.baload, 1) := by decide +kernel
theorem dX9_tagOf_37 : decode cX9_tagOf 37 = .ok (.bipush 49, 2) := by decide +kernel
theorem dX9_tagOf_39 : decode cX9_tagOf 39 = .ok (.if_icmp .ne 29, 3) := by decide +kernel
theorem dX9_tagOf_42 : decode cX9_tagOf 42 = .ok (.iload_n 3, 1) := by decide +kernel
theorem dX9_tagOf_43 : decode cX9_tagOf 43 = .ok (.ireturn, 1) := by decide +kernel
theorem dX9_tagOf_44 : decode cX9_tagOf 44 = .ok (.lload 4, 2) := by decide +kernel
theorem dX9_tagOf_46 : decode cX9_tagOf 46 = .ok (.invokestatic 37, 3) := by decide +kernel
theorem dX9_tagOf_49 : decode cX9_tagOf 49 = .ok (.iload_n 2, 1) := by decide +kernel
theorem dX9_tagOf_50 : decode cX9_tagOf 50 = .ok (.if_icmp .ne 18, 3) := by decide +kernel
theorem dX9_tagOf_53 : decode cX9_tagOf 53 = .ok (.aload_n 0, 1) := by decide +kernel
theorem dX9_tagOf_54 : decode cX9_tagOf 54 = .ok (.iload_n 1, 1) := by decide +kernel
theorem dX9_tagOf_55 : decode cX9_tagOf 55 = .ok (.iload_n 1, 1) := by decide +kernel
theorem dX9_tagOf_56 : decode cX9_tagOf 56 = .ok (.iload_n 2, 1) := by decide +kernel
theorem dX9_tagOf_57 : decode cX9_tagOf 57 = .ok (.iadd, 1) := by decide +kernel
theorem dX9_tagOf_58 : decode cX9_tagOf 58 = .ok (.lload 4, 2) := by decide +kernel
theorem dX9_tagOf_60 : decode cX9_tagOf 60 = .ok (.invokestatic 41, 3) := by decide +kernel
theorem dX9_tagOf_63 : decode cX9_tagOf 63 = .ok (.ifCond .eq 5, 3) := by decide +kernel
theorem dX9_tagOf_66 : decode cX9_tagOf 66 = .ok (.iload_n 3, 1) := by decide +kernel
theorem dX9_tagOf_67 : decode cX9_tagOf 67 = .ok (.ireturn, 1) := by decide +kernel
theorem dX9_tagOf_68 : decode cX9_tagOf 68 = .ok (.iinc 3 1, 3) := by decide +kernel
theorem dX9_tagOf_71 : decode cX9_tagOf 71 = .ok (.goto (-69), 3) := by decide +kernel
theorem dX9_tagOf_74 : decode cX9_tagOf 74 = .ok (.bipush 16, 2) := by decide +kernel
theorem dX9_tagOf_76 : decode cX9_tagOf 76 = .ok (.ireturn, 1) := by decide +kernel
theorem dX9_fresh_0 : decode cX9_fresh 0 = .ok (.iload_n 1, 1) := by decide +kernel
theorem dX9_fresh_1 : decode cX9_fresh 1 = .ok (.iconst (-1), 1) := by decide +kernel
theorem dX9_fresh_2 : decode cX9_fresh 2 = .ok (.if_icmp .ne 7, 3) := by decide +kernel
theorem dX9_fresh_5 : decode cX9_fresh 5 = .ok (.iconst 0, 1) := by decide +kernel
theorem dX9_fresh_6 : decode cX9_fresh 6 = .ok (.goto 11, 3) := by decide +kernel
theorem dX9_fresh_9 : decode cX9_fresh 9 = .ok (.aload_n 0, 1) := by decide +kernel
theorem dX9_fresh_10 : decode cX9_fresh 10 = .ok (.getfield 96, 3) := by decide +kernel
theorem dX9_fresh_13 : decode cX9_fresh 13 = .ok (.iload_n 1, 1) := by decide +kernel
theorem dX9_fresh_14 : decode cX9_fresh 14 = .ok (.iaload, 1) := by decide +kernel
theorem dX9_fresh_15 : decode cX9_fresh 15 = .ok (.iconst 1, 1) := by decide +kernel
theorem dX9_fresh_16 : decode cX9_fresh 16 = .ok (.iadd, 1) := by decide +kernel
theorem dX9_fresh_17 : decode cX9_fresh 17 = .ok (.istore_n 2, 1) := by decide +kernel
theorem dX9_fresh_18 : decode cX9_fresh 18 = .ok (.iconst 0, 1) := by decide +kernel
theorem dX9_fresh_19 : decode cX9_fresh 19 = .ok (.istore_n 3, 1) := by decide +kernel
theorem dX9_fresh_20 : decode cX9_fresh 20 = .ok (.iload_n 3, 1) := by decide +kernel
theorem dX9_fresh_21 : decode cX9_fresh 21 = .ok (.bipush 120, 2) := by decide +kernel
theorem dX9_fresh_23 : decode cX9_fresh 23 = .ok (.if_icmp .ge 18, 3) := by decide +kernel
theorem dX9_fresh_26 : decode cX9_fresh 26 = .ok (.aload_n 0, 1) := by decide +kernel
theorem dX9_fresh_27 : decode cX9_fresh 27 = .ok (.getfield 75, 3) := by decide +kernel
theorem dX9_fresh_30 : decode cX9_fresh 30 = .ok (.iload_n 3, 1) := by decide +kernel
theorem dX9_fresh_31 : decode cX9_fresh 31 = .ok (.baload, 1) := by decide +kernel
theorem dX9_fresh_32 : decode cX9_fresh 32 = .ok (.ifCond .eq 9, 3) := by decide +kernel
theorem dX9_fresh_35 : decode cX9_fresh 35 = .ok (.iinc 3 1, 3) := by decide +kernel
theorem dX9_fresh_38 : decode cX9_fresh 38 = .ok (.goto (-18), 3) := by decide +kernel
theorem dX9_fresh_41 : decode cX9_fresh 41 = .ok (.iload_n 3, 1) := by decide +kernel
theorem dX9_fresh_42 : decode cX9_fresh 42 = .ok (.bipush 120, 2) := by decide +kernel
theorem dX9_fresh_44 : decode cX9_fresh 44 = .ok (.if_icmp .eq 9, 3) := by decide +kernel
theorem dX9_fresh_47 : decode cX9_fresh 47 = .ok (.iload_n 2, 1) := by decide +kernel
theorem dX9_fresh_48 : decode cX9_fresh 48 = .ok (.bipush 20, 2) := by decide +kernel
theorem dX9_fresh_50 : decode cX9_fresh 50 = .ok (.if_icmp .le 5, 3) := by decide +kernel
theorem dX9_fresh_53 : decode cX9_fresh 53 = .ok (.iconst (-1), 1) := by decide +kernel
theorem dX9_fresh_54 : decode cX9_fresh 54 = .ok (.ireturn, 1) := by decide +kernel
theorem dX9_fresh_55 : decode cX9_fresh 55 = .ok (.aload_n 0, 1) := by decide +kernel
theorem dX9_fresh_56 : decode cX9_fresh 56 = .ok (.getfield 75, 3) := by decide +kernel
theorem dX9_fresh_59 : decode cX9_fresh 59 = .ok (.iload_n 3, 1) := by decide +kernel
theorem dX9_fresh_60 : decode cX9_fresh 60 = .ok (.iconst 1, 1) := by decide +kernel
theorem dX9_fresh_61 : decode cX9_fresh 61 = .ok (.bastore, 1) := by decide +kernel
theorem dX9_fresh_62 : decode cX9_fresh 62 = .ok (.aload_n 0, 1) := by decide +kernel
theorem dX9_fresh_63 : decode cX9_fresh 63 = .ok (.dup, 1) := by decide +kernel
theorem dX9_fresh_64 : decode cX9_fresh 64 = .ok (.getfield 79, 3) := by decide +kernel
theorem dX9_fresh_67 : decode cX9_fresh 67 = .ok (.iconst 1, 1) := by decide +kernel
theorem dX9_fresh_68 : decode cX9_fresh 68 = .ok (.iadd, 1) := by decide +kernel
theorem dX9_fresh_69 : decode cX9_fresh 69 = .ok (.putfield 79, 3) := by decide +kernel
theorem dX9_fresh_72 : decode cX9_fresh 72 = .ok (.aload_n 0, 1) := by decide +kernel
theorem dX9_fresh_73 : decode cX9_fresh 73 = .ok (.getfield 96, 3) := by decide +kernel
theorem dX9_fresh_76 : decode cX9_fresh 76 = .ok (.iload_n 3, 1) := by decide +kernel
theorem dX9_fresh_77 : decode cX9_fresh 77 = .ok (.iload_n 2, 1) := by decide +kernel
theorem dX9_fresh_78 : decode cX9_fresh 78 = .ok (.iastore, 1) := by decide +kernel
theorem dX9_fresh_79 : decode cX9_fresh 79 = .ok (.aload_n 0, 1) := by decide +kernel
theorem dX9_fresh_80 : decode cX9_fresh 80 = .ok (.getfield 99, 3) := by decide +kernel
theorem dX9_fresh_83 : decode cX9_fresh 83 = .ok (.iload_n 3, 1) := by decide +kernel
theorem dX9_fresh_84 : decode cX9_fresh 84 = .ok (.iload_n 1, 1) := by decide +kernel
theorem dX9_fresh_85 : decode cX9_fresh 85 = .ok (.iastore, 1) := by decide +kernel
theorem dX9_fresh_86 : decode cX9_fresh 86 = .ok (.aload_n 0, 1) := by decide +kernel
theorem dX9_fresh_87 : decode cX9_fresh 87 = .ok (.getfield 102, 3) := by decide +kernel
theorem dX9_fresh_90 : decode cX9_fresh 90 = .ok (.iload_n 3, 1) := by decide +kernel
theorem dX9_fresh_91 : decode cX9_fresh 91 = .ok (.iconst (-1), 1) := by decide +kernel
theorem dX9_fresh_92 : decode cX9_fresh 92 = .ok (.iastore, 1) := by decide +kernel
theorem dX9_fresh_93 : decode cX9_fresh 93 = .ok (.aload_n 0, 1) := by decide +kernel
theorem dX9_fresh_94 : decode cX9_fresh 94 = .ok (.getfield 105, 3) := by decide +kernel
theorem dX9_fresh_97 : decode cX9_fresh 97 = .ok (.iload_n 3, 1) := by decide +kernel
theorem dX9_fresh_98 : decode cX9_fresh 98 = .ok (.iconst (-1), 1) := by decide +kernel
theorem dX9_fresh_99 : decode cX9_fresh 99 = .ok (.iastore, 1) := by decide +kernel
theorem dX9_fresh_100 : decode cX9_fresh 100 = .ok (.aload_n 0, 1) := by decide +kernel
theorem dX9_fresh_101 : decode cX9_fresh 101 = .ok (.getfield 108, 3) := by decide +kernel
theorem dX9_fresh_104 : decode cX9_fresh 104 = .ok (.iload_n 3, 1) := by decide +kernel
theorem dX9_fresh_105 : decode cX9_fresh 105 = .ok (.iconst (-1), 1) := by decide +kernel
theorem dX9_fresh_106 : decode cX9_fresh 106 = .ok (.iastore, 1) := by decide +kernel
theorem dX9_fresh_107 : decode cX9_fresh 107 = .ok (.aload_n 0, 1) := by decide +kernel
theorem dX9_fresh_108 : decode cX9_fresh 108 = .ok (.getfield 111, 3) := by decide +kernel
theorem dX9_fresh_111 : decode cX9_fresh 111 = .ok (.iload_n 3, 1) := by decide +kernel
theorem dX9_fresh_112 : decode cX9_fresh 112 = .ok (.iconst (-1), 1) := by decide +kernel
theorem dX9_fresh_113 : decode cX9_fresh 113 = .ok (.iastore, 1) := by decide +kernel
theorem dX9_fresh_114 : decode cX9_fresh 114 = .ok (.aload_n 0, 1) := by decide +kernel
theorem dX9_fresh_115 : decode cX9_fresh 115 = .ok (.getfield 114, 3) := by decide +kernel
theorem dX9_fresh_118 : decode cX9_fresh 118 = .ok (.iload_n 3, 1) := by decide +kernel
theorem dX9_fresh_119 : decode cX9_fresh 119 = .ok (.iconst 0, 1) := by decide +kernel
theorem dX9_fresh_120 : decode cX9_fresh 120 = .ok (.iastore, 1) := by decide +kernel
theorem dX9_fresh_121 : decode cX9_fresh 121 = .ok (.aload_n 0, 1) := by decide +kernel
theorem dX9_fresh_122 : decode cX9_fresh 122 = .ok (.getfield 117, 3) := by decide +kernel
theorem dX9_fresh_125 : decode cX9_fresh 125 = .ok (.iload_n 3, 1) := by decide +kernel
theorem dX9_fresh_126 : decode cX9_fresh 126 = .ok (.iconst 0, 1) := by decide +kernel
theorem dX9_fresh_127 : decode cX9_fresh 127 = .ok (.iastore, 1) := by decide +kernel
theorem dX9_fresh_128 : decode cX9_fresh 128 = .ok (.aload_n 0, 1) := by decide +kernel
theorem dX9_fresh_129 : decode cX9_fresh 129 = .ok (.getfield 120, 3) := by decide +kernel
theorem dX9_fresh_132 : decode cX9_fresh 132 = .ok (.iload_n 3, 1) := by decide +kernel
theorem dX9_fresh_133 : decode cX9_fresh 133 = .ok (.iconst 0, 1) := by decide +kernel
theorem dX9_fresh_134 : decode cX9_fresh 134 = .ok (.bastore, 1) := by decide +kernel
theorem dX9_fresh_135 : decode cX9_fresh 135 = .ok (.aload_n 0, 1) := by decide +kernel
theorem dX9_fresh_136 : decode cX9_fresh 136 = .ok (.getfield 93, 3) := by decide +kernel
theorem dX9_fresh_139 : decode cX9_fresh 139 = .ok (.iload_n 3, 1) := by decide +kernel
theorem dX9_fresh_140 : decode cX9_fresh 140 = .ok (.iconst 0, 1) := by decide +kernel
theorem dX9_fresh_141 : decode cX9_fresh 141 = .ok (.iastore, 1) := by decide +kernel
theorem dX9_fresh_142 : decode cX9_fresh 142 = .ok (.iload_n 1, 1) := by decide +kernel
theorem dX9_fresh_143 : decode cX9_fresh 143 = .ok (.iconst (-1), 1) := by decide +kernel
theorem dX9_fresh_144 : decode cX9_fresh 144 = .ok (.if_icmp .eq 54, 3) := by decide +kernel
theorem dX9_fresh_147 : decode cX9_fresh 147 = .ok (.aload_n 0, 1) := by decide +kernel
theorem dX9_fresh_148 : decode cX9_fresh 148 = .ok (.getfield 111, 3) := by decide +kernel
theorem dX9_fresh_151 : decode cX9_fresh 151 = .ok (.iload_n 3, 1) := by decide +kernel
theorem dX9_fresh_152 : decode cX9_fresh 152 = .ok (.aload_n 0, 1) := by decide +kernel
theorem dX9_fresh_153 : decode cX9_fresh 153 = .ok (.getfield 105, 3) := by decide +kernel
theorem dX9_fresh_156 : decode cX9_fresh 156 = .ok (.iload_n 1, 1) := by decide +kernel
theorem dX9_fresh_157 : decode cX9_fresh 157 = .ok (.iaload, 1) := by decide +kernel
theorem dX9_fresh_158 : decode cX9_fresh 158 = .ok (.iastore, 1) := by decide +kernel
theorem dX9_fresh_159 : decode cX9_fresh 159 = .ok (.aload_n 0, 1) := by decide +kernel
theorem dX9_fresh_160 : decode cX9_fresh 160 = .ok (.getfield 105, 3) := by decide +kernel
theorem dX9_fresh_163 : decode cX9_fresh 163 = .ok (.iload_n 1, 1) := by decide +kernel
theorem dX9_fresh_164 : decode cX9_fresh 164 = .ok (.iaload, 1) := by decide +kernel
theorem dX9_fresh_165 : decode cX9_fresh 165 = .ok (.iconst (-1), 1) := by decide +kernel
theorem dX9_fresh_166 : decode cX9_fresh 166 = .ok (.if_icmp .ne 13, 3) := by decide +kernel
theorem dX9_fresh_169 : decode cX9_fresh 169 = .ok (.aload_n 0, 1) := by decide +kernel
theorem dX9_fresh_170 : decode cX9_fresh 170 = .ok (.getfield 102, 3) := by decide +kernel
theorem dX9_fresh_173 : decode cX9_fresh 173 = .ok (.iload_n 1, 1) := by decide +kernel
theorem dX9_fresh_174 : decode cX9_fresh 174 = .ok (.iload_n 3, 1) := by decide +kernel
theorem dX9_fresh_175 : decode cX9_fresh 175 = .ok (.iastore, 1) := by decide +kernel
theorem dX9_fresh_176 : decode cX9_fresh 176 = .ok (.goto 15, 3) := by decide +kernel
theorem dX9_fresh_179 : decode cX9_fresh 179 = .ok (.aload_n 0, 1) := by decide +kernel
theorem dX9_fresh_180 : decode cX9_fresh 180 = .ok (.getfield 108, 3) := by decide +kernel
theorem dX9_fresh_183 : decode cX9_fresh 183 = .ok (.aload_n 0, 1) := by decide +kernel
theorem dX9_fresh_184 : decode cX9_fresh 184 = .ok (.getfield 105, 3) := by decide +kernel
theorem dX9_fresh_187 : decode cX9_fresh 187 = .ok (.iload_n 1, 1) := by decide +kernel
theorem dX9_fresh_188 : decode cX9_fresh 188 = .ok (.iaload, 1) := by decide +kernel
theorem dX9_fresh_189 : decode cX9_fresh 189 = .ok (.iload_n 3, 1) := by decide +kernel
theorem dX9_fresh_190 : decode cX9_fresh 190 = .ok (.iastore, 1) := by decide +kernel
theorem dX9_fresh_191 : decode cX9_fresh 191 = .ok (.aload_n 0, 1) := by decide +kernel
theorem dX9_fresh_192 : decode cX9_fresh 192 = .ok (.getfield 105, 3) := by decide +kernel
theorem dX9_fresh_195 : decode cX9_fresh 195 = .ok (.iload_n 1, 1) := by decide +kernel
theorem dX9_fresh_196 : decode cX9_fresh 196 = .ok (.iload_n 3, 1) := by decide +kernel
theorem dX9_fresh_197 : decode cX9_fresh 197 = .ok (.iastore, 1) := by decide +kernel
theorem dX9_fresh_198 : decode cX9_fresh 198 = .ok (.iload_n 3, 1) := by decide +kernel
theorem dX9_fresh_199 : decode cX9_fresh 199 = .ok (.ireturn, 1) := by decide +kernel
theorem dX9_emptyTree_0 : decode cX9_emptyTree 0 = .ok (.iconst 0, 1) := by decide +kernel
theorem dX9_emptyTree_1 : decode cX9_emptyTree 1 = .ok (.istore_n 1, 1) := by decide +kernel
theorem dX9_emptyTree_2 : decode cX9_emptyTree 2 = .ok (.iload_n 1, 1) := by decide +kernel
theorem dX9_emptyTree_3 : decode cX9_emptyTree 3 = .ok (.bipush 120, 2) := by decide +kernel
theorem dX9_emptyTree_5 : decode cX9_emptyTree 5 = .ok (.if_icmp .ge 16, 3) := by decide +kernel
theorem dX9_emptyTree_8 : decode cX9_emptyTree 8 = .ok (.aload_n 0, 1) := by decide +kernel
theorem dX9_emptyTree_9 : decode cX9_emptyTree 9 = .ok (.getfield 75, 3) := by decide +kernel
theorem dX9_emptyTree_12 : decode cX9_emptyTree 12 = .ok (.iload_n 1, 1) := by decide +kernel
theorem dX9_emptyTree_13 : decode cX9_emptyTree 13 = .ok (.iconst 0, 1) := by decide +kernel
theorem dX9_emptyTree_14 : decode cX9_emptyTree 14 = .ok (.bastore, 1) := by decide +kernel
theorem dX9_emptyTree_15 : decode cX9_emptyTree 15 = .ok (.iinc 1 1, 3) := by decide +kernel
theorem dX9_emptyTree_18 : decode cX9_emptyTree 18 = .ok (.goto (-16), 3) := by decide +kernel
theorem dX9_emptyTree_21 : decode cX9_emptyTree 21 = .ok (.aload_n 0, 1) := by decide +kernel
theorem dX9_emptyTree_22 : decode cX9_emptyTree 22 = .ok (.iconst 0, 1) := by decide +kernel
theorem dX9_emptyTree_23 : decode cX9_emptyTree 23 = .ok (.putfield 79, 3) := by decide +kernel
theorem dX9_emptyTree_26 : decode cX9_emptyTree 26 = .ok (.aload_n 0, 1) := by decide +kernel
theorem dX9_emptyTree_27 : decode cX9_emptyTree 27 = .ok (.iconst (-1), 1) := by decide +kernel
theorem dX9_emptyTree_28 : decode cX9_emptyTree 28 = .ok (.invokevirtual 82, 3) := by decide +kernel
theorem dX9_emptyTree_31 : decode cX9_emptyTree 31 = .ok (.istore_n 1, 1) := by decide +kernel
theorem dX9_emptyTree_32 : decode cX9_emptyTree 32 = .ok (.aload_n 0, 1) := by decide +kernel
theorem dX9_emptyTree_33 : decode cX9_emptyTree 33 = .ok (.getfield 86, 3) := by decide +kernel
theorem dX9_emptyTree_36 : decode cX9_emptyTree 36 = .ok (.iload_n 1, 1) := by decide +kernel
theorem dX9_emptyTree_37 : decode cX9_emptyTree 37 = .ok (.iconst 0, 1) := by decide +kernel
theorem dX9_emptyTree_38 : decode cX9_emptyTree 38 = .ok (.iastore, 1) := by decide +kernel
theorem dX9_emptyTree_39 : decode cX9_emptyTree 39 = .ok (.aload_n 0, 1) := by decide +kernel
theorem dX9_emptyTree_40 : decode cX9_emptyTree 40 = .ok (.getfield 90, 3) := by decide +kernel
theorem dX9_emptyTree_43 : decode cX9_emptyTree 43 = .ok (.iconst 0, 1) := by decide +kernel
theorem dX9_emptyTree_44 : decode cX9_emptyTree 44 = .ok (.bipush 100, 2) := by decide +kernel
theorem dX9_emptyTree_46 : decode cX9_emptyTree 46 = .ok (.bastore, 1) := by decide +kernel
theorem dX9_emptyTree_47 : decode cX9_emptyTree 47 = .ok (.aload_n 0, 1) := by decide +kernel
theorem dX9_emptyTree_48 : decode cX9_emptyTree 48 = .ok (.getfield 90, 3) := by decide +kernel
theorem dX9_emptyTree_51 : decode cX9_emptyTree 51 = .ok (.iconst 1, 1) := by decide +kernel
theorem dX9_emptyTree_52 : decode cX9_emptyTree 52 = .ok (.bipush 105, 2) := by decide +kernel
theorem dX9_emptyTree_54 : decode cX9_emptyTree 54 = .ok (.bastore, 1) := by decide +kernel
theorem dX9_emptyTree_55 : decode cX9_emptyTree 55 = .ok (.aload_n 0, 1) := by decide +kernel
theorem dX9_emptyTree_56 : decode cX9_emptyTree 56 = .ok (.getfield 90, 3) := by decide +kernel
theorem dX9_emptyTree_59 : decode cX9_emptyTree 59 = .ok (.iconst 2, 1) := by decide +kernel
theorem dX9_emptyTree_60 : decode cX9_emptyTree 60 = .ok (.bipush 118, 2) := by decide +kernel
theorem dX9_emptyTree_62 : decode cX9_emptyTree 62 = .ok (.bastore, 1) := by decide +kernel
theorem dX9_emptyTree_63 : decode cX9_emptyTree 63 = .ok (.aload_n 0, 1) := by decide +kernel
theorem dX9_emptyTree_64 : decode cX9_emptyTree 64 = .ok (.getfield 93, 3) := by decide +kernel
theorem dX9_emptyTree_67 : decode cX9_emptyTree 67 = .ok (.iconst 0, 1) := by decide +kernel
theorem dX9_emptyTree_68 : decode cX9_emptyTree 68 = .ok (.iconst 3, 1) := by decide +kernel
theorem dX9_emptyTree_69 : decode cX9_emptyTree 69 = .ok (.iastore, 1) := by decide +kernel
theorem dX9_emptyTree_70 : decode cX9_emptyTree 70 = .ok (.return_, 1) := by decide +kernel
theorem dX9_behind_0 : decode cX9_behind 0 = .ok (.iload_n 1, 1) := by decide +kernel
theorem dX9_behind_1 : decode cX9_behind 1 = .ok (.istore_n 3, 1) := by decide +kernel
theorem dX9_behind_2 : decode cX9_behind 2 = .ok (.iload_n 3, 1) := by decide +kernel
theorem dX9_behind_3 : decode cX9_behind 3 = .ok (.iload_n 2, 1) := by decide +kernel
theorem dX9_behind_4 : decode cX9_behind 4 = .ok (.if_icmp .eq 23, 3) := by decide +kernel
theorem dX9_behind_7 : decode cX9_behind 7 = .ok (.aload_n 0, 1) := by decide +kernel
theorem dX9_behind_8 : decode cX9_behind 8 = .ok (.getfield 108, 3) := by decide +kernel
theorem dX9_behind_11 : decode cX9_behind 11 = .ok (.iload_n 3, 1) := by decide +kernel
theorem dX9_behind_12 : decode cX9_behind 12 = .ok (.iaload, 1) := by decide +kernel
theorem dX9_behind_13 : decode cX9_behind 13 = .ok (.iconst (-1), 1) := by decide +kernel
theorem dX9_behind_14 : decode cX9_behind 14 = .ok (.if_icmp .ne 13, 3) := by decide +kernel
theorem dX9_behind_17 : decode cX9_behind 17 = .ok (.aload_n 0, 1) := by decide +kernel
theorem dX9_behind_18 : decode cX9_behind 18 = .ok (.getfield 99, 3) := by decide +kernel
theorem dX9_behind_21 : decode cX9_behind 21 = .ok (.iload_n 3, 1) := by decide +kernel
theorem dX9_behind_22 : decode cX9_behind 22 = .ok (.iaload, 1) := by decide +kernel
theorem dX9_behind_23 : decode cX9_behind 23 = .ok (.istore_n 3, 1) := by decide +kernel
theorem dX9_behind_24 : decode cX9_behind 24 = .ok (.goto (-22), 3) := by decide +kernel
theorem dX9_behind_27 : decode cX9_behind 27 = .ok (.iload_n 3, 1) := by decide +kernel
theorem dX9_behind_28 : decode cX9_behind 28 = .ok (.iload_n 2, 1) := by decide +kernel
theorem dX9_behind_29 : decode cX9_behind 29 = .ok (.if_icmp .ne 7, 3) := by decide +kernel
theorem dX9_behind_32 : decode cX9_behind 32 = .ok (.iconst (-1), 1) := by decide +kernel
theorem dX9_behind_33 : decode cX9_behind 33 = .ok (.goto 9, 3) := by decide +kernel
theorem dX9_behind_36 : decode cX9_behind 36 = .ok (.aload_n 0, 1) := by decide +kernel
theorem dX9_behind_37 : decode cX9_behind 37 = .ok (.getfield 108, 3) := by decide +kernel
theorem dX9_behind_40 : decode cX9_behind 40 = .ok (.iload_n 3, 1) := by decide +kernel
theorem dX9_behind_41 : decode cX9_behind 41 = .ok (.iaload, 1) := by decide +kernel
theorem dX9_behind_42 : decode cX9_behind 42 = .ok (.ireturn, 1) := by decide +kernel
theorem dX9_after_0 : decode cX9_after 0 = .ok (.aload_n 0, 1) := by decide +kernel
theorem dX9_after_1 : decode cX9_after 1 = .ok (.getfield 102, 3) := by decide +kernel
theorem dX9_after_4 : decode cX9_after 4 = .ok (.iload_n 1, 1) := by decide +kernel
theorem dX9_after_5 : decode cX9_after 5 = .ok (.iaload, 1) := by decide +kernel
theorem dX9_after_6 : decode cX9_after 6 = .ok (.iconst (-1), 1) := by decide +kernel
theorem dX9_after_7 : decode cX9_after 7 = .ok (.if_icmp .eq 10, 3) := by decide +kernel
theorem dX9_after_10 : decode cX9_after 10 = .ok (.aload_n 0, 1) := by decide +kernel
theorem dX9_after_11 : decode cX9_after 11 = .ok (.getfield 102, 3) := by decide +kernel
theorem dX9_after_14 : decode cX9_after 14 = .ok (.iload_n 1, 1) := by decide +kernel
theorem dX9_after_15 : decode cX9_after 15 = .ok (.iaload, 1) := by decide +kernel
theorem dX9_after_16 : decode cX9_after 16 = .ok (.ireturn, 1) := by decide +kernel
theorem dX9_after_17 : decode cX9_after 17 = .ok (.aload_n 0, 1) := by decide +kernel
theorem dX9_after_18 : decode cX9_after 18 = .ok (.iload_n 1, 1) := by decide +kernel
theorem dX9_after_19 : decode cX9_after 19 = .ok (.iload_n 2, 1) := by decide +kernel
theorem dX9_after_20 : decode cX9_after 20 = .ok (.invokevirtual 123, 3) := by decide +kernel
theorem dX9_after_23 : decode cX9_after 23 = .ok (.ireturn, 1) := by decide +kernel
theorem dX9_remove0_0 : decode cX9_remove0 0 = .ok (.aload_n 0, 1) := by decide +kernel
theorem dX9_remove0_1 : decode cX9_remove0 1 = .ok (.getfield 111, 3) := by decide +kernel
theorem dX9_remove0_4 : decode cX9_remove0 4 = .ok (.iload_n 1, 1) := by decide +kernel
theorem dX9_remove0_5 : decode cX9_remove0 5 = .ok (.iaload, 1) := by decide +kernel
theorem dX9_remove0_6 : decode cX9_remove0 6 = .ok (.iconst (-1), 1) := by decide +kernel
theorem dX9_remove0_7 : decode cX9_remove0 7 = .ok (.if_icmp .ne 23, 3) := by decide +kernel
theorem dX9_remove0_10 : decode cX9_remove0 10 = .ok (.aload_n 0, 1) := by decide +kernel
theorem dX9_remove0_11 : decode cX9_remove0 11 = .ok (.getfield 102, 3) := by decide +kernel
theorem dX9_remove0_14 : decode cX9_remove0 14 = .ok (.aload_n 0, 1) := by decide +kernel
theorem dX9_remove0_15 : decode cX9_remove0 15 = .ok (.getfield 99, 3) := by decide +kernel
theorem dX9_remove0_18 : decode cX9_remove0 18 = .ok (.iload_n 1, 1) := by decide +kernel
theorem dX9_remove0_19 : decode cX9_remove0 19 = .ok (.iaload, 1) := by decide +kernel
theorem dX9_remove0_20 : decode cX9_remove0 20 = .ok (.aload_n 0, 1) := by decide +kernel
theorem dX9_remove0_21 : decode cX9_remove0 21 = .ok (.getfield 108, 3) := by decide +kernel
theorem dX9_remove0_24 : decode cX9_remove0 24 = .ok (.iload_n 1, 1) := by decide +kernel
theorem dX9_remove0_25 : decode cX9_remove0 25 = .ok (.iaload, 1) := by decide +kernel
theorem dX9_remove0_26 : decode cX9_remove0 26 = .ok (.iastore, 1) := by decide +kernel
theorem dX9_remove0_27 : decode cX9_remove0 27 = .ok (.goto 20, 3) := by decide +kernel
theorem dX9_remove0_30 : decode cX9_remove0 30 = .ok (.aload_n 0, 1) := by decide +kernel
theorem dX9_remove0_31 : decode cX9_remove0 31 = .ok (.getfield 108, 3) := by decide +kernel
theorem dX9_remove0_34 : decode cX9_remove0 34 = .ok (.aload_n 0, 1) := by decide +kernel
theorem dX9_remove0_35 : decode cX9_remove0 35 = .ok (.getfield 111, 3) := by decide +kernel
theorem dX9_remove0_38 : decode cX9_remove0 38 = .ok (.iload_n 1, 1) := by decide +kernel
theorem dX9_remove0_39 : decode cX9_remove0 39 = .ok (.iaload, 1) := by decide +kernel
theorem dX9_remove0_40 : decode cX9_remove0 40 = .ok (.aload_n 0, 1) := by decide +kernel
theorem dX9_remove0_41 : decode cX9_remove0 41 = .ok (.getfield 108, 3) := by decide +kernel
theorem dX9_remove0_44 : decode cX9_remove0 44 = .ok (.iload_n 1, 1) := by decide +kernel
theorem dX9_remove0_45 : decode cX9_remove0 45 = .ok (.iaload, 1) := by decide +kernel
theorem dX9_remove0_46 : decode cX9_remove0 46 = .ok (.iastore, 1) := by decide +kernel
theorem dX9_remove0_47 : decode cX9_remove0 47 = .ok (.aload_n 0, 1) := by decide +kernel
theorem dX9_remove0_48 : decode cX9_remove0 48 = .ok (.getfield 108, 3) := by decide +kernel
theorem dX9_remove0_51 : decode cX9_remove0 51 = .ok (.iload_n 1, 1) := by decide +kernel
theorem dX9_remove0_52 : decode cX9_remove0 52 = .ok (.iaload, 1) := by decide +kernel
theorem dX9_remove0_53 : decode cX9_remove0 53 = .ok (.iconst (-1), 1) := by decide +kernel
theorem dX9_remove0_54 : decode cX9_remove0 54 = .ok (.if_icmp .ne 23, 3) := by decide +kernel
theorem dX9_remove0_57 : decode cX9_remove0 57 = .ok (.aload_n 0, 1) := by decide +kernel
theorem dX9_remove0_58 : decode cX9_remove0 58 = .ok (.getfield 105, 3) := by decide +kernel
theorem dX9_remove0_61 : decode cX9_remove0 61 = .ok (.aload_n 0, 1) := by decide +kernel
theorem dX9_remove0_62 : decode cX9_remove0 62 = .ok (.getfield 99, 3) := by decide +kernel
theorem dX9_remove0_65 : decode cX9_remove0 65 = .ok (.iload_n 1, 1) := by decide +kernel
theorem dX9_remove0_66 : decode cX9_remove0 66 = .ok (.iaload, 1) := by decide +kernel
theorem dX9_remove0_67 : decode cX9_remove0 67 = .ok (.aload_n 0, 1) := by decide +kernel
theorem dX9_remove0_68 : decode cX9_remove0 68 = .ok (.getfield 111, 3) := by decide +kernel
theorem dX9_remove0_71 : decode cX9_remove0 71 = .ok (.iload_n 1, 1) := by decide +kernel
theorem dX9_remove0_72 : decode cX9_remove0 72 = .ok (.iaload, 1) := by decide +kernel
theorem dX9_remove0_73 : decode cX9_remove0 73 = .ok (.iastore, 1) := by decide +kernel
theorem dX9_remove0_74 : decode cX9_remove0 74 = .ok (.goto 20, 3) := by decide +kernel
theorem dX9_remove0_77 : decode cX9_remove0 77 = .ok (.aload_n 0, 1) := by decide +kernel
theorem dX9_remove0_78 : decode cX9_remove0 78 = .ok (.getfield 111, 3) := by decide +kernel
theorem dX9_remove0_81 : decode cX9_remove0 81 = .ok (.aload_n 0, 1) := by decide +kernel
theorem dX9_remove0_82 : decode cX9_remove0 82 = .ok (.getfield 108, 3) := by decide +kernel
theorem dX9_remove0_85 : decode cX9_remove0 85 = .ok (.iload_n 1, 1) := by decide +kernel
theorem dX9_remove0_86 : decode cX9_remove0 86 = .ok (.iaload, 1) := by decide +kernel
theorem dX9_remove0_87 : decode cX9_remove0 87 = .ok (.aload_n 0, 1) := by decide +kernel
theorem dX9_remove0_88 : decode cX9_remove0 88 = .ok (.getfield 111, 3) := by decide +kernel
theorem dX9_remove0_91 : decode cX9_remove0 91 = .ok (.iload_n 1, 1) := by decide +kernel
theorem dX9_remove0_92 : decode cX9_remove0 92 = .ok (.iaload, 1) := by decide +kernel
theorem dX9_remove0_93 : decode cX9_remove0 93 = .ok (.iastore, 1) := by decide +kernel
theorem dX9_remove0_94 : decode cX9_remove0 94 = .ok (.iload_n 1, 1) := by decide +kernel
theorem dX9_remove0_95 : decode cX9_remove0 95 = .ok (.istore_n 2, 1) := by decide +kernel
theorem dX9_remove0_96 : decode cX9_remove0 96 = .ok (.iload_n 2, 1) := by decide +kernel
theorem dX9_remove0_97 : decode cX9_remove0 97 = .ok (.iconst (-1), 1) := by decide +kernel
theorem dX9_remove0_98 : decode cX9_remove0 98 = .ok (.if_icmp .eq 32, 3) := by decide +kernel
theorem dX9_remove0_101 : decode cX9_remove0 101 = .ok (.aload_n 0, 1) := by decide +kernel
theorem dX9_remove0_102 : decode cX9_remove0 102 = .ok (.iload_n 2, 1) := by decide +kernel
theorem dX9_remove0_103 : decode cX9_remove0 103 = .ok (.iload_n 1, 1) := by decide +kernel
theorem dX9_remove0_104 : decode cX9_remove0 104 = .ok (.invokevirtual 127, 3) := by decide +kernel
theorem dX9_remove0_107 : decode cX9_remove0 107 = .ok (.istore_n 3, 1) := by decide +kernel
theorem dX9_remove0_108 : decode cX9_remove0 108 = .ok (.aload_n 0, 1) := by decide +kernel
theorem dX9_remove0_109 : decode cX9_remove0 109 = .ok (.getfield 75, 3) := by decide +kernel
theorem dX9_remove0_112 : decode cX9_remove0 112 = .ok (.iload_n 2, 1) := by decide +kernel
theorem dX9_remove0_113 : decode cX9_remove0 113 = .ok (.iconst 0, 1) := by decide +kernel
theorem dX9_remove0_114 : decode cX9_remove0 114 = .ok (.bastore, 1) := by decide +kernel
theorem dX9_remove0_115 : decode cX9_remove0 115 = .ok (.aload_n 0, 1) := by decide +kernel
theorem dX9_remove0_116 : decode cX9_remove0 116 = .ok (.dup, 1) := by decide +kernel
theorem dX9_remove0_117 : decode cX9_remove0 117 = .ok (.getfield 79, 3) := by decide +kernel
theorem dX9_remove0_120 : decode cX9_remove0 120 = .ok (.iconst 1, 1) := by decide +kernel
theorem dX9_remove0_121 : decode cX9_remove0 121 = .ok (.isub, 1) := by decide +kernel
theorem dX9_remove0_122 : decode cX9_remove0 122 = .ok (.putfield 79, 3) := by decide +kernel
theorem dX9_remove0_125 : decode cX9_remove0 125 = .ok (.iload_n 3, 1) := by decide +kernel
theorem dX9_remove0_126 : decode cX9_remove0 126 = .ok (.istore_n 2, 1) := by decide +kernel
theorem dX9_remove0_127 : decode cX9_remove0 127 = .ok (.goto (-31), 3) := by decide +kernel
theorem dX9_remove0_130 : decode cX9_remove0 130 = .ok (.return_, 1) := by decide +kernel
theorem dX9_tellFault_0 : decode cX9_tellFault 0 = .ok (.aload_n 0, 1) := by decide +kernel
theorem dX9_tellFault_1 : decode cX9_tellFault 1 = .ok (.getfield 130, 3) := by decide +kernel
theorem dX9_tellFault_4 : decode cX9_tellFault 4 = .ok (.bipush 40, 2) := by decide +kernel
theorem dX9_tellFault_6 : decode cX9_tellFault 6 = .ok (.if_icmp .ge 23, 3) := by decide +kernel
theorem dX9_tellFault_9 : decode cX9_tellFault 9 = .ok (.aload_n 0, 1) := by decide +kernel
theorem dX9_tellFault_10 : decode cX9_tellFault 10 = .ok (.getfield 133, 3) := by decide +kernel
theorem dX9_tellFault_13 : decode cX9_tellFault 13 = .ok (.aload_n 0, 1) := by decide +kernel
theorem dX9_tellFault_14 : decode cX9_tellFault 14 = .ok (.getfield 130, 3) := by decide +kernel
theorem dX9_tellFault_17 : decode cX9_tellFault 17 = .ok (.iload_n 1, 1) := by decide +kernel
theorem dX9_tellFault_18 : decode cX9_tellFault 18 = .ok (.iastore, 1) := by decide +kernel
theorem dX9_tellFault_19 : decode cX9_tellFault 19 = .ok (.aload_n 0, 1) := by decide +kernel
theorem dX9_tellFault_20 : decode cX9_tellFault 20 = .ok (.getfield 136, 3) := by decide +kernel
theorem dX9_tellFault_23 : decode cX9_tellFault 23 = .ok (.aload_n 0, 1) := by decide +kernel
theorem dX9_tellFault_24 : decode cX9_tellFault 24 = .ok (.getfield 130, 3) := by decide +kernel
theorem dX9_tellFault_27 : decode cX9_tellFault 27 = .ok (.iload_n 2, 1) := by decide +kernel
theorem dX9_tellFault_28 : decode cX9_tellFault 28 = .ok (.iastore, 1) := by decide +kernel
theorem dX9_tellFault_29 : decode cX9_tellFault 29 = .ok (.aload_n 0, 1) := by decide +kernel
theorem dX9_tellFault_30 : decode cX9_tellFault 30 = .ok (.dup, 1) := by decide +kernel
theorem dX9_tellFault_31 : decode cX9_tellFault 31 = .ok (.getfield 130, 3) := by decide +kernel
theorem dX9_tellFault_34 : decode cX9_tellFault 34 = .ok (.iconst 1, 1) := by decide +kernel
theorem dX9_tellFault_35 : decode cX9_tellFault 35 = .ok (.iadd, 1) := by decide +kernel
theorem dX9_tellFault_36 : decode cX9_tellFault 36 = .ok (.putfield 130, 3) := by decide +kernel
theorem dX9_tellFault_39 : decode cX9_tellFault 39 = .ok (.return_, 1) := by decide +kernel
theorem dX9_isAt_0 : decode cX9_isAt 0 = .ok (.iload_n 1, 1) := by decide +kernel
theorem dX9_isAt_1 : decode cX9_isAt 1 = .ok (.iconst 2, 1) := by decide +kernel
theorem dX9_isAt_2 : decode cX9_isAt 2 = .ok (.iadd, 1) := by decide +kernel
theorem dX9_isAt_3 : decode cX9_isAt 3 = .ok (.aload_n 0, 1) := by decide +kernel
theorem dX9_isAt_4 : decode cX9_isAt 4 = .ok (.getfield 139, 3) := by decide +kernel
theorem dX9_isAt_7 : decode cX9_isAt 7 = .ok (.if_icmp .ge 42, 3) := by decide +kernel
theorem dX9_isAt_10 : decode cX9_isAt 10 = .ok (.aload_n 0, 1) := by decide +kernel
theorem dX9_isAt_11 : decode cX9_isAt 11 = .ok (.getfield 142, 3) := by decide +kernel
theorem dX9_isAt_14 : decode cX9_isAt 14 = .ok (.iload_n 1, 1) := by decide +kernel
theorem dX9_isAt_15 : decode cX9_isAt 15 = .ok (.baload, 1) := by decide +kernel
theorem dX9_isAt_16 : decode cX9_isAt 16 = .ok (.iload_n 2, 1) := by decide +kernel
theorem dX9_isAt_17 : decode cX9_isAt 17 = .ok (.if_icmp .ne 32, 3) := by decide +kernel
theorem dX9_isAt_20 : decode cX9_isAt 20 = .ok (.aload_n 0, 1) := by decide +kernel
theorem dX9_isAt_21 : decode cX9_isAt 21 = .ok (.getfield 142, 3) := by decide +kernel
theorem dX9_isAt_24 : decode cX9_isAt 24 = .ok (.iload_n 1, 1) := by decide +kernel
theorem dX9_isAt_25 : decode cX9_isAt 25 = .ok (.iconst 1, 1) := by decide +kernel
theorem dX9_isAt_26 : decode cX9_isAt 26 = .ok (.iadd, 1) := by decide +kernel
theorem dX9_isAt_27 : decode cX9_isAt 27 = .ok (.baload, 1) := by decide +kernel
theorem dX9_isAt_28 : decode cX9_isAt 28 = .ok (.iload_n 3, 1) := by decide +kernel
theorem dX9_isAt_29 : decode cX9_isAt 29 = .ok (.if_icmp .ne 20, 3) := by decide +kernel
theorem dX9_isAt_32 : decode cX9_isAt 32 = .ok (.aload_n 0, 1) := by decide +kernel
theorem dX9_isAt_33 : decode cX9_isAt 33 = .ok (.getfield 142, 3) := by decide +kernel
theorem dX9_isAt_36 : decode cX9_isAt 36 = .ok (.iload_n 1, 1) := by decide +kernel
theorem dX9_isAt_37 : decode cX9_isAt 37 = .ok (.iconst 2, 1) := by decide +kernel
theorem dX9_isAt_38 : decode cX9_isAt 38 = .ok (.iadd, 1) := by decide +kernel
theorem dX9_isAt_39 : decode cX9_isAt 39 = .ok (.baload, 1) := by decide +kernel
theorem dX9_isAt_40 : decode cX9_isAt 40 = .ok (.iload 4, 2) := by decide +kernel
theorem dX9_isAt_42 : decode cX9_isAt 42 = .ok (.if_icmp .ne 7, 3) := by decide +kernel
theorem dX9_isAt_45 : decode cX9_isAt 45 = .ok (.iconst 1, 1) := by decide +kernel
theorem dX9_isAt_46 : decode cX9_isAt 46 = .ok (.goto 4, 3) := by decide +kernel
theorem dX9_isAt_49 : decode cX9_isAt 49 = .ok (.iconst 0, 1) := by decide +kernel
theorem dX9_isAt_50 : decode cX9_isAt 50 = .ok (.ireturn, 1) := by decide +kernel
theorem dX9_isNote_0 : decode cX9_isNote 0 = .ok (.aload_n 0, 1) := by decide +kernel
theorem dX9_isNote_1 : decode cX9_isNote 1 = .ok (.iload_n 1, 1) := by decide +kernel
theorem dX9_isNote_2 : decode cX9_isNote 2 = .ok (.bipush 60, 2) := by decide +kernel
theorem dX9_isNote_4 : decode cX9_isNote 4 = .ok (.bipush 33, 2) := by decide +kernel
theorem dX9_isNote_6 : decode cX9_isNote 6 = .ok (.bipush 45, 2) := by decide +kernel
theorem dX9_isNote_8 : decode cX9_isNote 8 = .ok (.invokevirtual 145, 3) := by decide +kernel
theorem dX9_isNote_11 : decode cX9_isNote 11 = .ok (.ifCond .eq 30, 3) := by decide +kernel
theorem dX9_isNote_14 : decode cX9_isNote 14 = .ok (.iload_n 1, 1) := by decide +kernel
theorem dX9_isNote_15 : decode cX9_isNote 15 = .ok (.iconst 3, 1) := by decide +kernel
theorem dX9_isNote_16 : decode cX9_isNote 16 = .ok (.iadd, 1) := by decide +kernel
theorem dX9_isNote_17 : decode cX9_isNote 17 = .ok (.aload_n 0, 1) := by decide +kernel
theorem dX9_isNote_18 : decode cX9_isNote 18 = .ok (.getfield 139, 3) := by decide +kernel
theorem dX9_isNote_21 : decode cX9_isNote 21 = .ok (.if_icmp .ge 20, 3) := by decide +kernel
theorem dX9_isNote_24 : decode cX9_isNote 24 = .ok (.aload_n 0, 1) := by decide +kernel
theorem dX9_isNote_25 : decode cX9_isNote 25 = .ok (.getfield 142, 3) := by decide +kernel
theorem dX9_isNote_28 : decode cX9_isNote 28 = .ok (.iload_n 1, 1) := by decide +kernel
theorem dX9_isNote_29 : decode cX9_isNote 29 = .ok (.iconst 3, 1) := by decide +kernel
theorem dX9_isNote_30 : decode cX9_isNote 30 = .ok (.iadd, 1) := by decide +kernel
theorem dX9_isNote_31 : decode cX9_isNote 31 = .ok (.baload, 1) := by decide +kernel
theorem dX9_isNote_32 : decode cX9_isNote 32 = .ok (.bipush 45, 2) := by decide +kernel
theorem dX9_isNote_34 : decode cX9_isNote 34 = .ok (.if_icmp .ne 7, 3) := by decide +kernel
theorem dX9_isNote_37 : decode cX9_isNote 37 = .ok (.iconst 1, 1) := by decide +kernel
theorem dX9_isNote_38 : decode cX9_isNote 38 = .ok (.goto 4, 3) := by decide +kernel
theorem dX9_isNote_41 : decode cX9_isNote 41 = .ok (.iconst 0, 1) := by decide +kernel
theorem dX9_isNote_42 : decode cX9_isNote 42 = .ok (.ireturn, 1) := by decide +kernel
theorem dX9_isTag_0 : decode cX9_isTag 0 = .ok (.iload_n 1, 1) := by decide +kernel
theorem dX9_isTag_1 : decode cX9_isTag 1 = .ok (.aload_n 0, 1) := by decide +kernel
theorem dX9_isTag_2 : decode cX9_isTag 2 = .ok (.getfield 139, 3) := by decide +kernel
theorem dX9_isTag_5 : decode cX9_isTag 5 = .ok (.if_icmp .ge 14, 3) := by decide +kernel
theorem dX9_isTag_8 : decode cX9_isTag 8 = .ok (.aload_n 0, 1) := by decide +kernel
theorem dX9_isTag_9 : decode cX9_isTag 9 = .ok (.getfield 142, 3) := by decide +kernel
theorem dX9_isTag_12 : decode cX9_isTag 12 = .ok (.iload_n 1, 1) := by decide +kernel
theorem dX9_isTag_13 : decode cX9_isTag 13 = .ok (.baload, 1) := by decide +kernel
theorem dX9_isTag_14 : decode cX9_isTag 14 = .ok (.bipush 60, 2) := by decide +kernel
theorem dX9_isTag_16 : decode cX9_isTag 16 = .ok (.if_icmp .eq 5, 3) := by decide +kernel
theorem dX9_isTag_19 : decode cX9_isTag 19 = .ok (.iconst 0, 1) := by decide +kernel
theorem dX9_isTag_20 : decode cX9_isTag 20 = .ok (.ireturn, 1) := by decide +kernel
theorem dX9_isTag_21 : decode cX9_isTag 21 = .ok (.iload_n 1, 1) := by decide +kernel
theorem dX9_isTag_22 : decode cX9_isTag 22 = .ok (.iconst 1, 1) := by decide +kernel
theorem dX9_isTag_23 : decode cX9_isTag 23 = .ok (.iadd, 1) := by decide +kernel
theorem dX9_isTag_24 : decode cX9_isTag 24 = .ok (.aload_n 0, 1) := by decide +kernel
theorem dX9_isTag_25 : decode cX9_isTag 25 = .ok (.getfield 139, 3) := by decide +kernel
theorem dX9_isTag_28 : decode cX9_isTag 28 = .ok (.if_icmp .ge 22, 3) := by decide +kernel
theorem dX9_isTag_31 : decode cX9_isTag 31 = .ok (.aload_n 0, 1) := by decide +kernel
theorem dX9_isTag_32 : decode cX9_isTag 32 = .ok (.getfield 142, 3) := by decide +kernel
theorem dX9_isTag_35 : decode cX9_isTag 35 = .ok (.iload_n 1, 1) := by decide +kernel
theorem dX9_isTag_36 : decode cX9_isTag 36 = .ok (.iconst 1, 1) := by decide +kernel
theorem dX9_isTag_37 : decode cX9_isTag 37 = .ok (.iadd, 1) := by decide +kernel
theorem dX9_isTag_38 : decode cX9_isTag 38 = .ok (.baload, 1) := by decide +kernel
theorem dX9_isTag_39 : decode cX9_isTag 39 = .ok (.bipush 47, 2) := by decide +kernel
theorem dX9_isTag_41 : decode cX9_isTag 41 = .ok (.if_icmp .ne 9, 3) := by decide +kernel
theorem dX9_isTag_44 : decode cX9_isTag 44 = .ok (.iload_n 1, 1) := by decide +kernel
theorem dX9_isTag_45 : decode cX9_isTag 45 = .ok (.iconst 2, 1) := by decide +kernel
theorem dX9_isTag_46 : decode cX9_isTag 46 = .ok (.iadd, 1) := by decide +kernel
theorem dX9_isTag_47 : decode cX9_isTag 47 = .ok (.goto 6, 3) := by decide +kernel
theorem dX9_isTag_50 : decode cX9_isTag 50 = .ok (.iload_n 1, 1) := by decide +kernel
theorem dX9_isTag_51 : decode cX9_isTag 51 = .ok (.iconst 1, 1) := by decide +kernel
theorem dX9_isTag_52 : decode cX9_isTag 52 = .ok (.iadd, 1) := by decide +kernel
theorem dX9_isTag_53 : decode cX9_isTag 53 = .ok (.istore_n 2, 1) := by decide +kernel
theorem dX9_isTag_54 : decode cX9_isTag 54 = .ok (.iload_n 2, 1) := by decide +kernel
theorem dX9_isTag_55 : decode cX9_isTag 55 = .ok (.aload_n 0, 1) := by decide +kernel
theorem dX9_isTag_56 : decode cX9_isTag 56 = .ok (.getfield 139, 3) := by decide +kernel
theorem dX9_isTag_59 : decode cX9_isTag 59 = .ok (.if_icmp .ge 19, 3) := by decide +kernel
theorem dX9_isTag_62 : decode cX9_isTag 62 = .ok (.aload_n 0, 1) := by decide +kernel
theorem dX9_isTag_63 : decode cX9_isTag 63 = .ok (.getfield 142, 3) := by decide +kernel
theorem dX9_isTag_66 : decode cX9_isTag 66 = .ok (.iload_n 2, 1) := by decide +kernel
theorem dX9_isTag_67 : decode cX9_isTag 67 = .ok (.baload, 1) := by decide +kernel
theorem dX9_isTag_68 : decode cX9_isTag 68 = .ok (.invokestatic 149, 3) := by decide +kernel
theorem dX9_isTag_71 : decode cX9_isTag 71 = .ok (.ifCond .eq 7, 3) := by decide +kernel
theorem dX9_isTag_74 : decode cX9_isTag 74 = .ok (.iconst 1, 1) := by decide +kernel
theorem dX9_isTag_75 : decode cX9_isTag 75 = .ok (.goto 4, 3) := by decide +kernel
theorem dX9_isTag_78 : decode cX9_isTag 78 = .ok (.iconst 0, 1) := by decide +kernel
theorem dX9_isTag_79 : decode cX9_isTag 79 = .ok (.ireturn, 1) := by decide +kernel
theorem dX9_endsStyle_0 : decode cX9_endsStyle 0 = .ok (.aload_n 0, 1) := by decide +kernel
theorem dX9_endsStyle_1 : decode cX9_endsStyle 1 = .ok (.iload_n 1, 1) := by decide +kernel
theorem dX9_endsStyle_2 : decode cX9_endsStyle 2 = .ok (.bipush 60, 2) := by decide +kernel
theorem dX9_endsStyle_4 : decode cX9_endsStyle 4 = .ok (.bipush 47, 2) := by decide +kernel
theorem dX9_endsStyle_6 : decode cX9_endsStyle 6 = .ok (.bipush 115, 2) := by decide +kernel
theorem dX9_endsStyle_8 : decode cX9_endsStyle 8 = .ok (.invokevirtual 145, 3) := by decide +kernel
theorem dX9_endsStyle_11 : decode cX9_endsStyle 11 = .ok (.ifCond .eq 29, 3) := by decide +kernel
theorem dX9_endsStyle_14 : decode cX9_endsStyle 14 = .ok (.aload_n 0, 1) := by decide +kernel
theorem dX9_endsStyle_15 : decode cX9_endsStyle 15 = .ok (.getfield 142, 3) := by decide +kernel
theorem dX9_endsStyle_18 : decode cX9_endsStyle 18 = .ok (.iload_n 1, 1) := by decide +kernel
theorem dX9_endsStyle_19 : decode cX9_endsStyle 19 = .ok (.iconst 2, 1) := by decide +kernel
theorem dX9_endsStyle_20 : decode cX9_endsStyle 20 = .ok (.iadd, 1) := by decide +kernel
theorem dX9_endsStyle_21 : decode cX9_endsStyle 21 = .ok (.aload_n 0, 1) := by decide +kernel
theorem dX9_endsStyle_22 : decode cX9_endsStyle 22 = .ok (.getfield 139, 3) := by decide +kernel
theorem dX9_endsStyle_25 : decode cX9_endsStyle 25 = .ok (.bipush 15, 2) := by decide +kernel
theorem dX9_endsStyle_27 : decode cX9_endsStyle 27 = .ok (.invokestatic 33, 3) := by decide +kernel
theorem dX9_endsStyle_30 : decode cX9_endsStyle 30 = .ok (.invokestatic 41, 3) := by decide +kernel
theorem dX9_endsStyle_33 : decode cX9_endsStyle 33 = .ok (.ifCond .eq 7, 3) := by decide +kernel
theorem dX9_endsStyle_36 : decode cX9_endsStyle 36 = .ok (.iconst 1, 1) := by decide +kernel
theorem dX9_endsStyle_37 : decode cX9_endsStyle 37 = .ok (.goto 4, 3) := by decide +kernel
theorem dX9_endsStyle_40 : decode cX9_endsStyle 40 = .ok (.iconst 0, 1) := by decide +kernel
theorem dX9_endsStyle_41 : decode cX9_endsStyle 41 = .ok (.ireturn, 1) := by decide +kernel
theorem dX9_closeTo_0 : decode cX9_closeTo 0 = .ok (.aload_n 0, 1) := by decide +kernel
theorem dX9_closeTo_1 : decode cX9_closeTo 1 = .ok (.getfield 159, 3) := by decide +kernel
theorem dX9_closeTo_4 : decode cX9_closeTo 4 = .ok (.iload_n 1, 1) := by decide +kernel
theorem dX9_closeTo_5 : decode cX9_closeTo 5 = .ok (.if_icmp .le 73, 3) := by decide +kernel
theorem dX9_closeTo_8 : decode cX9_closeTo 8 = .ok (.aload_n 0, 1) := by decide +kernel
theorem dX9_closeTo_9 : decode cX9_closeTo 9 = .ok (.dup, 1) := by decide +kernel
theorem dX9_closeTo_10 : decode cX9_closeTo 10 = .ok (.getfield 159, 3) := by decide +kernel
theorem dX9_closeTo_13 : decode cX9_closeTo 13 = .ok (.iconst 1, 1) := by decide +kernel
theorem dX9_closeTo_14 : decode cX9_closeTo 14 = .ok (.isub, 1) := by decide +kernel
theorem dX9_closeTo_15 : decode cX9_closeTo 15 = .ok (.putfield 159, 3) := by decide +kernel
theorem dX9_closeTo_18 : decode cX9_closeTo 18 = .ok (.aload_n 0, 1) := by decide +kernel
theorem dX9_closeTo_19 : decode cX9_closeTo 19 = .ok (.getfield 156, 3) := by decide +kernel
theorem dX9_closeTo_22 : decode cX9_closeTo 22 = .ok (.aload_n 0, 1) := by decide +kernel
theorem dX9_closeTo_23 : decode cX9_closeTo 23 = .ok (.getfield 159, 3) := by decide +kernel
theorem dX9_closeTo_26 : decode cX9_closeTo 26 = .ok (.iaload, 1) := by decide +kernel
theorem dX9_closeTo_27 : decode cX9_closeTo 27 = .ok (.istore 4, 2) := by decide +kernel
theorem dX9_closeTo_29 : decode cX9_closeTo 29 = .ok (.iload 4, 2) := by decide +kernel
theorem dX9_closeTo_31 : decode cX9_closeTo 31 = .ok (.iload_n 2, 1) := by decide +kernel
theorem dX9_closeTo_32 : decode cX9_closeTo 32 = .ok (.if_icmp .eq 43, 3) := by decide +kernel
theorem dX9_closeTo_35 : decode cX9_closeTo 35 = .ok (.iload 4, 2) := by decide +kernel
theorem dX9_closeTo_37 : decode cX9_closeTo 37 = .ok (.iload_n 3, 1) := by decide +kernel
theorem dX9_closeTo_38 : decode cX9_closeTo 38 = .ok (.if_icmp .eq 37, 3) := by decide +kernel
theorem dX9_closeTo_41 : decode cX9_closeTo 41 = .ok (.aload_n 0, 1) := by decide +kernel
theorem dX9_closeTo_42 : decode cX9_closeTo 42 = .ok (.getfield 86, 3) := by decide +kernel
theorem dX9_closeTo_45 : decode cX9_closeTo 45 = .ok (.iload 4, 2) := by decide +kernel
theorem dX9_closeTo_47 : decode cX9_closeTo 47 = .ok (.iaload, 1) := by decide +kernel
theorem dX9_closeTo_48 : decode cX9_closeTo 48 = .ok (.iconst 1, 1) := by decide +kernel
theorem dX9_closeTo_49 : decode cX9_closeTo 49 = .ok (.if_icmp .eq 26, 3) := by decide +kernel
theorem dX9_closeTo_52 : decode cX9_closeTo 52 = .ok (.aload_n 0, 1) := by decide +kernel
theorem dX9_closeTo_53 : decode cX9_closeTo 53 = .ok (.getfield 86, 3) := by decide +kernel
theorem dX9_closeTo_56 : decode cX9_closeTo 56 = .ok (.iload 4, 2) := by decide +kernel
theorem dX9_closeTo_58 : decode cX9_closeTo 58 = .ok (.iaload, 1) := by decide +kernel
theorem dX9_closeTo_59 : decode cX9_closeTo 59 = .ok (.iconst 4, 1) := by decide +kernel
theorem dX9_closeTo_60 : decode cX9_closeTo 60 = .ok (.if_icmp .eq 15, 3) := by decide +kernel
theorem dX9_closeTo_63 : decode cX9_closeTo 63 = .ok (.aload_n 0, 1) := by decide +kernel
theorem dX9_closeTo_64 : decode cX9_closeTo 64 = .ok (.iconst 4, 1) := by decide +kernel
theorem dX9_closeTo_65 : decode cX9_closeTo 65 = .ok (.aload_n 0, 1) := by decide +kernel
theorem dX9_closeTo_66 : decode cX9_closeTo 66 = .ok (.getfield 257, 3) := by decide +kernel
theorem dX9_closeTo_69 : decode cX9_closeTo 69 = .ok (.iload 4, 2) := by decide +kernel
theorem dX9_closeTo_71 : decode cX9_closeTo 71 = .ok (.iaload, 1) := by decide +kernel
theorem dX9_closeTo_72 : decode cX9_closeTo 72 = .ok (.invokevirtual 185, 3) := by decide +kernel
theorem dX9_closeTo_75 : decode cX9_closeTo 75 = .ok (.goto (-75), 3) := by decide +kernel
theorem dX9_closeTo_78 : decode cX9_closeTo 78 = .ok (.return_, 1) := by decide +kernel
theorem dX9_note_0 : decode cX9_note 0 = .ok (.iload_n 1, 1) := by decide +kernel
theorem dX9_note_1 : decode cX9_note 1 = .ok (.iconst 4, 1) := by decide +kernel
theorem dX9_note_2 : decode cX9_note 2 = .ok (.iadd, 1) := by decide +kernel
theorem dX9_note_3 : decode cX9_note 3 = .ok (.istore_n 2, 1) := by decide +kernel
theorem dX9_note_4 : decode cX9_note 4 = .ok (.iload_n 2, 1) := by decide +kernel
theorem dX9_note_5 : decode cX9_note 5 = .ok (.aload_n 0, 1) := by decide +kernel
theorem dX9_note_6 : decode cX9_note 6 = .ok (.getfield 139, 3) := by decide +kernel
theorem dX9_note_9 : decode cX9_note 9 = .ok (.if_icmp .ge 23, 3) := by decide +kernel
theorem dX9_note_12 : decode cX9_note 12 = .ok (.aload_n 0, 1) := by decide +kernel
theorem dX9_note_13 : decode cX9_note 13 = .ok (.iload_n 2, 1) := by decide +kernel
theorem dX9_note_14 : decode cX9_note 14 = .ok (.bipush 45, 2) := by decide +kernel
theorem dX9_note_16 : decode cX9_note 16 = .ok (.bipush 45, 2) := by decide +kernel
theorem dX9_note_18 : decode cX9_note 18 = .ok (.bipush 62, 2) := by decide +kernel
theorem dX9_note_20 : decode cX9_note 20 = .ok (.invokevirtual 145, 3) := by decide +kernel
theorem dX9_note_23 : decode cX9_note 23 = .ok (.ifCond .ne 9, 3) := by decide +kernel
theorem dX9_note_26 : decode cX9_note 26 = .ok (.iinc 2 1, 3) := by decide +kernel
theorem dX9_note_29 : decode cX9_note 29 = .ok (.goto (-25), 3) := by decide +kernel
theorem dX9_note_32 : decode cX9_note 32 = .ok (.iload_n 2, 1) := by decide +kernel
theorem dX9_note_33 : decode cX9_note 33 = .ok (.aload_n 0, 1) := by decide +kernel
theorem dX9_note_34 : decode cX9_note 34 = .ok (.getfield 139, 3) := by decide +kernel
theorem dX9_note_37 : decode cX9_note 37 = .ok (.if_icmp .ge 7, 3) := by decide +kernel
theorem dX9_note_40 : decode cX9_note 40 = .ok (.iload_n 2, 1) := by decide +kernel
theorem dX9_note_41 : decode cX9_note 41 = .ok (.iconst 3, 1) := by decide +kernel
theorem dX9_note_42 : decode cX9_note 42 = .ok (.iadd, 1) := by decide +kernel
theorem dX9_note_43 : decode cX9_note 43 = .ok (.ireturn, 1) := by decide +kernel
theorem dX9_note_44 : decode cX9_note 44 = .ok (.aload_n 0, 1) := by decide +kernel
theorem dX9_note_45 : decode cX9_note 45 = .ok (.iconst 1, 1) := by decide +kernel
theorem dX9_note_46 : decode cX9_note 46 = .ok (.iload_n 1, 1) := by decide +kernel
theorem dX9_note_47 : decode cX9_note 47 = .ok (.invokevirtual 185, 3) := by decide +kernel
theorem dX9_note_50 : decode cX9_note 50 = .ok (.aload_n 0, 1) := by decide +kernel
theorem dX9_note_51 : decode cX9_note 51 = .ok (.getfield 139, 3) := by decide +kernel
theorem dX9_note_54 : decode cX9_note 54 = .ok (.ireturn, 1) := by decide +kernel
theorem dX9_endTag_0 : decode cX9_endTag 0 = .ok (.aload_n 0, 1) := by decide +kernel
theorem dX9_endTag_1 : decode cX9_endTag 1 = .ok (.getfield 159, 3) := by decide +kernel
theorem dX9_endTag_4 : decode cX9_endTag 4 = .ok (.iconst 1, 1) := by decide +kernel
theorem dX9_endTag_5 : decode cX9_endTag 5 = .ok (.isub, 1) := by decide +kernel
theorem dX9_endTag_6 : decode cX9_endTag 6 = .ok (.istore_n 3, 1) := by decide +kernel
theorem dX9_endTag_7 : decode cX9_endTag 7 = .ok (.iload_n 3, 1) := by decide +kernel
theorem dX9_endTag_8 : decode cX9_endTag 8 = .ok (.ifCond .le 76, 3) := by decide +kernel
theorem dX9_endTag_11 : decode cX9_endTag 11 = .ok (.aload_n 0, 1) := by decide +kernel
theorem dX9_endTag_12 : decode cX9_endTag 12 = .ok (.getfield 86, 3) := by decide +kernel
theorem dX9_endTag_15 : decode cX9_endTag 15 = .ok (.aload_n 0, 1) := by decide +kernel
theorem dX9_endTag_16 : decode cX9_endTag 16 = .ok (.getfield 156, 3) := by decide +kernel
theorem dX9_endTag_19 : decode cX9_endTag 19 = .ok (.iload_n 3, 1) := by decide +kernel
theorem dX9_endTag_20 : decode cX9_endTag 20 = .ok (.iaload, 1) := by decide +kernel
theorem dX9_endTag_21 : decode cX9_endTag 21 = .ok (.iaload, 1) := by decide +kernel
theorem dX9_endTag_22 : decode cX9_endTag 22 = .ok (.iload_n 2, 1) := by decide +kernel
theorem dX9_endTag_23 : decode cX9_endTag 23 = .ok (.if_icmp .ne 55, 3) := by decide +kernel
theorem dX9_endTag_26 : decode cX9_endTag 26 = .ok (.iload_n 2, 1) := by decide +kernel
theorem dX9_endTag_27 : decode cX9_endTag 27 = .ok (.bipush 16, 2) := by decide +kernel
theorem dX9_endTag_29 : decode cX9_endTag 29 = .ok (.if_icmp .ne 55, 3) := by decide +kernel
theorem dX9_endTag_32 : decode cX9_endTag 32 = .ok (.aload_n 0, 1) := by decide +kernel
theorem dX9_endTag_33 : decode cX9_endTag 33 = .ok (.getfield 93, 3) := by decide +kernel
theorem dX9_endTag_36 : decode cX9_endTag 36 = .ok (.aload_n 0, 1) := by decide +kernel
theorem dX9_endTag_37 : decode cX9_endTag 37 = .ok (.getfield 156, 3) := by decide +kernel
theorem dX9_endTag_40 : decode cX9_endTag 40 = .ok (.iload_n 3, 1) := by decide +kernel
theorem dX9_endTag_41 : decode cX9_endTag 41 = .ok (.iaload, 1) := by decide +kernel
theorem dX9_endTag_42 : decode cX9_endTag 42 = .ok (.iaload, 1) := by decide +kernel
theorem dX9_endTag_43 : decode cX9_endTag 43 = .ok (.aload_n 0, 1) := by decide +kernel
theorem dX9_endTag_44 : decode cX9_endTag 44 = .ok (.getfield 202, 3) := by decide +kernel
theorem dX9_endTag_47 : decode cX9_endTag 47 = .ok (.if_icmp .ne 31, 3) := by decide +kernel
theorem dX9_endTag_50 : decode cX9_endTag 50 = .ok (.aload_n 0, 1) := by decide +kernel
theorem dX9_endTag_51 : decode cX9_endTag 51 = .ok (.getfield 90, 3) := by decide +kernel
theorem dX9_endTag_54 : decode cX9_endTag 54 = .ok (.bipush 8, 2) := by decide +kernel
theorem dX9_endTag_56 : decode cX9_endTag 56 = .ok (.aload_n 0, 1) := by decide +kernel
theorem dX9_endTag_57 : decode cX9_endTag 57 = .ok (.getfield 156, 3) := by decide +kernel
theorem dX9_endTag_60 : decode cX9_endTag 60 = .ok (.iload_n 3, 1) := by decide +kernel
theorem dX9_endTag_61 : decode cX9_endTag 61 = .ok (.iaload, 1) := by decide +kernel
theorem dX9_endTag_62 : decode cX9_endTag 62 = .ok (.imul, 1) := by decide +kernel
theorem dX9_endTag_63 : decode cX9_endTag 63 = .ok (.aload_n 0, 1) := by decide +kernel
theorem dX9_endTag_64 : decode cX9_endTag 64 = .ok (.getfield 208, 3) := by decide +kernel
theorem dX9_endTag_67 : decode cX9_endTag 67 = .ok (.iconst 0, 1) := by decide +kernel
theorem dX9_endTag_68 : decode cX9_endTag 68 = .ok (.aload_n 0, 1) := by decide +kernel
theorem dX9_endTag_69 : decode cX9_endTag 69 = .ok (.getfield 202, 3) := by decide +kernel
theorem dX9_endTag_72 : decode cX9_endTag 72 = .ok (.invokestatic 247, 3) := by decide +kernel
theorem dX9_endTag_75 : decode cX9_endTag 75 = .ok (.ifCond .ne 9, 3) := by decide +kernel
theorem dX9_endTag_78 : decode cX9_endTag 78 = .ok (.iinc 3 (-1), 3) := by decide +kernel
theorem dX9_endTag_81 : decode cX9_endTag 81 = .ok (.goto (-74), 3) := by decide +kernel
theorem dX9_endTag_84 : decode cX9_endTag 84 = .ok (.iload_n 3, 1) := by decide +kernel
theorem dX9_endTag_85 : decode cX9_endTag 85 = .ok (.ifCond .eq 10, 3) := by decide +kernel
theorem dX9_endTag_88 : decode cX9_endTag 88 = .ok (.iload_n 2, 1) := by decide +kernel
theorem dX9_endTag_89 : decode cX9_endTag 89 = .ok (.invokestatic 260, 3) := by decide +kernel
theorem dX9_endTag_92 : decode cX9_endTag 92 = .ok (.ifCond .eq 12, 3) := by decide +kernel
theorem dX9_endTag_95 : decode cX9_endTag 95 = .ok (.aload_n 0, 1) := by decide +kernel
theorem dX9_endTag_96 : decode cX9_endTag 96 = .ok (.iconst 3, 1) := by decide +kernel
theorem dX9_endTag_97 : decode cX9_endTag 97 = .ok (.iload_n 1, 1) := by decide +kernel
theorem dX9_endTag_98 : decode cX9_endTag 98 = .ok (.invokevirtual 185, 3) := by decide +kernel
theorem dX9_endTag_101 : decode cX9_endTag 101 = .ok (.goto 15, 3) := by decide +kernel
theorem dX9_endTag_104 : decode cX9_endTag 104 = .ok (.aload_n 0, 1) := by decide +kernel
theorem dX9_endTag_105 : decode cX9_endTag 105 = .ok (.iload_n 3, 1) := by decide +kernel
theorem dX9_endTag_106 : decode cX9_endTag 106 = .ok (.aload_n 0, 1) := by decide +kernel
theorem dX9_endTag_107 : decode cX9_endTag 107 = .ok (.getfield 156, 3) := by decide +kernel
theorem dX9_endTag_110 : decode cX9_endTag 110 = .ok (.iload_n 3, 1) := by decide +kernel
theorem dX9_endTag_111 : decode cX9_endTag 111 = .ok (.iaload, 1) := by decide +kernel
theorem dX9_endTag_112 : decode cX9_endTag 112 = .ok (.iconst (-1), 1) := by decide +kernel
theorem dX9_endTag_113 : decode cX9_endTag 113 = .ok (.invokevirtual 181, 3) := by decide +kernel
theorem dX9_endTag_116 : decode cX9_endTag 116 = .ok (.return_, 1) := by decide +kernel
theorem dX9_entity_0 : decode cX9_entity 0 = .ok (.aload_n 0, 1) := by decide +kernel
theorem dX9_entity_1 : decode cX9_entity 1 = .ok (.iconst 1, 1) := by decide +kernel
theorem dX9_entity_2 : decode cX9_entity 2 = .ok (.putfield 189, 3) := by decide +kernel
theorem dX9_entity_5 : decode cX9_entity 5 = .ok (.aload_n 1, 1) := by decide +kernel
theorem dX9_entity_6 : decode cX9_entity 6 = .ok (.iload_n 2, 1) := by decide +kernel
theorem dX9_entity_7 : decode cX9_entity 7 = .ok (.baload, 1) := by decide +kernel
theorem dX9_entity_8 : decode cX9_entity 8 = .ok (.bipush 38, 2) := by decide +kernel
theorem dX9_entity_10 : decode cX9_entity 10 = .ok (.if_icmp .eq 7, 3) := by decide +kernel
theorem dX9_entity_13 : decode cX9_entity 13 = .ok (.aload_n 1, 1) := by decide +kernel
theorem dX9_entity_14 : decode cX9_entity 14 = .ok (.iload_n 2, 1) := by decide +kernel
theorem dX9_entity_15 : decode cX9_entity 15 = .ok (.baload, 1) := by decide +kernel
theorem dX9_entity_16 : decode cX9_entity 16 = .ok (.ireturn, 1) := by decide +kernel
theorem dX9_entity_17 : decode cX9_entity 17 = .ok (.bipush 38, 2) := by decide +kernel
theorem dX9_entity_19 : decode cX9_entity 19 = .ok (.istore 4, 2) := by decide +kernel
theorem dX9_entity_21 : decode cX9_entity 21 = .ok (.iload_n 2, 1) := by decide +kernel
theorem dX9_entity_22 : decode cX9_entity 22 = .ok (.iconst 3, 1) := by decide +kernel
theorem dX9_entity_23 : decode cX9_entity 23 = .ok (.iadd, 1) := by decide +kernel
theorem dX9_entity_24 : decode cX9_entity 24 = .ok (.iload_n 3, 1) := by decide +kernel
theorem dX9_entity_25 : decode cX9_entity 25 = .ok (.if_icmp .ge 70, 3) := by decide +kernel
theorem dX9_entity_28 : decode cX9_entity 28 = .ok (.aload_n 1, 1) := by decide +kernel
theorem dX9_entity_29 : decode cX9_entity 29 = .ok (.iload_n 2, 1) := by decide +kernel
theorem dX9_entity_30 : decode cX9_entity 30 = .ok (.iconst 2, 1) := by decide +kernel
theorem dX9_entity_31 : decode cX9_entity 31 = .ok (.iadd, 1) := by decide +kernel
theorem dX9_entity_32 : decode cX9_entity 32 = .ok (.baload, 1) := by decide +kernel
theorem dX9_entity_33 : decode cX9_entity 33 = .ok (.bipush 116, 2) := by decide +kernel
theorem dX9_entity_35 : decode cX9_entity 35 = .ok (.if_icmp .ne 60, 3) := by decide +kernel
theorem dX9_entity_38 : decode cX9_entity 38 = .ok (.aload_n 1, 1) := by decide +kernel
theorem dX9_entity_39 : decode cX9_entity 39 = .ok (.iload_n 2, 1) := by decide +kernel
theorem dX9_entity_40 : decode cX9_entity 40 = .ok (.iconst 3, 1) := by decide +kernel
theorem dX9_entity_41 : decode cX9_entity 41 = .ok (.iadd, 1) := by decide +kernel
theorem dX9_entity_42 : decode cX9_entity 42 = .ok (.baload, 1) := by decide +kernel
theorem dX9_entity_43 : decode cX9_entity 43 = .ok (.bipush 59, 2) := by decide +kernel
theorem dX9_entity_45 : decode cX9_entity 45 = .ok (.if_icmp .ne 50, 3) := by decide +kernel
theorem dX9_entity_48 : decode cX9_entity 48 = .ok (.aload_n 1, 1) := by decide +kernel
theorem dX9_entity_49 : decode cX9_entity 49 = .ok (.iload_n 2, 1) := by decide +kernel
theorem dX9_entity_50 : decode cX9_entity 50 = .ok (.iconst 1, 1) := by decide +kernel
theorem dX9_entity_51 : decode cX9_entity 51 = .ok (.iadd, 1) := by decide +kernel
theorem dX9_entity_52 : decode cX9_entity 52 = .ok (.baload, 1) := by decide +kernel
theorem dX9_entity_53 : decode cX9_entity 53 = .ok (.bipush 108, 2) := by decide +kernel
theorem dX9_entity_55 : decode cX9_entity 55 = .ok (.if_icmp .eq 13, 3) := by decide +kernel
theorem dX9_entity_58 : decode cX9_entity 58 = .ok (.aload_n 1, 1) := by decide +kernel
theorem dX9_entity_59 : decode cX9_entity 59 = .ok (.iload_n 2, 1) := by decide +kernel
theorem dX9_entity_60 : decode cX9_entity 60 = .ok (.iconst 1, 1) := by decide +kernel
theorem dX9_entity_61 : decode cX9_entity 61 = .ok (.iadd, 1) := by decide +kernel
theorem dX9_entity_62 : decode cX9_entity 62 = .ok (.baload, 1) := by decide +kernel
theorem dX9_entity_63 : decode cX9_entity 63 = .ok (.bipush 103, 2) := by decide +kernel
theorem dX9_entity_65 : decode cX9_entity 65 = .ok (.if_icmp .ne 30, 3) := by decide +kernel
theorem dX9_entity_68 : decode cX9_entity 68 = .ok (.aload_n 0, 1) := by decide +kernel
theorem dX9_entity_69 : decode cX9_entity 69 = .ok (.iconst 4, 1) := by decide +kernel
theorem dX9_entity_70 : decode cX9_entity 70 = .ok (.putfield 189, 3) := by decide +kernel
theorem dX9_entity_73 : decode cX9_entity 73 = .ok (.aload_n 1, 1) := by decide +kernel
theorem dX9_entity_74 : decode cX9_entity 74 = .ok (.iload_n 2, 1) := by decide +kernel
theorem dX9_entity_75 : decode cX9_entity 75 = .ok (.iconst 1, 1) := by decide +kernel
theorem dX9_entity_76 : decode cX9_entity 76 = .ok (.iadd, 1) := by decide +kernel
theorem dX9_entity_77 : decode cX9_entity 77 = .ok (.baload, 1) := by decide +kernel
theorem dX9_entity_78 : decode cX9_entity 78 = .ok (.bipush 108, 2) := by decide +kernel
theorem dX9_entity_80 : decode cX9_entity 80 = .ok (.if_icmp .ne 8, 3) := by decide +kernel
theorem dX9_entity_83 : decode cX9_entity 83 = .ok (.bipush 60, 2) := by decide +kernel
theorem dX9_entity_85 : decode cX9_entity 85 = .ok (.goto 5, 3) := by decide +kernel
theorem dX9_entity_88 : decode cX9_entity 88 = .ok (.bipush 62, 2) := by decide +kernel
theorem dX9_entity_90 : decode cX9_entity 90 = .ok (.istore 4, 2) := by decide +kernel
theorem dX9_entity_92 : decode cX9_entity 92 = .ok (.goto 125, 3) := by decide +kernel
theorem dX9_entity_95 : decode cX9_entity 95 = .ok (.iload_n 2, 1) := by decide +kernel
theorem dX9_entity_96 : decode cX9_entity 96 = .ok (.iconst 4, 1) := by decide +kernel
theorem dX9_entity_97 : decode cX9_entity 97 = .ok (.iadd, 1) := by decide +kernel
theorem dX9_entity_98 : decode cX9_entity 98 = .ok (.iload_n 3, 1) := by decide +kernel
theorem dX9_entity_99 : decode cX9_entity 99 = .ok (.if_icmp .ge 51, 3) := by decide +kernel
theorem dX9_entity_102 : decode cX9_entity 102 = .ok (.aload_n 1, 1) := by decide +kernel
theorem dX9_entity_103 : decode cX9_entity 103 = .ok (.iload_n 2, 1) := by decide +kernel
theorem dX9_entity_104 : decode cX9_entity 104 = .ok (.iconst 1, 1) := by decide +kernel
theorem dX9_entity_105 : decode cX9_entity 105 = .ok (.iadd, 1) := by decide +kernel
theorem dX9_entity_106 : decode cX9_entity 106 = .ok (.baload, 1) := by decide +kernel
theorem dX9_entity_107 : decode cX9_entity 107 = .ok (.bipush 97, 2) := by decide +kernel
theorem dX9_entity_109 : decode cX9_entity 109 = .ok (.if_icmp .ne 41, 3) := by decide +kernel
theorem dX9_entity_112 : decode cX9_entity 112 = .ok (.aload_n 1, 1) := by decide +kernel
theorem dX9_entity_113 : decode cX9_entity 113 = .ok (.iload_n 2, 1) := by decide +kernel
theorem dX9_entity_114 : decode cX9_entity 114 = .ok (.iconst 2, 1) := by decide +kernel
theorem dX9_entity_115 : decode cX9_entity 115 = .ok (.iadd, 1) := by decide +kernel
theorem dX9_entity_116 : decode cX9_entity 116 = .ok (.baload, 1) := by decide +kernel
theorem dX9_entity_117 : decode cX9_entity 117 = .ok (.bipush 109, 2) := by decide +kernel
theorem dX9_entity_119 : decode cX9_entity 119 = .ok (.if_icmp .ne 31, 3) := by decide +kernel
theorem dX9_entity_122 : decode cX9_entity 122 = .ok (.aload_n 1, 1) := by decide +kernel
theorem dX9_entity_123 : decode cX9_entity 123 = .ok (.iload_n 2, 1) := by decide +kernel
theorem dX9_entity_124 : decode cX9_entity 124 = .ok (.iconst 3, 1) := by decide +kernel
theorem dX9_entity_125 : decode cX9_entity 125 = .ok (.iadd, 1) := by decide +kernel
theorem dX9_entity_126 : decode cX9_entity 126 = .ok (.baload, 1) := by decide +kernel
theorem dX9_entity_127 : decode cX9_entity 127 = .ok (.bipush 112, 2) := by decide +kernel
theorem dX9_entity_129 : decode cX9_entity 129 = .ok (.if_icmp .ne 21, 3) := by decide +kernel
theorem dX9_entity_132 : decode cX9_entity 132 = .ok (.aload_n 1, 1) := by decide +kernel
theorem dX9_entity_133 : decode cX9_entity 133 = .ok (.iload_n 2, 1) := by decide +kernel
theorem dX9_entity_134 : decode cX9_entity 134 = .ok (.iconst 4, 1) := by decide +kernel
theorem dX9_entity_135 : decode cX9_entity 135 = .ok (.iadd, 1) := by decide +kernel
theorem dX9_entity_136 : decode cX9_entity 136 = .ok (.baload, 1) := by decide +kernel
theorem dX9_entity_137 : decode cX9_entity 137 = .ok (.bipush 59, 2) := by decide +kernel
theorem dX9_entity_139 : decode cX9_entity 139 = .ok (.if_icmp .ne 11, 3) := by decide +kernel
theorem dX9_entity_142 : decode cX9_entity 142 = .ok (.aload_n 0, 1) := by decide +kernel
theorem dX9_entity_143 : decode cX9_entity 143 = .ok (.iconst 5, 1) := by decide +kernel
theorem dX9_entity_144 : decode cX9_entity 144 = .ok (.putfield 189, 3) := by decide +kernel
theorem dX9_entity_147 : decode cX9_entity 147 = .ok (.goto 70, 3) := by decide +kernel
theorem dX9_entity_150 : decode cX9_entity 150 = .ok (.iload_n 2, 1) := by decide +kernel
theorem dX9_entity_151 : decode cX9_entity 151 = .ok (.iconst 5, 1) := by decide +kernel
theorem dX9_entity_152 : decode cX9_entity 152 = .ok (.iadd, 1) := by decide +kernel
theorem dX9_entity_153 : decode cX9_entity 153 = .ok (.iload_n 3, 1) := by decide +kernel
theorem dX9_entity_154 : decode cX9_entity 154 = .ok (.if_icmp .ge 63, 3) := by decide +kernel
theorem dX9_entity_157 : decode cX9_entity 157 = .ok (.aload_n 1, 1) := by decide +kernel
theorem dX9_entity_158 : decode cX9_entity 158 = .ok (.iload_n 2, 1) := by decide +kernel
theorem dX9_entity_159 : decode cX9_entity 159 = .ok (.iconst 1, 1) := by decide +kernel
theorem dX9_entity_160 : decode cX9_entity 160 = .ok (.iadd, 1) := by decide +kernel
theorem dX9_entity_161 : decode cX9_entity 161 = .ok (.baload, 1) := by decide +kernel
theorem dX9_entity_162 : decode cX9_entity 162 = .ok (.bipush 113, 2) := by decide +kernel
theorem dX9_entity_164 : decode cX9_entity 164 = .ok (.if_icmp .ne 53, 3) := by decide +kernel
theorem dX9_entity_167 : decode cX9_entity 167 = .ok (.aload_n 1, 1) := by decide +kernel
theorem dX9_entity_168 : decode cX9_entity 168 = .ok (.iload_n 2, 1) := by decide +kernel
theorem dX9_entity_169 : decode cX9_entity 169 = .ok (.iconst 2, 1) := by decide +kernel
theorem dX9_entity_170 : decode cX9_entity 170 = .ok (.iadd, 1) := by decide +kernel
theorem dX9_entity_171 : decode cX9_entity 171 = .ok (.baload, 1) := by decide +kernel
theorem dX9_entity_172 : decode cX9_entity 172 = .ok (.bipush 117, 2) := by decide +kernel
theorem dX9_entity_174 : decode cX9_entity 174 = .ok (.if_icmp .ne 43, 3) := by decide +kernel
theorem dX9_entity_177 : decode cX9_entity 177 = .ok (.aload_n 1, 1) := by decide +kernel
theorem dX9_entity_178 : decode cX9_entity 178 = .ok (.iload_n 2, 1) := by decide +kernel
theorem dX9_entity_179 : decode cX9_entity 179 = .ok (.iconst 3, 1) := by decide +kernel
theorem dX9_entity_180 : decode cX9_entity 180 = .ok (.iadd, 1) := by decide +kernel
theorem dX9_entity_181 : decode cX9_entity 181 = .ok (.baload, 1) := by decide +kernel
theorem dX9_entity_182 : decode cX9_entity 182 = .ok (.bipush 111, 2) := by decide +kernel
theorem dX9_entity_184 : decode cX9_entity 184 = .ok (.if_icmp .ne 33, 3) := by decide +kernel
theorem dX9_entity_187 : decode cX9_entity 187 = .ok (.aload_n 1, 1) := by decide +kernel
theorem dX9_entity_188 : decode cX9_entity 188 = .ok (.iload_n 2, 1) := by decide +kernel
theorem dX9_entity_189 : decode cX9_entity 189 = .ok (.iconst 4, 1) := by decide +kernel
theorem dX9_entity_190 : decode cX9_entity 190 = .ok (.iadd, 1) := by decide +kernel
theorem dX9_entity_191 : decode cX9_entity 191 = .ok (.baload, 1) := by decide +kernel
theorem dX9_entity_192 : decode cX9_entity 192 = .ok (.bipush 116, 2) := by decide +kernel
theorem dX9_entity_194 : decode cX9_entity 194 = .ok (.if_icmp .ne 23, 3) := by decide +kernel
theorem dX9_entity_197 : decode cX9_entity 197 = .ok (.aload_n 1, 1) := by decide +kernel
theorem dX9_entity_198 : decode cX9_entity 198 = .ok (.iload_n 2, 1) := by decide +kernel
theorem dX9_entity_199 : decode cX9_entity 199 = .ok (.iconst 5, 1) := by decide +kernel
theorem dX9_entity_200 : decode cX9_entity 200 = .ok (.iadd, 1) := by decide +kernel
theorem dX9_entity_201 : decode cX9_entity 201 = .ok (.baload, 1) := by decide +kernel
theorem dX9_entity_202 : decode cX9_entity 202 = .ok (.bipush 59, 2) := by decide +kernel
theorem dX9_entity_204 : decode cX9_entity 204 = .ok (.if_icmp .ne 13, 3) := by decide +kernel
theorem dX9_entity_207 : decode cX9_entity 207 = .ok (.aload_n 0, 1) := by decide +kernel
theorem dX9_entity_208 : decode cX9_entity 208 = .ok (.bipush 6, 2) := by decide +kernel
theorem dX9_entity_210 : decode cX9_entity 210 = .ok (.putfield 189, 3) := by decide +kernel
theorem dX9_entity_213 : decode cX9_entity 213 = .ok (.bipush 34, 2) := by decide +kernel
theorem dX9_entity_215 : decode cX9_entity 215 = .ok (.istore 4, 2) := by decide +kernel
theorem dX9_entity_217 : decode cX9_entity 217 = .ok (.iload 4, 2) := by decide +kernel
theorem dX9_entity_219 : decode cX9_entity 219 = .ok (.ireturn, 1) := by decide +kernel
