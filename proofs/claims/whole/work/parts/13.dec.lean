theorem dX5_takeAttribute_0 : decode cX5_takeAttribute 0 = .ok (.aload_n 0, 1) := by decide +kernel
theorem dX5_takeAttribute_1 : decode cX5_takeAttribute 1 = .ok (.getfield 12, 3) := by decide +kernel
theorem dX5_takeAttribute_4 : decode cX5_takeAttribute 4 = .ok (.lload_n 1, 1) := by decide +kernel
theorem dX5_takeAttribute_5 : decode cX5_takeAttribute 5 = .ok (.invokevirtual 202, 3) := by decide +kernel
theorem dX5_takeAttribute_8 : decode cX5_takeAttribute 8 = .ok (.ifnonnull 14, 3) := by decide +kernel
theorem dX5_takeAttribute_11 : decode cX5_takeAttribute 11 = .ok (.aload_n 0, 1) := by decide +kernel
theorem dX5_takeAttribute_12 : decode cX5_takeAttribute 12 = .ok (.getfield 12, 3) := by decide +kernel
theorem dX5_takeAttribute_15 : decode cX5_takeAttribute 15 = .ok (.lload_n 1, 1) := by decide +kernel
theorem dX5_takeAttribute_16 : decode cX5_takeAttribute 16 = .ok (.invokevirtual 206, 3) := by decide +kernel
theorem dX5_takeAttribute_19 : decode cX5_takeAttribute 19 = .ok (.goto 4, 3) := by decide +kernel
theorem dX5_takeAttribute_22 : decode cX5_takeAttribute 22 = .ok (.aconst_null, 1) := by decide +kernel
theorem dX5_takeAttribute_23 : decode cX5_takeAttribute 23 = .ok (.astore 4, 2) := by decide +kernel
theorem dX5_takeAttribute_25 : decode cX5_takeAttribute 25 = .ok (.aload 4, 2) := by decide +kernel
theorem dX5_takeAttribute_27 : decode cX5_takeAttribute 27 = .ok (.ifnonnull 12, 3) := by decide +kernel
theorem dX5_takeAttribute_30 : decode cX5_takeAttribute 30 = .ok (.aload_n 0, 1) := by decide +kernel
theorem dX5_takeAttribute_31 : decode cX5_takeAttribute 31 = .ok (.getfield 36, 3) := by decide +kernel
theorem dX5_takeAttribute_34 : decode cX5_takeAttribute 34 = .ok (.iconst 2, 1) := by decide +kernel
theorem dX5_takeAttribute_35 : decode cX5_takeAttribute 35 = .ok (.iload_n 3, 1) := by decide +kernel
theorem dX5_takeAttribute_36 : decode cX5_takeAttribute 36 = .ok (.invokevirtual 148, 3) := by decide +kernel
theorem dX5_takeAttribute_39 : decode cX5_takeAttribute 39 = .ok (.aload 4, 2) := by decide +kernel
theorem dX5_takeAttribute_41 : decode cX5_takeAttribute 41 = .ok (.areturn, 1) := by decide +kernel
theorem dX5_readAttribute_0 : decode cX5_readAttribute 0 = .ok (.aload_n 0, 1) := by decide +kernel
theorem dX5_readAttribute_1 : decode cX5_readAttribute 1 = .ok (.getfield 58, 3) := by decide +kernel
theorem dX5_readAttribute_4 : decode cX5_readAttribute 4 = .ok (.istore_n 2, 1) := by decide +kernel
theorem dX5_readAttribute_5 : decode cX5_readAttribute 5 = .ok (.aload_n 0, 1) := by decide +kernel
theorem dX5_readAttribute_6 : decode cX5_readAttribute 6 = .ok (.invokevirtual 191, 3) := by decide +kernel
theorem dX5_readAttribute_9 : decode cX5_readAttribute 9 = .ok (.lstore_n 3, 1) := by decide +kernel
theorem dX5_readAttribute_10 : decode cX5_readAttribute 10 = .ok (.iload_n 1, 1) := by decide +kernel
theorem dX5_readAttribute_11 : decode cX5_readAttribute 11 = .ok (.ifCond .eq 7, 3) := by decide +kernel
theorem dX5_readAttribute_14 : decode cX5_readAttribute 14 = .ok (.aconst_null, 1) := by decide +kernel
theorem dX5_readAttribute_15 : decode cX5_readAttribute 15 = .ok (.goto 9, 3) := by decide +kernel
theorem dX5_readAttribute_18 : decode cX5_readAttribute 18 = .ok (.aload_n 0, 1) := by decide +kernel
theorem dX5_readAttribute_19 : decode cX5_readAttribute 19 = .ok (.lload_n 3, 1) := by decide +kernel
theorem dX5_readAttribute_20 : decode cX5_readAttribute 20 = .ok (.iload_n 2, 1) := by decide +kernel
theorem dX5_readAttribute_21 : decode cX5_readAttribute 21 = .ok (.invokevirtual 194, 3) := by decide +kernel
theorem dX5_readAttribute_24 : decode cX5_readAttribute 24 = .ok (.astore 5, 2) := by decide +kernel
theorem dX5_readAttribute_26 : decode cX5_readAttribute 26 = .ok (.aload_n 0, 1) := by decide +kernel
theorem dX5_readAttribute_27 : decode cX5_readAttribute 27 = .ok (.getfield 28, 3) := by decide +kernel
theorem dX5_readAttribute_30 : decode cX5_readAttribute 30 = .ok (.aload_n 0, 1) := by decide +kernel
theorem dX5_readAttribute_31 : decode cX5_readAttribute 31 = .ok (.getfield 58, 3) := by decide +kernel
theorem dX5_readAttribute_34 : decode cX5_readAttribute 34 = .ok (.invokevirtual 100, 3) := by decide +kernel
theorem dX5_readAttribute_37 : decode cX5_readAttribute 37 = .ok (.bipush 61, 2) := by decide +kernel
theorem dX5_readAttribute_39 : decode cX5_readAttribute 39 = .ok (.if_icmp .ne 19, 3) := by decide +kernel
theorem dX5_readAttribute_42 : decode cX5_readAttribute 42 = .ok (.aload_n 0, 1) := by decide +kernel
theorem dX5_readAttribute_43 : decode cX5_readAttribute 43 = .ok (.dup, 1) := by decide +kernel
theorem dX5_readAttribute_44 : decode cX5_readAttribute 44 = .ok (.getfield 58, 3) := by decide +kernel
theorem dX5_readAttribute_47 : decode cX5_readAttribute 47 = .ok (.iconst 1, 1) := by decide +kernel
theorem dX5_readAttribute_48 : decode cX5_readAttribute 48 = .ok (.iadd, 1) := by decide +kernel
theorem dX5_readAttribute_49 : decode cX5_readAttribute 49 = .ok (.putfield 58, 3) := by decide +kernel
theorem dX5_readAttribute_52 : decode cX5_readAttribute 52 = .ok (.aload_n 0, 1) := by decide +kernel
theorem dX5_readAttribute_53 : decode cX5_readAttribute 53 = .ok (.aload 5, 2) := by decide +kernel
theorem dX5_readAttribute_55 : decode cX5_readAttribute 55 = .ok (.invokevirtual 198, 3) := by decide +kernel
theorem dX5_readAttribute_58 : decode cX5_readAttribute 58 = .ok (.return_, 1) := by decide +kernel
theorem dX8_isDigit_0 : decode cX8_isDigit 0 = .ok (.iload_n 0, 1) := by decide +kernel
theorem dX8_isDigit_1 : decode cX8_isDigit 1 = .ok (.bipush 48, 2) := by decide +kernel
theorem dX8_isDigit_3 : decode cX8_isDigit 3 = .ok (.if_icmp .lt 13, 3) := by decide +kernel
theorem dX8_isDigit_6 : decode cX8_isDigit 6 = .ok (.iload_n 0, 1) := by decide +kernel
theorem dX8_isDigit_7 : decode cX8_isDigit 7 = .ok (.bipush 57, 2) := by decide +kernel
theorem dX8_isDigit_9 : decode cX8_isDigit 9 = .ok (.if_icmp .gt 7, 3) := by decide +kernel
theorem dX8_isDigit_12 : decode cX8_isDigit 12 = .ok (.iconst 1, 1) := by decide +kernel
theorem dX8_isDigit_13 : decode cX8_isDigit 13 = .ok (.goto 4, 3) := by decide +kernel
theorem dX8_isDigit_16 : decode cX8_isDigit 16 = .ok (.iconst 0, 1) := by decide +kernel
theorem dX8_isDigit_17 : decode cX8_isDigit 17 = .ok (.ireturn, 1) := by decide +kernel
theorem dX8_isSmallLetter_0 : decode cX8_isSmallLetter 0 = .ok (.iload_n 0, 1) := by decide +kernel
theorem dX8_isSmallLetter_1 : decode cX8_isSmallLetter 1 = .ok (.bipush 97, 2) := by decide +kernel
theorem dX8_isSmallLetter_3 : decode cX8_isSmallLetter 3 = .ok (.if_icmp .lt 13, 3) := by decide +kernel
theorem dX8_isSmallLetter_6 : decode cX8_isSmallLetter 6 = .ok (.iload_n 0, 1) := by decide +kernel
theorem dX8_isSmallLetter_7 : decode cX8_isSmallLetter 7 = .ok (.bipush 122, 2) := by decide +kernel
theorem dX8_isSmallLetter_9 : decode cX8_isSmallLetter 9 = .ok (.if_icmp .gt 7, 3) := by decide +kernel
theorem dX8_isSmallLetter_12 : decode cX8_isSmallLetter 12 = .ok (.iconst 1, 1) := by decide +kernel
theorem dX8_isSmallLetter_13 : decode cX8_isSmallLetter 13 = .ok (.goto 4, 3) := by decide +kernel
theorem dX8_isSmallLetter_16 : decode cX8_isSmallLetter 16 = .ok (.iconst 0, 1) := by decide +kernel
theorem dX8_isSmallLetter_17 : decode cX8_isSmallLetter 17 = .ok (.ireturn, 1) := by decide +kernel
theorem dX5_readTagName_0 : decode cX5_readTagName 0 = .ok (.lconst 0, 1) := by decide +kernel
theorem dX5_readTagName_1 : decode cX5_readTagName 1 = .ok (.lstore_n 1, 1) := by decide +kernel
theorem dX5_readTagName_2 : decode cX5_readTagName 2 = .ok (.aload_n 0, 1) := by decide +kernel
theorem dX5_readTagName_3 : decode cX5_readTagName 3 = .ok (.getfield 58, 3) := by decide +kernel
theorem dX5_readTagName_6 : decode cX5_readTagName 6 = .ok (.aload_n 0, 1) := by decide +kernel
theorem dX5_readTagName_7 : decode cX5_readTagName 7 = .ok (.getfield 28, 3) := by decide +kernel
theorem dX5_readTagName_10 : decode cX5_readTagName 10 = .ok (.getfield 61, 3) := by decide +kernel
theorem dX5_readTagName_13 : decode cX5_readTagName 13 = .ok (.if_icmp .ge 54, 3) := by decide +kernel
theorem dX5_readTagName_16 : decode cX5_readTagName 16 = .ok (.aload_n 0, 1) := by decide +kernel
theorem dX5_readTagName_17 : decode cX5_readTagName 17 = .ok (.getfield 28, 3) := by decide +kernel
theorem dX5_readTagName_20 : decode cX5_readTagName 20 = .ok (.aload_n 0, 1) := by decide +kernel
theorem dX5_readTagName_21 : decode cX5_readTagName 21 = .ok (.getfield 58, 3) := by decide +kernel
theorem dX5_readTagName_24 : decode cX5_readTagName 24 = .ok (.invokevirtual 100, 3) := by decide +kernel
theorem dX5_readTagName_27 : decode cX5_readTagName 27 = .ok (.invokestatic 107, 3) := by decide +kernel
theorem dX5_readTagName_30 : decode cX5_readTagName 30 = .ok (.istore_n 3, 1) := by decide +kernel
theorem dX5_readTagName_31 : decode cX5_readTagName 31 = .ok (.iload_n 3, 1) := by decide +kernel
theorem dX5_readTagName_32 : decode cX5_readTagName 32 = .ok (.invokestatic 110, 3) := by decide +kernel
theorem dX5_readTagName_35 : decode cX5_readTagName 35 = .ok (.ifCond .ne 13, 3) := by decide +kernel
theorem dX5_readTagName_38 : decode cX5_readTagName 38 = .ok (.iload_n 3, 1) := by decide +kernel
theorem dX5_readTagName_39 : decode cX5_readTagName 39 = .ok (.invokestatic 184, 3) := by decide +kernel
theorem dX5_readTagName_42 : decode cX5_readTagName 42 = .ok (.ifCond .ne 6, 3) := by decide +kernel
theorem dX5_readTagName_45 : decode cX5_readTagName 45 = .ok (.goto 22, 3) := by decide +kernel
theorem dX5_readTagName_48 : decode cX5_readTagName 48 = .ok (.lload_n 1, 1) := by decide +kernel
theorem dX5_readTagName_49 : decode cX5_readTagName 49 = .ok (.iload_n 3, 1) := by decide +kernel
theorem dX5_readTagName_50 : decode cX5_readTagName 50 = .ok (.invokestatic 187, 3) := by decide +kernel
theorem dX5_readTagName_53 : decode cX5_readTagName 53 = .ok (.lstore_n 1, 1) := by decide +kernel
theorem dX5_readTagName_54 : decode cX5_readTagName 54 = .ok (.aload_n 0, 1) := by decide +kernel
theorem dX5_readTagName_55 : decode cX5_readTagName 55 = .ok (.dup, 1) := by decide +kernel
theorem dX5_readTagName_56 : decode cX5_readTagName 56 = .ok (.getfield 58, 3) := by decide +kernel
theorem dX5_readTagName_59 : decode cX5_readTagName 59 = .ok (.iconst 1, 1) := by decide +kernel
theorem dX5_readTagName_60 : decode cX5_readTagName 60 = .ok (.iadd, 1) := by decide +kernel
theorem dX5_readTagName_61 : decode cX5_readTagName 61 = .ok (.putfield 58, 3) := by decide +kernel
theorem dX5_readTagName_64 : decode cX5_readTagName 64 = .ok (.goto (-62), 3) := by decide +kernel
theorem dX5_readTagName_67 : decode cX5_readTagName 67 = .ok (.lload_n 1, 1) := by decide +kernel
theorem dX5_readTagName_68 : decode cX5_readTagName 68 = .ok (.lreturn, 1) := by decide +kernel
theorem dX8_isEmptyTag_0 : decode cX8_isEmptyTag 0 = .ok (.iload_n 0, 1) := by decide +kernel
theorem dX8_isEmptyTag_1 : decode cX8_isEmptyTag 1 = .ok (.bipush 10, 2) := by decide +kernel
theorem dX8_isEmptyTag_3 : decode cX8_isEmptyTag 3 = .ok (.if_icmp .lt 13, 3) := by decide +kernel
theorem dX8_isEmptyTag_6 : decode cX8_isEmptyTag 6 = .ok (.iload_n 0, 1) := by decide +kernel
theorem dX8_isEmptyTag_7 : decode cX8_isEmptyTag 7 = .ok (.bipush 13, 2) := by decide +kernel
theorem dX8_isEmptyTag_9 : decode cX8_isEmptyTag 9 = .ok (.if_icmp .gt 7, 3) := by decide +kernel
theorem dX8_isEmptyTag_12 : decode cX8_isEmptyTag 12 = .ok (.iconst 1, 1) := by decide +kernel
theorem dX8_isEmptyTag_13 : decode cX8_isEmptyTag 13 = .ok (.goto 4, 3) := by decide +kernel
theorem dX8_isEmptyTag_16 : decode cX8_isEmptyTag 16 = .ok (.iconst 0, 1) := by decide +kernel
theorem dX8_isEmptyTag_17 : decode cX8_isEmptyTag 17 = .ok (.ireturn, 1) := by decide +kernel
theorem dX8_tagOf_0 : decode cX8_tagOf 0 = .ok (.iconst 0, 1) := by decide +kernel
theorem dX8_tagOf_1 : decode cX8_tagOf 1 = .ok (.istore_n 2, 1) := by decide +kernel
theorem dX8_tagOf_2 : decode cX8_tagOf 2 = .ok (.lconst 0, 1) := by decide +kernel
theorem dX8_tagOf_3 : decode cX8_tagOf 3 = .ok (.lstore_n 3, 1) := by decide +kernel
theorem dX8_tagOf_4 : decode cX8_tagOf 4 = .ok (.iconst 0, 1) := by decide +kernel
theorem dX8_tagOf_5 : decode cX8_tagOf 5 = .ok (.istore 5, 2) := by decide +kernel
theorem dX8_tagOf_7 : decode cX8_tagOf 7 = .ok (.iload 5, 2) := by decide +kernel
theorem dX8_tagOf_9 : decode cX8_tagOf 9 = .ok (.ldc 226, 2) := by decide +kernel
theorem dX8_tagOf_11 : decode cX8_tagOf 11 = .ok (.invokevirtual 228, 3) := by decide +kernel
theorem dX8_tagOf_14 : decode cX8_tagOf 14 = .ok (.if_icmp .ge 48, 3) := by decide +kernel
theorem dX8_tagOf_17 : decode cX8_tagOf 17 = .ok (.ldc 226, 2) := by decide +kernel
theorem dX8_tagOf_19 : decode cX8_tagOf 19 = .ok (.iload 5, 2) := by decide +kernel
theorem dX8_tagOf_21 : decode cX8_tagOf 21 = .ok (.invokevirtual 232, 3) := by decide +kernel
theorem dX8_tagOf_24 : decode cX8_tagOf 24 = .ok (.istore 6, 2) := by decide +kernel
theorem dX8_tagOf_26 : decode cX8_tagOf 26 = .ok (.iload 6, 2) := by decide +kernel
theorem dX8_tagOf_28 : decode cX8_tagOf 28 = .ok (.bipush 32, 2) := by decide +kernel
theorem dX8_tagOf_30 : decode cX8_tagOf 30 = .ok (.if_icmp .eq 13, 3) := by decide +kernel
theorem dX8_tagOf_33 : decode cX8_tagOf 33 = .ok (.lload_n 3, 1) := by decide +kernel
theorem dX8_tagOf_34 : decode cX8_tagOf 34 = .ok (.iload 6, 2) := by decide +kernel
theorem dX8_tagOf_36 : decode cX8_tagOf 36 = .ok (.invokestatic 236, 3) := by decide +kernel
theorem dX8_tagOf_39 : decode cX8_tagOf 39 = .ok (.lstore_n 3, 1) := by decide +kernel
theorem dX8_tagOf_40 : decode cX8_tagOf 40 = .ok (.goto 16, 3) := by decide +kernel
theorem dX8_tagOf_43 : decode cX8_tagOf 43 = .ok (.lload_n 3, 1) := by decide +kernel
theorem dX8_tagOf_44 : decode cX8_tagOf 44 = .ok (.lload_n 0, 1) := by decide +kernel
theorem dX8_tagOf_45 : decode cX8_tagOf 45 = .ok (.lcmp, 1) := by decide +kernel
theorem dX8_tagOf_46 : decode cX8_tagOf 46 = .ok (.ifCond .ne 5, 3) := by decide +kernel
theorem dX8_tagOf_49 : decode cX8_tagOf 49 = .ok (.iload_n 2, 1) := by decide +kernel
theorem dX8_tagOf_50 : decode cX8_tagOf 50 = .ok (.ireturn, 1) := by decide +kernel
theorem dX8_tagOf_51 : decode cX8_tagOf 51 = .ok (.iinc 2 1, 3) := by decide +kernel
theorem dX8_tagOf_54 : decode cX8_tagOf 54 = .ok (.lconst 0, 1) := by decide +kernel
theorem dX8_tagOf_55 : decode cX8_tagOf 55 = .ok (.lstore_n 3, 1) := by decide +kernel
theorem dX8_tagOf_56 : decode cX8_tagOf 56 = .ok (.iinc 5 1, 3) := by decide +kernel
theorem dX8_tagOf_59 : decode cX8_tagOf 59 = .ok (.goto (-52), 3) := by decide +kernel
theorem dX8_tagOf_62 : decode cX8_tagOf 62 = .ok (.bipush 16, 2) := by decide +kernel
theorem dX8_tagOf_64 : decode cX8_tagOf 64 = .ok (.ireturn, 1) := by decide +kernel
theorem dX5_innermostNamed_0 : decode cX5_innermostNamed 0 = .ok (.aload_n 0, 1) := by decide +kernel
theorem dX5_innermostNamed_1 : decode cX5_innermostNamed 1 = .ok (.getfield 55, 3) := by decide +kernel
theorem dX5_innermostNamed_4 : decode cX5_innermostNamed 4 = .ok (.iconst 1, 1) := by decide +kernel
theorem dX5_innermostNamed_5 : decode cX5_innermostNamed 5 = .ok (.isub, 1) := by decide +kernel
theorem dX5_innermostNamed_6 : decode cX5_innermostNamed 6 = .ok (.istore_n 3, 1) := by decide +kernel
theorem dX5_innermostNamed_7 : decode cX5_innermostNamed 7 = .ok (.iload_n 3, 1) := by decide +kernel
theorem dX5_innermostNamed_8 : decode cX5_innermostNamed 8 = .ok (.ifCond .le 33, 3) := by decide +kernel
theorem dX5_innermostNamed_11 : decode cX5_innermostNamed 11 = .ok (.aload_n 0, 1) := by decide +kernel
theorem dX5_innermostNamed_12 : decode cX5_innermostNamed 12 = .ok (.iload_n 3, 1) := by decide +kernel
theorem dX5_innermostNamed_13 : decode cX5_innermostNamed 13 = .ok (.invokevirtual 260, 3) := by decide +kernel
theorem dX5_innermostNamed_16 : decode cX5_innermostNamed 16 = .ok (.astore 4, 2) := by decide +kernel
theorem dX5_innermostNamed_18 : decode cX5_innermostNamed 18 = .ok (.aload 4, 2) := by decide +kernel
theorem dX5_innermostNamed_20 : decode cX5_innermostNamed 20 = .ok (.ifnull 15, 3) := by decide +kernel
theorem dX5_innermostNamed_23 : decode cX5_innermostNamed 23 = .ok (.aload 4, 2) := by decide +kernel
theorem dX5_innermostNamed_25 : decode cX5_innermostNamed 25 = .ok (.getfield 264, 3) := by decide +kernel
theorem dX5_innermostNamed_28 : decode cX5_innermostNamed 28 = .ok (.lload_n 1, 1) := by decide +kernel
theorem dX5_innermostNamed_29 : decode cX5_innermostNamed 29 = .ok (.lcmp, 1) := by decide +kernel
theorem dX5_innermostNamed_30 : decode cX5_innermostNamed 30 = .ok (.ifCond .ne 5, 3) := by decide +kernel
theorem dX5_innermostNamed_33 : decode cX5_innermostNamed 33 = .ok (.iload_n 3, 1) := by decide +kernel
theorem dX5_innermostNamed_34 : decode cX5_innermostNamed 34 = .ok (.ireturn, 1) := by decide +kernel
theorem dX5_innermostNamed_35 : decode cX5_innermostNamed 35 = .ok (.iinc 3 (-1), 3) := by decide +kernel
theorem dX5_innermostNamed_38 : decode cX5_innermostNamed 38 = .ok (.goto (-31), 3) := by decide +kernel
theorem dX5_innermostNamed_41 : decode cX5_innermostNamed 41 = .ok (.iconst 0, 1) := by decide +kernel
theorem dX5_innermostNamed_42 : decode cX5_innermostNamed 42 = .ok (.ireturn, 1) := by decide +kernel
theorem dX5_takeEndTag_0 : decode cX5_takeEndTag 0 = .ok (.lload_n 1, 1) := by decide +kernel
theorem dX5_takeEndTag_1 : decode cX5_takeEndTag 1 = .ok (.invokestatic 228, 3) := by decide +kernel
theorem dX5_takeEndTag_4 : decode cX5_takeEndTag 4 = .ok (.invokestatic 232, 3) := by decide +kernel
theorem dX5_takeEndTag_7 : decode cX5_takeEndTag 7 = .ok (.ifCond .eq 7, 3) := by decide +kernel
theorem dX5_takeEndTag_10 : decode cX5_takeEndTag 10 = .ok (.iconst 0, 1) := by decide +kernel
theorem dX5_takeEndTag_11 : decode cX5_takeEndTag 11 = .ok (.goto 8, 3) := by decide +kernel
theorem dX5_takeEndTag_14 : decode cX5_takeEndTag 14 = .ok (.aload_n 0, 1) := by decide +kernel
theorem dX5_takeEndTag_15 : decode cX5_takeEndTag 15 = .ok (.lload_n 1, 1) := by decide +kernel
theorem dX5_takeEndTag_16 : decode cX5_takeEndTag 16 = .ok (.invokevirtual 235, 3) := by decide +kernel
theorem dX5_takeEndTag_19 : decode cX5_takeEndTag 19 = .ok (.istore 4, 2) := by decide +kernel
theorem dX5_takeEndTag_21 : decode cX5_takeEndTag 21 = .ok (.iload 4, 2) := by decide +kernel
theorem dX5_takeEndTag_23 : decode cX5_takeEndTag 23 = .ok (.ifCond .ne 13, 3) := by decide +kernel
theorem dX5_takeEndTag_26 : decode cX5_takeEndTag 26 = .ok (.aload_n 0, 1) := by decide +kernel
theorem dX5_takeEndTag_27 : decode cX5_takeEndTag 27 = .ok (.getfield 36, 3) := by decide +kernel
theorem dX5_takeEndTag_30 : decode cX5_takeEndTag 30 = .ok (.iconst 3, 1) := by decide +kernel
theorem dX5_takeEndTag_31 : decode cX5_takeEndTag 31 = .ok (.iload_n 3, 1) := by decide +kernel
theorem dX5_takeEndTag_32 : decode cX5_takeEndTag 32 = .ok (.invokevirtual 148, 3) := by decide +kernel
theorem dX5_takeEndTag_35 : decode cX5_takeEndTag 35 = .ok (.return_, 1) := by decide +kernel
theorem dX5_takeEndTag_36 : decode cX5_takeEndTag 36 = .ok (.aload_n 0, 1) := by decide +kernel
theorem dX5_takeEndTag_37 : decode cX5_takeEndTag 37 = .ok (.iload 4, 2) := by decide +kernel
theorem dX5_takeEndTag_39 : decode cX5_takeEndTag 39 = .ok (.iconst 1, 1) := by decide +kernel
theorem dX5_takeEndTag_40 : decode cX5_takeEndTag 40 = .ok (.iadd, 1) := by decide +kernel
theorem dX5_takeEndTag_41 : decode cX5_takeEndTag 41 = .ok (.invokevirtual 90, 3) := by decide +kernel
theorem dX5_takeEndTag_44 : decode cX5_takeEndTag 44 = .ok (.aload_n 0, 1) := by decide +kernel
theorem dX5_takeEndTag_45 : decode cX5_takeEndTag 45 = .ok (.iload 4, 2) := by decide +kernel
theorem dX5_takeEndTag_47 : decode cX5_takeEndTag 47 = .ok (.putfield 55, 3) := by decide +kernel
theorem dX5_takeEndTag_50 : decode cX5_takeEndTag 50 = .ok (.return_, 1) := by decide +kernel
theorem dX8_isBlockTag_0 : decode cX8_isBlockTag 0 = .ok (.iload_n 0, 1) := by decide +kernel
theorem dX8_isBlockTag_1 : decode cX8_isBlockTag 1 = .ok (.ifCond .lt 8, 3) := by decide +kernel
theorem dX8_isBlockTag_4 : decode cX8_isBlockTag 4 = .ok (.iload_n 0, 1) := by decide +kernel
theorem dX8_isBlockTag_5 : decode cX8_isBlockTag 5 = .ok (.iconst 5, 1) := by decide +kernel
theorem dX8_isBlockTag_6 : decode cX8_isBlockTag 6 = .ok (.if_icmp .le 9, 3) := by decide +kernel
theorem dX8_isBlockTag_9 : decode cX8_isBlockTag 9 = .ok (.iload_n 0, 1) := by decide +kernel
theorem dX8_isBlockTag_10 : decode cX8_isBlockTag 10 = .ok (.bipush 11, 2) := by decide +kernel
theorem dX8_isBlockTag_12 : decode cX8_isBlockTag 12 = .ok (.if_icmp .ne 7, 3) := by decide +kernel
theorem dX8_isBlockTag_15 : decode cX8_isBlockTag 15 = .ok (.iconst 1, 1) := by decide +kernel
theorem dX8_isBlockTag_16 : decode cX8_isBlockTag 16 = .ok (.goto 4, 3) := by decide +kernel
theorem dX8_isBlockTag_19 : decode cX8_isBlockTag 19 = .ok (.iconst 0, 1) := by decide +kernel
theorem dX8_isBlockTag_20 : decode cX8_isBlockTag 20 = .ok (.ireturn, 1) := by decide +kernel
theorem dX5_innermostOf_0 : decode cX5_innermostOf 0 = .ok (.aload_n 0, 1) := by decide +kernel
theorem dX5_innermostOf_1 : decode cX5_innermostOf 1 = .ok (.getfield 55, 3) := by decide +kernel
theorem dX5_innermostOf_4 : decode cX5_innermostOf 4 = .ok (.iconst 1, 1) := by decide +kernel
theorem dX5_innermostOf_5 : decode cX5_innermostOf 5 = .ok (.isub, 1) := by decide +kernel
theorem dX5_innermostOf_6 : decode cX5_innermostOf 6 = .ok (.istore_n 2, 1) := by decide +kernel
theorem dX5_innermostOf_7 : decode cX5_innermostOf 7 = .ok (.iload_n 2, 1) := by decide +kernel
theorem dX5_innermostOf_8 : decode cX5_innermostOf 8 = .ok (.ifCond .le 18, 3) := by decide +kernel
theorem dX5_innermostOf_11 : decode cX5_innermostOf 11 = .ok (.aload_n 0, 1) := by decide +kernel
theorem dX5_innermostOf_12 : decode cX5_innermostOf 12 = .ok (.iload_n 2, 1) := by decide +kernel
theorem dX5_innermostOf_13 : decode cX5_innermostOf 13 = .ok (.invokevirtual 66, 3) := by decide +kernel
theorem dX5_innermostOf_16 : decode cX5_innermostOf 16 = .ok (.iload_n 1, 1) := by decide +kernel
theorem dX5_innermostOf_17 : decode cX5_innermostOf 17 = .ok (.if_icmp .eq 9, 3) := by decide +kernel
theorem dX5_innermostOf_20 : decode cX5_innermostOf 20 = .ok (.iinc 2 (-1), 3) := by decide +kernel
theorem dX5_innermostOf_23 : decode cX5_innermostOf 23 = .ok (.goto (-16), 3) := by decide +kernel
theorem dX5_innermostOf_26 : decode cX5_innermostOf 26 = .ok (.iload_n 2, 1) := by decide +kernel
theorem dX5_innermostOf_27 : decode cX5_innermostOf 27 = .ok (.ireturn, 1) := by decide +kernel
theorem dX5_closeBefore_0 : decode cX5_closeBefore 0 = .ok (.iload_n 1, 1) := by decide +kernel
theorem dX5_closeBefore_1 : decode cX5_closeBefore 1 = .ok (.invokestatic 251, 3) := by decide +kernel
theorem dX5_closeBefore_4 : decode cX5_closeBefore 4 = .ok (.ifCond .eq 20, 3) := by decide +kernel
theorem dX5_closeBefore_7 : decode cX5_closeBefore 7 = .ok (.aload_n 0, 1) := by decide +kernel
theorem dX5_closeBefore_8 : decode cX5_closeBefore 8 = .ok (.iconst 1, 1) := by decide +kernel
theorem dX5_closeBefore_9 : decode cX5_closeBefore 9 = .ok (.invokevirtual 254, 3) := by decide +kernel
theorem dX5_closeBefore_12 : decode cX5_closeBefore 12 = .ok (.ifCond .le 12, 3) := by decide +kernel
theorem dX5_closeBefore_15 : decode cX5_closeBefore 15 = .ok (.aload_n 0, 1) := by decide +kernel
theorem dX5_closeBefore_16 : decode cX5_closeBefore 16 = .ok (.aload_n 0, 1) := by decide +kernel
theorem dX5_closeBefore_17 : decode cX5_closeBefore 17 = .ok (.iconst 1, 1) := by decide +kernel
theorem dX5_closeBefore_18 : decode cX5_closeBefore 18 = .ok (.invokevirtual 254, 3) := by decide +kernel
theorem dX5_closeBefore_21 : decode cX5_closeBefore 21 = .ok (.invokevirtual 90, 3) := by decide +kernel
theorem dX5_closeBefore_24 : decode cX5_closeBefore 24 = .ok (.iload_n 1, 1) := by decide +kernel
theorem dX5_closeBefore_25 : decode cX5_closeBefore 25 = .ok (.iconst 4, 1) := by decide +kernel
theorem dX5_closeBefore_26 : decode cX5_closeBefore 26 = .ok (.if_icmp .ne 25, 3) := by decide +kernel
theorem dX5_closeBefore_29 : decode cX5_closeBefore 29 = .ok (.aload_n 0, 1) := by decide +kernel
theorem dX5_closeBefore_30 : decode cX5_closeBefore 30 = .ok (.iconst 4, 1) := by decide +kernel
theorem dX5_closeBefore_31 : decode cX5_closeBefore 31 = .ok (.invokevirtual 254, 3) := by decide +kernel
theorem dX5_closeBefore_34 : decode cX5_closeBefore 34 = .ok (.aload_n 0, 1) := by decide +kernel
theorem dX5_closeBefore_35 : decode cX5_closeBefore 35 = .ok (.iconst 3, 1) := by decide +kernel
theorem dX5_closeBefore_36 : decode cX5_closeBefore 36 = .ok (.invokevirtual 254, 3) := by decide +kernel
theorem dX5_closeBefore_39 : decode cX5_closeBefore 39 = .ok (.if_icmp .le 12, 3) := by decide +kernel
theorem dX5_closeBefore_42 : decode cX5_closeBefore 42 = .ok (.aload_n 0, 1) := by decide +kernel
theorem dX5_closeBefore_43 : decode cX5_closeBefore 43 = .ok (.aload_n 0, 1) := by decide +kernel
theorem dX5_closeBefore_44 : decode cX5_closeBefore 44 = .ok (.iconst 4, 1) := by decide +kernel
theorem dX5_closeBefore_45 : decode cX5_closeBefore 45 = .ok (.invokevirtual 254, 3) := by decide +kernel
theorem dX5_closeBefore_48 : decode cX5_closeBefore 48 = .ok (.invokevirtual 90, 3) := by decide +kernel
theorem dX5_closeBefore_51 : decode cX5_closeBefore 51 = .ok (.iload_n 1, 1) := by decide +kernel
theorem dX5_closeBefore_52 : decode cX5_closeBefore 52 = .ok (.bipush 7, 2) := by decide +kernel
theorem dX5_closeBefore_54 : decode cX5_closeBefore 54 = .ok (.if_icmp .ne 12, 3) := by decide +kernel
theorem dX5_closeBefore_57 : decode cX5_closeBefore 57 = .ok (.aload_n 0, 1) := by decide +kernel
theorem dX5_closeBefore_58 : decode cX5_closeBefore 58 = .ok (.bipush 7, 2) := by decide +kernel
theorem dX5_closeBefore_60 : decode cX5_closeBefore 60 = .ok (.invokevirtual 254, 3) := by decide +kernel
theorem dX5_closeBefore_63 : decode cX5_closeBefore 63 = .ok (.goto 4, 3) := by decide +kernel
theorem dX5_closeBefore_66 : decode cX5_closeBefore 66 = .ok (.iconst 0, 1) := by decide +kernel
theorem dX5_closeBefore_67 : decode cX5_closeBefore 67 = .ok (.istore_n 3, 1) := by decide +kernel
theorem dX5_closeBefore_68 : decode cX5_closeBefore 68 = .ok (.iload_n 3, 1) := by decide +kernel
theorem dX5_closeBefore_69 : decode cX5_closeBefore 69 = .ok (.ifCond .le 24, 3) := by decide +kernel
theorem dX5_closeBefore_72 : decode cX5_closeBefore 72 = .ok (.aload_n 0, 1) := by decide +kernel
theorem dX5_closeBefore_73 : decode cX5_closeBefore 73 = .ok (.iload_n 3, 1) := by decide +kernel
theorem dX5_closeBefore_74 : decode cX5_closeBefore 74 = .ok (.iconst 1, 1) := by decide +kernel
theorem dX5_closeBefore_75 : decode cX5_closeBefore 75 = .ok (.iadd, 1) := by decide +kernel
theorem dX5_closeBefore_76 : decode cX5_closeBefore 76 = .ok (.invokevirtual 90, 3) := by decide +kernel
theorem dX5_closeBefore_79 : decode cX5_closeBefore 79 = .ok (.aload_n 0, 1) := by decide +kernel
theorem dX5_closeBefore_80 : decode cX5_closeBefore 80 = .ok (.iload_n 3, 1) := by decide +kernel
theorem dX5_closeBefore_81 : decode cX5_closeBefore 81 = .ok (.putfield 55, 3) := by decide +kernel
theorem dX5_closeBefore_84 : decode cX5_closeBefore 84 = .ok (.aload_n 0, 1) := by decide +kernel
theorem dX5_closeBefore_85 : decode cX5_closeBefore 85 = .ok (.getfield 36, 3) := by decide +kernel
theorem dX5_closeBefore_88 : decode cX5_closeBefore 88 = .ok (.iconst 5, 1) := by decide +kernel
theorem dX5_closeBefore_89 : decode cX5_closeBefore 89 = .ok (.iload_n 2, 1) := by decide +kernel
theorem dX5_closeBefore_90 : decode cX5_closeBefore 90 = .ok (.invokevirtual 148, 3) := by decide +kernel
theorem dX5_closeBefore_93 : decode cX5_closeBefore 93 = .ok (.return_, 1) := by decide +kernel
theorem dX5_innermost_0 : decode cX5_innermost 0 = .ok (.aload_n 0, 1) := by decide +kernel
theorem dX5_innermost_1 : decode cX5_innermost 1 = .ok (.aload_n 0, 1) := by decide +kernel
theorem dX5_innermost_2 : decode cX5_innermost 2 = .ok (.getfield 55, 3) := by decide +kernel
theorem dX5_innermost_5 : decode cX5_innermost 5 = .ok (.iconst 1, 1) := by decide +kernel
theorem dX5_innermost_6 : decode cX5_innermost 6 = .ok (.isub, 1) := by decide +kernel
theorem dX5_innermost_7 : decode cX5_innermost 7 = .ok (.invokevirtual 260, 3) := by decide +kernel
theorem dX5_innermost_10 : decode cX5_innermost 10 = .ok (.areturn, 1) := by decide +kernel
theorem dX5_push_0 : decode cX5_push 0 = .ok (.aload_n 0, 1) := by decide +kernel
theorem dX5_push_1 : decode cX5_push 1 = .ok (.getfield 55, 3) := by decide +kernel
theorem dX5_push_4 : decode cX5_push 4 = .ok (.ifCond .lt 57, 3) := by decide +kernel
theorem dX5_push_7 : decode cX5_push 7 = .ok (.aload_n 0, 1) := by decide +kernel
theorem dX5_push_8 : decode cX5_push 8 = .ok (.getfield 55, 3) := by decide +kernel
theorem dX5_push_11 : decode cX5_push 11 = .ok (.aload_n 0, 1) := by decide +kernel
theorem dX5_push_12 : decode cX5_push 12 = .ok (.getfield 20, 3) := by decide +kernel
theorem dX5_push_15 : decode cX5_push 15 = .ok (.arraylength, 1) := by decide +kernel
theorem dX5_push_16 : decode cX5_push 16 = .ok (.if_icmp .ge 45, 3) := by decide +kernel
theorem dX5_push_19 : decode cX5_push 19 = .ok (.aload_n 0, 1) := by decide +kernel
theorem dX5_push_20 : decode cX5_push 20 = .ok (.getfield 55, 3) := by decide +kernel
theorem dX5_push_23 : decode cX5_push 23 = .ok (.aload_n 0, 1) := by decide +kernel
theorem dX5_push_24 : decode cX5_push 24 = .ok (.getfield 24, 3) := by decide +kernel
theorem dX5_push_27 : decode cX5_push 27 = .ok (.arraylength, 1) := by decide +kernel
theorem dX5_push_28 : decode cX5_push 28 = .ok (.if_icmp .ge 33, 3) := by decide +kernel
theorem dX5_push_31 : decode cX5_push 31 = .ok (.aload_n 0, 1) := by decide +kernel
theorem dX5_push_32 : decode cX5_push 32 = .ok (.getfield 20, 3) := by decide +kernel
theorem dX5_push_35 : decode cX5_push 35 = .ok (.aload_n 0, 1) := by decide +kernel
theorem dX5_push_36 : decode cX5_push 36 = .ok (.getfield 55, 3) := by decide +kernel
theorem dX5_push_39 : decode cX5_push 39 = .ok (.aload_n 1, 1) := by decide +kernel
theorem dX5_push_40 : decode cX5_push 40 = .ok (.aastore, 1) := by decide +kernel
theorem dX5_push_41 : decode cX5_push 41 = .ok (.aload_n 0, 1) := by decide +kernel
theorem dX5_push_42 : decode cX5_push 42 = .ok (.getfield 24, 3) := by decide +kernel
theorem dX5_push_45 : decode cX5_push 45 = .ok (.aload_n 0, 1) := by decide +kernel
theorem dX5_push_46 : decode cX5_push 46 = .ok (.getfield 55, 3) := by decide +kernel
theorem dX5_push_49 : decode cX5_push 49 = .ok (.iload_n 2, 1) := by decide +kernel
theorem dX5_push_50 : decode cX5_push 50 = .ok (.iastore, 1) := by decide +kernel
theorem dX5_push_51 : decode cX5_push 51 = .ok (.aload_n 0, 1) := by decide +kernel
theorem dX5_push_52 : decode cX5_push 52 = .ok (.dup, 1) := by decide +kernel
theorem dX5_push_53 : decode cX5_push 53 = .ok (.getfield 55, 3) := by decide +kernel
theorem dX5_push_56 : decode cX5_push 56 = .ok (.iconst 1, 1) := by decide +kernel
theorem dX5_push_57 : decode cX5_push 57 = .ok (.iadd, 1) := by decide +kernel
theorem dX5_push_58 : decode cX5_push 58 = .ok (.putfield 55, 3) := by decide +kernel
theorem dX5_push_61 : decode cX5_push 61 = .ok (.return_, 1) := by decide +kernel
theorem dX7_leastFree_0 : decode cX7_leastFree 0 = .ok (.iconst 0, 1) := by decide +kernel
theorem dX7_leastFree_1 : decode cX7_leastFree 1 = .ok (.istore_n 1, 1) := by decide +kernel
theorem dX7_leastFree_2 : decode cX7_leastFree 2 = .ok (.iload_n 1, 1) := by decide +kernel
theorem dX7_leastFree_3 : decode cX7_leastFree 3 = .ok (.aload_n 0, 1) := by decide +kernel
theorem dX7_leastFree_4 : decode cX7_leastFree 4 = .ok (.getfield 11, 3) := by decide +kernel
theorem dX7_leastFree_7 : decode cX7_leastFree 7 = .ok (.arraylength, 1) := by decide +kernel
theorem dX7_leastFree_8 : decode cX7_leastFree 8 = .ok (.if_icmp .ge 32, 3) := by decide +kernel
theorem dX7_leastFree_11 : decode cX7_leastFree 11 = .ok (.aload_n 0, 1) := by decide +kernel
theorem dX7_leastFree_12 : decode cX7_leastFree 12 = .ok (.getfield 11, 3) := by decide +kernel
theorem dX7_leastFree_15 : decode cX7_leastFree 15 = .ok (.iload_n 1, 1) := by decide +kernel
theorem dX7_leastFree_16 : decode cX7_leastFree 16 = .ok (.aaload, 1) := by decide +kernel
theorem dX7_leastFree_17 : decode cX7_leastFree 17 = .ok (.ifnull 15, 3) := by decide +kernel
theorem dX7_leastFree_20 : decode cX7_leastFree 20 = .ok (.aload_n 0, 1) := by decide +kernel
theorem dX7_leastFree_21 : decode cX7_leastFree 21 = .ok (.getfield 11, 3) := by decide +kernel
theorem dX7_leastFree_24 : decode cX7_leastFree 24 = .ok (.iload_n 1, 1) := by decide +kernel
theorem dX7_leastFree_25 : decode cX7_leastFree 25 = .ok (.aaload, 1) := by decide +kernel
theorem dX7_leastFree_26 : decode cX7_leastFree 26 = .ok (.getfield 34, 3) := by decide +kernel
theorem dX7_leastFree_29 : decode cX7_leastFree 29 = .ok (.ifCond .ne 5, 3) := by decide +kernel
theorem dX7_leastFree_32 : decode cX7_leastFree 32 = .ok (.iload_n 1, 1) := by decide +kernel
theorem dX7_leastFree_33 : decode cX7_leastFree 33 = .ok (.ireturn, 1) := by decide +kernel
theorem dX7_leastFree_34 : decode cX7_leastFree 34 = .ok (.iinc 1 1, 3) := by decide +kernel
theorem dX7_leastFree_37 : decode cX7_leastFree 37 = .ok (.goto (-35), 3) := by decide +kernel
theorem dX7_leastFree_40 : decode cX7_leastFree 40 = .ok (.iconst (-1), 1) := by decide +kernel
theorem dX7_leastFree_41 : decode cX7_leastFree 41 = .ok (.ireturn, 1) := by decide +kernel
theorem dX7_grow_0 : decode cX7_grow 0 = .ok (.aload_n 1, 1) := by decide +kernel
theorem dX7_grow_1 : decode cX7_grow 1 = .ok (.ifnull 12, 3) := by decide +kernel
theorem dX7_grow_4 : decode cX7_grow 4 = .ok (.aload_n 1, 1) := by decide +kernel
theorem dX7_grow_5 : decode cX7_grow 5 = .ok (.getfield 45, 3) := by decide +kernel
theorem dX7_grow_8 : decode cX7_grow 8 = .ok (.bipush 20, 2) := by decide +kernel
theorem dX7_grow_10 : decode cX7_grow 10 = .ok (.if_icmp .lt 5, 3) := by decide +kernel
theorem dX7_grow_13 : decode cX7_grow 13 = .ok (.aconst_null, 1) := by decide +kernel
theorem dX7_grow_14 : decode cX7_grow 14 = .ok (.areturn, 1) := by decide +kernel
theorem dX7_grow_15 : decode cX7_grow 15 = .ok (.aload_n 0, 1) := by decide +kernel
theorem dX7_grow_16 : decode cX7_grow 16 = .ok (.invokevirtual 48, 3) := by decide +kernel
theorem dX7_grow_19 : decode cX7_grow 19 = .ok (.istore 5, 2) := by decide +kernel
theorem dX7_grow_21 : decode cX7_grow 21 = .ok (.iload 5, 2) := by decide +kernel
theorem dX7_grow_23 : decode cX7_grow 23 = .ok (.ifCond .lt 13, 3) := by decide +kernel
theorem dX7_grow_26 : decode cX7_grow 26 = .ok (.iload 5, 2) := by decide +kernel
theorem dX7_grow_28 : decode cX7_grow 28 = .ok (.aload_n 0, 1) := by decide +kernel
theorem dX7_grow_29 : decode cX7_grow 29 = .ok (.getfield 11, 3) := by decide +kernel
theorem dX7_grow_32 : decode cX7_grow 32 = .ok (.arraylength, 1) := by decide +kernel
theorem dX7_grow_33 : decode cX7_grow 33 = .ok (.if_icmp .lt 5, 3) := by decide +kernel
theorem dX7_grow_36 : decode cX7_grow 36 = .ok (.aconst_null, 1) := by decide +kernel
theorem dX7_grow_37 : decode cX7_grow 37 = .ok (.areturn, 1) := by decide +kernel
theorem dX7_grow_38 : decode cX7_grow 38 = .ok (.aload_n 0, 1) := by decide +kernel
theorem dX7_grow_39 : decode cX7_grow 39 = .ok (.getfield 11, 3) := by decide +kernel
theorem dX7_grow_42 : decode cX7_grow 42 = .ok (.iload 5, 2) := by decide +kernel
theorem dX7_grow_44 : decode cX7_grow 44 = .ok (.aaload, 1) := by decide +kernel
theorem dX7_grow_45 : decode cX7_grow 45 = .ok (.ifnonnull 19, 3) := by decide +kernel
theorem dX7_grow_48 : decode cX7_grow 48 = .ok (.aload_n 0, 1) := by decide +kernel
theorem dX7_grow_49 : decode cX7_grow 49 = .ok (.getfield 11, 3) := by decide +kernel
theorem dX7_grow_52 : decode cX7_grow 52 = .ok (.iload 5, 2) := by decide +kernel
theorem dX7_grow_54 : decode cX7_grow 54 = .ok (.new 9, 3) := by decide +kernel
theorem dX7_grow_57 : decode cX7_grow 57 = .ok (.dup, 1) := by decide +kernel
theorem dX7_grow_58 : decode cX7_grow 58 = .ok (.iload 5, 2) := by decide +kernel
theorem dX7_grow_60 : decode cX7_grow 60 = .ok (.invokespecial 17, 3) := by decide +kernel
theorem dX7_grow_63 : decode cX7_grow 63 = .ok (.aastore, 1) := by decide +kernel
theorem dX7_grow_64 : decode cX7_grow 64 = .ok (.aload_n 0, 1) := by decide +kernel
theorem dX7_grow_65 : decode cX7_grow 65 = .ok (.getfield 11, 3) := by decide +kernel
theorem dX7_grow_68 : decode cX7_grow 68 = .ok (.iload 5, 2) := by decide +kernel
theorem dX7_grow_70 : decode cX7_grow 70 = .ok (.aaload, 1) := by decide +kernel
theorem dX7_grow_71 : decode cX7_grow 71 = .ok (.astore 6, 2) := by decide +kernel
theorem dX7_grow_73 : decode cX7_grow 73 = .ok (.aload 6, 2) := by decide +kernel
theorem dX7_grow_75 : decode cX7_grow 75 = .ok (.iload_n 2, 1) := by decide +kernel
theorem dX7_grow_76 : decode cX7_grow 76 = .ok (.lload_n 3, 1) := by decide +kernel
theorem dX7_grow_77 : decode cX7_grow 77 = .ok (.invokevirtual 26, 3) := by decide +kernel
theorem dX7_grow_80 : decode cX7_grow 80 = .ok (.aload_n 1, 1) := by decide +kernel
theorem dX7_grow_81 : decode cX7_grow 81 = .ok (.aload 6, 2) := by decide +kernel
theorem dX7_grow_83 : decode cX7_grow 83 = .ok (.invokevirtual 52, 3) := by decide +kernel
theorem dX7_grow_86 : decode cX7_grow 86 = .ok (.aload_n 0, 1) := by decide +kernel
theorem dX7_grow_87 : decode cX7_grow 87 = .ok (.dup, 1) := by decide +kernel
theorem dX7_grow_88 : decode cX7_grow 88 = .ok (.getfield 30, 3) := by decide +kernel
theorem dX7_grow_91 : decode cX7_grow 91 = .ok (.iconst 1, 1) := by decide +kernel
theorem dX7_grow_92 : decode cX7_grow 92 = .ok (.iadd, 1) := by decide +kernel
theorem dX7_grow_93 : decode cX7_grow 93 = .ok (.putfield 30, 3) := by decide +kernel
theorem dX7_grow_96 : decode cX7_grow 96 = .ok (.aload 6, 2) := by decide +kernel
theorem dX7_grow_98 : decode cX7_grow 98 = .ok (.areturn, 1) := by decide +kernel
theorem dX5_takeStartTag_0 : decode cX5_takeStartTag 0 = .ok (.lload_n 1, 1) := by decide +kernel
theorem dX5_takeStartTag_1 : decode cX5_takeStartTag 1 = .ok (.invokestatic 228, 3) := by decide +kernel
theorem dX5_takeStartTag_4 : decode cX5_takeStartTag 4 = .ok (.istore 4, 2) := by decide +kernel
theorem dX5_takeStartTag_6 : decode cX5_takeStartTag 6 = .ok (.aload_n 0, 1) := by decide +kernel
theorem dX5_takeStartTag_7 : decode cX5_takeStartTag 7 = .ok (.iload 4, 2) := by decide +kernel
theorem dX5_takeStartTag_9 : decode cX5_takeStartTag 9 = .ok (.iload_n 3, 1) := by decide +kernel
theorem dX5_takeStartTag_10 : decode cX5_takeStartTag 10 = .ok (.invokevirtual 238, 3) := by decide +kernel
theorem dX5_takeStartTag_13 : decode cX5_takeStartTag 13 = .ok (.aload_n 0, 1) := by decide +kernel
theorem dX5_takeStartTag_14 : decode cX5_takeStartTag 14 = .ok (.getfield 32, 3) := by decide +kernel
theorem dX5_takeStartTag_17 : decode cX5_takeStartTag 17 = .ok (.aload_n 0, 1) := by decide +kernel
theorem dX5_takeStartTag_18 : decode cX5_takeStartTag 18 = .ok (.invokevirtual 130, 3) := by decide +kernel
theorem dX5_takeStartTag_21 : decode cX5_takeStartTag 21 = .ok (.iload 4, 2) := by decide +kernel
theorem dX5_takeStartTag_23 : decode cX5_takeStartTag 23 = .ok (.lload_n 1, 1) := by decide +kernel
theorem dX5_takeStartTag_24 : decode cX5_takeStartTag 24 = .ok (.invokevirtual 144, 3) := by decide +kernel
theorem dX5_takeStartTag_27 : decode cX5_takeStartTag 27 = .ok (.astore 5, 2) := by decide +kernel
theorem dX5_takeStartTag_29 : decode cX5_takeStartTag 29 = .ok (.aload 5, 2) := by decide +kernel
theorem dX5_takeStartTag_31 : decode cX5_takeStartTag 31 = .ok (.ifnonnull 14, 3) := by decide +kernel
theorem dX5_takeStartTag_34 : decode cX5_takeStartTag 34 = .ok (.aload_n 0, 1) := by decide +kernel
theorem dX5_takeStartTag_35 : decode cX5_takeStartTag 35 = .ok (.getfield 36, 3) := by decide +kernel
theorem dX5_takeStartTag_38 : decode cX5_takeStartTag 38 = .ok (.bipush 6, 2) := by decide +kernel
theorem dX5_takeStartTag_40 : decode cX5_takeStartTag 40 = .ok (.iload_n 3, 1) := by decide +kernel
theorem dX5_takeStartTag_41 : decode cX5_takeStartTag 41 = .ok (.invokevirtual 148, 3) := by decide +kernel
theorem dX5_takeStartTag_44 : decode cX5_takeStartTag 44 = .ok (.return_, 1) := by decide +kernel
theorem dX5_takeStartTag_45 : decode cX5_takeStartTag 45 = .ok (.aload 5, 2) := by decide +kernel
theorem dX5_takeStartTag_47 : decode cX5_takeStartTag 47 = .ok (.getfield 241, 3) := by decide +kernel
theorem dX5_takeStartTag_50 : decode cX5_takeStartTag 50 = .ok (.aload_n 0, 1) := by decide +kernel
theorem dX5_takeStartTag_51 : decode cX5_takeStartTag 51 = .ok (.getfield 12, 3) := by decide +kernel
theorem dX5_takeStartTag_54 : decode cX5_takeStartTag 54 = .ok (.invokevirtual 244, 3) := by decide +kernel
theorem dX5_takeStartTag_57 : decode cX5_takeStartTag 57 = .ok (.iload 4, 2) := by decide +kernel
theorem dX5_takeStartTag_59 : decode cX5_takeStartTag 59 = .ok (.invokestatic 232, 3) := by decide +kernel
theorem dX5_takeStartTag_62 : decode cX5_takeStartTag 62 = .ok (.ifCond .ne 10, 3) := by decide +kernel
theorem dX5_takeStartTag_65 : decode cX5_takeStartTag 65 = .ok (.aload_n 0, 1) := by decide +kernel
theorem dX5_takeStartTag_66 : decode cX5_takeStartTag 66 = .ok (.aload 5, 2) := by decide +kernel
theorem dX5_takeStartTag_68 : decode cX5_takeStartTag 68 = .ok (.iload_n 3, 1) := by decide +kernel
theorem dX5_takeStartTag_69 : decode cX5_takeStartTag 69 = .ok (.invokevirtual 248, 3) := by decide +kernel
theorem dX5_takeStartTag_72 : decode cX5_takeStartTag 72 = .ok (.return_, 1) := by decide +kernel
theorem dX5_readTag_0 : decode cX5_readTag 0 = .ok (.aload_n 0, 1) := by decide +kernel
theorem dX5_readTag_1 : decode cX5_readTag 1 = .ok (.getfield 58, 3) := by decide +kernel
theorem dX5_readTag_4 : decode cX5_readTag 4 = .ok (.istore_n 1, 1) := by decide +kernel
theorem dX5_readTag_5 : decode cX5_readTag 5 = .ok (.aload_n 0, 1) := by decide +kernel
theorem dX5_readTag_6 : decode cX5_readTag 6 = .ok (.getfield 36, 3) := by decide +kernel
theorem dX5_readTag_9 : decode cX5_readTag 9 = .ok (.getfield 45, 3) := by decide +kernel
theorem dX5_readTag_12 : decode cX5_readTag 12 = .ok (.istore_n 2, 1) := by decide +kernel
theorem dX5_readTag_13 : decode cX5_readTag 13 = .ok (.aload_n 0, 1) := by decide +kernel
theorem dX5_readTag_14 : decode cX5_readTag 14 = .ok (.getfield 28, 3) := by decide +kernel
theorem dX5_readTag_17 : decode cX5_readTag 17 = .ok (.iload_n 1, 1) := by decide +kernel
theorem dX5_readTag_18 : decode cX5_readTag 18 = .ok (.iconst 1, 1) := by decide +kernel
theorem dX5_readTag_19 : decode cX5_readTag 19 = .ok (.iadd, 1) := by decide +kernel
theorem dX5_readTag_20 : decode cX5_readTag 20 = .ok (.invokevirtual 100, 3) := by decide +kernel
theorem dX5_readTag_23 : decode cX5_readTag 23 = .ok (.bipush 47, 2) := by decide +kernel
theorem dX5_readTag_25 : decode cX5_readTag 25 = .ok (.if_icmp .ne 7, 3) := by decide +kernel
theorem dX5_readTag_28 : decode cX5_readTag 28 = .ok (.iconst 1, 1) := by decide +kernel
theorem dX5_readTag_29 : decode cX5_readTag 29 = .ok (.goto 4, 3) := by decide +kernel
theorem dX5_readTag_32 : decode cX5_readTag 32 = .ok (.iconst 0, 1) := by decide +kernel
theorem dX5_readTag_33 : decode cX5_readTag 33 = .ok (.istore_n 3, 1) := by decide +kernel
theorem dX5_readTag_34 : decode cX5_readTag 34 = .ok (.aload_n 0, 1) := by decide +kernel
theorem dX5_readTag_35 : decode cX5_readTag 35 = .ok (.iload_n 3, 1) := by decide +kernel
theorem dX5_readTag_36 : decode cX5_readTag 36 = .ok (.ifCond .eq 9, 3) := by decide +kernel
theorem dX5_readTag_39 : decode cX5_readTag 39 = .ok (.iload_n 1, 1) := by decide +kernel
theorem dX5_readTag_40 : decode cX5_readTag 40 = .ok (.iconst 2, 1) := by decide +kernel
theorem dX5_readTag_41 : decode cX5_readTag 41 = .ok (.iadd, 1) := by decide +kernel
theorem dX5_readTag_42 : decode cX5_readTag 42 = .ok (.goto 6, 3) := by decide +kernel
theorem dX5_readTag_45 : decode cX5_readTag 45 = .ok (.iload_n 1, 1) := by decide +kernel
theorem dX5_readTag_46 : decode cX5_readTag 46 = .ok (.iconst 1, 1) := by decide +kernel
theorem dX5_readTag_47 : decode cX5_readTag 47 = .ok (.iadd, 1) := by decide +kernel
theorem dX5_readTag_48 : decode cX5_readTag 48 = .ok (.putfield 58, 3) := by decide +kernel
theorem dX5_readTag_51 : decode cX5_readTag 51 = .ok (.aload_n 0, 1) := by decide +kernel
theorem dX5_readTag_52 : decode cX5_readTag 52 = .ok (.invokevirtual 166, 3) := by decide +kernel
theorem dX5_readTag_55 : decode cX5_readTag 55 = .ok (.lstore 4, 2) := by decide +kernel
theorem dX5_readTag_57 : decode cX5_readTag 57 = .ok (.aload_n 0, 1) := by decide +kernel
theorem dX5_readTag_58 : decode cX5_readTag 58 = .ok (.getfield 12, 3) := by decide +kernel
theorem dX5_readTag_61 : decode cX5_readTag 61 = .ok (.iconst 0, 1) := by decide +kernel
theorem dX5_readTag_62 : decode cX5_readTag 62 = .ok (.putfield 170, 3) := by decide +kernel
theorem dX5_readTag_65 : decode cX5_readTag 65 = .ok (.iload_n 1, 1) := by decide +kernel
theorem dX5_readTag_66 : decode cX5_readTag 66 = .ok (.istore 6, 2) := by decide +kernel
theorem dX5_readTag_68 : decode cX5_readTag 68 = .ok (.iload 6, 2) := by decide +kernel
theorem dX5_readTag_70 : decode cX5_readTag 70 = .ok (.aload_n 0, 1) := by decide +kernel
theorem dX5_readTag_71 : decode cX5_readTag 71 = .ok (.getfield 28, 3) := by decide +kernel
theorem dX5_readTag_74 : decode cX5_readTag 74 = .ok (.getfield 61, 3) := by decide +kernel
theorem dX5_readTag_77 : decode cX5_readTag 77 = .ok (.if_icmp .ge 74, 3) := by decide +kernel
theorem dX5_readTag_80 : decode cX5_readTag 80 = .ok (.aload_n 0, 1) := by decide +kernel
theorem dX5_readTag_81 : decode cX5_readTag 81 = .ok (.getfield 58, 3) := by decide +kernel
theorem dX5_readTag_84 : decode cX5_readTag 84 = .ok (.aload_n 0, 1) := by decide +kernel
theorem dX5_readTag_85 : decode cX5_readTag 85 = .ok (.getfield 28, 3) := by decide +kernel
theorem dX5_readTag_88 : decode cX5_readTag 88 = .ok (.getfield 61, 3) := by decide +kernel
theorem dX5_readTag_91 : decode cX5_readTag 91 = .ok (.if_icmp .ge 60, 3) := by decide +kernel
theorem dX5_readTag_94 : decode cX5_readTag 94 = .ok (.aload_n 0, 1) := by decide +kernel
theorem dX5_readTag_95 : decode cX5_readTag 95 = .ok (.getfield 28, 3) := by decide +kernel
theorem dX5_readTag_98 : decode cX5_readTag 98 = .ok (.aload_n 0, 1) := by decide +kernel
theorem dX5_readTag_99 : decode cX5_readTag 99 = .ok (.getfield 58, 3) := by decide +kernel
theorem dX5_readTag_102 : decode cX5_readTag 102 = .ok (.invokevirtual 100, 3) := by decide +kernel
theorem dX5_readTag_105 : decode cX5_readTag 105 = .ok (.bipush 62, 2) := by decide +kernel
theorem dX5_readTag_107 : decode cX5_readTag 107 = .ok (.if_icmp .eq 44, 3) := by decide +kernel
theorem dX5_readTag_110 : decode cX5_readTag 110 = .ok (.aload_n 0, 1) := by decide +kernel
theorem dX5_readTag_111 : decode cX5_readTag 111 = .ok (.getfield 28, 3) := by decide +kernel
theorem dX5_readTag_114 : decode cX5_readTag 114 = .ok (.aload_n 0, 1) := by decide +kernel
theorem dX5_readTag_115 : decode cX5_readTag 115 = .ok (.getfield 58, 3) := by decide +kernel
theorem dX5_readTag_118 : decode cX5_readTag 118 = .ok (.invokevirtual 100, 3) := by decide +kernel
theorem dX5_readTag_121 : decode cX5_readTag 121 = .ok (.invokestatic 171, 3) := by decide +kernel
theorem dX5_readTag_124 : decode cX5_readTag 124 = .ok (.ifCond .eq 16, 3) := by decide +kernel
theorem dX5_readTag_127 : decode cX5_readTag 127 = .ok (.aload_n 0, 1) := by decide +kernel
theorem dX5_readTag_128 : decode cX5_readTag 128 = .ok (.dup, 1) := by decide +kernel
theorem dX5_readTag_129 : decode cX5_readTag 129 = .ok (.getfield 58, 3) := by decide +kernel
theorem dX5_readTag_132 : decode cX5_readTag 132 = .ok (.iconst 1, 1) := by decide +kernel
theorem dX5_readTag_133 : decode cX5_readTag 133 = .ok (.iadd, 1) := by decide +kernel
theorem dX5_readTag_134 : decode cX5_readTag 134 = .ok (.putfield 58, 3) := by decide +kernel
theorem dX5_readTag_137 : decode cX5_readTag 137 = .ok (.goto 8, 3) := by decide +kernel
theorem dX5_readTag_140 : decode cX5_readTag 140 = .ok (.aload_n 0, 1) := by decide +kernel
theorem dX5_readTag_141 : decode cX5_readTag 141 = .ok (.iload_n 3, 1) := by decide +kernel
theorem dX5_readTag_142 : decode cX5_readTag 142 = .ok (.invokevirtual 174, 3) := by decide +kernel
theorem dX5_readTag_145 : decode cX5_readTag 145 = .ok (.iinc 6 1, 3) := by decide +kernel
theorem dX5_readTag_148 : decode cX5_readTag 148 = .ok (.goto (-80), 3) := by decide +kernel
theorem dX5_readTag_151 : decode cX5_readTag 151 = .ok (.aload_n 0, 1) := by decide +kernel
theorem dX5_readTag_152 : decode cX5_readTag 152 = .ok (.getfield 58, 3) := by decide +kernel
theorem dX5_readTag_155 : decode cX5_readTag 155 = .ok (.aload_n 0, 1) := by decide +kernel
theorem dX5_readTag_156 : decode cX5_readTag 156 = .ok (.getfield 28, 3) := by decide +kernel
theorem dX5_readTag_159 : decode cX5_readTag 159 = .ok (.getfield 61, 3) := by decide +kernel
theorem dX5_readTag_162 : decode cX5_readTag 162 = .ok (.if_icmp .lt 21, 3) := by decide +kernel
theorem dX5_readTag_165 : decode cX5_readTag 165 = .ok (.aload_n 0, 1) := by decide +kernel
theorem dX5_readTag_166 : decode cX5_readTag 166 = .ok (.getfield 36, 3) := by decide +kernel
theorem dX5_readTag_169 : decode cX5_readTag 169 = .ok (.iload_n 2, 1) := by decide +kernel
theorem dX5_readTag_170 : decode cX5_readTag 170 = .ok (.putfield 45, 3) := by decide +kernel
theorem dX5_readTag_173 : decode cX5_readTag 173 = .ok (.aload_n 0, 1) := by decide +kernel
theorem dX5_readTag_174 : decode cX5_readTag 174 = .ok (.getfield 36, 3) := by decide +kernel
theorem dX5_readTag_177 : decode cX5_readTag 177 = .ok (.iconst 1, 1) := by decide +kernel
theorem dX5_readTag_178 : decode cX5_readTag 178 = .ok (.iload_n 1, 1) := by decide +kernel
theorem dX5_readTag_179 : decode cX5_readTag 179 = .ok (.invokevirtual 148, 3) := by decide +kernel
theorem dX5_readTag_182 : decode cX5_readTag 182 = .ok (.return_, 1) := by decide +kernel
theorem dX5_readTag_183 : decode cX5_readTag 183 = .ok (.aload_n 0, 1) := by decide +kernel
theorem dX5_readTag_184 : decode cX5_readTag 184 = .ok (.dup, 1) := by decide +kernel
theorem dX5_readTag_185 : decode cX5_readTag 185 = .ok (.getfield 58, 3) := by decide +kernel
theorem dX5_readTag_188 : decode cX5_readTag 188 = .ok (.iconst 1, 1) := by decide +kernel
theorem dX5_readTag_189 : decode cX5_readTag 189 = .ok (.iadd, 1) := by decide +kernel
theorem dX5_readTag_190 : decode cX5_readTag 190 = .ok (.putfield 58, 3) := by decide +kernel
theorem dX5_readTag_193 : decode cX5_readTag 193 = .ok (.iload_n 3, 1) := by decide +kernel
theorem dX5_readTag_194 : decode cX5_readTag 194 = .ok (.ifCond .eq 13, 3) := by decide +kernel
theorem dX5_readTag_197 : decode cX5_readTag 197 = .ok (.aload_n 0, 1) := by decide +kernel
theorem dX5_readTag_198 : decode cX5_readTag 198 = .ok (.lload 4, 2) := by decide +kernel
theorem dX5_readTag_200 : decode cX5_readTag 200 = .ok (.iload_n 1, 1) := by decide +kernel
theorem dX5_readTag_201 : decode cX5_readTag 201 = .ok (.invokevirtual 177, 3) := by decide +kernel
theorem dX5_readTag_204 : decode cX5_readTag 204 = .ok (.goto 10, 3) := by decide +kernel
theorem dX5_readTag_207 : decode cX5_readTag 207 = .ok (.aload_n 0, 1) := by decide +kernel
theorem dX5_readTag_208 : decode cX5_readTag 208 = .ok (.lload 4, 2) := by decide +kernel
theorem dX5_readTag_210 : decode cX5_readTag 210 = .ok (.iload_n 1, 1) := by decide +kernel
theorem dX5_readTag_211 : decode cX5_readTag 211 = .ok (.invokevirtual 181, 3) := by decide +kernel
theorem dX5_readTag_214 : decode cX5_readTag 214 = .ok (.return_, 1) := by decide +kernel
theorem dX5_startsTag_0 : decode cX5_startsTag 0 = .ok (.aload_n 0, 1) := by decide +kernel
theorem dX5_startsTag_1 : decode cX5_startsTag 1 = .ok (.getfield 28, 3) := by decide +kernel
theorem dX5_startsTag_4 : decode cX5_startsTag 4 = .ok (.iload_n 1, 1) := by decide +kernel
theorem dX5_startsTag_5 : decode cX5_startsTag 5 = .ok (.iconst 1, 1) := by decide +kernel
theorem dX5_startsTag_6 : decode cX5_startsTag 6 = .ok (.iadd, 1) := by decide +kernel
theorem dX5_startsTag_7 : decode cX5_startsTag 7 = .ok (.invokevirtual 100, 3) := by decide +kernel
theorem dX5_startsTag_10 : decode cX5_startsTag 10 = .ok (.bipush 47, 2) := by decide +kernel
theorem dX5_startsTag_12 : decode cX5_startsTag 12 = .ok (.if_icmp .ne 9, 3) := by decide +kernel
theorem dX5_startsTag_15 : decode cX5_startsTag 15 = .ok (.iload_n 1, 1) := by decide +kernel
theorem dX5_startsTag_16 : decode cX5_startsTag 16 = .ok (.iconst 2, 1) := by decide +kernel
theorem dX5_startsTag_17 : decode cX5_startsTag 17 = .ok (.iadd, 1) := by decide +kernel
theorem dX5_startsTag_18 : decode cX5_startsTag 18 = .ok (.goto 6, 3) := by decide +kernel
theorem dX5_startsTag_21 : decode cX5_startsTag 21 = .ok (.iload_n 1, 1) := by decide +kernel
theorem dX5_startsTag_22 : decode cX5_startsTag 22 = .ok (.iconst 1, 1) := by decide +kernel
theorem dX5_startsTag_23 : decode cX5_startsTag 23 = .ok (.iadd, 1) := by decide +kernel
theorem dX5_startsTag_24 : decode cX5_startsTag 24 = .ok (.istore_n 2, 1) := by decide +kernel
theorem dX5_startsTag_25 : decode cX5_startsTag 25 = .ok (.aload_n 0, 1) := by decide +kernel
theorem dX5_startsTag_26 : decode cX5_startsTag 26 = .ok (.getfield 28, 3) := by decide +kernel
theorem dX5_startsTag_29 : decode cX5_startsTag 29 = .ok (.iload_n 2, 1) := by decide +kernel
theorem dX5_startsTag_30 : decode cX5_startsTag 30 = .ok (.invokevirtual 100, 3) := by decide +kernel
theorem dX5_startsTag_33 : decode cX5_startsTag 33 = .ok (.invokestatic 107, 3) := by decide +kernel
theorem dX5_startsTag_36 : decode cX5_startsTag 36 = .ok (.invokestatic 110, 3) := by decide +kernel
theorem dX5_startsTag_39 : decode cX5_startsTag 39 = .ok (.ireturn, 1) := by decide +kernel
theorem dX5_endsRun_0 : decode cX5_endsRun 0 = .ok (.iload_n 2, 1) := by decide +kernel
theorem dX5_endsRun_1 : decode cX5_endsRun 1 = .ok (.ifCond .eq 14, 3) := by decide +kernel
theorem dX5_endsRun_4 : decode cX5_endsRun 4 = .ok (.aload_n 0, 1) := by decide +kernel
theorem dX5_endsRun_5 : decode cX5_endsRun 5 = .ok (.getfield 28, 3) := by decide +kernel
theorem dX5_endsRun_8 : decode cX5_endsRun 8 = .ok (.ldc 98, 2) := by decide +kernel
theorem dX5_endsRun_10 : decode cX5_endsRun 10 = .ok (.iload_n 1, 1) := by decide +kernel
theorem dX5_endsRun_11 : decode cX5_endsRun 11 = .ok (.invokevirtual 80, 3) := by decide +kernel
theorem dX5_endsRun_14 : decode cX5_endsRun 14 = .ok (.ireturn, 1) := by decide +kernel
theorem dX5_endsRun_15 : decode cX5_endsRun 15 = .ok (.aload_n 0, 1) := by decide +kernel
theorem dX5_endsRun_16 : decode cX5_endsRun 16 = .ok (.getfield 28, 3) := by decide +kernel
theorem dX5_endsRun_19 : decode cX5_endsRun 19 = .ok (.iload_n 1, 1) := by decide +kernel
theorem dX5_endsRun_20 : decode cX5_endsRun 20 = .ok (.invokevirtual 100, 3) := by decide +kernel
theorem dX5_endsRun_23 : decode cX5_endsRun 23 = .ok (.bipush 60, 2) := by decide +kernel
theorem dX5_endsRun_25 : decode cX5_endsRun 25 = .ok (.if_icmp .ne 28, 3) := by decide +kernel
theorem dX5_endsRun_28 : decode cX5_endsRun 28 = .ok (.aload_n 0, 1) := by decide +kernel
theorem dX5_endsRun_29 : decode cX5_endsRun 29 = .ok (.iload_n 1, 1) := by decide +kernel
theorem dX5_endsRun_30 : decode cX5_endsRun 30 = .ok (.invokevirtual 103, 3) := by decide +kernel
theorem dX5_endsRun_33 : decode cX5_endsRun 33 = .ok (.ifCond .ne 16, 3) := by decide +kernel
theorem dX5_endsRun_36 : decode cX5_endsRun 36 = .ok (.aload_n 0, 1) := by decide +kernel
theorem dX5_endsRun_37 : decode cX5_endsRun 37 = .ok (.getfield 28, 3) := by decide +kernel
theorem dX5_endsRun_40 : decode cX5_endsRun 40 = .ok (.ldc 78, 2) := by decide +kernel
theorem dX5_endsRun_42 : decode cX5_endsRun 42 = .ok (.iload_n 1, 1) := by decide +kernel
theorem dX5_endsRun_43 : decode cX5_endsRun 43 = .ok (.invokevirtual 80, 3) := by decide +kernel
theorem dX5_endsRun_46 : decode cX5_endsRun 46 = .ok (.ifCond .eq 7, 3) := by decide +kernel
theorem dX5_endsRun_49 : decode cX5_endsRun 49 = .ok (.iconst 1, 1) := by decide +kernel
theorem dX5_endsRun_50 : decode cX5_endsRun 50 = .ok (.goto 4, 3) := by decide +kernel
theorem dX5_endsRun_53 : decode cX5_endsRun 53 = .ok (.iconst 0, 1) := by decide +kernel
theorem dX5_endsRun_54 : decode cX5_endsRun 54 = .ok (.ireturn, 1) := by decide +kernel
theorem dX5_skipRun_0 : decode cX5_skipRun 0 = .ok (.aload_n 0, 1) := by decide +kernel
theorem dX5_skipRun_1 : decode cX5_skipRun 1 = .ok (.getfield 58, 3) := by decide +kernel
theorem dX5_skipRun_4 : decode cX5_skipRun 4 = .ok (.aload_n 0, 1) := by decide +kernel
theorem dX5_skipRun_5 : decode cX5_skipRun 5 = .ok (.getfield 28, 3) := by decide +kernel
theorem dX5_skipRun_8 : decode cX5_skipRun 8 = .ok (.getfield 61, 3) := by decide +kernel
theorem dX5_skipRun_11 : decode cX5_skipRun 11 = .ok (.if_icmp .ge 28, 3) := by decide +kernel
theorem dX5_skipRun_14 : decode cX5_skipRun 14 = .ok (.aload_n 0, 1) := by decide +kernel
theorem dX5_skipRun_15 : decode cX5_skipRun 15 = .ok (.aload_n 0, 1) := by decide +kernel
theorem dX5_skipRun_16 : decode cX5_skipRun 16 = .ok (.getfield 58, 3) := by decide +kernel
theorem dX5_skipRun_19 : decode cX5_skipRun 19 = .ok (.iload_n 1, 1) := by decide +kernel
theorem dX5_skipRun_20 : decode cX5_skipRun 20 = .ok (.invokevirtual 94, 3) := by decide +kernel
theorem dX5_skipRun_23 : decode cX5_skipRun 23 = .ok (.ifCond .ne 16, 3) := by decide +kernel
theorem dX5_skipRun_26 : decode cX5_skipRun 26 = .ok (.aload_n 0, 1) := by decide +kernel
theorem dX5_skipRun_27 : decode cX5_skipRun 27 = .ok (.dup, 1) := by decide +kernel
theorem dX5_skipRun_28 : decode cX5_skipRun 28 = .ok (.getfield 58, 3) := by decide +kernel
theorem dX5_skipRun_31 : decode cX5_skipRun 31 = .ok (.iconst 1, 1) := by decide +kernel
theorem dX5_skipRun_32 : decode cX5_skipRun 32 = .ok (.iadd, 1) := by decide +kernel
theorem dX5_skipRun_33 : decode cX5_skipRun 33 = .ok (.putfield 58, 3) := by decide +kernel
theorem dX5_skipRun_36 : decode cX5_skipRun 36 = .ok (.goto (-36), 3) := by decide +kernel
theorem dX5_skipRun_39 : decode cX5_skipRun 39 = .ok (.return_, 1) := by decide +kernel
theorem dX5_tellTooLong_0 : decode cX5_tellTooLong 0 = .ok (.aload_n 1, 1) := by decide +kernel
theorem dX5_tellTooLong_1 : decode cX5_tellTooLong 1 = .ok (.getfield 155, 3) := by decide +kernel
theorem dX5_tellTooLong_4 : decode cX5_tellTooLong 4 = .ok (.ifCond .ne 18, 3) := by decide +kernel
theorem dX5_tellTooLong_7 : decode cX5_tellTooLong 7 = .ok (.aload_n 1, 1) := by decide +kernel
theorem dX5_tellTooLong_8 : decode cX5_tellTooLong 8 = .ok (.iconst 1, 1) := by decide +kernel
theorem dX5_tellTooLong_9 : decode cX5_tellTooLong 9 = .ok (.putfield 155, 3) := by decide +kernel
theorem dX5_tellTooLong_12 : decode cX5_tellTooLong 12 = .ok (.aload_n 0, 1) := by decide +kernel
theorem dX5_tellTooLong_13 : decode cX5_tellTooLong 13 = .ok (.getfield 36, 3) := by decide +kernel
theorem dX5_tellTooLong_16 : decode cX5_tellTooLong 16 = .ok (.bipush 7, 2) := by decide +kernel
theorem dX5_tellTooLong_18 : decode cX5_tellTooLong 18 = .ok (.iload_n 2, 1) := by decide +kernel
theorem dX5_tellTooLong_19 : decode cX5_tellTooLong 19 = .ok (.invokevirtual 148, 3) := by decide +kernel
theorem dX5_tellTooLong_22 : decode cX5_tellTooLong 22 = .ok (.return_, 1) := by decide +kernel
theorem dX5_isAllBlank_0 : decode cX5_isAllBlank 0 = .ok (.iload_n 1, 1) := by decide +kernel
theorem dX5_isAllBlank_1 : decode cX5_isAllBlank 1 = .ok (.istore_n 3, 1) := by decide +kernel
theorem dX5_isAllBlank_2 : decode cX5_isAllBlank 2 = .ok (.iload_n 3, 1) := by decide +kernel
theorem dX5_isAllBlank_3 : decode cX5_isAllBlank 3 = .ok (.iload_n 2, 1) := by decide +kernel
theorem dX5_isAllBlank_4 : decode cX5_isAllBlank 4 = .ok (.if_icmp .ge 25, 3) := by decide +kernel
theorem dX5_isAllBlank_7 : decode cX5_isAllBlank 7 = .ok (.aload_n 0, 1) := by decide +kernel
theorem dX5_isAllBlank_8 : decode cX5_isAllBlank 8 = .ok (.getfield 28, 3) := by decide +kernel
theorem dX5_isAllBlank_11 : decode cX5_isAllBlank 11 = .ok (.iload_n 3, 1) := by decide +kernel
theorem dX5_isAllBlank_12 : decode cX5_isAllBlank 12 = .ok (.invokevirtual 100, 3) := by decide +kernel
theorem dX5_isAllBlank_15 : decode cX5_isAllBlank 15 = .ok (.invokestatic 152, 3) := by decide +kernel
theorem dX5_isAllBlank_18 : decode cX5_isAllBlank 18 = .ok (.ifCond .ne 5, 3) := by decide +kernel
theorem dX5_isAllBlank_21 : decode cX5_isAllBlank 21 = .ok (.iconst 0, 1) := by decide +kernel
theorem dX5_isAllBlank_22 : decode cX5_isAllBlank 22 = .ok (.ireturn, 1) := by decide +kernel
theorem dX5_isAllBlank_23 : decode cX5_isAllBlank 23 = .ok (.iinc 3 1, 3) := by decide +kernel
theorem dX5_isAllBlank_26 : decode cX5_isAllBlank 26 = .ok (.goto (-24), 3) := by decide +kernel
theorem dX5_isAllBlank_29 : decode cX5_isAllBlank 29 = .ok (.iconst 1, 1) := by decide +kernel
theorem dX5_isAllBlank_30 : decode cX5_isAllBlank 30 = .ok (.ireturn, 1) := by decide +kernel
theorem dX5_textFor_0 : decode cX5_textFor 0 = .ok (.aload_n 0, 1) := by decide +kernel
theorem dX5_textFor_1 : decode cX5_textFor 1 = .ok (.invokevirtual 130, 3) := by decide +kernel
theorem dX5_textFor_4 : decode cX5_textFor 4 = .ok (.astore_n 3, 1) := by decide +kernel
theorem dX5_textFor_5 : decode cX5_textFor 5 = .ok (.aload_n 3, 1) := by decide +kernel
theorem dX5_textFor_6 : decode cX5_textFor 6 = .ok (.ifnull 27, 3) := by decide +kernel
theorem dX5_textFor_9 : decode cX5_textFor 9 = .ok (.aload_n 3, 1) := by decide +kernel
theorem dX5_textFor_10 : decode cX5_textFor 10 = .ok (.getfield 134, 3) := by decide +kernel
theorem dX5_textFor_13 : decode cX5_textFor 13 = .ok (.ifnull 20, 3) := by decide +kernel
theorem dX5_textFor_16 : decode cX5_textFor 16 = .ok (.aload_n 3, 1) := by decide +kernel
theorem dX5_textFor_17 : decode cX5_textFor 17 = .ok (.getfield 134, 3) := by decide +kernel
theorem dX5_textFor_20 : decode cX5_textFor 20 = .ok (.getfield 137, 3) := by decide +kernel
theorem dX5_textFor_23 : decode cX5_textFor 23 = .ok (.bipush 17, 2) := by decide +kernel
theorem dX5_textFor_25 : decode cX5_textFor 25 = .ok (.if_icmp .ne 8, 3) := by decide +kernel
theorem dX5_textFor_28 : decode cX5_textFor 28 = .ok (.aload_n 3, 1) := by decide +kernel
theorem dX5_textFor_29 : decode cX5_textFor 29 = .ok (.getfield 134, 3) := by decide +kernel
theorem dX5_textFor_32 : decode cX5_textFor 32 = .ok (.areturn, 1) := by decide +kernel
theorem dX5_textFor_33 : decode cX5_textFor 33 = .ok (.aload_n 0, 1) := by decide +kernel
theorem dX5_textFor_34 : decode cX5_textFor 34 = .ok (.iload_n 1, 1) := by decide +kernel
theorem dX5_textFor_35 : decode cX5_textFor 35 = .ok (.iload_n 2, 1) := by decide +kernel
theorem dX5_textFor_36 : decode cX5_textFor 36 = .ok (.invokevirtual 140, 3) := by decide +kernel
theorem dX5_textFor_39 : decode cX5_textFor 39 = .ok (.ifCond .eq 5, 3) := by decide +kernel
theorem dX5_textFor_42 : decode cX5_textFor 42 = .ok (.aconst_null, 1) := by decide +kernel
theorem dX5_textFor_43 : decode cX5_textFor 43 = .ok (.areturn, 1) := by decide +kernel
theorem dX5_textFor_44 : decode cX5_textFor 44 = .ok (.aload_n 0, 1) := by decide +kernel
theorem dX5_textFor_45 : decode cX5_textFor 45 = .ok (.getfield 32, 3) := by decide +kernel
theorem dX5_textFor_48 : decode cX5_textFor 48 = .ok (.aload_n 3, 1) := by decide +kernel
theorem dX5_textFor_49 : decode cX5_textFor 49 = .ok (.bipush 17, 2) := by decide +kernel
theorem dX5_textFor_51 : decode cX5_textFor 51 = .ok (.lconst 0, 1) := by decide +kernel
theorem dX5_textFor_52 : decode cX5_textFor 52 = .ok (.invokevirtual 144, 3) := by decide +kernel
theorem dX5_textFor_55 : decode cX5_textFor 55 = .ok (.astore 4, 2) := by decide +kernel
theorem dX5_textFor_57 : decode cX5_textFor 57 = .ok (.aload 4, 2) := by decide +kernel
theorem dX5_textFor_59 : decode cX5_textFor 59 = .ok (.ifnonnull 13, 3) := by decide +kernel
theorem dX5_textFor_62 : decode cX5_textFor 62 = .ok (.aload_n 0, 1) := by decide +kernel
theorem dX5_textFor_63 : decode cX5_textFor 63 = .ok (.getfield 36, 3) := by decide +kernel
theorem dX5_textFor_66 : decode cX5_textFor 66 = .ok (.bipush 6, 2) := by decide +kernel
theorem dX5_textFor_68 : decode cX5_textFor 68 = .ok (.iload_n 1, 1) := by decide +kernel
theorem dX5_textFor_69 : decode cX5_textFor 69 = .ok (.invokevirtual 148, 3) := by decide +kernel
theorem dX5_textFor_72 : decode cX5_textFor 72 = .ok (.aload 4, 2) := by decide +kernel
theorem dX5_textFor_74 : decode cX5_textFor 74 = .ok (.areturn, 1) := by decide +kernel
theorem dX5_takeRun_0 : decode cX5_takeRun 0 = .ok (.aload_n 0, 1) := by decide +kernel
theorem dX5_takeRun_1 : decode cX5_takeRun 1 = .ok (.iload_n 1, 1) := by decide +kernel
theorem dX5_takeRun_2 : decode cX5_takeRun 2 = .ok (.iload_n 2, 1) := by decide +kernel
theorem dX5_takeRun_3 : decode cX5_takeRun 3 = .ok (.invokevirtual 113, 3) := by decide +kernel
theorem dX5_takeRun_6 : decode cX5_takeRun 6 = .ok (.astore 4, 2) := by decide +kernel
theorem dX5_takeRun_8 : decode cX5_takeRun 8 = .ok (.aload 4, 2) := by decide +kernel
theorem dX5_takeRun_10 : decode cX5_takeRun 10 = .ok (.ifnonnull 4, 3) := by decide +kernel
theorem dX5_takeRun_13 : decode cX5_takeRun 13 = .ok (.return_, 1) := by decide +kernel
theorem dX5_takeRun_14 : decode cX5_takeRun 14 = .ok (.iload_n 1, 1) := by decide +kernel
theorem dX5_takeRun_15 : decode cX5_takeRun 15 = .ok (.istore 5, 2) := by decide +kernel
theorem dX5_takeRun_17 : decode cX5_takeRun 17 = .ok (.iload 5, 2) := by decide +kernel
theorem dX5_takeRun_19 : decode cX5_takeRun 19 = .ok (.iload_n 2, 1) := by decide +kernel
theorem dX5_takeRun_20 : decode cX5_takeRun 20 = .ok (.if_icmp .ge 69, 3) := by decide +kernel
theorem dX5_takeRun_23 : decode cX5_takeRun 23 = .ok (.iload_n 3, 1) := by decide +kernel
theorem dX5_takeRun_24 : decode cX5_takeRun 24 = .ok (.ifCond .eq 12, 3) := by decide +kernel
theorem dX5_takeRun_27 : decode cX5_takeRun 27 = .ok (.aload_n 0, 1) := by decide +kernel
theorem dX5_takeRun_28 : decode cX5_takeRun 28 = .ok (.iload 5, 2) := by decide +kernel
theorem dX5_takeRun_30 : decode cX5_takeRun 30 = .ok (.invokevirtual 117, 3) := by decide +kernel
theorem dX5_takeRun_33 : decode cX5_takeRun 33 = .ok (.goto 4, 3) := by decide +kernel
theorem dX5_takeRun_36 : decode cX5_takeRun 36 = .ok (.iconst (-1), 1) := by decide +kernel
theorem dX5_takeRun_37 : decode cX5_takeRun 37 = .ok (.istore 6, 2) := by decide +kernel
theorem dX5_takeRun_39 : decode cX5_takeRun 39 = .ok (.aload 4, 2) := by decide +kernel
theorem dX5_takeRun_41 : decode cX5_takeRun 41 = .ok (.iload 6, 2) := by decide +kernel
theorem dX5_takeRun_43 : decode cX5_takeRun 43 = .ok (.iconst (-1), 1) := by decide +kernel
theorem dX5_takeRun_44 : decode cX5_takeRun 44 = .ok (.if_icmp .ne 15, 3) := by decide +kernel
theorem dX5_takeRun_47 : decode cX5_takeRun 47 = .ok (.aload_n 0, 1) := by decide +kernel
theorem dX5_takeRun_48 : decode cX5_takeRun 48 = .ok (.getfield 28, 3) := by decide +kernel
theorem dX5_takeRun_51 : decode cX5_takeRun 51 = .ok (.iload 5, 2) := by decide +kernel
theorem dX5_takeRun_53 : decode cX5_takeRun 53 = .ok (.invokevirtual 100, 3) := by decide +kernel
theorem dX5_takeRun_56 : decode cX5_takeRun 56 = .ok (.goto 5, 3) := by decide +kernel
theorem dX5_takeRun_59 : decode cX5_takeRun 59 = .ok (.iload 6, 2) := by decide +kernel
theorem dX5_takeRun_61 : decode cX5_takeRun 61 = .ok (.invokevirtual 120, 3) := by decide +kernel
theorem dX5_takeRun_64 : decode cX5_takeRun 64 = .ok (.ifCond .ne 12, 3) := by decide +kernel
theorem dX5_takeRun_67 : decode cX5_takeRun 67 = .ok (.aload_n 0, 1) := by decide +kernel
theorem dX5_takeRun_68 : decode cX5_takeRun 68 = .ok (.aload 4, 2) := by decide +kernel
theorem dX5_takeRun_70 : decode cX5_takeRun 70 = .ok (.iload 5, 2) := by decide +kernel
theorem dX5_takeRun_72 : decode cX5_takeRun 72 = .ok (.invokevirtual 123, 3) := by decide +kernel
theorem dX5_takeRun_75 : decode cX5_takeRun 75 = .ok (.return_, 1) := by decide +kernel
theorem dX5_takeRun_76 : decode cX5_takeRun 76 = .ok (.iload 5, 2) := by decide +kernel
theorem dX5_takeRun_78 : decode cX5_takeRun 78 = .ok (.iload 6, 2) := by decide +kernel
theorem dX5_takeRun_80 : decode cX5_takeRun 80 = .ok (.invokestatic 127, 3) := by decide +kernel
theorem dX5_takeRun_83 : decode cX5_takeRun 83 = .ok (.iadd, 1) := by decide +kernel
theorem dX5_takeRun_84 : decode cX5_takeRun 84 = .ok (.istore 5, 2) := by decide +kernel
theorem dX5_takeRun_86 : decode cX5_takeRun 86 = .ok (.goto (-69), 3) := by decide +kernel
theorem dX5_takeRun_89 : decode cX5_takeRun 89 = .ok (.return_, 1) := by decide +kernel
theorem dX7_restart_0 : decode cX7_restart 0 = .ok (.iconst 0, 1) := by decide +kernel
theorem dX7_restart_1 : decode cX7_restart 1 = .ok (.istore_n 1, 1) := by decide +kernel
theorem dX7_restart_2 : decode cX7_restart 2 = .ok (.iload_n 1, 1) := by decide +kernel
theorem dX7_restart_3 : decode cX7_restart 3 = .ok (.aload_n 0, 1) := by decide +kernel
theorem dX7_restart_4 : decode cX7_restart 4 = .ok (.getfield 11, 3) := by decide +kernel
theorem dX7_restart_7 : decode cX7_restart 7 = .ok (.arraylength, 1) := by decide +kernel
theorem dX7_restart_8 : decode cX7_restart 8 = .ok (.if_icmp .ge 28, 3) := by decide +kernel
theorem dX7_restart_11 : decode cX7_restart 11 = .ok (.aload_n 0, 1) := by decide +kernel
theorem dX7_restart_12 : decode cX7_restart 12 = .ok (.getfield 11, 3) := by decide +kernel
theorem dX7_restart_15 : decode cX7_restart 15 = .ok (.iload_n 1, 1) := by decide +kernel
theorem dX7_restart_16 : decode cX7_restart 16 = .ok (.aaload, 1) := by decide +kernel
theorem dX7_restart_17 : decode cX7_restart 17 = .ok (.ifnull 13, 3) := by decide +kernel
theorem dX7_restart_20 : decode cX7_restart 20 = .ok (.aload_n 0, 1) := by decide +kernel
theorem dX7_restart_21 : decode cX7_restart 21 = .ok (.getfield 11, 3) := by decide +kernel
theorem dX7_restart_24 : decode cX7_restart 24 = .ok (.iload_n 1, 1) := by decide +kernel
theorem dX7_restart_25 : decode cX7_restart 25 = .ok (.aaload, 1) := by decide +kernel
theorem dX7_restart_26 : decode cX7_restart 26 = .ok (.iconst 0, 1) := by decide +kernel
theorem dX7_restart_27 : decode cX7_restart 27 = .ok (.putfield 34, 3) := by decide +kernel
theorem dX7_restart_30 : decode cX7_restart 30 = .ok (.iinc 1 1, 3) := by decide +kernel
theorem dX7_restart_33 : decode cX7_restart 33 = .ok (.goto (-31), 3) := by decide +kernel
theorem dX7_restart_36 : decode cX7_restart 36 = .ok (.aload_n 0, 1) := by decide +kernel
theorem dX7_restart_37 : decode cX7_restart 37 = .ok (.getfield 20, 3) := by decide +kernel
theorem dX7_restart_40 : decode cX7_restart 40 = .ok (.iconst 0, 1) := by decide +kernel
theorem dX7_restart_41 : decode cX7_restart 41 = .ok (.ldc2_w 24, 3) := by decide +kernel
theorem dX7_restart_44 : decode cX7_restart 44 = .ok (.invokevirtual 26, 3) := by decide +kernel
theorem dX7_restart_47 : decode cX7_restart 47 = .ok (.aload_n 0, 1) := by decide +kernel
theorem dX7_restart_48 : decode cX7_restart 48 = .ok (.iconst 1, 1) := by decide +kernel
theorem dX7_restart_49 : decode cX7_restart 49 = .ok (.putfield 30, 3) := by decide +kernel
theorem dX7_restart_52 : decode cX7_restart 52 = .ok (.return_, 1) := by decide +kernel
theorem dX5_readAll_0 : decode cX5_readAll 0 = .ok (.aload_n 0, 1) := by decide +kernel
theorem dX5_readAll_1 : decode cX5_readAll 1 = .ok (.getfield 32, 3) := by decide +kernel
theorem dX5_readAll_4 : decode cX5_readAll 4 = .ok (.invokevirtual 40, 3) := by decide +kernel
theorem dX5_readAll_7 : decode cX5_readAll 7 = .ok (.aload_n 0, 1) := by decide +kernel
theorem dX5_readAll_8 : decode cX5_readAll 8 = .ok (.getfield 36, 3) := by decide +kernel
theorem dX5_readAll_11 : decode cX5_readAll 11 = .ok (.iconst 0, 1) := by decide +kernel
theorem dX5_readAll_12 : decode cX5_readAll 12 = .ok (.putfield 45, 3) := by decide +kernel
theorem dX5_readAll_15 : decode cX5_readAll 15 = .ok (.aload_n 0, 1) := by decide +kernel
theorem dX5_readAll_16 : decode cX5_readAll 16 = .ok (.getfield 20, 3) := by decide +kernel
theorem dX5_readAll_19 : decode cX5_readAll 19 = .ok (.iconst 0, 1) := by decide +kernel
theorem dX5_readAll_20 : decode cX5_readAll 20 = .ok (.aload_n 0, 1) := by decide +kernel
theorem dX5_readAll_21 : decode cX5_readAll 21 = .ok (.getfield 32, 3) := by decide +kernel
theorem dX5_readAll_24 : decode cX5_readAll 24 = .ok (.getfield 51, 3) := by decide +kernel
theorem dX5_readAll_27 : decode cX5_readAll 27 = .ok (.aastore, 1) := by decide +kernel
theorem dX5_readAll_28 : decode cX5_readAll 28 = .ok (.aload_n 0, 1) := by decide +kernel
theorem dX5_readAll_29 : decode cX5_readAll 29 = .ok (.iconst 1, 1) := by decide +kernel
theorem dX5_readAll_30 : decode cX5_readAll 30 = .ok (.putfield 55, 3) := by decide +kernel
theorem dX5_readAll_33 : decode cX5_readAll 33 = .ok (.aload_n 0, 1) := by decide +kernel
theorem dX5_readAll_34 : decode cX5_readAll 34 = .ok (.iconst 0, 1) := by decide +kernel
theorem dX5_readAll_35 : decode cX5_readAll 35 = .ok (.putfield 58, 3) := by decide +kernel
theorem dX5_readAll_38 : decode cX5_readAll 38 = .ok (.iconst 0, 1) := by decide +kernel
theorem dX5_readAll_39 : decode cX5_readAll 39 = .ok (.istore_n 1, 1) := by decide +kernel
theorem dX5_readAll_40 : decode cX5_readAll 40 = .ok (.iload_n 1, 1) := by decide +kernel
theorem dX5_readAll_41 : decode cX5_readAll 41 = .ok (.aload_n 0, 1) := by decide +kernel
theorem dX5_readAll_42 : decode cX5_readAll 42 = .ok (.getfield 28, 3) := by decide +kernel
theorem dX5_readAll_45 : decode cX5_readAll 45 = .ok (.getfield 61, 3) := by decide +kernel
theorem dX5_readAll_48 : decode cX5_readAll 48 = .ok (.if_icmp .gt 121, 3) := by decide +kernel
theorem dX5_readAll_51 : decode cX5_readAll 51 = .ok (.aload_n 0, 1) := by decide +kernel
theorem dX5_readAll_52 : decode cX5_readAll 52 = .ok (.getfield 58, 3) := by decide +kernel
theorem dX5_readAll_55 : decode cX5_readAll 55 = .ok (.aload_n 0, 1) := by decide +kernel
theorem dX5_readAll_56 : decode cX5_readAll 56 = .ok (.getfield 28, 3) := by decide +kernel
theorem dX5_readAll_59 : decode cX5_readAll 59 = .ok (.getfield 61, 3) := by decide +kernel
theorem dX5_readAll_62 : decode cX5_readAll 62 = .ok (.if_icmp .ge 107, 3) := by decide +kernel
theorem dX5_readAll_65 : decode cX5_readAll 65 = .ok (.aload_n 0, 1) := by decide +kernel
theorem dX5_readAll_66 : decode cX5_readAll 66 = .ok (.getfield 58, 3) := by decide +kernel
theorem dX5_readAll_69 : decode cX5_readAll 69 = .ok (.istore_n 2, 1) := by decide +kernel
theorem dX5_readAll_70 : decode cX5_readAll 70 = .ok (.aload_n 0, 1) := by decide +kernel
theorem dX5_readAll_71 : decode cX5_readAll 71 = .ok (.aload_n 0, 1) := by decide +kernel
theorem dX5_readAll_72 : decode cX5_readAll 72 = .ok (.getfield 55, 3) := by decide +kernel
theorem dX5_readAll_75 : decode cX5_readAll 75 = .ok (.iconst 1, 1) := by decide +kernel
theorem dX5_readAll_76 : decode cX5_readAll 76 = .ok (.isub, 1) := by decide +kernel
theorem dX5_readAll_77 : decode cX5_readAll 77 = .ok (.invokevirtual 66, 3) := by decide +kernel
theorem dX5_readAll_80 : decode cX5_readAll 80 = .ok (.bipush 15, 2) := by decide +kernel
theorem dX5_readAll_82 : decode cX5_readAll 82 = .ok (.if_icmp .ne 7, 3) := by decide +kernel
theorem dX5_readAll_85 : decode cX5_readAll 85 = .ok (.iconst 1, 1) := by decide +kernel
theorem dX5_readAll_86 : decode cX5_readAll 86 = .ok (.goto 4, 3) := by decide +kernel
theorem dX5_readAll_89 : decode cX5_readAll 89 = .ok (.iconst 0, 1) := by decide +kernel
theorem dX5_readAll_90 : decode cX5_readAll 90 = .ok (.istore_n 3, 1) := by decide +kernel
theorem dX5_readAll_91 : decode cX5_readAll 91 = .ok (.aload_n 0, 1) := by decide +kernel
theorem dX5_readAll_92 : decode cX5_readAll 92 = .ok (.iload_n 3, 1) := by decide +kernel
theorem dX5_readAll_93 : decode cX5_readAll 93 = .ok (.invokevirtual 70, 3) := by decide +kernel
theorem dX5_readAll_96 : decode cX5_readAll 96 = .ok (.aload_n 0, 1) := by decide +kernel
theorem dX5_readAll_97 : decode cX5_readAll 97 = .ok (.getfield 58, 3) := by decide +kernel
theorem dX5_readAll_100 : decode cX5_readAll 100 = .ok (.iload_n 2, 1) := by decide +kernel
theorem dX5_readAll_101 : decode cX5_readAll 101 = .ok (.if_icmp .le 21, 3) := by decide +kernel
theorem dX5_readAll_104 : decode cX5_readAll 104 = .ok (.aload_n 0, 1) := by decide +kernel
theorem dX5_readAll_105 : decode cX5_readAll 105 = .ok (.iload_n 2, 1) := by decide +kernel
theorem dX5_readAll_106 : decode cX5_readAll 106 = .ok (.aload_n 0, 1) := by decide +kernel
theorem dX5_readAll_107 : decode cX5_readAll 107 = .ok (.getfield 58, 3) := by decide +kernel
theorem dX5_readAll_110 : decode cX5_readAll 110 = .ok (.iload_n 3, 1) := by decide +kernel
theorem dX5_readAll_111 : decode cX5_readAll 111 = .ok (.ifCond .ne 7, 3) := by decide +kernel
theorem dX5_readAll_114 : decode cX5_readAll 114 = .ok (.iconst 1, 1) := by decide +kernel
theorem dX5_readAll_115 : decode cX5_readAll 115 = .ok (.goto 4, 3) := by decide +kernel
theorem dX5_readAll_118 : decode cX5_readAll 118 = .ok (.iconst 0, 1) := by decide +kernel
theorem dX5_readAll_119 : decode cX5_readAll 119 = .ok (.invokevirtual 74, 3) := by decide +kernel
theorem dX5_readAll_122 : decode cX5_readAll 122 = .ok (.aload_n 0, 1) := by decide +kernel
theorem dX5_readAll_123 : decode cX5_readAll 123 = .ok (.getfield 28, 3) := by decide +kernel
theorem dX5_readAll_126 : decode cX5_readAll 126 = .ok (.ldc 78, 2) := by decide +kernel
theorem dX5_readAll_128 : decode cX5_readAll 128 = .ok (.aload_n 0, 1) := by decide +kernel
theorem dX5_readAll_129 : decode cX5_readAll 129 = .ok (.getfield 58, 3) := by decide +kernel
theorem dX5_readAll_132 : decode cX5_readAll 132 = .ok (.invokevirtual 80, 3) := by decide +kernel
theorem dX5_readAll_135 : decode cX5_readAll 135 = .ok (.ifCond .eq 10, 3) := by decide +kernel
theorem dX5_readAll_138 : decode cX5_readAll 138 = .ok (.aload_n 0, 1) := by decide +kernel
theorem dX5_readAll_139 : decode cX5_readAll 139 = .ok (.invokevirtual 84, 3) := by decide +kernel
theorem dX5_readAll_142 : decode cX5_readAll 142 = .ok (.goto 21, 3) := by decide +kernel
theorem dX5_readAll_145 : decode cX5_readAll 145 = .ok (.aload_n 0, 1) := by decide +kernel
theorem dX5_readAll_146 : decode cX5_readAll 146 = .ok (.getfield 58, 3) := by decide +kernel
theorem dX5_readAll_149 : decode cX5_readAll 149 = .ok (.aload_n 0, 1) := by decide +kernel
theorem dX5_readAll_150 : decode cX5_readAll 150 = .ok (.getfield 28, 3) := by decide +kernel
theorem dX5_readAll_153 : decode cX5_readAll 153 = .ok (.getfield 61, 3) := by decide +kernel
theorem dX5_readAll_156 : decode cX5_readAll 156 = .ok (.if_icmp .ge 7, 3) := by decide +kernel
theorem dX5_readAll_159 : decode cX5_readAll 159 = .ok (.aload_n 0, 1) := by decide +kernel
theorem dX5_readAll_160 : decode cX5_readAll 160 = .ok (.invokevirtual 87, 3) := by decide +kernel
theorem dX5_readAll_163 : decode cX5_readAll 163 = .ok (.iinc 1 1, 3) := by decide +kernel
theorem dX5_readAll_166 : decode cX5_readAll 166 = .ok (.goto (-126), 3) := by decide +kernel
theorem dX5_readAll_169 : decode cX5_readAll 169 = .ok (.aload_n 0, 1) := by decide +kernel
theorem dX5_readAll_170 : decode cX5_readAll 170 = .ok (.iconst 1, 1) := by decide +kernel
theorem dX5_readAll_171 : decode cX5_readAll 171 = .ok (.invokevirtual 90, 3) := by decide +kernel
theorem dX5_readAll_174 : decode cX5_readAll 174 = .ok (.return_, 1) := by decide +kernel
theorem dX7_init_0 : decode cX7_init 0 = .ok (.aload_n 0, 1) := by decide +kernel
theorem dX7_init_1 : decode cX7_init 1 = .ok (.invokespecial 3, 3) := by decide +kernel
theorem dX7_init_4 : decode cX7_init 4 = .ok (.aload_n 0, 1) := by decide +kernel
theorem dX7_init_5 : decode cX7_init 5 = .ok (.bipush 120, 2) := by decide +kernel
theorem dX7_init_7 : decode cX7_init 7 = .ok (.anewarray 9, 3) := by decide +kernel
theorem dX7_init_10 : decode cX7_init 10 = .ok (.putfield 11, 3) := by decide +kernel
theorem dX7_init_13 : decode cX7_init 13 = .ok (.aload_n 0, 1) := by decide +kernel
theorem dX7_init_14 : decode cX7_init 14 = .ok (.new 9, 3) := by decide +kernel
theorem dX7_init_17 : decode cX7_init 17 = .ok (.dup, 1) := by decide +kernel
theorem dX7_init_18 : decode cX7_init 18 = .ok (.iconst 0, 1) := by decide +kernel
theorem dX7_init_19 : decode cX7_init 19 = .ok (.invokespecial 17, 3) := by decide +kernel
theorem dX7_init_22 : decode cX7_init 22 = .ok (.putfield 20, 3) := by decide +kernel
theorem dX7_init_25 : decode cX7_init 25 = .ok (.aload_n 0, 1) := by decide +kernel
theorem dX7_init_26 : decode cX7_init 26 = .ok (.getfield 11, 3) := by decide +kernel
theorem dX7_init_29 : decode cX7_init 29 = .ok (.iconst 0, 1) := by decide +kernel
theorem dX7_init_30 : decode cX7_init 30 = .ok (.aload_n 0, 1) := by decide +kernel
theorem dX7_init_31 : decode cX7_init 31 = .ok (.getfield 20, 3) := by decide +kernel
theorem dX7_init_34 : decode cX7_init 34 = .ok (.aastore, 1) := by decide +kernel
theorem dX7_init_35 : decode cX7_init 35 = .ok (.aload_n 0, 1) := by decide +kernel
theorem dX7_init_36 : decode cX7_init 36 = .ok (.getfield 20, 3) := by decide +kernel
theorem dX7_init_39 : decode cX7_init 39 = .ok (.iconst 0, 1) := by decide +kernel
theorem dX7_init_40 : decode cX7_init 40 = .ok (.ldc2_w 24, 3) := by decide +kernel
theorem dX7_init_43 : decode cX7_init 43 = .ok (.invokevirtual 26, 3) := by decide +kernel
theorem dX7_init_46 : decode cX7_init 46 = .ok (.aload_n 0, 1) := by decide +kernel
theorem dX7_init_47 : decode cX7_init 47 = .ok (.iconst 1, 1) := by decide +kernel
theorem dX7_init_48 : decode cX7_init 48 = .ok (.putfield 30, 3) := by decide +kernel
theorem dX7_init_51 : decode cX7_init 51 = .ok (.return_, 1) := by decide +kernel
theorem dX7_nodeAt_0 : decode cX7_nodeAt 0 = .ok (.iload_n 1, 1) := by decide +kernel
theorem dX7_nodeAt_1 : decode cX7_nodeAt 1 = .ok (.ifCond .lt 12, 3) := by decide +kernel
theorem dX7_nodeAt_4 : decode cX7_nodeAt 4 = .ok (.iload_n 1, 1) := by decide +kernel
theorem dX7_nodeAt_5 : decode cX7_nodeAt 5 = .ok (.aload_n 0, 1) := by decide +kernel
theorem dX7_nodeAt_6 : decode cX7_nodeAt 6 = .ok (.getfield 11, 3) := by decide +kernel
theorem dX7_nodeAt_9 : decode cX7_nodeAt 9 = .ok (.arraylength, 1) := by decide +kernel
theorem dX7_nodeAt_10 : decode cX7_nodeAt 10 = .ok (.if_icmp .lt 5, 3) := by decide +kernel
theorem dX7_nodeAt_13 : decode cX7_nodeAt 13 = .ok (.aconst_null, 1) := by decide +kernel
theorem dX7_nodeAt_14 : decode cX7_nodeAt 14 = .ok (.areturn, 1) := by decide +kernel
theorem dX7_nodeAt_15 : decode cX7_nodeAt 15 = .ok (.aload_n 0, 1) := by decide +kernel
theorem dX7_nodeAt_16 : decode cX7_nodeAt 16 = .ok (.getfield 11, 3) := by decide +kernel
theorem dX7_nodeAt_19 : decode cX7_nodeAt 19 = .ok (.iload_n 1, 1) := by decide +kernel
theorem dX7_nodeAt_20 : decode cX7_nodeAt 20 = .ok (.aaload, 1) := by decide +kernel
theorem dX7_nodeAt_21 : decode cX7_nodeAt 21 = .ok (.astore_n 2, 1) := by decide +kernel
theorem dX7_nodeAt_22 : decode cX7_nodeAt 22 = .ok (.aload_n 2, 1) := by decide +kernel
theorem dX7_nodeAt_23 : decode cX7_nodeAt 23 = .ok (.ifnull 14, 3) := by decide +kernel
theorem dX7_nodeAt_26 : decode cX7_nodeAt 26 = .ok (.aload_n 2, 1) := by decide +kernel
theorem dX7_nodeAt_27 : decode cX7_nodeAt 27 = .ok (.getfield 34, 3) := by decide +kernel
theorem dX7_nodeAt_30 : decode cX7_nodeAt 30 = .ok (.ifCond .eq 7, 3) := by decide +kernel
theorem dX7_nodeAt_33 : decode cX7_nodeAt 33 = .ok (.aload_n 2, 1) := by decide +kernel
theorem dX7_nodeAt_34 : decode cX7_nodeAt 34 = .ok (.goto 4, 3) := by decide +kernel
theorem dX7_nodeAt_37 : decode cX7_nodeAt 37 = .ok (.aconst_null, 1) := by decide +kernel
theorem dX7_nodeAt_38 : decode cX7_nodeAt 38 = .ok (.areturn, 1) := by decide +kernel
theorem dX7_elementAt_0 : decode cX7_elementAt 0 = .ok (.aload_n 0, 1) := by decide +kernel
theorem dX7_elementAt_1 : decode cX7_elementAt 1 = .ok (.iload_n 1, 1) := by decide +kernel
theorem dX7_elementAt_2 : decode cX7_elementAt 2 = .ok (.invokevirtual 38, 3) := by decide +kernel
theorem dX7_elementAt_5 : decode cX7_elementAt 5 = .ok (.astore_n 2, 1) := by decide +kernel
theorem dX7_elementAt_6 : decode cX7_elementAt 6 = .ok (.aload_n 2, 1) := by decide +kernel
theorem dX7_elementAt_7 : decode cX7_elementAt 7 = .ok (.ifnull 16, 3) := by decide +kernel
theorem dX7_elementAt_10 : decode cX7_elementAt 10 = .ok (.aload_n 2, 1) := by decide +kernel
theorem dX7_elementAt_11 : decode cX7_elementAt 11 = .ok (.getfield 42, 3) := by decide +kernel
theorem dX7_elementAt_14 : decode cX7_elementAt 14 = .ok (.bipush 17, 2) := by decide +kernel
theorem dX7_elementAt_16 : decode cX7_elementAt 16 = .ok (.if_icmp .eq 7, 3) := by decide +kernel
theorem dX7_elementAt_19 : decode cX7_elementAt 19 = .ok (.aload_n 2, 1) := by decide +kernel
theorem dX7_elementAt_20 : decode cX7_elementAt 20 = .ok (.goto 4, 3) := by decide +kernel
theorem dX7_elementAt_23 : decode cX7_elementAt 23 = .ok (.aconst_null, 1) := by decide +kernel
theorem dX7_elementAt_24 : decode cX7_elementAt 24 = .ok (.areturn, 1) := by decide +kernel
theorem dX7_release_0 : decode cX7_release 0 = .ok (.iload_n 2, 1) := by decide +kernel
theorem dX7_release_1 : decode cX7_release 1 = .ok (.bipush 20, 2) := by decide +kernel
theorem dX7_release_3 : decode cX7_release 3 = .ok (.if_icmp .le 4, 3) := by decide +kernel
theorem dX7_release_6 : decode cX7_release 6 = .ok (.return_, 1) := by decide +kernel
theorem dX7_release_7 : decode cX7_release 7 = .ok (.aload_n 1, 1) := by decide +kernel
theorem dX7_release_8 : decode cX7_release 8 = .ok (.getfield 63, 3) := by decide +kernel
theorem dX7_release_11 : decode cX7_release 11 = .ok (.astore_n 3, 1) := by decide +kernel
theorem dX7_release_12 : decode cX7_release 12 = .ok (.aload_n 3, 1) := by decide +kernel
theorem dX7_release_13 : decode cX7_release 13 = .ok (.ifnull 19, 3) := by decide +kernel
theorem dX7_release_16 : decode cX7_release 16 = .ok (.aload_n 0, 1) := by decide +kernel
theorem dX7_release_17 : decode cX7_release 17 = .ok (.aload_n 3, 1) := by decide +kernel
theorem dX7_release_18 : decode cX7_release 18 = .ok (.iload_n 2, 1) := by decide +kernel
theorem dX7_release_19 : decode cX7_release 19 = .ok (.iconst 1, 1) := by decide +kernel
theorem dX7_release_20 : decode cX7_release 20 = .ok (.iadd, 1) := by decide +kernel
theorem dX7_release_21 : decode cX7_release 21 = .ok (.invokevirtual 59, 3) := by decide +kernel
theorem dX7_release_24 : decode cX7_release 24 = .ok (.aload_n 3, 1) := by decide +kernel
theorem dX7_release_25 : decode cX7_release 25 = .ok (.getfield 66, 3) := by decide +kernel
theorem dX7_release_28 : decode cX7_release 28 = .ok (.astore_n 3, 1) := by decide +kernel
theorem dX7_release_29 : decode cX7_release 29 = .ok (.goto (-17), 3) := by decide +kernel
theorem dX7_release_32 : decode cX7_release 32 = .ok (.aload_n 1, 1) := by decide +kernel
theorem dX7_release_33 : decode cX7_release 33 = .ok (.iconst 0, 1) := by decide +kernel
theorem dX7_release_34 : decode cX7_release 34 = .ok (.putfield 34, 3) := by decide +kernel
theorem dX7_release_37 : decode cX7_release 37 = .ok (.aload_n 0, 1) := by decide +kernel
theorem dX7_release_38 : decode cX7_release 38 = .ok (.dup, 1) := by decide +kernel
theorem dX7_release_39 : decode cX7_release 39 = .ok (.getfield 30, 3) := by decide +kernel
theorem dX7_release_42 : decode cX7_release 42 = .ok (.iconst 1, 1) := by decide +kernel
theorem dX7_release_43 : decode cX7_release 43 = .ok (.isub, 1) := by decide +kernel
theorem dX7_release_44 : decode cX7_release 44 = .ok (.putfield 30, 3) := by decide +kernel
theorem dX7_release_47 : decode cX7_release 47 = .ok (.return_, 1) := by decide +kernel
theorem dX7_drop_0 : decode cX7_drop 0 = .ok (.aload_n 1, 1) := by decide +kernel
theorem dX7_drop_1 : decode cX7_drop 1 = .ok (.invokevirtual 56, 3) := by decide +kernel
theorem dX7_drop_4 : decode cX7_drop 4 = .ok (.aload_n 0, 1) := by decide +kernel
theorem dX7_drop_5 : decode cX7_drop 5 = .ok (.aload_n 1, 1) := by decide +kernel
theorem dX7_drop_6 : decode cX7_drop 6 = .ok (.iconst 0, 1) := by decide +kernel
theorem dX7_drop_7 : decode cX7_drop 7 = .ok (.invokevirtual 59, 3) := by decide +kernel
theorem dX7_drop_10 : decode cX7_drop 10 = .ok (.return_, 1) := by decide +kernel
theorem dX7_dropAllIn_0 : decode cX7_dropAllIn 0 = .ok (.aload_n 1, 1) := by decide +kernel
theorem dX7_dropAllIn_1 : decode cX7_dropAllIn 1 = .ok (.getfield 63, 3) := by decide +kernel
theorem dX7_dropAllIn_4 : decode cX7_dropAllIn 4 = .ok (.astore_n 2, 1) := by decide +kernel
theorem dX7_dropAllIn_5 : decode cX7_dropAllIn 5 = .ok (.aload_n 2, 1) := by decide +kernel
theorem dX7_dropAllIn_6 : decode cX7_dropAllIn 6 = .ok (.ifnull 17, 3) := by decide +kernel
theorem dX7_dropAllIn_9 : decode cX7_dropAllIn 9 = .ok (.aload_n 0, 1) := by decide +kernel
theorem dX7_dropAllIn_10 : decode cX7_dropAllIn 10 = .ok (.aload_n 2, 1) := by decide +kernel
theorem dX7_dropAllIn_11 : decode cX7_dropAllIn 11 = .ok (.iconst 0, 1) := by decide +kernel
theorem dX7_dropAllIn_12 : decode cX7_dropAllIn 12 = .ok (.invokevirtual 59, 3) := by decide +kernel
theorem dX7_dropAllIn_15 : decode cX7_dropAllIn 15 = .ok (.aload_n 2, 1) := by decide +kernel
theorem dX7_dropAllIn_16 : decode cX7_dropAllIn 16 = .ok (.getfield 66, 3) := by decide +kernel
theorem dX7_dropAllIn_19 : decode cX7_dropAllIn 19 = .ok (.astore_n 2, 1) := by decide +kernel
theorem dX7_dropAllIn_20 : decode cX7_dropAllIn 20 = .ok (.goto (-15), 3) := by decide +kernel
theorem dX7_dropAllIn_23 : decode cX7_dropAllIn 23 = .ok (.aload_n 1, 1) := by decide +kernel
theorem dX7_dropAllIn_24 : decode cX7_dropAllIn 24 = .ok (.aconst_null, 1) := by decide +kernel
theorem dX7_dropAllIn_25 : decode cX7_dropAllIn 25 = .ok (.putfield 63, 3) := by decide +kernel
theorem dX7_dropAllIn_28 : decode cX7_dropAllIn 28 = .ok (.aload_n 1, 1) := by decide +kernel
theorem dX7_dropAllIn_29 : decode cX7_dropAllIn 29 = .ok (.aconst_null, 1) := by decide +kernel
theorem dX7_dropAllIn_30 : decode cX7_dropAllIn 30 = .ok (.putfield 69, 3) := by decide +kernel
theorem dX7_dropAllIn_33 : decode cX7_dropAllIn 33 = .ok (.return_, 1) := by decide +kernel
theorem dX8_init_0 : decode cX8_init 0 = .ok (.aload_n 0, 1) := by decide +kernel
theorem dX8_init_1 : decode cX8_init 1 = .ok (.invokespecial 1, 3) := by decide +kernel
theorem dX8_init_4 : decode cX8_init 4 = .ok (.aload_n 0, 1) := by decide +kernel
theorem dX8_init_5 : decode cX8_init 5 = .ok (.new 7, 3) := by decide +kernel
theorem dX8_init_8 : decode cX8_init 8 = .ok (.dup, 1) := by decide +kernel
theorem dX8_init_9 : decode cX8_init 9 = .ok (.invokespecial 9, 3) := by decide +kernel
theorem dX8_init_12 : decode cX8_init 12 = .ok (.putfield 10, 3) := by decide +kernel
theorem dX8_init_15 : decode cX8_init 15 = .ok (.aload_n 0, 1) := by decide +kernel
theorem dX8_init_16 : decode cX8_init 16 = .ok (.new 16, 3) := by decide +kernel
theorem dX8_init_19 : decode cX8_init 19 = .ok (.dup, 1) := by decide +kernel
theorem dX8_init_20 : decode cX8_init 20 = .ok (.invokespecial 18, 3) := by decide +kernel
theorem dX8_init_23 : decode cX8_init 23 = .ok (.putfield 19, 3) := by decide +kernel
theorem dX8_init_26 : decode cX8_init 26 = .ok (.aload_n 0, 1) := by decide +kernel
theorem dX8_init_27 : decode cX8_init 27 = .ok (.new 23, 3) := by decide +kernel
theorem dX8_init_30 : decode cX8_init 30 = .ok (.dup, 1) := by decide +kernel
theorem dX8_init_31 : decode cX8_init 31 = .ok (.invokespecial 25, 3) := by decide +kernel
theorem dX8_init_34 : decode cX8_init 34 = .ok (.putfield 26, 3) := by decide +kernel
theorem dX8_init_37 : decode cX8_init 37 = .ok (.aload_n 0, 1) := by decide +kernel
theorem dX8_init_38 : decode cX8_init 38 = .ok (.new 30, 3) := by decide +kernel
theorem dX8_init_41 : decode cX8_init 41 = .ok (.dup, 1) := by decide +kernel
theorem dX8_init_42 : decode cX8_init 42 = .ok (.invokespecial 32, 3) := by decide +kernel
theorem dX8_init_45 : decode cX8_init 45 = .ok (.putfield 33, 3) := by decide +kernel
theorem dX8_init_48 : decode cX8_init 48 = .ok (.aload_n 0, 1) := by decide +kernel
theorem dX8_init_49 : decode cX8_init 49 = .ok (.new 37, 3) := by decide +kernel
theorem dX8_init_52 : decode cX8_init 52 = .ok (.dup, 1) := by decide +kernel
theorem dX8_init_53 : decode cX8_init 53 = .ok (.aload_n 0, 1) := by decide +kernel
theorem dX8_init_54 : decode cX8_init 54 = .ok (.getfield 10, 3) := by decide +kernel
theorem dX8_init_57 : decode cX8_init 57 = .ok (.aload_n 0, 1) := by decide +kernel
theorem dX8_init_58 : decode cX8_init 58 = .ok (.getfield 33, 3) := by decide +kernel
theorem dX8_init_61 : decode cX8_init 61 = .ok (.aload_n 0, 1) := by decide +kernel
theorem dX8_init_62 : decode cX8_init 62 = .ok (.getfield 26, 3) := by decide +kernel
theorem dX8_init_65 : decode cX8_init 65 = .ok (.invokespecial 39, 3) := by decide +kernel
theorem dX8_init_68 : decode cX8_init 68 = .ok (.putfield 42, 3) := by decide +kernel
theorem dX8_init_71 : decode cX8_init 71 = .ok (.return_, 1) := by decide +kernel
