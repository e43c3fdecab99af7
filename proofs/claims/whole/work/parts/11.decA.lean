theorem dX6_byteAt_0 : decode cX6_byteAt 0 = .ok (.iload_n 1, 1) := by decide +kernel
theorem dX6_byteAt_1 : decode cX6_byteAt 1 = .ok (.ifCond .lt 33, 3) := by decide +kernel
theorem dX6_byteAt_4 : decode cX6_byteAt 4 = .ok (.iload_n 1, 1) := by decide +kernel
theorem dX6_byteAt_5 : decode cX6_byteAt 5 = .ok (.aload_n 0, 1) := by decide +kernel
theorem dX6_byteAt_6 : decode cX6_byteAt 6 = .ok (.getfield 19, 3) := by decide +kernel
theorem dX6_byteAt_9 : decode cX6_byteAt 9 = .ok (.if_icmp .ge 25, 3) := by decide +kernel
theorem dX6_byteAt_12 : decode cX6_byteAt 12 = .ok (.iload_n 1, 1) := by decide +kernel
theorem dX6_byteAt_13 : decode cX6_byteAt 13 = .ok (.aload_n 0, 1) := by decide +kernel
theorem dX6_byteAt_14 : decode cX6_byteAt 14 = .ok (.getfield 9, 3) := by decide +kernel
theorem dX6_byteAt_17 : decode cX6_byteAt 17 = .ok (.arraylength, 1) := by decide +kernel
theorem dX6_byteAt_18 : decode cX6_byteAt 18 = .ok (.if_icmp .ge 16, 3) := by decide +kernel
theorem dX6_byteAt_21 : decode cX6_byteAt 21 = .ok (.aload_n 0, 1) := by decide +kernel
theorem dX6_byteAt_22 : decode cX6_byteAt 22 = .ok (.getfield 9, 3) := by decide +kernel
theorem dX6_byteAt_25 : decode cX6_byteAt 25 = .ok (.iload_n 1, 1) := by decide +kernel
theorem dX6_byteAt_26 : decode cX6_byteAt 26 = .ok (.baload, 1) := by decide +kernel
theorem dX6_byteAt_27 : decode cX6_byteAt 27 = .ok (.sipush 255, 3) := by decide +kernel
theorem dX6_byteAt_30 : decode cX6_byteAt 30 = .ok (.iand, 1) := by decide +kernel
theorem dX6_byteAt_31 : decode cX6_byteAt 31 = .ok (.goto 4, 3) := by decide +kernel
theorem dX6_byteAt_34 : decode cX6_byteAt 34 = .ok (.iconst (-1), 1) := by decide +kernel
theorem dX6_byteAt_35 : decode cX6_byteAt 35 = .ok (.ireturn, 1) := by decide +kernel
theorem dX6_holds_0 : decode cX6_holds 0 = .ok (.iconst 0, 1) := by decide +kernel
theorem dX6_holds_1 : decode cX6_holds 1 = .ok (.istore_n 3, 1) := by decide +kernel
theorem dX6_holds_2 : decode cX6_holds 2 = .ok (.iload_n 3, 1) := by decide +kernel
theorem dX6_holds_3 : decode cX6_holds 3 = .ok (.aload_n 1, 1) := by decide +kernel
theorem dX6_holds_4 : decode cX6_holds 4 = .ok (.invokevirtual 23, 3) := by decide +kernel
theorem dX6_holds_7 : decode cX6_holds 7 = .ok (.if_icmp .ge 26, 3) := by decide +kernel
theorem dX6_holds_10 : decode cX6_holds 10 = .ok (.aload_n 0, 1) := by decide +kernel
theorem dX6_holds_11 : decode cX6_holds 11 = .ok (.iload_n 2, 1) := by decide +kernel
theorem dX6_holds_12 : decode cX6_holds 12 = .ok (.iload_n 3, 1) := by decide +kernel
theorem dX6_holds_13 : decode cX6_holds 13 = .ok (.iadd, 1) := by decide +kernel
theorem dX6_holds_14 : decode cX6_holds 14 = .ok (.invokevirtual 28, 3) := by decide +kernel
theorem dX6_holds_17 : decode cX6_holds 17 = .ok (.aload_n 1, 1) := by decide +kernel
theorem dX6_holds_18 : decode cX6_holds 18 = .ok (.iload_n 3, 1) := by decide +kernel
theorem dX6_holds_19 : decode cX6_holds 19 = .ok (.invokevirtual 32, 3) := by decide +kernel
theorem dX6_holds_22 : decode cX6_holds 22 = .ok (.if_icmp .eq 5, 3) := by decide +kernel
theorem dX6_holds_25 : decode cX6_holds 25 = .ok (.iconst 0, 1) := by decide +kernel
theorem dX6_holds_26 : decode cX6_holds 26 = .ok (.ireturn, 1) := by decide +kernel
theorem dX6_holds_27 : decode cX6_holds 27 = .ok (.iinc 3 1, 3) := by decide +kernel
theorem dX6_holds_30 : decode cX6_holds 30 = .ok (.goto (-28), 3) := by decide +kernel
theorem dX6_holds_33 : decode cX6_holds 33 = .ok (.iconst 1, 1) := by decide +kernel
theorem dX6_holds_34 : decode cX6_holds 34 = .ok (.ireturn, 1) := by decide +kernel
theorem dX6_init_0 : decode cX6_init 0 = .ok (.aload_n 0, 1) := by decide +kernel
theorem dX6_init_1 : decode cX6_init 1 = .ok (.invokespecial 3, 3) := by decide +kernel
theorem dX6_init_4 : decode cX6_init 4 = .ok (.aload_n 0, 1) := by decide +kernel
theorem dX6_init_5 : decode cX6_init 5 = .ok (.sipush 2000, 3) := by decide +kernel
theorem dX6_init_8 : decode cX6_init 8 = .ok (.newarray .byte, 2) := by decide +kernel
theorem dX6_init_10 : decode cX6_init 10 = .ok (.putfield 9, 3) := by decide +kernel
theorem dX6_init_13 : decode cX6_init 13 = .ok (.return_, 1) := by decide +kernel
theorem dX6_pushByte_0 : decode cX6_pushByte 0 = .ok (.aload_n 0, 1) := by decide +kernel
theorem dX6_pushByte_1 : decode cX6_pushByte 1 = .ok (.getfield 19, 3) := by decide +kernel
theorem dX6_pushByte_4 : decode cX6_pushByte 4 = .ok (.ifCond .lt 36, 3) := by decide +kernel
theorem dX6_pushByte_7 : decode cX6_pushByte 7 = .ok (.aload_n 0, 1) := by decide +kernel
theorem dX6_pushByte_8 : decode cX6_pushByte 8 = .ok (.getfield 19, 3) := by decide +kernel
theorem dX6_pushByte_11 : decode cX6_pushByte 11 = .ok (.aload_n 0, 1) := by decide +kernel
theorem dX6_pushByte_12 : decode cX6_pushByte 12 = .ok (.getfield 9, 3) := by decide +kernel
theorem dX6_pushByte_15 : decode cX6_pushByte 15 = .ok (.arraylength, 1) := by decide +kernel
theorem dX6_pushByte_16 : decode cX6_pushByte 16 = .ok (.if_icmp .ge 24, 3) := by decide +kernel
theorem dX6_pushByte_19 : decode cX6_pushByte 19 = .ok (.aload_n 0, 1) := by decide +kernel
theorem dX6_pushByte_20 : decode cX6_pushByte 20 = .ok (.getfield 9, 3) := by decide +kernel
theorem dX6_pushByte_23 : decode cX6_pushByte 23 = .ok (.aload_n 0, 1) := by decide +kernel
theorem dX6_pushByte_24 : decode cX6_pushByte 24 = .ok (.getfield 19, 3) := by decide +kernel
theorem dX6_pushByte_27 : decode cX6_pushByte 27 = .ok (.iload_n 1, 1) := by decide +kernel
theorem dX6_pushByte_28 : decode cX6_pushByte 28 = .ok (.i2b, 1) := by decide +kernel
theorem dX6_pushByte_29 : decode cX6_pushByte 29 = .ok (.bastore, 1) := by decide +kernel
theorem dX6_pushByte_30 : decode cX6_pushByte 30 = .ok (.aload_n 0, 1) := by decide +kernel
theorem dX6_pushByte_31 : decode cX6_pushByte 31 = .ok (.dup, 1) := by decide +kernel
theorem dX6_pushByte_32 : decode cX6_pushByte 32 = .ok (.getfield 19, 3) := by decide +kernel
theorem dX6_pushByte_35 : decode cX6_pushByte 35 = .ok (.iconst 1, 1) := by decide +kernel
theorem dX6_pushByte_36 : decode cX6_pushByte 36 = .ok (.iadd, 1) := by decide +kernel
theorem dX6_pushByte_37 : decode cX6_pushByte 37 = .ok (.putfield 19, 3) := by decide +kernel
theorem dX6_pushByte_40 : decode cX6_pushByte 40 = .ok (.return_, 1) := by decide +kernel
theorem dX6_pushInt_0 : decode cX6_pushInt 0 = .ok (.aload_n 0, 1) := by decide +kernel
theorem dX6_pushInt_1 : decode cX6_pushInt 1 = .ok (.iload_n 1, 1) := by decide +kernel
theorem dX6_pushInt_2 : decode cX6_pushInt 2 = .ok (.bipush 24, 2) := by decide +kernel
theorem dX6_pushInt_4 : decode cX6_pushInt 4 = .ok (.iushr, 1) := by decide +kernel
theorem dX6_pushInt_5 : decode cX6_pushInt 5 = .ok (.invokevirtual 15, 3) := by decide +kernel
theorem dX6_pushInt_8 : decode cX6_pushInt 8 = .ok (.aload_n 0, 1) := by decide +kernel
theorem dX6_pushInt_9 : decode cX6_pushInt 9 = .ok (.iload_n 1, 1) := by decide +kernel
theorem dX6_pushInt_10 : decode cX6_pushInt 10 = .ok (.bipush 16, 2) := by decide +kernel
theorem dX6_pushInt_12 : decode cX6_pushInt 12 = .ok (.iushr, 1) := by decide +kernel
theorem dX6_pushInt_13 : decode cX6_pushInt 13 = .ok (.invokevirtual 15, 3) := by decide +kernel
theorem dX6_pushInt_16 : decode cX6_pushInt 16 = .ok (.aload_n 0, 1) := by decide +kernel
theorem dX6_pushInt_17 : decode cX6_pushInt 17 = .ok (.iload_n 1, 1) := by decide +kernel
theorem dX6_pushInt_18 : decode cX6_pushInt 18 = .ok (.bipush 8, 2) := by decide +kernel
theorem dX6_pushInt_20 : decode cX6_pushInt 20 = .ok (.iushr, 1) := by decide +kernel
theorem dX6_pushInt_21 : decode cX6_pushInt 21 = .ok (.invokevirtual 15, 3) := by decide +kernel
theorem dX6_pushInt_24 : decode cX6_pushInt 24 = .ok (.aload_n 0, 1) := by decide +kernel
theorem dX6_pushInt_25 : decode cX6_pushInt 25 = .ok (.iload_n 1, 1) := by decide +kernel
theorem dX6_pushInt_26 : decode cX6_pushInt 26 = .ok (.invokevirtual 15, 3) := by decide +kernel
theorem dX6_pushInt_29 : decode cX6_pushInt 29 = .ok (.return_, 1) := by decide +kernel
theorem dX6_badPlace_0 : decode cX6_badPlace 0 = .ok (.iconst 0, 1) := by decide +kernel
theorem dX6_badPlace_1 : decode cX6_badPlace 1 = .ok (.istore_n 1, 1) := by decide +kernel
theorem dX6_badPlace_2 : decode cX6_badPlace 2 = .ok (.iload_n 1, 1) := by decide +kernel
theorem dX6_badPlace_3 : decode cX6_badPlace 3 = .ok (.aload_n 0, 1) := by decide +kernel
theorem dX6_badPlace_4 : decode cX6_badPlace 4 = .ok (.getfield 19, 3) := by decide +kernel
theorem dX6_badPlace_7 : decode cX6_badPlace 7 = .ok (.if_icmp .ge 35, 3) := by decide +kernel
theorem dX6_badPlace_10 : decode cX6_badPlace 10 = .ok (.aload_n 0, 1) := by decide +kernel
theorem dX6_badPlace_11 : decode cX6_badPlace 11 = .ok (.iload_n 1, 1) := by decide +kernel
theorem dX6_badPlace_12 : decode cX6_badPlace 12 = .ok (.invokevirtual 28, 3) := by decide +kernel
theorem dX6_badPlace_15 : decode cX6_badPlace 15 = .ok (.istore_n 2, 1) := by decide +kernel
theorem dX6_badPlace_16 : decode cX6_badPlace 16 = .ok (.iload_n 2, 1) := by decide +kernel
theorem dX6_badPlace_17 : decode cX6_badPlace 17 = .ok (.bipush 10, 2) := by decide +kernel
theorem dX6_badPlace_19 : decode cX6_badPlace 19 = .ok (.if_icmp .eq 17, 3) := by decide +kernel
theorem dX6_badPlace_22 : decode cX6_badPlace 22 = .ok (.iload_n 2, 1) := by decide +kernel
theorem dX6_badPlace_23 : decode cX6_badPlace 23 = .ok (.bipush 32, 2) := by decide +kernel
theorem dX6_badPlace_25 : decode cX6_badPlace 25 = .ok (.if_icmp .lt 9, 3) := by decide +kernel
theorem dX6_badPlace_28 : decode cX6_badPlace 28 = .ok (.iload_n 2, 1) := by decide +kernel
theorem dX6_badPlace_29 : decode cX6_badPlace 29 = .ok (.bipush 126, 2) := by decide +kernel
theorem dX6_badPlace_31 : decode cX6_badPlace 31 = .ok (.if_icmp .le 5, 3) := by decide +kernel
theorem dX6_badPlace_34 : decode cX6_badPlace 34 = .ok (.iload_n 1, 1) := by decide +kernel
theorem dX6_badPlace_35 : decode cX6_badPlace 35 = .ok (.ireturn, 1) := by decide +kernel
theorem dX6_badPlace_36 : decode cX6_badPlace 36 = .ok (.iinc 1 1, 3) := by decide +kernel
theorem dX6_badPlace_39 : decode cX6_badPlace 39 = .ok (.goto (-37), 3) := by decide +kernel
theorem dX6_badPlace_42 : decode cX6_badPlace 42 = .ok (.iconst (-1), 1) := by decide +kernel
theorem dX6_badPlace_43 : decode cX6_badPlace 43 = .ok (.ireturn, 1) := by decide +kernel
theorem dX6_canBeInName_0 : decode cX6_canBeInName 0 = .ok (.iload_n 0, 1) := by decide +kernel
theorem dX6_canBeInName_1 : decode cX6_canBeInName 1 = .ok (.invokestatic 40, 3) := by decide +kernel
theorem dX6_canBeInName_4 : decode cX6_canBeInName 4 = .ok (.ifCond .ne 14, 3) := by decide +kernel
theorem dX6_canBeInName_7 : decode cX6_canBeInName 7 = .ok (.iload_n 1, 1) := by decide +kernel
theorem dX6_canBeInName_8 : decode cX6_canBeInName 8 = .ok (.ifCond .le 14, 3) := by decide +kernel
theorem dX6_canBeInName_11 : decode cX6_canBeInName 11 = .ok (.iload_n 0, 1) := by decide +kernel
theorem dX6_canBeInName_12 : decode cX6_canBeInName 12 = .ok (.invokestatic 44, 3) := by decide +kernel
theorem dX6_canBeInName_15 : decode cX6_canBeInName 15 = .ok (.ifCond .eq 7, 3) := by decide +kernel
theorem dX6_canBeInName_18 : decode cX6_canBeInName 18 = .ok (.iconst 1, 1) := by decide +kernel
theorem dX6_canBeInName_19 : decode cX6_canBeInName 19 = .ok (.goto 4, 3) := by decide +kernel
theorem dX6_canBeInName_22 : decode cX6_canBeInName 22 = .ok (.iconst 0, 1) := by decide +kernel
theorem dX6_canBeInName_23 : decode cX6_canBeInName 23 = .ok (.ireturn, 1) := by decide +kernel
theorem dX6_nameLength_0 : decode cX6_nameLength 0 = .ok (.iconst 0, 1) := by decide +kernel
theorem dX6_nameLength_1 : decode cX6_nameLength 1 = .ok (.istore_n 1, 1) := by decide +kernel
theorem dX6_nameLength_2 : decode cX6_nameLength 2 = .ok (.iload_n 1, 1) := by decide +kernel
theorem dX6_nameLength_3 : decode cX6_nameLength 3 = .ok (.bipush 8, 2) := by decide +kernel
theorem dX6_nameLength_5 : decode cX6_nameLength 5 = .ok (.if_icmp .ge 21, 3) := by decide +kernel
theorem dX6_nameLength_8 : decode cX6_nameLength 8 = .ok (.aload_n 0, 1) := by decide +kernel
theorem dX6_nameLength_9 : decode cX6_nameLength 9 = .ok (.iload_n 1, 1) := by decide +kernel
theorem dX6_nameLength_10 : decode cX6_nameLength 10 = .ok (.invokevirtual 28, 3) := by decide +kernel
theorem dX6_nameLength_13 : decode cX6_nameLength 13 = .ok (.iload_n 1, 1) := by decide +kernel
theorem dX6_nameLength_14 : decode cX6_nameLength 14 = .ok (.invokestatic 36, 3) := by decide +kernel
theorem dX6_nameLength_17 : decode cX6_nameLength 17 = .ok (.ifCond .eq 9, 3) := by decide +kernel
theorem dX6_nameLength_20 : decode cX6_nameLength 20 = .ok (.iinc 1 1, 3) := by decide +kernel
theorem dX6_nameLength_23 : decode cX6_nameLength 23 = .ok (.goto (-21), 3) := by decide +kernel
theorem dX6_nameLength_26 : decode cX6_nameLength 26 = .ok (.iload_n 1, 1) := by decide +kernel
theorem dX6_nameLength_27 : decode cX6_nameLength 27 = .ok (.ireturn, 1) := by decide +kernel
theorem dX6_wrongAsName_0 : decode cX6_wrongAsName 0 = .ok (.aload_n 0, 1) := by decide +kernel
theorem dX6_wrongAsName_1 : decode cX6_wrongAsName 1 = .ok (.invokevirtual 47, 3) := by decide +kernel
theorem dX6_wrongAsName_4 : decode cX6_wrongAsName 4 = .ok (.istore_n 1, 1) := by decide +kernel
theorem dX6_wrongAsName_5 : decode cX6_wrongAsName 5 = .ok (.iload_n 1, 1) := by decide +kernel
theorem dX6_wrongAsName_6 : decode cX6_wrongAsName 6 = .ok (.iconst (-1), 1) := by decide +kernel
theorem dX6_wrongAsName_7 : decode cX6_wrongAsName 7 = .ok (.if_icmp .eq 9, 3) := by decide +kernel
theorem dX6_wrongAsName_10 : decode cX6_wrongAsName 10 = .ok (.sipush (-1000), 3) := by decide +kernel
theorem dX6_wrongAsName_13 : decode cX6_wrongAsName 13 = .ok (.iload_n 1, 1) := by decide +kernel
theorem dX6_wrongAsName_14 : decode cX6_wrongAsName 14 = .ok (.isub, 1) := by decide +kernel
theorem dX6_wrongAsName_15 : decode cX6_wrongAsName 15 = .ok (.ireturn, 1) := by decide +kernel
theorem dX6_wrongAsName_16 : decode cX6_wrongAsName 16 = .ok (.aload_n 0, 1) := by decide +kernel
theorem dX6_wrongAsName_17 : decode cX6_wrongAsName 17 = .ok (.invokevirtual 50, 3) := by decide +kernel
theorem dX6_wrongAsName_20 : decode cX6_wrongAsName 20 = .ok (.istore_n 2, 1) := by decide +kernel
theorem dX6_wrongAsName_21 : decode cX6_wrongAsName 21 = .ok (.iload_n 2, 1) := by decide +kernel
theorem dX6_wrongAsName_22 : decode cX6_wrongAsName 22 = .ok (.ifCond .le 15, 3) := by decide +kernel
theorem dX6_wrongAsName_25 : decode cX6_wrongAsName 25 = .ok (.iload_n 2, 1) := by decide +kernel
theorem dX6_wrongAsName_26 : decode cX6_wrongAsName 26 = .ok (.aload_n 0, 1) := by decide +kernel
theorem dX6_wrongAsName_27 : decode cX6_wrongAsName 27 = .ok (.getfield 19, 3) := by decide +kernel
theorem dX6_wrongAsName_30 : decode cX6_wrongAsName 30 = .ok (.if_icmp .ne 7, 3) := by decide +kernel
theorem dX6_wrongAsName_33 : decode cX6_wrongAsName 33 = .ok (.iconst 0, 1) := by decide +kernel
theorem dX6_wrongAsName_34 : decode cX6_wrongAsName 34 = .ok (.goto 8, 3) := by decide +kernel
theorem dX6_wrongAsName_37 : decode cX6_wrongAsName 37 = .ok (.sipush (-1000), 3) := by decide +kernel
theorem dX6_wrongAsName_40 : decode cX6_wrongAsName 40 = .ok (.iload_n 2, 1) := by decide +kernel
theorem dX6_wrongAsName_41 : decode cX6_wrongAsName 41 = .ok (.isub, 1) := by decide +kernel
theorem dX6_wrongAsName_42 : decode cX6_wrongAsName 42 = .ok (.ireturn, 1) := by decide +kernel
theorem dX6_wrongAsSetting_0 : decode cX6_wrongAsSetting 0 = .ok (.aload_n 0, 1) := by decide +kernel
theorem dX6_wrongAsSetting_1 : decode cX6_wrongAsSetting 1 = .ok (.invokevirtual 47, 3) := by decide +kernel
theorem dX6_wrongAsSetting_4 : decode cX6_wrongAsSetting 4 = .ok (.istore_n 1, 1) := by decide +kernel
theorem dX6_wrongAsSetting_5 : decode cX6_wrongAsSetting 5 = .ok (.iload_n 1, 1) := by decide +kernel
theorem dX6_wrongAsSetting_6 : decode cX6_wrongAsSetting 6 = .ok (.iconst (-1), 1) := by decide +kernel
theorem dX6_wrongAsSetting_7 : decode cX6_wrongAsSetting 7 = .ok (.if_icmp .eq 9, 3) := by decide +kernel
theorem dX6_wrongAsSetting_10 : decode cX6_wrongAsSetting 10 = .ok (.sipush (-1000), 3) := by decide +kernel
theorem dX6_wrongAsSetting_13 : decode cX6_wrongAsSetting 13 = .ok (.iload_n 1, 1) := by decide +kernel
theorem dX6_wrongAsSetting_14 : decode cX6_wrongAsSetting 14 = .ok (.isub, 1) := by decide +kernel
theorem dX6_wrongAsSetting_15 : decode cX6_wrongAsSetting 15 = .ok (.ireturn, 1) := by decide +kernel
theorem dX6_wrongAsSetting_16 : decode cX6_wrongAsSetting 16 = .ok (.aload_n 0, 1) := by decide +kernel
theorem dX6_wrongAsSetting_17 : decode cX6_wrongAsSetting 17 = .ok (.invokevirtual 50, 3) := by decide +kernel
theorem dX6_wrongAsSetting_20 : decode cX6_wrongAsSetting 20 = .ok (.istore_n 2, 1) := by decide +kernel
theorem dX6_wrongAsSetting_21 : decode cX6_wrongAsSetting 21 = .ok (.iload_n 2, 1) := by decide +kernel
theorem dX6_wrongAsSetting_22 : decode cX6_wrongAsSetting 22 = .ok (.ifCond .le 17, 3) := by decide +kernel
theorem dX6_wrongAsSetting_25 : decode cX6_wrongAsSetting 25 = .ok (.aload_n 0, 1) := by decide +kernel
theorem dX6_wrongAsSetting_26 : decode cX6_wrongAsSetting 26 = .ok (.iload_n 2, 1) := by decide +kernel
theorem dX6_wrongAsSetting_27 : decode cX6_wrongAsSetting 27 = .ok (.invokevirtual 28, 3) := by decide +kernel
theorem dX6_wrongAsSetting_30 : decode cX6_wrongAsSetting 30 = .ok (.bipush 61, 2) := by decide +kernel
theorem dX6_wrongAsSetting_32 : decode cX6_wrongAsSetting 32 = .ok (.if_icmp .ne 7, 3) := by decide +kernel
theorem dX6_wrongAsSetting_35 : decode cX6_wrongAsSetting 35 = .ok (.iconst 0, 1) := by decide +kernel
theorem dX6_wrongAsSetting_36 : decode cX6_wrongAsSetting 36 = .ok (.goto 8, 3) := by decide +kernel
theorem dX6_wrongAsSetting_39 : decode cX6_wrongAsSetting 39 = .ok (.sipush (-1000), 3) := by decide +kernel
theorem dX6_wrongAsSetting_42 : decode cX6_wrongAsSetting 42 = .ok (.iload_n 2, 1) := by decide +kernel
theorem dX6_wrongAsSetting_43 : decode cX6_wrongAsSetting 43 = .ok (.isub, 1) := by decide +kernel
theorem dX6_wrongAsSetting_44 : decode cX6_wrongAsSetting 44 = .ok (.ireturn, 1) := by decide +kernel
theorem dX6_packed_0 : decode cX6_packed 0 = .ok (.lconst 0, 1) := by decide +kernel
theorem dX6_packed_1 : decode cX6_packed 1 = .ok (.lstore_n 2, 1) := by decide +kernel
theorem dX6_packed_2 : decode cX6_packed 2 = .ok (.iconst 0, 1) := by decide +kernel
theorem dX6_packed_3 : decode cX6_packed 3 = .ok (.istore 4, 2) := by decide +kernel
theorem dX6_packed_5 : decode cX6_packed 5 = .ok (.iload 4, 2) := by decide +kernel
theorem dX6_packed_7 : decode cX6_packed 7 = .ok (.iload_n 1, 1) := by decide +kernel
theorem dX6_packed_8 : decode cX6_packed 8 = .ok (.if_icmp .ge 29, 3) := by decide +kernel
theorem dX6_packed_11 : decode cX6_packed 11 = .ok (.iload 4, 2) := by decide +kernel
theorem dX6_packed_13 : decode cX6_packed 13 = .ok (.aload_n 0, 1) := by decide +kernel
theorem dX6_packed_14 : decode cX6_packed 14 = .ok (.getfield 19, 3) := by decide +kernel
theorem dX6_packed_17 : decode cX6_packed 17 = .ok (.if_icmp .ge 20, 3) := by decide +kernel
theorem dX6_packed_20 : decode cX6_packed 20 = .ok (.lload_n 2, 1) := by decide +kernel
theorem dX6_packed_21 : decode cX6_packed 21 = .ok (.aload_n 0, 1) := by decide +kernel
theorem dX6_packed_22 : decode cX6_packed 22 = .ok (.iload 4, 2) := by decide +kernel
theorem dX6_packed_24 : decode cX6_packed 24 = .ok (.invokevirtual 28, 3) := by decide +kernel
theorem dX6_packed_27 : decode cX6_packed 27 = .ok (.invokestatic 53, 3) := by decide +kernel
theorem dX6_packed_30 : decode cX6_packed 30 = .ok (.lstore_n 2, 1) := by decide +kernel
theorem dX6_packed_31 : decode cX6_packed 31 = .ok (.iinc 4 1, 3) := by decide +kernel
theorem dX6_packed_34 : decode cX6_packed 34 = .ok (.goto (-29), 3) := by decide +kernel
theorem dX6_packed_37 : decode cX6_packed 37 = .ok (.lload_n 2, 1) := by decide +kernel
theorem dX6_packed_38 : decode cX6_packed 38 = .ok (.lreturn, 1) := by decide +kernel
