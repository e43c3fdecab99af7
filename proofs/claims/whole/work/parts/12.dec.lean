theorem dX0_init_0 : decode cX0_init 0 = .ok (.aload_n 0, 1) := by decide +kernel
theorem dX0_init_1 : decode cX0_init 1 = .ok (.invokespecial 3, 3) := by decide +kernel
theorem dX0_init_4 : decode cX0_init 4 = .ok (.aload_n 0, 1) := by decide +kernel
theorem dX0_init_5 : decode cX0_init 5 = .ok (.bipush 60, 2) := by decide +kernel
theorem dX0_init_7 : decode cX0_init 7 = .ok (.newarray .byte, 2) := by decide +kernel
theorem dX0_init_9 : decode cX0_init 9 = .ok (.putfield 9, 3) := by decide +kernel
theorem dX0_init_12 : decode cX0_init 12 = .ok (.return_, 1) := by decide +kernel
theorem dX0_begin_0 : decode cX0_begin 0 = .ok (.aload_n 0, 1) := by decide +kernel
theorem dX0_begin_1 : decode cX0_begin 1 = .ok (.lload_n 1, 1) := by decide +kernel
theorem dX0_begin_2 : decode cX0_begin 2 = .ok (.putfield 15, 3) := by decide +kernel
theorem dX0_begin_5 : decode cX0_begin 5 = .ok (.aload_n 0, 1) := by decide +kernel
theorem dX0_begin_6 : decode cX0_begin 6 = .ok (.iconst 0, 1) := by decide +kernel
theorem dX0_begin_7 : decode cX0_begin 7 = .ok (.putfield 19, 3) := by decide +kernel
theorem dX0_begin_10 : decode cX0_begin 10 = .ok (.return_, 1) := by decide +kernel
theorem dX0_put_0 : decode cX0_put 0 = .ok (.aload_n 0, 1) := by decide +kernel
theorem dX0_put_1 : decode cX0_put 1 = .ok (.getfield 19, 3) := by decide +kernel
theorem dX0_put_4 : decode cX0_put 4 = .ok (.ifCond .lt 36, 3) := by decide +kernel
theorem dX0_put_7 : decode cX0_put 7 = .ok (.aload_n 0, 1) := by decide +kernel
theorem dX0_put_8 : decode cX0_put 8 = .ok (.getfield 19, 3) := by decide +kernel
theorem dX0_put_11 : decode cX0_put 11 = .ok (.aload_n 0, 1) := by decide +kernel
theorem dX0_put_12 : decode cX0_put 12 = .ok (.getfield 9, 3) := by decide +kernel
theorem dX0_put_15 : decode cX0_put 15 = .ok (.arraylength, 1) := by decide +kernel
theorem dX0_put_16 : decode cX0_put 16 = .ok (.if_icmp .ge 24, 3) := by decide +kernel
theorem dX0_put_19 : decode cX0_put 19 = .ok (.aload_n 0, 1) := by decide +kernel
theorem dX0_put_20 : decode cX0_put 20 = .ok (.getfield 9, 3) := by decide +kernel
theorem dX0_put_23 : decode cX0_put 23 = .ok (.aload_n 0, 1) := by decide +kernel
theorem dX0_put_24 : decode cX0_put 24 = .ok (.getfield 19, 3) := by decide +kernel
theorem dX0_put_27 : decode cX0_put 27 = .ok (.iload_n 1, 1) := by decide +kernel
theorem dX0_put_28 : decode cX0_put 28 = .ok (.i2b, 1) := by decide +kernel
theorem dX0_put_29 : decode cX0_put 29 = .ok (.bastore, 1) := by decide +kernel
theorem dX0_put_30 : decode cX0_put 30 = .ok (.aload_n 0, 1) := by decide +kernel
theorem dX0_put_31 : decode cX0_put 31 = .ok (.dup, 1) := by decide +kernel
theorem dX0_put_32 : decode cX0_put 32 = .ok (.getfield 19, 3) := by decide +kernel
theorem dX0_put_35 : decode cX0_put 35 = .ok (.iconst 1, 1) := by decide +kernel
theorem dX0_put_36 : decode cX0_put 36 = .ok (.iadd, 1) := by decide +kernel
theorem dX0_put_37 : decode cX0_put 37 = .ok (.putfield 19, 3) := by decide +kernel
theorem dX0_put_40 : decode cX0_put 40 = .ok (.return_, 1) := by decide +kernel
theorem dX0_takeValueOf_0 : decode cX0_takeValueOf 0 = .ok (.aload_n 0, 1) := by decide +kernel
theorem dX0_takeValueOf_1 : decode cX0_takeValueOf 1 = .ok (.iconst 0, 1) := by decide +kernel
theorem dX0_takeValueOf_2 : decode cX0_takeValueOf 2 = .ok (.putfield 19, 3) := by decide +kernel
theorem dX0_takeValueOf_5 : decode cX0_takeValueOf 5 = .ok (.iconst 0, 1) := by decide +kernel
theorem dX0_takeValueOf_6 : decode cX0_takeValueOf 6 = .ok (.istore_n 2, 1) := by decide +kernel
theorem dX0_takeValueOf_7 : decode cX0_takeValueOf 7 = .ok (.iload_n 2, 1) := by decide +kernel
theorem dX0_takeValueOf_8 : decode cX0_takeValueOf 8 = .ok (.aload_n 1, 1) := by decide +kernel
theorem dX0_takeValueOf_9 : decode cX0_takeValueOf 9 = .ok (.getfield 19, 3) := by decide +kernel
theorem dX0_takeValueOf_12 : decode cX0_takeValueOf 12 = .ok (.if_icmp .ge 28, 3) := by decide +kernel
theorem dX0_takeValueOf_15 : decode cX0_takeValueOf 15 = .ok (.iload_n 2, 1) := by decide +kernel
theorem dX0_takeValueOf_16 : decode cX0_takeValueOf 16 = .ok (.aload_n 1, 1) := by decide +kernel
theorem dX0_takeValueOf_17 : decode cX0_takeValueOf 17 = .ok (.getfield 9, 3) := by decide +kernel
theorem dX0_takeValueOf_20 : decode cX0_takeValueOf 20 = .ok (.arraylength, 1) := by decide +kernel
theorem dX0_takeValueOf_21 : decode cX0_takeValueOf 21 = .ok (.if_icmp .ge 19, 3) := by decide +kernel
theorem dX0_takeValueOf_24 : decode cX0_takeValueOf 24 = .ok (.aload_n 0, 1) := by decide +kernel
theorem dX0_takeValueOf_25 : decode cX0_takeValueOf 25 = .ok (.aload_n 1, 1) := by decide +kernel
theorem dX0_takeValueOf_26 : decode cX0_takeValueOf 26 = .ok (.getfield 9, 3) := by decide +kernel
theorem dX0_takeValueOf_29 : decode cX0_takeValueOf 29 = .ok (.iload_n 2, 1) := by decide +kernel
theorem dX0_takeValueOf_30 : decode cX0_takeValueOf 30 = .ok (.baload, 1) := by decide +kernel
theorem dX0_takeValueOf_31 : decode cX0_takeValueOf 31 = .ok (.invokevirtual 23, 3) := by decide +kernel
theorem dX0_takeValueOf_34 : decode cX0_takeValueOf 34 = .ok (.iinc 2 1, 3) := by decide +kernel
theorem dX0_takeValueOf_37 : decode cX0_takeValueOf 37 = .ok (.goto (-30), 3) := by decide +kernel
theorem dX0_takeValueOf_40 : decode cX0_takeValueOf 40 = .ok (.return_, 1) := by decide +kernel
theorem dX1_init_0 : decode cX1_init 0 = .ok (.aload_n 0, 1) := by decide +kernel
theorem dX1_init_1 : decode cX1_init 1 = .ok (.invokespecial 3, 3) := by decide +kernel
theorem dX1_init_4 : decode cX1_init 4 = .ok (.aload_n 0, 1) := by decide +kernel
theorem dX1_init_5 : decode cX1_init 5 = .ok (.iconst 4, 1) := by decide +kernel
theorem dX1_init_6 : decode cX1_init 6 = .ok (.anewarray 9, 3) := by decide +kernel
theorem dX1_init_9 : decode cX1_init 9 = .ok (.putfield 11, 3) := by decide +kernel
theorem dX1_init_12 : decode cX1_init 12 = .ok (.return_, 1) := by decide +kernel
theorem dX1_itemAt_0 : decode cX1_itemAt 0 = .ok (.iload_n 1, 1) := by decide +kernel
theorem dX1_itemAt_1 : decode cX1_itemAt 1 = .ok (.ifCond .lt 29, 3) := by decide +kernel
theorem dX1_itemAt_4 : decode cX1_itemAt 4 = .ok (.iload_n 1, 1) := by decide +kernel
theorem dX1_itemAt_5 : decode cX1_itemAt 5 = .ok (.aload_n 0, 1) := by decide +kernel
theorem dX1_itemAt_6 : decode cX1_itemAt 6 = .ok (.getfield 17, 3) := by decide +kernel
theorem dX1_itemAt_9 : decode cX1_itemAt 9 = .ok (.if_icmp .ge 21, 3) := by decide +kernel
theorem dX1_itemAt_12 : decode cX1_itemAt 12 = .ok (.iload_n 1, 1) := by decide +kernel
theorem dX1_itemAt_13 : decode cX1_itemAt 13 = .ok (.aload_n 0, 1) := by decide +kernel
theorem dX1_itemAt_14 : decode cX1_itemAt 14 = .ok (.getfield 11, 3) := by decide +kernel
theorem dX1_itemAt_17 : decode cX1_itemAt 17 = .ok (.arraylength, 1) := by decide +kernel
theorem dX1_itemAt_18 : decode cX1_itemAt 18 = .ok (.if_icmp .ge 12, 3) := by decide +kernel
theorem dX1_itemAt_21 : decode cX1_itemAt 21 = .ok (.aload_n 0, 1) := by decide +kernel
theorem dX1_itemAt_22 : decode cX1_itemAt 22 = .ok (.getfield 11, 3) := by decide +kernel
theorem dX1_itemAt_25 : decode cX1_itemAt 25 = .ok (.iload_n 1, 1) := by decide +kernel
theorem dX1_itemAt_26 : decode cX1_itemAt 26 = .ok (.aaload, 1) := by decide +kernel
theorem dX1_itemAt_27 : decode cX1_itemAt 27 = .ok (.goto 4, 3) := by decide +kernel
theorem dX1_itemAt_30 : decode cX1_itemAt 30 = .ok (.aconst_null, 1) := by decide +kernel
theorem dX1_itemAt_31 : decode cX1_itemAt 31 = .ok (.areturn, 1) := by decide +kernel
theorem dX1_named_0 : decode cX1_named 0 = .ok (.iconst 0, 1) := by decide +kernel
theorem dX1_named_1 : decode cX1_named 1 = .ok (.istore_n 3, 1) := by decide +kernel
theorem dX1_named_2 : decode cX1_named 2 = .ok (.iload_n 3, 1) := by decide +kernel
theorem dX1_named_3 : decode cX1_named 3 = .ok (.aload_n 0, 1) := by decide +kernel
theorem dX1_named_4 : decode cX1_named 4 = .ok (.getfield 17, 3) := by decide +kernel
theorem dX1_named_7 : decode cX1_named 7 = .ok (.if_icmp .ge 34, 3) := by decide +kernel
theorem dX1_named_10 : decode cX1_named 10 = .ok (.aload_n 0, 1) := by decide +kernel
theorem dX1_named_11 : decode cX1_named 11 = .ok (.iload_n 3, 1) := by decide +kernel
theorem dX1_named_12 : decode cX1_named 12 = .ok (.invokevirtual 21, 3) := by decide +kernel
theorem dX1_named_15 : decode cX1_named 15 = .ok (.astore 4, 2) := by decide +kernel
theorem dX1_named_17 : decode cX1_named 17 = .ok (.aload 4, 2) := by decide +kernel
theorem dX1_named_19 : decode cX1_named 19 = .ok (.ifnull 16, 3) := by decide +kernel
theorem dX1_named_22 : decode cX1_named 22 = .ok (.aload 4, 2) := by decide +kernel
theorem dX1_named_24 : decode cX1_named 24 = .ok (.getfield 25, 3) := by decide +kernel
theorem dX1_named_27 : decode cX1_named 27 = .ok (.lload_n 1, 1) := by decide +kernel
theorem dX1_named_28 : decode cX1_named 28 = .ok (.lcmp, 1) := by decide +kernel
theorem dX1_named_29 : decode cX1_named 29 = .ok (.ifCond .ne 6, 3) := by decide +kernel
theorem dX1_named_32 : decode cX1_named 32 = .ok (.aload 4, 2) := by decide +kernel
theorem dX1_named_34 : decode cX1_named 34 = .ok (.areturn, 1) := by decide +kernel
theorem dX1_named_35 : decode cX1_named 35 = .ok (.iinc 3 1, 3) := by decide +kernel
theorem dX1_named_38 : decode cX1_named 38 = .ok (.goto (-36), 3) := by decide +kernel
theorem dX1_named_41 : decode cX1_named 41 = .ok (.aconst_null, 1) := by decide +kernel
theorem dX1_named_42 : decode cX1_named 42 = .ok (.areturn, 1) := by decide +kernel
theorem dX1_grow_0 : decode cX1_grow 0 = .ok (.aload_n 0, 1) := by decide +kernel
theorem dX1_grow_1 : decode cX1_grow 1 = .ok (.getfield 17, 3) := by decide +kernel
theorem dX1_grow_4 : decode cX1_grow 4 = .ok (.ifCond .lt 15, 3) := by decide +kernel
theorem dX1_grow_7 : decode cX1_grow 7 = .ok (.aload_n 0, 1) := by decide +kernel
theorem dX1_grow_8 : decode cX1_grow 8 = .ok (.getfield 17, 3) := by decide +kernel
theorem dX1_grow_11 : decode cX1_grow 11 = .ok (.aload_n 0, 1) := by decide +kernel
theorem dX1_grow_12 : decode cX1_grow 12 = .ok (.getfield 11, 3) := by decide +kernel
theorem dX1_grow_15 : decode cX1_grow 15 = .ok (.arraylength, 1) := by decide +kernel
theorem dX1_grow_16 : decode cX1_grow 16 = .ok (.if_icmp .lt 5, 3) := by decide +kernel
theorem dX1_grow_19 : decode cX1_grow 19 = .ok (.aconst_null, 1) := by decide +kernel
theorem dX1_grow_20 : decode cX1_grow 20 = .ok (.areturn, 1) := by decide +kernel
theorem dX1_grow_21 : decode cX1_grow 21 = .ok (.aload_n 0, 1) := by decide +kernel
theorem dX1_grow_22 : decode cX1_grow 22 = .ok (.getfield 11, 3) := by decide +kernel
theorem dX1_grow_25 : decode cX1_grow 25 = .ok (.aload_n 0, 1) := by decide +kernel
theorem dX1_grow_26 : decode cX1_grow 26 = .ok (.getfield 17, 3) := by decide +kernel
theorem dX1_grow_29 : decode cX1_grow 29 = .ok (.aaload, 1) := by decide +kernel
theorem dX1_grow_30 : decode cX1_grow 30 = .ok (.ifnonnull 19, 3) := by decide +kernel
theorem dX1_grow_33 : decode cX1_grow 33 = .ok (.aload_n 0, 1) := by decide +kernel
theorem dX1_grow_34 : decode cX1_grow 34 = .ok (.getfield 11, 3) := by decide +kernel
theorem dX1_grow_37 : decode cX1_grow 37 = .ok (.aload_n 0, 1) := by decide +kernel
theorem dX1_grow_38 : decode cX1_grow 38 = .ok (.getfield 17, 3) := by decide +kernel
theorem dX1_grow_41 : decode cX1_grow 41 = .ok (.new 9, 3) := by decide +kernel
theorem dX1_grow_44 : decode cX1_grow 44 = .ok (.dup, 1) := by decide +kernel
theorem dX1_grow_45 : decode cX1_grow 45 = .ok (.invokespecial 29, 3) := by decide +kernel
theorem dX1_grow_48 : decode cX1_grow 48 = .ok (.aastore, 1) := by decide +kernel
theorem dX1_grow_49 : decode cX1_grow 49 = .ok (.aload_n 0, 1) := by decide +kernel
theorem dX1_grow_50 : decode cX1_grow 50 = .ok (.getfield 11, 3) := by decide +kernel
theorem dX1_grow_53 : decode cX1_grow 53 = .ok (.aload_n 0, 1) := by decide +kernel
theorem dX1_grow_54 : decode cX1_grow 54 = .ok (.getfield 17, 3) := by decide +kernel
theorem dX1_grow_57 : decode cX1_grow 57 = .ok (.aaload, 1) := by decide +kernel
theorem dX1_grow_58 : decode cX1_grow 58 = .ok (.astore_n 3, 1) := by decide +kernel
theorem dX1_grow_59 : decode cX1_grow 59 = .ok (.aload_n 3, 1) := by decide +kernel
theorem dX1_grow_60 : decode cX1_grow 60 = .ok (.lload_n 1, 1) := by decide +kernel
theorem dX1_grow_61 : decode cX1_grow 61 = .ok (.invokevirtual 30, 3) := by decide +kernel
theorem dX1_grow_64 : decode cX1_grow 64 = .ok (.aload_n 0, 1) := by decide +kernel
theorem dX1_grow_65 : decode cX1_grow 65 = .ok (.dup, 1) := by decide +kernel
theorem dX1_grow_66 : decode cX1_grow 66 = .ok (.getfield 17, 3) := by decide +kernel
theorem dX1_grow_69 : decode cX1_grow 69 = .ok (.iconst 1, 1) := by decide +kernel
theorem dX1_grow_70 : decode cX1_grow 70 = .ok (.iadd, 1) := by decide +kernel
theorem dX1_grow_71 : decode cX1_grow 71 = .ok (.putfield 17, 3) := by decide +kernel
theorem dX1_grow_74 : decode cX1_grow 74 = .ok (.aload_n 3, 1) := by decide +kernel
theorem dX1_grow_75 : decode cX1_grow 75 = .ok (.areturn, 1) := by decide +kernel
theorem dX1_copyFrom_0 : decode cX1_copyFrom 0 = .ok (.aload_n 0, 1) := by decide +kernel
theorem dX1_copyFrom_1 : decode cX1_copyFrom 1 = .ok (.iconst 0, 1) := by decide +kernel
theorem dX1_copyFrom_2 : decode cX1_copyFrom 2 = .ok (.putfield 17, 3) := by decide +kernel
theorem dX1_copyFrom_5 : decode cX1_copyFrom 5 = .ok (.iconst 0, 1) := by decide +kernel
theorem dX1_copyFrom_6 : decode cX1_copyFrom 6 = .ok (.istore_n 2, 1) := by decide +kernel
theorem dX1_copyFrom_7 : decode cX1_copyFrom 7 = .ok (.iload_n 2, 1) := by decide +kernel
theorem dX1_copyFrom_8 : decode cX1_copyFrom 8 = .ok (.aload_n 1, 1) := by decide +kernel
theorem dX1_copyFrom_9 : decode cX1_copyFrom 9 = .ok (.getfield 17, 3) := by decide +kernel
theorem dX1_copyFrom_12 : decode cX1_copyFrom 12 = .ok (.if_icmp .ge 44, 3) := by decide +kernel
theorem dX1_copyFrom_15 : decode cX1_copyFrom 15 = .ok (.aload_n 1, 1) := by decide +kernel
theorem dX1_copyFrom_16 : decode cX1_copyFrom 16 = .ok (.iload_n 2, 1) := by decide +kernel
theorem dX1_copyFrom_17 : decode cX1_copyFrom 17 = .ok (.invokevirtual 21, 3) := by decide +kernel
theorem dX1_copyFrom_20 : decode cX1_copyFrom 20 = .ok (.astore_n 3, 1) := by decide +kernel
theorem dX1_copyFrom_21 : decode cX1_copyFrom 21 = .ok (.aload_n 3, 1) := by decide +kernel
theorem dX1_copyFrom_22 : decode cX1_copyFrom 22 = .ok (.ifnonnull 7, 3) := by decide +kernel
theorem dX1_copyFrom_25 : decode cX1_copyFrom 25 = .ok (.aconst_null, 1) := by decide +kernel
theorem dX1_copyFrom_26 : decode cX1_copyFrom 26 = .ok (.goto 11, 3) := by decide +kernel
theorem dX1_copyFrom_29 : decode cX1_copyFrom 29 = .ok (.aload_n 0, 1) := by decide +kernel
theorem dX1_copyFrom_30 : decode cX1_copyFrom 30 = .ok (.aload_n 3, 1) := by decide +kernel
theorem dX1_copyFrom_31 : decode cX1_copyFrom 31 = .ok (.getfield 25, 3) := by decide +kernel
theorem dX1_copyFrom_34 : decode cX1_copyFrom 34 = .ok (.invokevirtual 34, 3) := by decide +kernel
theorem dX1_copyFrom_37 : decode cX1_copyFrom 37 = .ok (.astore 4, 2) := by decide +kernel
theorem dX1_copyFrom_39 : decode cX1_copyFrom 39 = .ok (.aload 4, 2) := by decide +kernel
theorem dX1_copyFrom_41 : decode cX1_copyFrom 41 = .ok (.ifnull 9, 3) := by decide +kernel
theorem dX1_copyFrom_44 : decode cX1_copyFrom 44 = .ok (.aload 4, 2) := by decide +kernel
theorem dX1_copyFrom_46 : decode cX1_copyFrom 46 = .ok (.aload_n 3, 1) := by decide +kernel
theorem dX1_copyFrom_47 : decode cX1_copyFrom 47 = .ok (.invokevirtual 38, 3) := by decide +kernel
theorem dX1_copyFrom_50 : decode cX1_copyFrom 50 = .ok (.iinc 2 1, 3) := by decide +kernel
theorem dX1_copyFrom_53 : decode cX1_copyFrom 53 = .ok (.goto (-46), 3) := by decide +kernel
theorem dX1_copyFrom_56 : decode cX1_copyFrom 56 = .ok (.return_, 1) := by decide +kernel
theorem dX2_init_0 : decode cX2_init 0 = .ok (.aload_n 0, 1) := by decide +kernel
theorem dX2_init_1 : decode cX2_init 1 = .ok (.invokespecial 3, 3) := by decide +kernel
theorem dX2_init_4 : decode cX2_init 4 = .ok (.aload_n 0, 1) := by decide +kernel
theorem dX2_init_5 : decode cX2_init 5 = .ok (.bipush 40, 2) := by decide +kernel
theorem dX2_init_7 : decode cX2_init 7 = .ok (.newarray .int, 2) := by decide +kernel
theorem dX2_init_9 : decode cX2_init 9 = .ok (.putfield 9, 3) := by decide +kernel
theorem dX2_init_12 : decode cX2_init 12 = .ok (.aload_n 0, 1) := by decide +kernel
theorem dX2_init_13 : decode cX2_init 13 = .ok (.bipush 40, 2) := by decide +kernel
theorem dX2_init_15 : decode cX2_init 15 = .ok (.newarray .int, 2) := by decide +kernel
theorem dX2_init_17 : decode cX2_init 17 = .ok (.putfield 15, 3) := by decide +kernel
theorem dX2_init_20 : decode cX2_init 20 = .ok (.return_, 1) := by decide +kernel
theorem dX2_isKept_0 : decode cX2_isKept 0 = .ok (.iload_n 0, 1) := by decide +kernel
theorem dX2_isKept_1 : decode cX2_isKept 1 = .ok (.ifCond .lt 13, 3) := by decide +kernel
theorem dX2_isKept_4 : decode cX2_isKept 4 = .ok (.iload_n 0, 1) := by decide +kernel
theorem dX2_isKept_5 : decode cX2_isKept 5 = .ok (.bipush 40, 2) := by decide +kernel
theorem dX2_isKept_7 : decode cX2_isKept 7 = .ok (.if_icmp .ge 7, 3) := by decide +kernel
theorem dX2_isKept_10 : decode cX2_isKept 10 = .ok (.iconst 1, 1) := by decide +kernel
theorem dX2_isKept_11 : decode cX2_isKept 11 = .ok (.goto 4, 3) := by decide +kernel
theorem dX2_isKept_14 : decode cX2_isKept 14 = .ok (.iconst 0, 1) := by decide +kernel
theorem dX2_isKept_15 : decode cX2_isKept 15 = .ok (.ireturn, 1) := by decide +kernel
theorem dX2_tell_0 : decode cX2_tell 0 = .ok (.aload_n 0, 1) := by decide +kernel
theorem dX2_tell_1 : decode cX2_tell 1 = .ok (.getfield 18, 3) := by decide +kernel
theorem dX2_tell_4 : decode cX2_tell 4 = .ok (.invokestatic 22, 3) := by decide +kernel
theorem dX2_tell_7 : decode cX2_tell 7 = .ok (.ifCond .eq 23, 3) := by decide +kernel
theorem dX2_tell_10 : decode cX2_tell 10 = .ok (.aload_n 0, 1) := by decide +kernel
theorem dX2_tell_11 : decode cX2_tell 11 = .ok (.getfield 9, 3) := by decide +kernel
theorem dX2_tell_14 : decode cX2_tell 14 = .ok (.aload_n 0, 1) := by decide +kernel
theorem dX2_tell_15 : decode cX2_tell 15 = .ok (.getfield 18, 3) := by decide +kernel
theorem dX2_tell_18 : decode cX2_tell 18 = .ok (.iload_n 1, 1) := by decide +kernel
theorem dX2_tell_19 : decode cX2_tell 19 = .ok (.iastore, 1) := by decide +kernel
theorem dX2_tell_20 : decode cX2_tell 20 = .ok (.aload_n 0, 1) := by decide +kernel
theorem dX2_tell_21 : decode cX2_tell 21 = .ok (.getfield 15, 3) := by decide +kernel
theorem dX2_tell_24 : decode cX2_tell 24 = .ok (.aload_n 0, 1) := by decide +kernel
theorem dX2_tell_25 : decode cX2_tell 25 = .ok (.getfield 18, 3) := by decide +kernel
theorem dX2_tell_28 : decode cX2_tell 28 = .ok (.iload_n 2, 1) := by decide +kernel
theorem dX2_tell_29 : decode cX2_tell 29 = .ok (.iastore, 1) := by decide +kernel
theorem dX2_tell_30 : decode cX2_tell 30 = .ok (.aload_n 0, 1) := by decide +kernel
theorem dX2_tell_31 : decode cX2_tell 31 = .ok (.dup, 1) := by decide +kernel
theorem dX2_tell_32 : decode cX2_tell 32 = .ok (.getfield 18, 3) := by decide +kernel
theorem dX2_tell_35 : decode cX2_tell 35 = .ok (.iconst 1, 1) := by decide +kernel
theorem dX2_tell_36 : decode cX2_tell 36 = .ok (.iadd, 1) := by decide +kernel
theorem dX2_tell_37 : decode cX2_tell 37 = .ok (.putfield 18, 3) := by decide +kernel
theorem dX2_tell_40 : decode cX2_tell 40 = .ok (.return_, 1) := by decide +kernel
theorem dX2_kindOf_0 : decode cX2_kindOf 0 = .ok (.iload_n 1, 1) := by decide +kernel
theorem dX2_kindOf_1 : decode cX2_kindOf 1 = .ok (.invokestatic 22, 3) := by decide +kernel
theorem dX2_kindOf_4 : decode cX2_kindOf 4 = .ok (.ifCond .eq 20, 3) := by decide +kernel
theorem dX2_kindOf_7 : decode cX2_kindOf 7 = .ok (.iload_n 1, 1) := by decide +kernel
theorem dX2_kindOf_8 : decode cX2_kindOf 8 = .ok (.aload_n 0, 1) := by decide +kernel
theorem dX2_kindOf_9 : decode cX2_kindOf 9 = .ok (.getfield 18, 3) := by decide +kernel
theorem dX2_kindOf_12 : decode cX2_kindOf 12 = .ok (.if_icmp .ge 12, 3) := by decide +kernel
theorem dX2_kindOf_15 : decode cX2_kindOf 15 = .ok (.aload_n 0, 1) := by decide +kernel
theorem dX2_kindOf_16 : decode cX2_kindOf 16 = .ok (.getfield 9, 3) := by decide +kernel
theorem dX2_kindOf_19 : decode cX2_kindOf 19 = .ok (.iload_n 1, 1) := by decide +kernel
theorem dX2_kindOf_20 : decode cX2_kindOf 20 = .ok (.iaload, 1) := by decide +kernel
theorem dX2_kindOf_21 : decode cX2_kindOf 21 = .ok (.goto 4, 3) := by decide +kernel
theorem dX2_kindOf_24 : decode cX2_kindOf 24 = .ok (.iconst (-1), 1) := by decide +kernel
theorem dX2_kindOf_25 : decode cX2_kindOf 25 = .ok (.ireturn, 1) := by decide +kernel
theorem dX2_placeOf_0 : decode cX2_placeOf 0 = .ok (.iload_n 1, 1) := by decide +kernel
theorem dX2_placeOf_1 : decode cX2_placeOf 1 = .ok (.invokestatic 22, 3) := by decide +kernel
theorem dX2_placeOf_4 : decode cX2_placeOf 4 = .ok (.ifCond .eq 20, 3) := by decide +kernel
theorem dX2_placeOf_7 : decode cX2_placeOf 7 = .ok (.iload_n 1, 1) := by decide +kernel
theorem dX2_placeOf_8 : decode cX2_placeOf 8 = .ok (.aload_n 0, 1) := by decide +kernel
theorem dX2_placeOf_9 : decode cX2_placeOf 9 = .ok (.getfield 18, 3) := by decide +kernel
theorem dX2_placeOf_12 : decode cX2_placeOf 12 = .ok (.if_icmp .ge 12, 3) := by decide +kernel
theorem dX2_placeOf_15 : decode cX2_placeOf 15 = .ok (.aload_n 0, 1) := by decide +kernel
theorem dX2_placeOf_16 : decode cX2_placeOf 16 = .ok (.getfield 15, 3) := by decide +kernel
theorem dX2_placeOf_19 : decode cX2_placeOf 19 = .ok (.iload_n 1, 1) := by decide +kernel
theorem dX2_placeOf_20 : decode cX2_placeOf 20 = .ok (.iaload, 1) := by decide +kernel
theorem dX2_placeOf_21 : decode cX2_placeOf 21 = .ok (.goto 4, 3) := by decide +kernel
theorem dX2_placeOf_24 : decode cX2_placeOf 24 = .ok (.iconst (-1), 1) := by decide +kernel
theorem dX2_placeOf_25 : decode cX2_placeOf 25 = .ok (.ireturn, 1) := by decide +kernel
theorem dX3_init_0 : decode cX3_init 0 = .ok (.aload_n 0, 1) := by decide +kernel
theorem dX3_init_1 : decode cX3_init 1 = .ok (.invokespecial 3, 3) := by decide +kernel
theorem dX3_init_4 : decode cX3_init 4 = .ok (.aload_n 0, 1) := by decide +kernel
theorem dX3_init_5 : decode cX3_init 5 = .ok (.new 9, 3) := by decide +kernel
theorem dX3_init_8 : decode cX3_init 8 = .ok (.dup, 1) := by decide +kernel
theorem dX3_init_9 : decode cX3_init 9 = .ok (.invokespecial 11, 3) := by decide +kernel
theorem dX3_init_12 : decode cX3_init 12 = .ok (.putfield 12, 3) := by decide +kernel
theorem dX3_init_15 : decode cX3_init 15 = .ok (.aload_n 0, 1) := by decide +kernel
theorem dX3_init_16 : decode cX3_init 16 = .ok (.iload_n 1, 1) := by decide +kernel
theorem dX3_init_17 : decode cX3_init 17 = .ok (.putfield 18, 3) := by decide +kernel
theorem dX3_init_20 : decode cX3_init 20 = .ok (.return_, 1) := by decide +kernel
theorem dX3_begin_0 : decode cX3_begin 0 = .ok (.aload_n 0, 1) := by decide +kernel
theorem dX3_begin_1 : decode cX3_begin 1 = .ok (.iconst 1, 1) := by decide +kernel
theorem dX3_begin_2 : decode cX3_begin 2 = .ok (.putfield 22, 3) := by decide +kernel
theorem dX3_begin_5 : decode cX3_begin 5 = .ok (.aload_n 0, 1) := by decide +kernel
theorem dX3_begin_6 : decode cX3_begin 6 = .ok (.iload_n 1, 1) := by decide +kernel
theorem dX3_begin_7 : decode cX3_begin 7 = .ok (.putfield 26, 3) := by decide +kernel
theorem dX3_begin_10 : decode cX3_begin 10 = .ok (.aload_n 0, 1) := by decide +kernel
theorem dX3_begin_11 : decode cX3_begin 11 = .ok (.lload_n 2, 1) := by decide +kernel
theorem dX3_begin_12 : decode cX3_begin 12 = .ok (.putfield 29, 3) := by decide +kernel
theorem dX3_begin_15 : decode cX3_begin 15 = .ok (.aload_n 0, 1) := by decide +kernel
theorem dX3_begin_16 : decode cX3_begin 16 = .ok (.iconst 0, 1) := by decide +kernel
theorem dX3_begin_17 : decode cX3_begin 17 = .ok (.putfield 33, 3) := by decide +kernel
theorem dX3_begin_20 : decode cX3_begin 20 = .ok (.aload_n 0, 1) := by decide +kernel
theorem dX3_begin_21 : decode cX3_begin 21 = .ok (.aconst_null, 1) := by decide +kernel
theorem dX3_begin_22 : decode cX3_begin 22 = .ok (.putfield 36, 3) := by decide +kernel
theorem dX3_begin_25 : decode cX3_begin 25 = .ok (.aload_n 0, 1) := by decide +kernel
theorem dX3_begin_26 : decode cX3_begin 26 = .ok (.aconst_null, 1) := by decide +kernel
theorem dX3_begin_27 : decode cX3_begin 27 = .ok (.putfield 40, 3) := by decide +kernel
theorem dX3_begin_30 : decode cX3_begin 30 = .ok (.aload_n 0, 1) := by decide +kernel
theorem dX3_begin_31 : decode cX3_begin 31 = .ok (.aconst_null, 1) := by decide +kernel
theorem dX3_begin_32 : decode cX3_begin 32 = .ok (.putfield 43, 3) := by decide +kernel
theorem dX3_begin_35 : decode cX3_begin 35 = .ok (.aload_n 0, 1) := by decide +kernel
theorem dX3_begin_36 : decode cX3_begin 36 = .ok (.aconst_null, 1) := by decide +kernel
theorem dX3_begin_37 : decode cX3_begin 37 = .ok (.putfield 46, 3) := by decide +kernel
theorem dX3_begin_40 : decode cX3_begin 40 = .ok (.aload_n 0, 1) := by decide +kernel
theorem dX3_begin_41 : decode cX3_begin 41 = .ok (.aconst_null, 1) := by decide +kernel
theorem dX3_begin_42 : decode cX3_begin 42 = .ok (.putfield 49, 3) := by decide +kernel
theorem dX3_begin_45 : decode cX3_begin 45 = .ok (.aload_n 0, 1) := by decide +kernel
theorem dX3_begin_46 : decode cX3_begin 46 = .ok (.getfield 12, 3) := by decide +kernel
theorem dX3_begin_49 : decode cX3_begin 49 = .ok (.iconst 0, 1) := by decide +kernel
theorem dX3_begin_50 : decode cX3_begin 50 = .ok (.putfield 52, 3) := by decide +kernel
theorem dX3_begin_53 : decode cX3_begin 53 = .ok (.aload_n 0, 1) := by decide +kernel
theorem dX3_begin_54 : decode cX3_begin 54 = .ok (.iconst 0, 1) := by decide +kernel
theorem dX3_begin_55 : decode cX3_begin 55 = .ok (.putfield 55, 3) := by decide +kernel
theorem dX3_begin_58 : decode cX3_begin 58 = .ok (.aload_n 0, 1) := by decide +kernel
theorem dX3_begin_59 : decode cX3_begin 59 = .ok (.iconst 0, 1) := by decide +kernel
theorem dX3_begin_60 : decode cX3_begin 60 = .ok (.putfield 58, 3) := by decide +kernel
theorem dX3_begin_63 : decode cX3_begin 63 = .ok (.aload_n 0, 1) := by decide +kernel
theorem dX3_begin_64 : decode cX3_begin 64 = .ok (.getfield 26, 3) := by decide +kernel
theorem dX3_begin_67 : decode cX3_begin 67 = .ok (.bipush 17, 2) := by decide +kernel
theorem dX3_begin_69 : decode cX3_begin 69 = .ok (.if_icmp .ne 19, 3) := by decide +kernel
theorem dX3_begin_72 : decode cX3_begin 72 = .ok (.aload_n 0, 1) := by decide +kernel
theorem dX3_begin_73 : decode cX3_begin 73 = .ok (.getfield 61, 3) := by decide +kernel
theorem dX3_begin_76 : decode cX3_begin 76 = .ok (.ifnonnull 12, 3) := by decide +kernel
theorem dX3_begin_79 : decode cX3_begin 79 = .ok (.aload_n 0, 1) := by decide +kernel
theorem dX3_begin_80 : decode cX3_begin 80 = .ok (.sipush 400, 3) := by decide +kernel
theorem dX3_begin_83 : decode cX3_begin 83 = .ok (.newarray .byte, 2) := by decide +kernel
theorem dX3_begin_85 : decode cX3_begin 85 = .ok (.putfield 61, 3) := by decide +kernel
theorem dX3_begin_88 : decode cX3_begin 88 = .ok (.return_, 1) := by decide +kernel
theorem dX3_putByte_0 : decode cX3_putByte 0 = .ok (.aload_n 0, 1) := by decide +kernel
theorem dX3_putByte_1 : decode cX3_putByte 1 = .ok (.getfield 61, 3) := by decide +kernel
theorem dX3_putByte_4 : decode cX3_putByte 4 = .ok (.ifnull 22, 3) := by decide +kernel
theorem dX3_putByte_7 : decode cX3_putByte 7 = .ok (.aload_n 0, 1) := by decide +kernel
theorem dX3_putByte_8 : decode cX3_putByte 8 = .ok (.getfield 55, 3) := by decide +kernel
theorem dX3_putByte_11 : decode cX3_putByte 11 = .ok (.ifCond .lt 15, 3) := by decide +kernel
theorem dX3_putByte_14 : decode cX3_putByte 14 = .ok (.aload_n 0, 1) := by decide +kernel
theorem dX3_putByte_15 : decode cX3_putByte 15 = .ok (.getfield 55, 3) := by decide +kernel
theorem dX3_putByte_18 : decode cX3_putByte 18 = .ok (.aload_n 0, 1) := by decide +kernel
theorem dX3_putByte_19 : decode cX3_putByte 19 = .ok (.getfield 61, 3) := by decide +kernel
theorem dX3_putByte_22 : decode cX3_putByte 22 = .ok (.arraylength, 1) := by decide +kernel
theorem dX3_putByte_23 : decode cX3_putByte 23 = .ok (.if_icmp .lt 5, 3) := by decide +kernel
theorem dX3_putByte_26 : decode cX3_putByte 26 = .ok (.iconst 0, 1) := by decide +kernel
theorem dX3_putByte_27 : decode cX3_putByte 27 = .ok (.ireturn, 1) := by decide +kernel
theorem dX3_putByte_28 : decode cX3_putByte 28 = .ok (.aload_n 0, 1) := by decide +kernel
theorem dX3_putByte_29 : decode cX3_putByte 29 = .ok (.getfield 61, 3) := by decide +kernel
theorem dX3_putByte_32 : decode cX3_putByte 32 = .ok (.aload_n 0, 1) := by decide +kernel
theorem dX3_putByte_33 : decode cX3_putByte 33 = .ok (.getfield 55, 3) := by decide +kernel
theorem dX3_putByte_36 : decode cX3_putByte 36 = .ok (.iload_n 1, 1) := by decide +kernel
theorem dX3_putByte_37 : decode cX3_putByte 37 = .ok (.i2b, 1) := by decide +kernel
theorem dX3_putByte_38 : decode cX3_putByte 38 = .ok (.bastore, 1) := by decide +kernel
theorem dX3_putByte_39 : decode cX3_putByte 39 = .ok (.aload_n 0, 1) := by decide +kernel
theorem dX3_putByte_40 : decode cX3_putByte 40 = .ok (.dup, 1) := by decide +kernel
theorem dX3_putByte_41 : decode cX3_putByte 41 = .ok (.getfield 55, 3) := by decide +kernel
theorem dX3_putByte_44 : decode cX3_putByte 44 = .ok (.iconst 1, 1) := by decide +kernel
theorem dX3_putByte_45 : decode cX3_putByte 45 = .ok (.iadd, 1) := by decide +kernel
theorem dX3_putByte_46 : decode cX3_putByte 46 = .ok (.putfield 55, 3) := by decide +kernel
theorem dX3_putByte_49 : decode cX3_putByte 49 = .ok (.iconst 1, 1) := by decide +kernel
theorem dX3_putByte_50 : decode cX3_putByte 50 = .ok (.ireturn, 1) := by decide +kernel
theorem dX3_takeBytes_0 : decode cX3_takeBytes 0 = .ok (.iconst 0, 1) := by decide +kernel
theorem dX3_takeBytes_1 : decode cX3_takeBytes 1 = .ok (.istore_n 3, 1) := by decide +kernel
theorem dX3_takeBytes_2 : decode cX3_takeBytes 2 = .ok (.iload_n 3, 1) := by decide +kernel
theorem dX3_takeBytes_3 : decode cX3_takeBytes 3 = .ok (.iload_n 2, 1) := by decide +kernel
theorem dX3_takeBytes_4 : decode cX3_takeBytes 4 = .ok (.if_icmp .ge 23, 3) := by decide +kernel
theorem dX3_takeBytes_7 : decode cX3_takeBytes 7 = .ok (.iload_n 3, 1) := by decide +kernel
theorem dX3_takeBytes_8 : decode cX3_takeBytes 8 = .ok (.aload_n 1, 1) := by decide +kernel
theorem dX3_takeBytes_9 : decode cX3_takeBytes 9 = .ok (.arraylength, 1) := by decide +kernel
theorem dX3_takeBytes_10 : decode cX3_takeBytes 10 = .ok (.if_icmp .ge 17, 3) := by decide +kernel
theorem dX3_takeBytes_13 : decode cX3_takeBytes 13 = .ok (.aload_n 0, 1) := by decide +kernel
theorem dX3_takeBytes_14 : decode cX3_takeBytes 14 = .ok (.aload_n 1, 1) := by decide +kernel
theorem dX3_takeBytes_15 : decode cX3_takeBytes 15 = .ok (.iload_n 3, 1) := by decide +kernel
theorem dX3_takeBytes_16 : decode cX3_takeBytes 16 = .ok (.baload, 1) := by decide +kernel
theorem dX3_takeBytes_17 : decode cX3_takeBytes 17 = .ok (.invokevirtual 65, 3) := by decide +kernel
theorem dX3_takeBytes_20 : decode cX3_takeBytes 20 = .ok (.pop, 1) := by decide +kernel
theorem dX3_takeBytes_21 : decode cX3_takeBytes 21 = .ok (.iinc 3 1, 3) := by decide +kernel
theorem dX3_takeBytes_24 : decode cX3_takeBytes 24 = .ok (.goto (-22), 3) := by decide +kernel
theorem dX3_takeBytes_27 : decode cX3_takeBytes 27 = .ok (.return_, 1) := by decide +kernel
theorem dX3_linkLast_0 : decode cX3_linkLast 0 = .ok (.aload_n 1, 1) := by decide +kernel
theorem dX3_linkLast_1 : decode cX3_linkLast 1 = .ok (.aload_n 0, 1) := by decide +kernel
theorem dX3_linkLast_2 : decode cX3_linkLast 2 = .ok (.putfield 36, 3) := by decide +kernel
theorem dX3_linkLast_5 : decode cX3_linkLast 5 = .ok (.aload_n 1, 1) := by decide +kernel
theorem dX3_linkLast_6 : decode cX3_linkLast 6 = .ok (.aload_n 0, 1) := by decide +kernel
theorem dX3_linkLast_7 : decode cX3_linkLast 7 = .ok (.getfield 33, 3) := by decide +kernel
theorem dX3_linkLast_10 : decode cX3_linkLast 10 = .ok (.iconst 1, 1) := by decide +kernel
theorem dX3_linkLast_11 : decode cX3_linkLast 11 = .ok (.iadd, 1) := by decide +kernel
theorem dX3_linkLast_12 : decode cX3_linkLast 12 = .ok (.putfield 33, 3) := by decide +kernel
theorem dX3_linkLast_15 : decode cX3_linkLast 15 = .ok (.aload_n 1, 1) := by decide +kernel
theorem dX3_linkLast_16 : decode cX3_linkLast 16 = .ok (.aload_n 0, 1) := by decide +kernel
theorem dX3_linkLast_17 : decode cX3_linkLast 17 = .ok (.getfield 49, 3) := by decide +kernel
theorem dX3_linkLast_20 : decode cX3_linkLast 20 = .ok (.putfield 40, 3) := by decide +kernel
theorem dX3_linkLast_23 : decode cX3_linkLast 23 = .ok (.aload_n 0, 1) := by decide +kernel
theorem dX3_linkLast_24 : decode cX3_linkLast 24 = .ok (.getfield 49, 3) := by decide +kernel
theorem dX3_linkLast_27 : decode cX3_linkLast 27 = .ok (.ifnonnull 11, 3) := by decide +kernel
theorem dX3_linkLast_30 : decode cX3_linkLast 30 = .ok (.aload_n 0, 1) := by decide +kernel
theorem dX3_linkLast_31 : decode cX3_linkLast 31 = .ok (.aload_n 1, 1) := by decide +kernel
theorem dX3_linkLast_32 : decode cX3_linkLast 32 = .ok (.putfield 46, 3) := by decide +kernel
theorem dX3_linkLast_35 : decode cX3_linkLast 35 = .ok (.goto 11, 3) := by decide +kernel
theorem dX3_linkLast_38 : decode cX3_linkLast 38 = .ok (.aload_n 0, 1) := by decide +kernel
theorem dX3_linkLast_39 : decode cX3_linkLast 39 = .ok (.getfield 49, 3) := by decide +kernel
theorem dX3_linkLast_42 : decode cX3_linkLast 42 = .ok (.aload_n 1, 1) := by decide +kernel
theorem dX3_linkLast_43 : decode cX3_linkLast 43 = .ok (.putfield 43, 3) := by decide +kernel
theorem dX3_linkLast_46 : decode cX3_linkLast 46 = .ok (.aload_n 0, 1) := by decide +kernel
theorem dX3_linkLast_47 : decode cX3_linkLast 47 = .ok (.aload_n 1, 1) := by decide +kernel
theorem dX3_linkLast_48 : decode cX3_linkLast 48 = .ok (.putfield 49, 3) := by decide +kernel
theorem dX3_linkLast_51 : decode cX3_linkLast 51 = .ok (.return_, 1) := by decide +kernel
theorem dX3_unlink_0 : decode cX3_unlink 0 = .ok (.aload_n 0, 1) := by decide +kernel
theorem dX3_unlink_1 : decode cX3_unlink 1 = .ok (.getfield 40, 3) := by decide +kernel
theorem dX3_unlink_4 : decode cX3_unlink 4 = .ok (.ifnull 17, 3) := by decide +kernel
theorem dX3_unlink_7 : decode cX3_unlink 7 = .ok (.aload_n 0, 1) := by decide +kernel
theorem dX3_unlink_8 : decode cX3_unlink 8 = .ok (.getfield 40, 3) := by decide +kernel
theorem dX3_unlink_11 : decode cX3_unlink 11 = .ok (.aload_n 0, 1) := by decide +kernel
theorem dX3_unlink_12 : decode cX3_unlink 12 = .ok (.getfield 43, 3) := by decide +kernel
theorem dX3_unlink_15 : decode cX3_unlink 15 = .ok (.putfield 43, 3) := by decide +kernel
theorem dX3_unlink_18 : decode cX3_unlink 18 = .ok (.goto 21, 3) := by decide +kernel
theorem dX3_unlink_21 : decode cX3_unlink 21 = .ok (.aload_n 0, 1) := by decide +kernel
theorem dX3_unlink_22 : decode cX3_unlink 22 = .ok (.getfield 36, 3) := by decide +kernel
theorem dX3_unlink_25 : decode cX3_unlink 25 = .ok (.ifnull 14, 3) := by decide +kernel
theorem dX3_unlink_28 : decode cX3_unlink 28 = .ok (.aload_n 0, 1) := by decide +kernel
theorem dX3_unlink_29 : decode cX3_unlink 29 = .ok (.getfield 36, 3) := by decide +kernel
theorem dX3_unlink_32 : decode cX3_unlink 32 = .ok (.aload_n 0, 1) := by decide +kernel
theorem dX3_unlink_33 : decode cX3_unlink 33 = .ok (.getfield 43, 3) := by decide +kernel
theorem dX3_unlink_36 : decode cX3_unlink 36 = .ok (.putfield 46, 3) := by decide +kernel
theorem dX3_unlink_39 : decode cX3_unlink 39 = .ok (.aload_n 0, 1) := by decide +kernel
theorem dX3_unlink_40 : decode cX3_unlink 40 = .ok (.getfield 43, 3) := by decide +kernel
theorem dX3_unlink_43 : decode cX3_unlink 43 = .ok (.ifnull 17, 3) := by decide +kernel
theorem dX3_unlink_46 : decode cX3_unlink 46 = .ok (.aload_n 0, 1) := by decide +kernel
theorem dX3_unlink_47 : decode cX3_unlink 47 = .ok (.getfield 43, 3) := by decide +kernel
theorem dX3_unlink_50 : decode cX3_unlink 50 = .ok (.aload_n 0, 1) := by decide +kernel
theorem dX3_unlink_51 : decode cX3_unlink 51 = .ok (.getfield 40, 3) := by decide +kernel
theorem dX3_unlink_54 : decode cX3_unlink 54 = .ok (.putfield 40, 3) := by decide +kernel
theorem dX3_unlink_57 : decode cX3_unlink 57 = .ok (.goto 21, 3) := by decide +kernel
theorem dX3_unlink_60 : decode cX3_unlink 60 = .ok (.aload_n 0, 1) := by decide +kernel
theorem dX3_unlink_61 : decode cX3_unlink 61 = .ok (.getfield 36, 3) := by decide +kernel
theorem dX3_unlink_64 : decode cX3_unlink 64 = .ok (.ifnull 14, 3) := by decide +kernel
theorem dX3_unlink_67 : decode cX3_unlink 67 = .ok (.aload_n 0, 1) := by decide +kernel
theorem dX3_unlink_68 : decode cX3_unlink 68 = .ok (.getfield 36, 3) := by decide +kernel
theorem dX3_unlink_71 : decode cX3_unlink 71 = .ok (.aload_n 0, 1) := by decide +kernel
theorem dX3_unlink_72 : decode cX3_unlink 72 = .ok (.getfield 40, 3) := by decide +kernel
theorem dX3_unlink_75 : decode cX3_unlink 75 = .ok (.putfield 49, 3) := by decide +kernel
theorem dX3_unlink_78 : decode cX3_unlink 78 = .ok (.return_, 1) := by decide +kernel
theorem dX3_kidCount_0 : decode cX3_kidCount 0 = .ok (.iconst 0, 1) := by decide +kernel
theorem dX3_kidCount_1 : decode cX3_kidCount 1 = .ok (.istore_n 1, 1) := by decide +kernel
theorem dX3_kidCount_2 : decode cX3_kidCount 2 = .ok (.aload_n 0, 1) := by decide +kernel
theorem dX3_kidCount_3 : decode cX3_kidCount 3 = .ok (.getfield 46, 3) := by decide +kernel
theorem dX3_kidCount_6 : decode cX3_kidCount 6 = .ok (.astore_n 2, 1) := by decide +kernel
theorem dX3_kidCount_7 : decode cX3_kidCount 7 = .ok (.aload_n 2, 1) := by decide +kernel
theorem dX3_kidCount_8 : decode cX3_kidCount 8 = .ok (.ifnull 14, 3) := by decide +kernel
theorem dX3_kidCount_11 : decode cX3_kidCount 11 = .ok (.iinc 1 1, 3) := by decide +kernel
theorem dX3_kidCount_14 : decode cX3_kidCount 14 = .ok (.aload_n 2, 1) := by decide +kernel
theorem dX3_kidCount_15 : decode cX3_kidCount 15 = .ok (.getfield 43, 3) := by decide +kernel
theorem dX3_kidCount_18 : decode cX3_kidCount 18 = .ok (.astore_n 2, 1) := by decide +kernel
theorem dX3_kidCount_19 : decode cX3_kidCount 19 = .ok (.goto (-12), 3) := by decide +kernel
theorem dX3_kidCount_22 : decode cX3_kidCount 22 = .ok (.iload_n 1, 1) := by decide +kernel
theorem dX3_kidCount_23 : decode cX3_kidCount 23 = .ok (.ireturn, 1) := by decide +kernel
theorem dX3_rank_0 : decode cX3_rank 0 = .ok (.iconst 0, 1) := by decide +kernel
theorem dX3_rank_1 : decode cX3_rank 1 = .ok (.istore_n 1, 1) := by decide +kernel
theorem dX3_rank_2 : decode cX3_rank 2 = .ok (.aload_n 0, 1) := by decide +kernel
theorem dX3_rank_3 : decode cX3_rank 3 = .ok (.getfield 40, 3) := by decide +kernel
theorem dX3_rank_6 : decode cX3_rank 6 = .ok (.astore_n 2, 1) := by decide +kernel
theorem dX3_rank_7 : decode cX3_rank 7 = .ok (.aload_n 2, 1) := by decide +kernel
theorem dX3_rank_8 : decode cX3_rank 8 = .ok (.ifnull 14, 3) := by decide +kernel
theorem dX3_rank_11 : decode cX3_rank 11 = .ok (.iinc 1 1, 3) := by decide +kernel
theorem dX3_rank_14 : decode cX3_rank 14 = .ok (.aload_n 2, 1) := by decide +kernel
theorem dX3_rank_15 : decode cX3_rank 15 = .ok (.getfield 40, 3) := by decide +kernel
theorem dX3_rank_18 : decode cX3_rank 18 = .ok (.astore_n 2, 1) := by decide +kernel
theorem dX3_rank_19 : decode cX3_rank 19 = .ok (.goto (-12), 3) := by decide +kernel
theorem dX3_rank_22 : decode cX3_rank 22 = .ok (.iload_n 1, 1) := by decide +kernel
theorem dX3_rank_23 : decode cX3_rank 23 = .ok (.ireturn, 1) := by decide +kernel
theorem dX3_nextInTree_0 : decode cX3_nextInTree 0 = .ok (.aload_n 0, 1) := by decide +kernel
theorem dX3_nextInTree_1 : decode cX3_nextInTree 1 = .ok (.getfield 46, 3) := by decide +kernel
theorem dX3_nextInTree_4 : decode cX3_nextInTree 4 = .ok (.ifnull 8, 3) := by decide +kernel
theorem dX3_nextInTree_7 : decode cX3_nextInTree 7 = .ok (.aload_n 0, 1) := by decide +kernel
theorem dX3_nextInTree_8 : decode cX3_nextInTree 8 = .ok (.getfield 46, 3) := by decide +kernel
theorem dX3_nextInTree_11 : decode cX3_nextInTree 11 = .ok (.areturn, 1) := by decide +kernel
theorem dX3_nextInTree_12 : decode cX3_nextInTree 12 = .ok (.aload_n 0, 1) := by decide +kernel
theorem dX3_nextInTree_13 : decode cX3_nextInTree 13 = .ok (.astore_n 1, 1) := by decide +kernel
theorem dX3_nextInTree_14 : decode cX3_nextInTree 14 = .ok (.aload_n 1, 1) := by decide +kernel
theorem dX3_nextInTree_15 : decode cX3_nextInTree 15 = .ok (.ifnull 23, 3) := by decide +kernel
theorem dX3_nextInTree_18 : decode cX3_nextInTree 18 = .ok (.aload_n 1, 1) := by decide +kernel
theorem dX3_nextInTree_19 : decode cX3_nextInTree 19 = .ok (.getfield 43, 3) := by decide +kernel
theorem dX3_nextInTree_22 : decode cX3_nextInTree 22 = .ok (.ifnull 8, 3) := by decide +kernel
theorem dX3_nextInTree_25 : decode cX3_nextInTree 25 = .ok (.aload_n 1, 1) := by decide +kernel
theorem dX3_nextInTree_26 : decode cX3_nextInTree 26 = .ok (.getfield 43, 3) := by decide +kernel
theorem dX3_nextInTree_29 : decode cX3_nextInTree 29 = .ok (.areturn, 1) := by decide +kernel
theorem dX3_nextInTree_30 : decode cX3_nextInTree 30 = .ok (.aload_n 1, 1) := by decide +kernel
theorem dX3_nextInTree_31 : decode cX3_nextInTree 31 = .ok (.getfield 36, 3) := by decide +kernel
theorem dX3_nextInTree_34 : decode cX3_nextInTree 34 = .ok (.astore_n 1, 1) := by decide +kernel
theorem dX3_nextInTree_35 : decode cX3_nextInTree 35 = .ok (.goto (-21), 3) := by decide +kernel
theorem dX3_nextInTree_38 : decode cX3_nextInTree 38 = .ok (.aconst_null, 1) := by decide +kernel
theorem dX3_nextInTree_39 : decode cX3_nextInTree 39 = .ok (.areturn, 1) := by decide +kernel
theorem dX4_init_0 : decode cX4_init 0 = .ok (.aload_n 0, 1) := by decide +kernel
theorem dX4_init_1 : decode cX4_init 1 = .ok (.invokespecial 3, 3) := by decide +kernel
theorem dX4_init_4 : decode cX4_init 4 = .ok (.aload_n 0, 1) := by decide +kernel
theorem dX4_init_5 : decode cX4_init 5 = .ok (.sipush 8000, 3) := by decide +kernel
theorem dX4_init_8 : decode cX4_init 8 = .ok (.newarray .byte, 2) := by decide +kernel
theorem dX4_init_10 : decode cX4_init 10 = .ok (.putfield 9, 3) := by decide +kernel
theorem dX4_init_13 : decode cX4_init 13 = .ok (.return_, 1) := by decide +kernel
theorem dX4_byteAt_0 : decode cX4_byteAt 0 = .ok (.iload_n 1, 1) := by decide +kernel
theorem dX4_byteAt_1 : decode cX4_byteAt 1 = .ok (.ifCond .lt 33, 3) := by decide +kernel
theorem dX4_byteAt_4 : decode cX4_byteAt 4 = .ok (.iload_n 1, 1) := by decide +kernel
theorem dX4_byteAt_5 : decode cX4_byteAt 5 = .ok (.aload_n 0, 1) := by decide +kernel
theorem dX4_byteAt_6 : decode cX4_byteAt 6 = .ok (.getfield 15, 3) := by decide +kernel
theorem dX4_byteAt_9 : decode cX4_byteAt 9 = .ok (.if_icmp .ge 25, 3) := by decide +kernel
theorem dX4_byteAt_12 : decode cX4_byteAt 12 = .ok (.iload_n 1, 1) := by decide +kernel
theorem dX4_byteAt_13 : decode cX4_byteAt 13 = .ok (.aload_n 0, 1) := by decide +kernel
theorem dX4_byteAt_14 : decode cX4_byteAt 14 = .ok (.getfield 9, 3) := by decide +kernel
theorem dX4_byteAt_17 : decode cX4_byteAt 17 = .ok (.arraylength, 1) := by decide +kernel
theorem dX4_byteAt_18 : decode cX4_byteAt 18 = .ok (.if_icmp .ge 16, 3) := by decide +kernel
theorem dX4_byteAt_21 : decode cX4_byteAt 21 = .ok (.aload_n 0, 1) := by decide +kernel
theorem dX4_byteAt_22 : decode cX4_byteAt 22 = .ok (.getfield 9, 3) := by decide +kernel
theorem dX4_byteAt_25 : decode cX4_byteAt 25 = .ok (.iload_n 1, 1) := by decide +kernel
theorem dX4_byteAt_26 : decode cX4_byteAt 26 = .ok (.baload, 1) := by decide +kernel
theorem dX4_byteAt_27 : decode cX4_byteAt 27 = .ok (.sipush 255, 3) := by decide +kernel
theorem dX4_byteAt_30 : decode cX4_byteAt 30 = .ok (.iand, 1) := by decide +kernel
theorem dX4_byteAt_31 : decode cX4_byteAt 31 = .ok (.goto 4, 3) := by decide +kernel
theorem dX4_byteAt_34 : decode cX4_byteAt 34 = .ok (.iconst (-1), 1) := by decide +kernel
theorem dX4_byteAt_35 : decode cX4_byteAt 35 = .ok (.ireturn, 1) := by decide +kernel
theorem dX4_put_0 : decode cX4_put 0 = .ok (.aload_n 0, 1) := by decide +kernel
theorem dX4_put_1 : decode cX4_put 1 = .ok (.getfield 15, 3) := by decide +kernel
theorem dX4_put_4 : decode cX4_put 4 = .ok (.ifCond .lt 36, 3) := by decide +kernel
theorem dX4_put_7 : decode cX4_put 7 = .ok (.aload_n 0, 1) := by decide +kernel
theorem dX4_put_8 : decode cX4_put 8 = .ok (.getfield 15, 3) := by decide +kernel
theorem dX4_put_11 : decode cX4_put 11 = .ok (.aload_n 0, 1) := by decide +kernel
theorem dX4_put_12 : decode cX4_put 12 = .ok (.getfield 9, 3) := by decide +kernel
theorem dX4_put_15 : decode cX4_put 15 = .ok (.arraylength, 1) := by decide +kernel
theorem dX4_put_16 : decode cX4_put 16 = .ok (.if_icmp .ge 24, 3) := by decide +kernel
theorem dX4_put_19 : decode cX4_put 19 = .ok (.aload_n 0, 1) := by decide +kernel
theorem dX4_put_20 : decode cX4_put 20 = .ok (.getfield 9, 3) := by decide +kernel
theorem dX4_put_23 : decode cX4_put 23 = .ok (.aload_n 0, 1) := by decide +kernel
theorem dX4_put_24 : decode cX4_put 24 = .ok (.getfield 15, 3) := by decide +kernel
theorem dX4_put_27 : decode cX4_put 27 = .ok (.iload_n 1, 1) := by decide +kernel
theorem dX4_put_28 : decode cX4_put 28 = .ok (.i2b, 1) := by decide +kernel
theorem dX4_put_29 : decode cX4_put 29 = .ok (.bastore, 1) := by decide +kernel
theorem dX4_put_30 : decode cX4_put 30 = .ok (.aload_n 0, 1) := by decide +kernel
theorem dX4_put_31 : decode cX4_put 31 = .ok (.dup, 1) := by decide +kernel
theorem dX4_put_32 : decode cX4_put 32 = .ok (.getfield 15, 3) := by decide +kernel
theorem dX4_put_35 : decode cX4_put 35 = .ok (.iconst 1, 1) := by decide +kernel
theorem dX4_put_36 : decode cX4_put 36 = .ok (.iadd, 1) := by decide +kernel
theorem dX4_put_37 : decode cX4_put 37 = .ok (.putfield 15, 3) := by decide +kernel
theorem dX4_put_40 : decode cX4_put 40 = .ok (.return_, 1) := by decide +kernel
theorem dX4_putWord_0 : decode cX4_putWord 0 = .ok (.iconst 0, 1) := by decide +kernel
theorem dX4_putWord_1 : decode cX4_putWord 1 = .ok (.istore_n 2, 1) := by decide +kernel
theorem dX4_putWord_2 : decode cX4_putWord 2 = .ok (.iload_n 2, 1) := by decide +kernel
theorem dX4_putWord_3 : decode cX4_putWord 3 = .ok (.aload_n 1, 1) := by decide +kernel
theorem dX4_putWord_4 : decode cX4_putWord 4 = .ok (.invokevirtual 19, 3) := by decide +kernel
theorem dX4_putWord_7 : decode cX4_putWord 7 = .ok (.if_icmp .ge 18, 3) := by decide +kernel
theorem dX4_putWord_10 : decode cX4_putWord 10 = .ok (.aload_n 0, 1) := by decide +kernel
theorem dX4_putWord_11 : decode cX4_putWord 11 = .ok (.aload_n 1, 1) := by decide +kernel
theorem dX4_putWord_12 : decode cX4_putWord 12 = .ok (.iload_n 2, 1) := by decide +kernel
theorem dX4_putWord_13 : decode cX4_putWord 13 = .ok (.invokevirtual 24, 3) := by decide +kernel
theorem dX4_putWord_16 : decode cX4_putWord 16 = .ok (.invokevirtual 28, 3) := by decide +kernel
theorem dX4_putWord_19 : decode cX4_putWord 19 = .ok (.iinc 2 1, 3) := by decide +kernel
theorem dX4_putWord_22 : decode cX4_putWord 22 = .ok (.goto (-20), 3) := by decide +kernel
theorem dX4_putWord_25 : decode cX4_putWord 25 = .ok (.return_, 1) := by decide +kernel
theorem dX4_putName_0 : decode cX4_putName 0 = .ok (.bipush 56, 2) := by decide +kernel
theorem dX4_putName_2 : decode cX4_putName 2 = .ok (.istore_n 3, 1) := by decide +kernel
theorem dX4_putName_3 : decode cX4_putName 3 = .ok (.iload_n 3, 1) := by decide +kernel
theorem dX4_putName_4 : decode cX4_putName 4 = .ok (.ifCond .lt 30, 3) := by decide +kernel
theorem dX4_putName_7 : decode cX4_putName 7 = .ok (.lload_n 1, 1) := by decide +kernel
theorem dX4_putName_8 : decode cX4_putName 8 = .ok (.iload_n 3, 1) := by decide +kernel
theorem dX4_putName_9 : decode cX4_putName 9 = .ok (.lushr, 1) := by decide +kernel
theorem dX4_putName_10 : decode cX4_putName 10 = .ok (.l2i, 1) := by decide +kernel
theorem dX4_putName_11 : decode cX4_putName 11 = .ok (.sipush 255, 3) := by decide +kernel
theorem dX4_putName_14 : decode cX4_putName 14 = .ok (.iand, 1) := by decide +kernel
theorem dX4_putName_15 : decode cX4_putName 15 = .ok (.istore 4, 2) := by decide +kernel
theorem dX4_putName_17 : decode cX4_putName 17 = .ok (.iload 4, 2) := by decide +kernel
theorem dX4_putName_19 : decode cX4_putName 19 = .ok (.ifCond .eq 9, 3) := by decide +kernel
theorem dX4_putName_22 : decode cX4_putName 22 = .ok (.aload_n 0, 1) := by decide +kernel
theorem dX4_putName_23 : decode cX4_putName 23 = .ok (.iload 4, 2) := by decide +kernel
theorem dX4_putName_25 : decode cX4_putName 25 = .ok (.invokevirtual 28, 3) := by decide +kernel
theorem dX4_putName_28 : decode cX4_putName 28 = .ok (.iinc 3 (-8), 3) := by decide +kernel
theorem dX4_putName_31 : decode cX4_putName 31 = .ok (.goto (-28), 3) := by decide +kernel
theorem dX4_putName_34 : decode cX4_putName 34 = .ok (.return_, 1) := by decide +kernel
theorem dX4_putBytes_0 : decode cX4_putBytes 0 = .ok (.aload_n 1, 1) := by decide +kernel
theorem dX4_putBytes_1 : decode cX4_putBytes 1 = .ok (.ifnonnull 4, 3) := by decide +kernel
theorem dX4_putBytes_4 : decode cX4_putBytes 4 = .ok (.return_, 1) := by decide +kernel
theorem dX4_putBytes_5 : decode cX4_putBytes 5 = .ok (.iconst 0, 1) := by decide +kernel
theorem dX4_putBytes_6 : decode cX4_putBytes 6 = .ok (.istore_n 3, 1) := by decide +kernel
theorem dX4_putBytes_7 : decode cX4_putBytes 7 = .ok (.iload_n 3, 1) := by decide +kernel
theorem dX4_putBytes_8 : decode cX4_putBytes 8 = .ok (.iload_n 2, 1) := by decide +kernel
theorem dX4_putBytes_9 : decode cX4_putBytes 9 = .ok (.if_icmp .ge 22, 3) := by decide +kernel
theorem dX4_putBytes_12 : decode cX4_putBytes 12 = .ok (.iload_n 3, 1) := by decide +kernel
theorem dX4_putBytes_13 : decode cX4_putBytes 13 = .ok (.aload_n 1, 1) := by decide +kernel
theorem dX4_putBytes_14 : decode cX4_putBytes 14 = .ok (.arraylength, 1) := by decide +kernel
theorem dX4_putBytes_15 : decode cX4_putBytes 15 = .ok (.if_icmp .ge 16, 3) := by decide +kernel
theorem dX4_putBytes_18 : decode cX4_putBytes 18 = .ok (.aload_n 0, 1) := by decide +kernel
theorem dX4_putBytes_19 : decode cX4_putBytes 19 = .ok (.aload_n 1, 1) := by decide +kernel
theorem dX4_putBytes_20 : decode cX4_putBytes 20 = .ok (.iload_n 3, 1) := by decide +kernel
theorem dX4_putBytes_21 : decode cX4_putBytes 21 = .ok (.baload, 1) := by decide +kernel
theorem dX4_putBytes_22 : decode cX4_putBytes 22 = .ok (.invokevirtual 28, 3) := by decide +kernel
theorem dX4_putBytes_25 : decode cX4_putBytes 25 = .ok (.iinc 3 1, 3) := by decide +kernel
theorem dX4_putBytes_28 : decode cX4_putBytes 28 = .ok (.goto (-21), 3) := by decide +kernel
theorem dX4_putBytes_31 : decode cX4_putBytes 31 = .ok (.return_, 1) := by decide +kernel
theorem dX4_putEscaped_0 : decode cX4_putEscaped 0 = .ok (.aload_n 1, 1) := by decide +kernel
theorem dX4_putEscaped_1 : decode cX4_putEscaped 1 = .ok (.ifnonnull 4, 3) := by decide +kernel
theorem dX4_putEscaped_4 : decode cX4_putEscaped 4 = .ok (.return_, 1) := by decide +kernel
theorem dX4_putEscaped_5 : decode cX4_putEscaped 5 = .ok (.iconst 0, 1) := by decide +kernel
theorem dX4_putEscaped_6 : decode cX4_putEscaped 6 = .ok (.istore_n 3, 1) := by decide +kernel
theorem dX4_putEscaped_7 : decode cX4_putEscaped 7 = .ok (.iload_n 3, 1) := by decide +kernel
theorem dX4_putEscaped_8 : decode cX4_putEscaped 8 = .ok (.iload_n 2, 1) := by decide +kernel
theorem dX4_putEscaped_9 : decode cX4_putEscaped 9 = .ok (.if_icmp .ge 104, 3) := by decide +kernel
theorem dX4_putEscaped_12 : decode cX4_putEscaped 12 = .ok (.iload_n 3, 1) := by decide +kernel
theorem dX4_putEscaped_13 : decode cX4_putEscaped 13 = .ok (.aload_n 1, 1) := by decide +kernel
theorem dX4_putEscaped_14 : decode cX4_putEscaped 14 = .ok (.arraylength, 1) := by decide +kernel
theorem dX4_putEscaped_15 : decode cX4_putEscaped 15 = .ok (.if_icmp .ge 98, 3) := by decide +kernel
theorem dX4_putEscaped_18 : decode cX4_putEscaped 18 = .ok (.aload_n 1, 1) := by decide +kernel
theorem dX4_putEscaped_19 : decode cX4_putEscaped 19 = .ok (.iload_n 3, 1) := by decide +kernel
theorem dX4_putEscaped_20 : decode cX4_putEscaped 20 = .ok (.baload, 1) := by decide +kernel
theorem dX4_putEscaped_21 : decode cX4_putEscaped 21 = .ok (.lookupswitch 79 #[(34, 70), (38, 61), (60, 43), (62, 52)], 43) := by decide +kernel
theorem dX4_putEscaped_64 : decode cX4_putEscaped 64 = .ok (.aload_n 0, 1) := by decide +kernel
theorem dX4_putEscaped_65 : decode cX4_putEscaped 65 = .ok (.ldc 32, 2) := by decide +kernel
theorem dX4_putEscaped_67 : decode cX4_putEscaped 67 = .ok (.invokevirtual 34, 3) := by decide +kernel
theorem dX4_putEscaped_70 : decode cX4_putEscaped 70 = .ok (.goto 37, 3) := by decide +kernel
theorem dX4_putEscaped_73 : decode cX4_putEscaped 73 = .ok (.aload_n 0, 1) := by decide +kernel
theorem dX4_putEscaped_74 : decode cX4_putEscaped 74 = .ok (.ldc 38, 2) := by decide +kernel
theorem dX4_putEscaped_76 : decode cX4_putEscaped 76 = .ok (.invokevirtual 34, 3) := by decide +kernel
theorem dX4_putEscaped_79 : decode cX4_putEscaped 79 = .ok (.goto 28, 3) := by decide +kernel
theorem dX4_putEscaped_82 : decode cX4_putEscaped 82 = .ok (.aload_n 0, 1) := by decide +kernel
theorem dX4_putEscaped_83 : decode cX4_putEscaped 83 = .ok (.ldc 40, 2) := by decide +kernel
theorem dX4_putEscaped_85 : decode cX4_putEscaped 85 = .ok (.invokevirtual 34, 3) := by decide +kernel
theorem dX4_putEscaped_88 : decode cX4_putEscaped 88 = .ok (.goto 19, 3) := by decide +kernel
theorem dX4_putEscaped_91 : decode cX4_putEscaped 91 = .ok (.aload_n 0, 1) := by decide +kernel
theorem dX4_putEscaped_92 : decode cX4_putEscaped 92 = .ok (.ldc 42, 2) := by decide +kernel
theorem dX4_putEscaped_94 : decode cX4_putEscaped 94 = .ok (.invokevirtual 34, 3) := by decide +kernel
theorem dX4_putEscaped_97 : decode cX4_putEscaped 97 = .ok (.goto 10, 3) := by decide +kernel
theorem dX4_putEscaped_100 : decode cX4_putEscaped 100 = .ok (.aload_n 0, 1) := by decide +kernel
theorem dX4_putEscaped_101 : decode cX4_putEscaped 101 = .ok (.aload_n 1, 1) := by decide +kernel
theorem dX4_putEscaped_102 : decode cX4_putEscaped 102 = .ok (.iload_n 3, 1) := by decide +kernel
theorem dX4_putEscaped_103 : decode cX4_putEscaped 103 = .ok (.baload, 1) := by decide +kernel
theorem dX4_putEscaped_104 : decode cX4_putEscaped 104 = .ok (.invokevirtual 28, 3) := by decide +kernel
theorem dX4_putEscaped_107 : decode cX4_putEscaped 107 = .ok (.iinc 3 1, 3) := by decide +kernel
theorem dX4_putEscaped_110 : decode cX4_putEscaped 110 = .ok (.goto (-103), 3) := by decide +kernel
theorem dX4_putEscaped_113 : decode cX4_putEscaped 113 = .ok (.return_, 1) := by decide +kernel
theorem dX5_init_0 : decode cX5_init 0 = .ok (.aload_n 0, 1) := by decide +kernel
theorem dX5_init_1 : decode cX5_init 1 = .ok (.invokespecial 3, 3) := by decide +kernel
theorem dX5_init_4 : decode cX5_init 4 = .ok (.aload_n 0, 1) := by decide +kernel
theorem dX5_init_5 : decode cX5_init 5 = .ok (.new 9, 3) := by decide +kernel
theorem dX5_init_8 : decode cX5_init 8 = .ok (.dup, 1) := by decide +kernel
theorem dX5_init_9 : decode cX5_init 9 = .ok (.invokespecial 11, 3) := by decide +kernel
theorem dX5_init_12 : decode cX5_init 12 = .ok (.putfield 12, 3) := by decide +kernel
theorem dX5_init_15 : decode cX5_init 15 = .ok (.aload_n 0, 1) := by decide +kernel
theorem dX5_init_16 : decode cX5_init 16 = .ok (.bipush 21, 2) := by decide +kernel
theorem dX5_init_18 : decode cX5_init 18 = .ok (.anewarray 18, 3) := by decide +kernel
theorem dX5_init_21 : decode cX5_init 21 = .ok (.putfield 20, 3) := by decide +kernel
theorem dX5_init_24 : decode cX5_init 24 = .ok (.aload_n 0, 1) := by decide +kernel
theorem dX5_init_25 : decode cX5_init 25 = .ok (.bipush 21, 2) := by decide +kernel
theorem dX5_init_27 : decode cX5_init 27 = .ok (.newarray .int, 2) := by decide +kernel
theorem dX5_init_29 : decode cX5_init 29 = .ok (.putfield 24, 3) := by decide +kernel
theorem dX5_init_32 : decode cX5_init 32 = .ok (.aload_n 0, 1) := by decide +kernel
theorem dX5_init_33 : decode cX5_init 33 = .ok (.aload_n 1, 1) := by decide +kernel
theorem dX5_init_34 : decode cX5_init 34 = .ok (.putfield 28, 3) := by decide +kernel
theorem dX5_init_37 : decode cX5_init 37 = .ok (.aload_n 0, 1) := by decide +kernel
theorem dX5_init_38 : decode cX5_init 38 = .ok (.aload_n 2, 1) := by decide +kernel
theorem dX5_init_39 : decode cX5_init 39 = .ok (.putfield 32, 3) := by decide +kernel
theorem dX5_init_42 : decode cX5_init 42 = .ok (.aload_n 0, 1) := by decide +kernel
theorem dX5_init_43 : decode cX5_init 43 = .ok (.aload_n 3, 1) := by decide +kernel
theorem dX5_init_44 : decode cX5_init 44 = .ok (.putfield 36, 3) := by decide +kernel
theorem dX5_init_47 : decode cX5_init 47 = .ok (.return_, 1) := by decide +kernel
theorem dX5_placeOpenAt_0 : decode cX5_placeOpenAt 0 = .ok (.iload_n 1, 1) := by decide +kernel
theorem dX5_placeOpenAt_1 : decode cX5_placeOpenAt 1 = .ok (.ifCond .lt 29, 3) := by decide +kernel
theorem dX5_placeOpenAt_4 : decode cX5_placeOpenAt 4 = .ok (.iload_n 1, 1) := by decide +kernel
theorem dX5_placeOpenAt_5 : decode cX5_placeOpenAt 5 = .ok (.aload_n 0, 1) := by decide +kernel
theorem dX5_placeOpenAt_6 : decode cX5_placeOpenAt 6 = .ok (.getfield 55, 3) := by decide +kernel
theorem dX5_placeOpenAt_9 : decode cX5_placeOpenAt 9 = .ok (.if_icmp .ge 21, 3) := by decide +kernel
theorem dX5_placeOpenAt_12 : decode cX5_placeOpenAt 12 = .ok (.iload_n 1, 1) := by decide +kernel
theorem dX5_placeOpenAt_13 : decode cX5_placeOpenAt 13 = .ok (.aload_n 0, 1) := by decide +kernel
theorem dX5_placeOpenAt_14 : decode cX5_placeOpenAt 14 = .ok (.getfield 24, 3) := by decide +kernel
theorem dX5_placeOpenAt_17 : decode cX5_placeOpenAt 17 = .ok (.arraylength, 1) := by decide +kernel
theorem dX5_placeOpenAt_18 : decode cX5_placeOpenAt 18 = .ok (.if_icmp .ge 12, 3) := by decide +kernel
theorem dX5_placeOpenAt_21 : decode cX5_placeOpenAt 21 = .ok (.aload_n 0, 1) := by decide +kernel
theorem dX5_placeOpenAt_22 : decode cX5_placeOpenAt 22 = .ok (.getfield 24, 3) := by decide +kernel
theorem dX5_placeOpenAt_25 : decode cX5_placeOpenAt 25 = .ok (.iload_n 1, 1) := by decide +kernel
theorem dX5_placeOpenAt_26 : decode cX5_placeOpenAt 26 = .ok (.iaload, 1) := by decide +kernel
theorem dX5_placeOpenAt_27 : decode cX5_placeOpenAt 27 = .ok (.goto 4, 3) := by decide +kernel
theorem dX5_placeOpenAt_30 : decode cX5_placeOpenAt 30 = .ok (.iconst (-1), 1) := by decide +kernel
theorem dX5_placeOpenAt_31 : decode cX5_placeOpenAt 31 = .ok (.ireturn, 1) := by decide +kernel
theorem dX5_openAt_0 : decode cX5_openAt 0 = .ok (.iload_n 1, 1) := by decide +kernel
theorem dX5_openAt_1 : decode cX5_openAt 1 = .ok (.ifCond .lt 29, 3) := by decide +kernel
theorem dX5_openAt_4 : decode cX5_openAt 4 = .ok (.iload_n 1, 1) := by decide +kernel
theorem dX5_openAt_5 : decode cX5_openAt 5 = .ok (.aload_n 0, 1) := by decide +kernel
theorem dX5_openAt_6 : decode cX5_openAt 6 = .ok (.getfield 55, 3) := by decide +kernel
theorem dX5_openAt_9 : decode cX5_openAt 9 = .ok (.if_icmp .ge 21, 3) := by decide +kernel
theorem dX5_openAt_12 : decode cX5_openAt 12 = .ok (.iload_n 1, 1) := by decide +kernel
theorem dX5_openAt_13 : decode cX5_openAt 13 = .ok (.aload_n 0, 1) := by decide +kernel
theorem dX5_openAt_14 : decode cX5_openAt 14 = .ok (.getfield 20, 3) := by decide +kernel
theorem dX5_openAt_17 : decode cX5_openAt 17 = .ok (.arraylength, 1) := by decide +kernel
theorem dX5_openAt_18 : decode cX5_openAt 18 = .ok (.if_icmp .ge 12, 3) := by decide +kernel
theorem dX5_openAt_21 : decode cX5_openAt 21 = .ok (.aload_n 0, 1) := by decide +kernel
theorem dX5_openAt_22 : decode cX5_openAt 22 = .ok (.getfield 20, 3) := by decide +kernel
theorem dX5_openAt_25 : decode cX5_openAt 25 = .ok (.iload_n 1, 1) := by decide +kernel
theorem dX5_openAt_26 : decode cX5_openAt 26 = .ok (.aaload, 1) := by decide +kernel
theorem dX5_openAt_27 : decode cX5_openAt 27 = .ok (.goto 4, 3) := by decide +kernel
theorem dX5_openAt_30 : decode cX5_openAt 30 = .ok (.aconst_null, 1) := by decide +kernel
theorem dX5_openAt_31 : decode cX5_openAt 31 = .ok (.areturn, 1) := by decide +kernel
theorem dX5_tagOpenAt_0 : decode cX5_tagOpenAt 0 = .ok (.aload_n 0, 1) := by decide +kernel
theorem dX5_tagOpenAt_1 : decode cX5_tagOpenAt 1 = .ok (.iload_n 1, 1) := by decide +kernel
theorem dX5_tagOpenAt_2 : decode cX5_tagOpenAt 2 = .ok (.invokevirtual 260, 3) := by decide +kernel
theorem dX5_tagOpenAt_5 : decode cX5_tagOpenAt 5 = .ok (.astore_n 2, 1) := by decide +kernel
theorem dX5_tagOpenAt_6 : decode cX5_tagOpenAt 6 = .ok (.aload_n 2, 1) := by decide +kernel
theorem dX5_tagOpenAt_7 : decode cX5_tagOpenAt 7 = .ok (.ifnonnull 7, 3) := by decide +kernel
theorem dX5_tagOpenAt_10 : decode cX5_tagOpenAt 10 = .ok (.iconst (-1), 1) := by decide +kernel
theorem dX5_tagOpenAt_11 : decode cX5_tagOpenAt 11 = .ok (.goto 7, 3) := by decide +kernel
theorem dX5_tagOpenAt_14 : decode cX5_tagOpenAt 14 = .ok (.aload_n 2, 1) := by decide +kernel
theorem dX5_tagOpenAt_15 : decode cX5_tagOpenAt 15 = .ok (.getfield 137, 3) := by decide +kernel
theorem dX5_tagOpenAt_18 : decode cX5_tagOpenAt 18 = .ok (.ireturn, 1) := by decide +kernel
theorem dX5_closeDownTo_0 : decode cX5_closeDownTo 0 = .ok (.aload_n 0, 1) := by decide +kernel
theorem dX5_closeDownTo_1 : decode cX5_closeDownTo 1 = .ok (.getfield 55, 3) := by decide +kernel
theorem dX5_closeDownTo_4 : decode cX5_closeDownTo 4 = .ok (.iconst 1, 1) := by decide +kernel
theorem dX5_closeDownTo_5 : decode cX5_closeDownTo 5 = .ok (.isub, 1) := by decide +kernel
theorem dX5_closeDownTo_6 : decode cX5_closeDownTo 6 = .ok (.istore_n 2, 1) := by decide +kernel
theorem dX5_closeDownTo_7 : decode cX5_closeDownTo 7 = .ok (.iload_n 2, 1) := by decide +kernel
theorem dX5_closeDownTo_8 : decode cX5_closeDownTo 8 = .ok (.iload_n 1, 1) := by decide +kernel
theorem dX5_closeDownTo_9 : decode cX5_closeDownTo 9 = .ok (.if_icmp .lt 43, 3) := by decide +kernel
theorem dX5_closeDownTo_12 : decode cX5_closeDownTo 12 = .ok (.aload_n 0, 1) := by decide +kernel
theorem dX5_closeDownTo_13 : decode cX5_closeDownTo 13 = .ok (.iload_n 2, 1) := by decide +kernel
theorem dX5_closeDownTo_14 : decode cX5_closeDownTo 14 = .ok (.invokevirtual 66, 3) := by decide +kernel
theorem dX5_closeDownTo_17 : decode cX5_closeDownTo 17 = .ok (.istore_n 3, 1) := by decide +kernel
theorem dX5_closeDownTo_18 : decode cX5_closeDownTo 18 = .ok (.iload_n 3, 1) := by decide +kernel
theorem dX5_closeDownTo_19 : decode cX5_closeDownTo 19 = .ok (.iconst 1, 1) := by decide +kernel
theorem dX5_closeDownTo_20 : decode cX5_closeDownTo 20 = .ok (.if_icmp .eq 21, 3) := by decide +kernel
theorem dX5_closeDownTo_23 : decode cX5_closeDownTo 23 = .ok (.iload_n 3, 1) := by decide +kernel
theorem dX5_closeDownTo_24 : decode cX5_closeDownTo 24 = .ok (.iconst 4, 1) := by decide +kernel
theorem dX5_closeDownTo_25 : decode cX5_closeDownTo 25 = .ok (.if_icmp .eq 16, 3) := by decide +kernel
theorem dX5_closeDownTo_28 : decode cX5_closeDownTo 28 = .ok (.aload_n 0, 1) := by decide +kernel
theorem dX5_closeDownTo_29 : decode cX5_closeDownTo 29 = .ok (.getfield 36, 3) := by decide +kernel
theorem dX5_closeDownTo_32 : decode cX5_closeDownTo 32 = .ok (.iconst 4, 1) := by decide +kernel
theorem dX5_closeDownTo_33 : decode cX5_closeDownTo 33 = .ok (.aload_n 0, 1) := by decide +kernel
theorem dX5_closeDownTo_34 : decode cX5_closeDownTo 34 = .ok (.iload_n 2, 1) := by decide +kernel
theorem dX5_closeDownTo_35 : decode cX5_closeDownTo 35 = .ok (.invokevirtual 257, 3) := by decide +kernel
theorem dX5_closeDownTo_38 : decode cX5_closeDownTo 38 = .ok (.invokevirtual 148, 3) := by decide +kernel
theorem dX5_closeDownTo_41 : decode cX5_closeDownTo 41 = .ok (.aload_n 0, 1) := by decide +kernel
theorem dX5_closeDownTo_42 : decode cX5_closeDownTo 42 = .ok (.iload_n 2, 1) := by decide +kernel
theorem dX5_closeDownTo_43 : decode cX5_closeDownTo 43 = .ok (.putfield 55, 3) := by decide +kernel
theorem dX5_closeDownTo_46 : decode cX5_closeDownTo 46 = .ok (.iinc 2 (-1), 3) := by decide +kernel
theorem dX5_closeDownTo_49 : decode cX5_closeDownTo 49 = .ok (.goto (-42), 3) := by decide +kernel
theorem dX5_closeDownTo_52 : decode cX5_closeDownTo 52 = .ok (.return_, 1) := by decide +kernel
theorem dX5_readComment_0 : decode cX5_readComment 0 = .ok (.aload_n 0, 1) := by decide +kernel
theorem dX5_readComment_1 : decode cX5_readComment 1 = .ok (.getfield 58, 3) := by decide +kernel
theorem dX5_readComment_4 : decode cX5_readComment 4 = .ok (.ldc 78, 2) := by decide +kernel
theorem dX5_readComment_6 : decode cX5_readComment 6 = .ok (.invokevirtual 159, 3) := by decide +kernel
theorem dX5_readComment_9 : decode cX5_readComment 9 = .ok (.iadd, 1) := by decide +kernel
theorem dX5_readComment_10 : decode cX5_readComment 10 = .ok (.istore_n 1, 1) := by decide +kernel
theorem dX5_readComment_11 : decode cX5_readComment 11 = .ok (.iload_n 1, 1) := by decide +kernel
theorem dX5_readComment_12 : decode cX5_readComment 12 = .ok (.aload_n 0, 1) := by decide +kernel
theorem dX5_readComment_13 : decode cX5_readComment 13 = .ok (.getfield 28, 3) := by decide +kernel
theorem dX5_readComment_16 : decode cX5_readComment 16 = .ok (.getfield 61, 3) := by decide +kernel
theorem dX5_readComment_19 : decode cX5_readComment 19 = .ok (.if_icmp .ge 34, 3) := by decide +kernel
theorem dX5_readComment_22 : decode cX5_readComment 22 = .ok (.aload_n 0, 1) := by decide +kernel
theorem dX5_readComment_23 : decode cX5_readComment 23 = .ok (.getfield 28, 3) := by decide +kernel
theorem dX5_readComment_26 : decode cX5_readComment 26 = .ok (.ldc 164, 2) := by decide +kernel
theorem dX5_readComment_28 : decode cX5_readComment 28 = .ok (.iload_n 1, 1) := by decide +kernel
theorem dX5_readComment_29 : decode cX5_readComment 29 = .ok (.invokevirtual 80, 3) := by decide +kernel
theorem dX5_readComment_32 : decode cX5_readComment 32 = .ok (.ifCond .eq 15, 3) := by decide +kernel
theorem dX5_readComment_35 : decode cX5_readComment 35 = .ok (.aload_n 0, 1) := by decide +kernel
theorem dX5_readComment_36 : decode cX5_readComment 36 = .ok (.iload_n 1, 1) := by decide +kernel
theorem dX5_readComment_37 : decode cX5_readComment 37 = .ok (.ldc 164, 2) := by decide +kernel
theorem dX5_readComment_39 : decode cX5_readComment 39 = .ok (.invokevirtual 159, 3) := by decide +kernel
theorem dX5_readComment_42 : decode cX5_readComment 42 = .ok (.iadd, 1) := by decide +kernel
theorem dX5_readComment_43 : decode cX5_readComment 43 = .ok (.putfield 58, 3) := by decide +kernel
theorem dX5_readComment_46 : decode cX5_readComment 46 = .ok (.return_, 1) := by decide +kernel
theorem dX5_readComment_47 : decode cX5_readComment 47 = .ok (.iinc 1 1, 3) := by decide +kernel
theorem dX5_readComment_50 : decode cX5_readComment 50 = .ok (.goto (-39), 3) := by decide +kernel
theorem dX5_readComment_53 : decode cX5_readComment 53 = .ok (.aload_n 0, 1) := by decide +kernel
theorem dX5_readComment_54 : decode cX5_readComment 54 = .ok (.getfield 36, 3) := by decide +kernel
theorem dX5_readComment_57 : decode cX5_readComment 57 = .ok (.iconst 1, 1) := by decide +kernel
theorem dX5_readComment_58 : decode cX5_readComment 58 = .ok (.aload_n 0, 1) := by decide +kernel
theorem dX5_readComment_59 : decode cX5_readComment 59 = .ok (.getfield 58, 3) := by decide +kernel
theorem dX5_readComment_62 : decode cX5_readComment 62 = .ok (.invokevirtual 148, 3) := by decide +kernel
theorem dX5_readComment_65 : decode cX5_readComment 65 = .ok (.aload_n 0, 1) := by decide +kernel
theorem dX5_readComment_66 : decode cX5_readComment 66 = .ok (.aload_n 0, 1) := by decide +kernel
theorem dX5_readComment_67 : decode cX5_readComment 67 = .ok (.getfield 28, 3) := by decide +kernel
theorem dX5_readComment_70 : decode cX5_readComment 70 = .ok (.getfield 61, 3) := by decide +kernel
theorem dX5_readComment_73 : decode cX5_readComment 73 = .ok (.putfield 58, 3) := by decide +kernel
theorem dX5_readComment_76 : decode cX5_readComment 76 = .ok (.return_, 1) := by decide +kernel
theorem dX8_isBlank_0 : decode cX8_isBlank 0 = .ok (.iload_n 0, 1) := by decide +kernel
theorem dX8_isBlank_1 : decode cX8_isBlank 1 = .ok (.bipush 10, 2) := by decide +kernel
theorem dX8_isBlank_3 : decode cX8_isBlank 3 = .ok (.if_icmp .eq 9, 3) := by decide +kernel
theorem dX8_isBlank_6 : decode cX8_isBlank 6 = .ok (.iload_n 0, 1) := by decide +kernel
theorem dX8_isBlank_7 : decode cX8_isBlank 7 = .ok (.bipush 32, 2) := by decide +kernel
theorem dX8_isBlank_9 : decode cX8_isBlank 9 = .ok (.if_icmp .ne 7, 3) := by decide +kernel
theorem dX8_isBlank_12 : decode cX8_isBlank 12 = .ok (.iconst 1, 1) := by decide +kernel
theorem dX8_isBlank_13 : decode cX8_isBlank 13 = .ok (.goto 4, 3) := by decide +kernel
theorem dX8_isBlank_16 : decode cX8_isBlank 16 = .ok (.iconst 0, 1) := by decide +kernel
theorem dX8_isBlank_17 : decode cX8_isBlank 17 = .ok (.ireturn, 1) := by decide +kernel
theorem dX5_partsAttributes_0 : decode cX5_partsAttributes 0 = .ok (.iload_n 0, 1) := by decide +kernel
theorem dX5_partsAttributes_1 : decode cX5_partsAttributes 1 = .ok (.invokestatic 152, 3) := by decide +kernel
theorem dX5_partsAttributes_4 : decode cX5_partsAttributes 4 = .ok (.ifCond .ne 9, 3) := by decide +kernel
theorem dX5_partsAttributes_7 : decode cX5_partsAttributes 7 = .ok (.iload_n 0, 1) := by decide +kernel
theorem dX5_partsAttributes_8 : decode cX5_partsAttributes 8 = .ok (.bipush 47, 2) := by decide +kernel
theorem dX5_partsAttributes_10 : decode cX5_partsAttributes 10 = .ok (.if_icmp .ne 7, 3) := by decide +kernel
theorem dX5_partsAttributes_13 : decode cX5_partsAttributes 13 = .ok (.iconst 1, 1) := by decide +kernel
theorem dX5_partsAttributes_14 : decode cX5_partsAttributes 14 = .ok (.goto 4, 3) := by decide +kernel
theorem dX5_partsAttributes_17 : decode cX5_partsAttributes 17 = .ok (.iconst 0, 1) := by decide +kernel
theorem dX5_partsAttributes_18 : decode cX5_partsAttributes 18 = .ok (.ireturn, 1) := by decide +kernel
theorem dX8_asSmall_0 : decode cX8_asSmall 0 = .ok (.iload_n 0, 1) := by decide +kernel
theorem dX8_asSmall_1 : decode cX8_asSmall 1 = .ok (.bipush 65, 2) := by decide +kernel
theorem dX8_asSmall_3 : decode cX8_asSmall 3 = .ok (.if_icmp .lt 16, 3) := by decide +kernel
theorem dX8_asSmall_6 : decode cX8_asSmall 6 = .ok (.iload_n 0, 1) := by decide +kernel
theorem dX8_asSmall_7 : decode cX8_asSmall 7 = .ok (.bipush 90, 2) := by decide +kernel
theorem dX8_asSmall_9 : decode cX8_asSmall 9 = .ok (.if_icmp .gt 10, 3) := by decide +kernel
theorem dX8_asSmall_12 : decode cX8_asSmall 12 = .ok (.iload_n 0, 1) := by decide +kernel
theorem dX8_asSmall_13 : decode cX8_asSmall 13 = .ok (.bipush 32, 2) := by decide +kernel
theorem dX8_asSmall_15 : decode cX8_asSmall 15 = .ok (.iadd, 1) := by decide +kernel
theorem dX8_asSmall_16 : decode cX8_asSmall 16 = .ok (.goto 4, 3) := by decide +kernel
theorem dX8_asSmall_19 : decode cX8_asSmall 19 = .ok (.iload_n 0, 1) := by decide +kernel
theorem dX8_asSmall_20 : decode cX8_asSmall 20 = .ok (.ireturn, 1) := by decide +kernel
theorem dX8_longer_0 : decode cX8_longer 0 = .ok (.lload_n 0, 1) := by decide +kernel
theorem dX8_longer_1 : decode cX8_longer 1 = .ok (.bipush 56, 2) := by decide +kernel
theorem dX8_longer_3 : decode cX8_longer 3 = .ok (.lushr, 1) := by decide +kernel
theorem dX8_longer_4 : decode cX8_longer 4 = .ok (.lconst 0, 1) := by decide +kernel
theorem dX8_longer_5 : decode cX8_longer 5 = .ok (.lcmp, 1) := by decide +kernel
theorem dX8_longer_6 : decode cX8_longer 6 = .ok (.ifCond .eq 7, 3) := by decide +kernel
theorem dX8_longer_9 : decode cX8_longer 9 = .ok (.iconst 1, 1) := by decide +kernel
theorem dX8_longer_10 : decode cX8_longer 10 = .ok (.goto 4, 3) := by decide +kernel
theorem dX8_longer_13 : decode cX8_longer 13 = .ok (.iconst 0, 1) := by decide +kernel
theorem dX8_longer_14 : decode cX8_longer 14 = .ok (.istore_n 3, 1) := by decide +kernel
theorem dX8_longer_15 : decode cX8_longer 15 = .ok (.iload_n 3, 1) := by decide +kernel
theorem dX8_longer_16 : decode cX8_longer 16 = .ok (.ifCond .eq 7, 3) := by decide +kernel
theorem dX8_longer_19 : decode cX8_longer 19 = .ok (.lload_n 0, 1) := by decide +kernel
theorem dX8_longer_20 : decode cX8_longer 20 = .ok (.goto 10, 3) := by decide +kernel
theorem dX8_longer_23 : decode cX8_longer 23 = .ok (.lload_n 0, 1) := by decide +kernel
theorem dX8_longer_24 : decode cX8_longer 24 = .ok (.bipush 8, 2) := by decide +kernel
theorem dX8_longer_26 : decode cX8_longer 26 = .ok (.lshl, 1) := by decide +kernel
theorem dX8_longer_27 : decode cX8_longer 27 = .ok (.iload_n 2, 1) := by decide +kernel
theorem dX8_longer_28 : decode cX8_longer 28 = .ok (.i2l, 1) := by decide +kernel
theorem dX8_longer_29 : decode cX8_longer 29 = .ok (.lor, 1) := by decide +kernel
theorem dX8_longer_30 : decode cX8_longer 30 = .ok (.lreturn, 1) := by decide +kernel
theorem dX5_endsAttributeName_0 : decode cX5_endsAttributeName 0 = .ok (.iload_n 0, 1) := by decide +kernel
theorem dX5_endsAttributeName_1 : decode cX5_endsAttributeName 1 = .ok (.bipush 61, 2) := by decide +kernel
theorem dX5_endsAttributeName_3 : decode cX5_endsAttributeName 3 = .ok (.if_icmp .eq 16, 3) := by decide +kernel
theorem dX5_endsAttributeName_6 : decode cX5_endsAttributeName 6 = .ok (.iload_n 0, 1) := by decide +kernel
theorem dX5_endsAttributeName_7 : decode cX5_endsAttributeName 7 = .ok (.bipush 62, 2) := by decide +kernel
theorem dX5_endsAttributeName_9 : decode cX5_endsAttributeName 9 = .ok (.if_icmp .eq 10, 3) := by decide +kernel
theorem dX5_endsAttributeName_12 : decode cX5_endsAttributeName 12 = .ok (.iload_n 0, 1) := by decide +kernel
theorem dX5_endsAttributeName_13 : decode cX5_endsAttributeName 13 = .ok (.invokestatic 171, 3) := by decide +kernel
theorem dX5_endsAttributeName_16 : decode cX5_endsAttributeName 16 = .ok (.ifCond .eq 7, 3) := by decide +kernel
theorem dX5_endsAttributeName_19 : decode cX5_endsAttributeName 19 = .ok (.iconst 1, 1) := by decide +kernel
theorem dX5_endsAttributeName_20 : decode cX5_endsAttributeName 20 = .ok (.goto 4, 3) := by decide +kernel
theorem dX5_endsAttributeName_23 : decode cX5_endsAttributeName 23 = .ok (.iconst 0, 1) := by decide +kernel
theorem dX5_endsAttributeName_24 : decode cX5_endsAttributeName 24 = .ok (.ireturn, 1) := by decide +kernel
theorem dX5_readAttributeName_0 : decode cX5_readAttributeName 0 = .ok (.lconst 0, 1) := by decide +kernel
theorem dX5_readAttributeName_1 : decode cX5_readAttributeName 1 = .ok (.aload_n 0, 1) := by decide +kernel
theorem dX5_readAttributeName_2 : decode cX5_readAttributeName 2 = .ok (.getfield 28, 3) := by decide +kernel
theorem dX5_readAttributeName_5 : decode cX5_readAttributeName 5 = .ok (.aload_n 0, 1) := by decide +kernel
theorem dX5_readAttributeName_6 : decode cX5_readAttributeName 6 = .ok (.getfield 58, 3) := by decide +kernel
theorem dX5_readAttributeName_9 : decode cX5_readAttributeName 9 = .ok (.invokevirtual 100, 3) := by decide +kernel
theorem dX5_readAttributeName_12 : decode cX5_readAttributeName 12 = .ok (.invokestatic 107, 3) := by decide +kernel
theorem dX5_readAttributeName_15 : decode cX5_readAttributeName 15 = .ok (.invokestatic 187, 3) := by decide +kernel
theorem dX5_readAttributeName_18 : decode cX5_readAttributeName 18 = .ok (.lstore_n 1, 1) := by decide +kernel
theorem dX5_readAttributeName_19 : decode cX5_readAttributeName 19 = .ok (.aload_n 0, 1) := by decide +kernel
theorem dX5_readAttributeName_20 : decode cX5_readAttributeName 20 = .ok (.dup, 1) := by decide +kernel
theorem dX5_readAttributeName_21 : decode cX5_readAttributeName 21 = .ok (.getfield 58, 3) := by decide +kernel
theorem dX5_readAttributeName_24 : decode cX5_readAttributeName 24 = .ok (.iconst 1, 1) := by decide +kernel
theorem dX5_readAttributeName_25 : decode cX5_readAttributeName 25 = .ok (.iadd, 1) := by decide +kernel
theorem dX5_readAttributeName_26 : decode cX5_readAttributeName 26 = .ok (.putfield 58, 3) := by decide +kernel
theorem dX5_readAttributeName_29 : decode cX5_readAttributeName 29 = .ok (.aload_n 0, 1) := by decide +kernel
theorem dX5_readAttributeName_30 : decode cX5_readAttributeName 30 = .ok (.getfield 58, 3) := by decide +kernel
theorem dX5_readAttributeName_33 : decode cX5_readAttributeName 33 = .ok (.aload_n 0, 1) := by decide +kernel
theorem dX5_readAttributeName_34 : decode cX5_readAttributeName 34 = .ok (.getfield 28, 3) := by decide +kernel
theorem dX5_readAttributeName_37 : decode cX5_readAttributeName 37 = .ok (.getfield 61, 3) := by decide +kernel
theorem dX5_readAttributeName_40 : decode cX5_readAttributeName 40 = .ok (.if_icmp .ge 52, 3) := by decide +kernel
theorem dX5_readAttributeName_43 : decode cX5_readAttributeName 43 = .ok (.aload_n 0, 1) := by decide +kernel
theorem dX5_readAttributeName_44 : decode cX5_readAttributeName 44 = .ok (.getfield 28, 3) := by decide +kernel
theorem dX5_readAttributeName_47 : decode cX5_readAttributeName 47 = .ok (.aload_n 0, 1) := by decide +kernel
theorem dX5_readAttributeName_48 : decode cX5_readAttributeName 48 = .ok (.getfield 58, 3) := by decide +kernel
theorem dX5_readAttributeName_51 : decode cX5_readAttributeName 51 = .ok (.invokevirtual 100, 3) := by decide +kernel
theorem dX5_readAttributeName_54 : decode cX5_readAttributeName 54 = .ok (.invokestatic 208, 3) := by decide +kernel
theorem dX5_readAttributeName_57 : decode cX5_readAttributeName 57 = .ok (.ifCond .ne 35, 3) := by decide +kernel
theorem dX5_readAttributeName_60 : decode cX5_readAttributeName 60 = .ok (.lload_n 1, 1) := by decide +kernel
theorem dX5_readAttributeName_61 : decode cX5_readAttributeName 61 = .ok (.aload_n 0, 1) := by decide +kernel
theorem dX5_readAttributeName_62 : decode cX5_readAttributeName 62 = .ok (.getfield 28, 3) := by decide +kernel
theorem dX5_readAttributeName_65 : decode cX5_readAttributeName 65 = .ok (.aload_n 0, 1) := by decide +kernel
theorem dX5_readAttributeName_66 : decode cX5_readAttributeName 66 = .ok (.getfield 58, 3) := by decide +kernel
theorem dX5_readAttributeName_69 : decode cX5_readAttributeName 69 = .ok (.invokevirtual 100, 3) := by decide +kernel
theorem dX5_readAttributeName_72 : decode cX5_readAttributeName 72 = .ok (.invokestatic 107, 3) := by decide +kernel
theorem dX5_readAttributeName_75 : decode cX5_readAttributeName 75 = .ok (.invokestatic 187, 3) := by decide +kernel
theorem dX5_readAttributeName_78 : decode cX5_readAttributeName 78 = .ok (.lstore_n 1, 1) := by decide +kernel
theorem dX5_readAttributeName_79 : decode cX5_readAttributeName 79 = .ok (.aload_n 0, 1) := by decide +kernel
theorem dX5_readAttributeName_80 : decode cX5_readAttributeName 80 = .ok (.dup, 1) := by decide +kernel
theorem dX5_readAttributeName_81 : decode cX5_readAttributeName 81 = .ok (.getfield 58, 3) := by decide +kernel
theorem dX5_readAttributeName_84 : decode cX5_readAttributeName 84 = .ok (.iconst 1, 1) := by decide +kernel
theorem dX5_readAttributeName_85 : decode cX5_readAttributeName 85 = .ok (.iadd, 1) := by decide +kernel
theorem dX5_readAttributeName_86 : decode cX5_readAttributeName 86 = .ok (.putfield 58, 3) := by decide +kernel
theorem dX5_readAttributeName_89 : decode cX5_readAttributeName 89 = .ok (.goto (-60), 3) := by decide +kernel
theorem dX5_readAttributeName_92 : decode cX5_readAttributeName 92 = .ok (.lload_n 1, 1) := by decide +kernel
theorem dX5_readAttributeName_93 : decode cX5_readAttributeName 93 = .ok (.lreturn, 1) := by decide +kernel
theorem dX5_endsValue_0 : decode cX5_endsValue 0 = .ok (.iload_n 1, 1) := by decide +kernel
theorem dX5_endsValue_1 : decode cX5_endsValue 1 = .ok (.ifCond .eq 16, 3) := by decide +kernel
theorem dX5_endsValue_4 : decode cX5_endsValue 4 = .ok (.iload_n 0, 1) := by decide +kernel
theorem dX5_endsValue_5 : decode cX5_endsValue 5 = .ok (.iload_n 2, 1) := by decide +kernel
theorem dX5_endsValue_6 : decode cX5_endsValue 6 = .ok (.if_icmp .ne 7, 3) := by decide +kernel
theorem dX5_endsValue_9 : decode cX5_endsValue 9 = .ok (.iconst 1, 1) := by decide +kernel
theorem dX5_endsValue_10 : decode cX5_endsValue 10 = .ok (.goto 25, 3) := by decide +kernel
theorem dX5_endsValue_13 : decode cX5_endsValue 13 = .ok (.iconst 0, 1) := by decide +kernel
theorem dX5_endsValue_14 : decode cX5_endsValue 14 = .ok (.goto 21, 3) := by decide +kernel
theorem dX5_endsValue_17 : decode cX5_endsValue 17 = .ok (.iload_n 0, 1) := by decide +kernel
theorem dX5_endsValue_18 : decode cX5_endsValue 18 = .ok (.invokestatic 152, 3) := by decide +kernel
theorem dX5_endsValue_21 : decode cX5_endsValue 21 = .ok (.ifCond .ne 9, 3) := by decide +kernel
theorem dX5_endsValue_24 : decode cX5_endsValue 24 = .ok (.iload_n 0, 1) := by decide +kernel
theorem dX5_endsValue_25 : decode cX5_endsValue 25 = .ok (.bipush 62, 2) := by decide +kernel
theorem dX5_endsValue_27 : decode cX5_endsValue 27 = .ok (.if_icmp .ne 7, 3) := by decide +kernel
theorem dX5_endsValue_30 : decode cX5_endsValue 30 = .ok (.iconst 1, 1) := by decide +kernel
theorem dX5_endsValue_31 : decode cX5_endsValue 31 = .ok (.goto 4, 3) := by decide +kernel
theorem dX5_endsValue_34 : decode cX5_endsValue 34 = .ok (.iconst 0, 1) := by decide +kernel
theorem dX5_endsValue_35 : decode cX5_endsValue 35 = .ok (.ireturn, 1) := by decide +kernel
theorem dX5_entityAt_0 : decode cX5_entityAt 0 = .ok (.aload_n 0, 1) := by decide +kernel
theorem dX5_entityAt_1 : decode cX5_entityAt 1 = .ok (.getfield 28, 3) := by decide +kernel
theorem dX5_entityAt_4 : decode cX5_entityAt 4 = .ok (.iload_n 1, 1) := by decide +kernel
theorem dX5_entityAt_5 : decode cX5_entityAt 5 = .ok (.invokevirtual 100, 3) := by decide +kernel
theorem dX5_entityAt_8 : decode cX5_entityAt 8 = .ok (.bipush 38, 2) := by decide +kernel
theorem dX5_entityAt_10 : decode cX5_entityAt 10 = .ok (.if_icmp .eq 5, 3) := by decide +kernel
theorem dX5_entityAt_13 : decode cX5_entityAt 13 = .ok (.iconst (-1), 1) := by decide +kernel
theorem dX5_entityAt_14 : decode cX5_entityAt 14 = .ok (.ireturn, 1) := by decide +kernel
theorem dX5_entityAt_15 : decode cX5_entityAt 15 = .ok (.aload_n 0, 1) := by decide +kernel
theorem dX5_entityAt_16 : decode cX5_entityAt 16 = .ok (.getfield 28, 3) := by decide +kernel
theorem dX5_entityAt_19 : decode cX5_entityAt 19 = .ok (.ldc 220, 2) := by decide +kernel
theorem dX5_entityAt_21 : decode cX5_entityAt 21 = .ok (.iload_n 1, 1) := by decide +kernel
theorem dX5_entityAt_22 : decode cX5_entityAt 22 = .ok (.invokevirtual 80, 3) := by decide +kernel
theorem dX5_entityAt_25 : decode cX5_entityAt 25 = .ok (.ifCond .eq 6, 3) := by decide +kernel
theorem dX5_entityAt_28 : decode cX5_entityAt 28 = .ok (.bipush 60, 2) := by decide +kernel
theorem dX5_entityAt_30 : decode cX5_entityAt 30 = .ok (.ireturn, 1) := by decide +kernel
theorem dX5_entityAt_31 : decode cX5_entityAt 31 = .ok (.aload_n 0, 1) := by decide +kernel
theorem dX5_entityAt_32 : decode cX5_entityAt 32 = .ok (.getfield 28, 3) := by decide +kernel
theorem dX5_entityAt_35 : decode cX5_entityAt 35 = .ok (.ldc 222, 2) := by decide +kernel
theorem dX5_entityAt_37 : decode cX5_entityAt 37 = .ok (.iload_n 1, 1) := by decide +kernel
theorem dX5_entityAt_38 : decode cX5_entityAt 38 = .ok (.invokevirtual 80, 3) := by decide +kernel
theorem dX5_entityAt_41 : decode cX5_entityAt 41 = .ok (.ifCond .eq 6, 3) := by decide +kernel
theorem dX5_entityAt_44 : decode cX5_entityAt 44 = .ok (.bipush 62, 2) := by decide +kernel
theorem dX5_entityAt_46 : decode cX5_entityAt 46 = .ok (.ireturn, 1) := by decide +kernel
theorem dX5_entityAt_47 : decode cX5_entityAt 47 = .ok (.aload_n 0, 1) := by decide +kernel
theorem dX5_entityAt_48 : decode cX5_entityAt 48 = .ok (.getfield 28, 3) := by decide +kernel
theorem dX5_entityAt_51 : decode cX5_entityAt 51 = .ok (.ldc 224, 2) := by decide +kernel
theorem dX5_entityAt_53 : decode cX5_entityAt 53 = .ok (.iload_n 1, 1) := by decide +kernel
theorem dX5_entityAt_54 : decode cX5_entityAt 54 = .ok (.invokevirtual 80, 3) := by decide +kernel
theorem dX5_entityAt_57 : decode cX5_entityAt 57 = .ok (.ifCond .eq 6, 3) := by decide +kernel
theorem dX5_entityAt_60 : decode cX5_entityAt 60 = .ok (.bipush 38, 2) := by decide +kernel
theorem dX5_entityAt_62 : decode cX5_entityAt 62 = .ok (.ireturn, 1) := by decide +kernel
theorem dX5_entityAt_63 : decode cX5_entityAt 63 = .ok (.aload_n 0, 1) := by decide +kernel
theorem dX5_entityAt_64 : decode cX5_entityAt 64 = .ok (.getfield 28, 3) := by decide +kernel
theorem dX5_entityAt_67 : decode cX5_entityAt 67 = .ok (.ldc 226, 2) := by decide +kernel
theorem dX5_entityAt_69 : decode cX5_entityAt 69 = .ok (.iload_n 1, 1) := by decide +kernel
theorem dX5_entityAt_70 : decode cX5_entityAt 70 = .ok (.invokevirtual 80, 3) := by decide +kernel
theorem dX5_entityAt_73 : decode cX5_entityAt 73 = .ok (.ifCond .eq 8, 3) := by decide +kernel
theorem dX5_entityAt_76 : decode cX5_entityAt 76 = .ok (.bipush 34, 2) := by decide +kernel
theorem dX5_entityAt_78 : decode cX5_entityAt 78 = .ok (.goto 4, 3) := by decide +kernel
theorem dX5_entityAt_81 : decode cX5_entityAt 81 = .ok (.iconst (-1), 1) := by decide +kernel
theorem dX5_entityAt_82 : decode cX5_entityAt 82 = .ok (.ireturn, 1) := by decide +kernel
theorem dX5_widthOf_0 : decode cX5_widthOf 0 = .ok (.iload_n 0, 1) := by decide +kernel
theorem dX5_widthOf_1 : decode cX5_widthOf 1 = .ok (.lookupswitch 67 #[(34, 61), (38, 55), (60, 43), (62, 49)], 43) := by decide +kernel
theorem dX5_widthOf_44 : decode cX5_widthOf 44 = .ok (.ldc 220, 2) := by decide +kernel
theorem dX5_widthOf_46 : decode cX5_widthOf 46 = .ok (.invokevirtual 159, 3) := by decide +kernel
theorem dX5_widthOf_49 : decode cX5_widthOf 49 = .ok (.ireturn, 1) := by decide +kernel
theorem dX5_widthOf_50 : decode cX5_widthOf 50 = .ok (.ldc 222, 2) := by decide +kernel
theorem dX5_widthOf_52 : decode cX5_widthOf 52 = .ok (.invokevirtual 159, 3) := by decide +kernel
theorem dX5_widthOf_55 : decode cX5_widthOf 55 = .ok (.ireturn, 1) := by decide +kernel
theorem dX5_widthOf_56 : decode cX5_widthOf 56 = .ok (.ldc 224, 2) := by decide +kernel
theorem dX5_widthOf_58 : decode cX5_widthOf 58 = .ok (.invokevirtual 159, 3) := by decide +kernel
theorem dX5_widthOf_61 : decode cX5_widthOf 61 = .ok (.ireturn, 1) := by decide +kernel
theorem dX5_widthOf_62 : decode cX5_widthOf 62 = .ok (.ldc 226, 2) := by decide +kernel
theorem dX5_widthOf_64 : decode cX5_widthOf 64 = .ok (.invokevirtual 159, 3) := by decide +kernel
theorem dX5_widthOf_67 : decode cX5_widthOf 67 = .ok (.ireturn, 1) := by decide +kernel
theorem dX5_widthOf_68 : decode cX5_widthOf 68 = .ok (.iconst 1, 1) := by decide +kernel
theorem dX5_widthOf_69 : decode cX5_widthOf 69 = .ok (.ireturn, 1) := by decide +kernel
theorem dX5_readValue_0 : decode cX5_readValue 0 = .ok (.aload_n 0, 1) := by decide +kernel
theorem dX5_readValue_1 : decode cX5_readValue 1 = .ok (.getfield 28, 3) := by decide +kernel
theorem dX5_readValue_4 : decode cX5_readValue 4 = .ok (.aload_n 0, 1) := by decide +kernel
theorem dX5_readValue_5 : decode cX5_readValue 5 = .ok (.getfield 58, 3) := by decide +kernel
theorem dX5_readValue_8 : decode cX5_readValue 8 = .ok (.invokevirtual 100, 3) := by decide +kernel
theorem dX5_readValue_11 : decode cX5_readValue 11 = .ok (.istore_n 2, 1) := by decide +kernel
theorem dX5_readValue_12 : decode cX5_readValue 12 = .ok (.iload_n 2, 1) := by decide +kernel
theorem dX5_readValue_13 : decode cX5_readValue 13 = .ok (.bipush 34, 2) := by decide +kernel
theorem dX5_readValue_15 : decode cX5_readValue 15 = .ok (.if_icmp .eq 9, 3) := by decide +kernel
theorem dX5_readValue_18 : decode cX5_readValue 18 = .ok (.iload_n 2, 1) := by decide +kernel
theorem dX5_readValue_19 : decode cX5_readValue 19 = .ok (.bipush 39, 2) := by decide +kernel
theorem dX5_readValue_21 : decode cX5_readValue 21 = .ok (.if_icmp .ne 7, 3) := by decide +kernel
theorem dX5_readValue_24 : decode cX5_readValue 24 = .ok (.iconst 1, 1) := by decide +kernel
theorem dX5_readValue_25 : decode cX5_readValue 25 = .ok (.goto 4, 3) := by decide +kernel
theorem dX5_readValue_28 : decode cX5_readValue 28 = .ok (.iconst 0, 1) := by decide +kernel
theorem dX5_readValue_29 : decode cX5_readValue 29 = .ok (.istore_n 3, 1) := by decide +kernel
theorem dX5_readValue_30 : decode cX5_readValue 30 = .ok (.iload_n 3, 1) := by decide +kernel
theorem dX5_readValue_31 : decode cX5_readValue 31 = .ok (.ifCond .eq 13, 3) := by decide +kernel
theorem dX5_readValue_34 : decode cX5_readValue 34 = .ok (.aload_n 0, 1) := by decide +kernel
theorem dX5_readValue_35 : decode cX5_readValue 35 = .ok (.dup, 1) := by decide +kernel
theorem dX5_readValue_36 : decode cX5_readValue 36 = .ok (.getfield 58, 3) := by decide +kernel
theorem dX5_readValue_39 : decode cX5_readValue 39 = .ok (.iconst 1, 1) := by decide +kernel
theorem dX5_readValue_40 : decode cX5_readValue 40 = .ok (.iadd, 1) := by decide +kernel
theorem dX5_readValue_41 : decode cX5_readValue 41 = .ok (.putfield 58, 3) := by decide +kernel
theorem dX5_readValue_44 : decode cX5_readValue 44 = .ok (.aload_n 0, 1) := by decide +kernel
theorem dX5_readValue_45 : decode cX5_readValue 45 = .ok (.getfield 58, 3) := by decide +kernel
theorem dX5_readValue_48 : decode cX5_readValue 48 = .ok (.aload_n 0, 1) := by decide +kernel
theorem dX5_readValue_49 : decode cX5_readValue 49 = .ok (.getfield 28, 3) := by decide +kernel
theorem dX5_readValue_52 : decode cX5_readValue 52 = .ok (.getfield 61, 3) := by decide +kernel
theorem dX5_readValue_55 : decode cX5_readValue 55 = .ok (.if_icmp .ge 79, 3) := by decide +kernel
theorem dX5_readValue_58 : decode cX5_readValue 58 = .ok (.aload_n 0, 1) := by decide +kernel
theorem dX5_readValue_59 : decode cX5_readValue 59 = .ok (.getfield 28, 3) := by decide +kernel
theorem dX5_readValue_62 : decode cX5_readValue 62 = .ok (.aload_n 0, 1) := by decide +kernel
theorem dX5_readValue_63 : decode cX5_readValue 63 = .ok (.getfield 58, 3) := by decide +kernel
theorem dX5_readValue_66 : decode cX5_readValue 66 = .ok (.invokevirtual 100, 3) := by decide +kernel
theorem dX5_readValue_69 : decode cX5_readValue 69 = .ok (.iload_n 3, 1) := by decide +kernel
theorem dX5_readValue_70 : decode cX5_readValue 70 = .ok (.iload_n 2, 1) := by decide +kernel
theorem dX5_readValue_71 : decode cX5_readValue 71 = .ok (.invokestatic 211, 3) := by decide +kernel
theorem dX5_readValue_74 : decode cX5_readValue 74 = .ok (.ifCond .ne 60, 3) := by decide +kernel
theorem dX5_readValue_77 : decode cX5_readValue 77 = .ok (.aload_n 0, 1) := by decide +kernel
theorem dX5_readValue_78 : decode cX5_readValue 78 = .ok (.aload_n 0, 1) := by decide +kernel
theorem dX5_readValue_79 : decode cX5_readValue 79 = .ok (.getfield 58, 3) := by decide +kernel
theorem dX5_readValue_82 : decode cX5_readValue 82 = .ok (.invokevirtual 117, 3) := by decide +kernel
theorem dX5_readValue_85 : decode cX5_readValue 85 = .ok (.istore 4, 2) := by decide +kernel
theorem dX5_readValue_87 : decode cX5_readValue 87 = .ok (.aload_n 1, 1) := by decide +kernel
theorem dX5_readValue_88 : decode cX5_readValue 88 = .ok (.ifnull 29, 3) := by decide +kernel
theorem dX5_readValue_91 : decode cX5_readValue 91 = .ok (.aload_n 1, 1) := by decide +kernel
theorem dX5_readValue_92 : decode cX5_readValue 92 = .ok (.iload 4, 2) := by decide +kernel
theorem dX5_readValue_94 : decode cX5_readValue 94 = .ok (.iconst (-1), 1) := by decide +kernel
theorem dX5_readValue_95 : decode cX5_readValue 95 = .ok (.if_icmp .ne 17, 3) := by decide +kernel
theorem dX5_readValue_98 : decode cX5_readValue 98 = .ok (.aload_n 0, 1) := by decide +kernel
theorem dX5_readValue_99 : decode cX5_readValue 99 = .ok (.getfield 28, 3) := by decide +kernel
theorem dX5_readValue_102 : decode cX5_readValue 102 = .ok (.aload_n 0, 1) := by decide +kernel
theorem dX5_readValue_103 : decode cX5_readValue 103 = .ok (.getfield 58, 3) := by decide +kernel
theorem dX5_readValue_106 : decode cX5_readValue 106 = .ok (.invokevirtual 100, 3) := by decide +kernel
theorem dX5_readValue_109 : decode cX5_readValue 109 = .ok (.goto 5, 3) := by decide +kernel
theorem dX5_readValue_112 : decode cX5_readValue 112 = .ok (.iload 4, 2) := by decide +kernel
theorem dX5_readValue_114 : decode cX5_readValue 114 = .ok (.invokevirtual 215, 3) := by decide +kernel
theorem dX5_readValue_117 : decode cX5_readValue 117 = .ok (.aload_n 0, 1) := by decide +kernel
theorem dX5_readValue_118 : decode cX5_readValue 118 = .ok (.dup, 1) := by decide +kernel
theorem dX5_readValue_119 : decode cX5_readValue 119 = .ok (.getfield 58, 3) := by decide +kernel
theorem dX5_readValue_122 : decode cX5_readValue 122 = .ok (.iload 4, 2) := by decide +kernel
theorem dX5_readValue_124 : decode cX5_readValue 124 = .ok (.invokestatic 127, 3) := by decide +kernel
theorem dX5_readValue_127 : decode cX5_readValue 127 = .ok (.iadd, 1) := by decide +kernel
theorem dX5_readValue_128 : decode cX5_readValue 128 = .ok (.putfield 58, 3) := by decide +kernel
theorem dX5_readValue_131 : decode cX5_readValue 131 = .ok (.goto (-87), 3) := by decide +kernel
theorem dX5_readValue_134 : decode cX5_readValue 134 = .ok (.iload_n 3, 1) := by decide +kernel
theorem dX5_readValue_135 : decode cX5_readValue 135 = .ok (.ifCond .eq 27, 3) := by decide +kernel
theorem dX5_readValue_138 : decode cX5_readValue 138 = .ok (.aload_n 0, 1) := by decide +kernel
theorem dX5_readValue_139 : decode cX5_readValue 139 = .ok (.getfield 58, 3) := by decide +kernel
theorem dX5_readValue_142 : decode cX5_readValue 142 = .ok (.aload_n 0, 1) := by decide +kernel
theorem dX5_readValue_143 : decode cX5_readValue 143 = .ok (.getfield 28, 3) := by decide +kernel
theorem dX5_readValue_146 : decode cX5_readValue 146 = .ok (.getfield 61, 3) := by decide +kernel
theorem dX5_readValue_149 : decode cX5_readValue 149 = .ok (.if_icmp .ge 13, 3) := by decide +kernel
theorem dX5_readValue_152 : decode cX5_readValue 152 = .ok (.aload_n 0, 1) := by decide +kernel
theorem dX5_readValue_153 : decode cX5_readValue 153 = .ok (.dup, 1) := by decide +kernel
theorem dX5_readValue_154 : decode cX5_readValue 154 = .ok (.getfield 58, 3) := by decide +kernel
theorem dX5_readValue_157 : decode cX5_readValue 157 = .ok (.iconst 1, 1) := by decide +kernel
theorem dX5_readValue_158 : decode cX5_readValue 158 = .ok (.iadd, 1) := by decide +kernel
theorem dX5_readValue_159 : decode cX5_readValue 159 = .ok (.putfield 58, 3) := by decide +kernel
theorem dX5_readValue_162 : decode cX5_readValue 162 = .ok (.return_, 1) := by decide +kernel
