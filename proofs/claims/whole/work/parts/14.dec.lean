theorem dX8_feed_0 : decode cX8_feed 0 = .ok (.aload_n 0, 1) := by decide +kernel
theorem dX8_feed_1 : decode cX8_feed 1 = .ok (.getfield 10, 3) := by decide +kernel
theorem dX8_feed_4 : decode cX8_feed 4 = .ok (.getfield 46, 3) := by decide +kernel
theorem dX8_feed_7 : decode cX8_feed 7 = .ok (.bipush 20, 2) := by decide +kernel
theorem dX8_feed_9 : decode cX8_feed 9 = .ok (.iadd, 1) := by decide +kernel
theorem dX8_feed_10 : decode cX8_feed 10 = .ok (.sipush 2000, 3) := by decide +kernel
theorem dX8_feed_13 : decode cX8_feed 13 = .ok (.if_icmp .le 5, 3) := by decide +kernel
theorem dX8_feed_16 : decode cX8_feed 16 = .ok (.iconst (-1), 1) := by decide +kernel
theorem dX8_feed_17 : decode cX8_feed 17 = .ok (.ireturn, 1) := by decide +kernel
theorem dX8_feed_18 : decode cX8_feed 18 = .ok (.aload_n 0, 1) := by decide +kernel
theorem dX8_feed_19 : decode cX8_feed 19 = .ok (.getfield 10, 3) := by decide +kernel
theorem dX8_feed_22 : decode cX8_feed 22 = .ok (.iload_n 1, 1) := by decide +kernel
theorem dX8_feed_23 : decode cX8_feed 23 = .ok (.invokevirtual 50, 3) := by decide +kernel
theorem dX8_feed_26 : decode cX8_feed 26 = .ok (.aload_n 0, 1) := by decide +kernel
theorem dX8_feed_27 : decode cX8_feed 27 = .ok (.getfield 10, 3) := by decide +kernel
theorem dX8_feed_30 : decode cX8_feed 30 = .ok (.iload_n 2, 1) := by decide +kernel
theorem dX8_feed_31 : decode cX8_feed 31 = .ok (.invokevirtual 50, 3) := by decide +kernel
theorem dX8_feed_34 : decode cX8_feed 34 = .ok (.aload_n 0, 1) := by decide +kernel
theorem dX8_feed_35 : decode cX8_feed 35 = .ok (.getfield 10, 3) := by decide +kernel
theorem dX8_feed_38 : decode cX8_feed 38 = .ok (.iload_n 3, 1) := by decide +kernel
theorem dX8_feed_39 : decode cX8_feed 39 = .ok (.invokevirtual 50, 3) := by decide +kernel
theorem dX8_feed_42 : decode cX8_feed 42 = .ok (.aload_n 0, 1) := by decide +kernel
theorem dX8_feed_43 : decode cX8_feed 43 = .ok (.getfield 10, 3) := by decide +kernel
theorem dX8_feed_46 : decode cX8_feed 46 = .ok (.iload 4, 2) := by decide +kernel
theorem dX8_feed_48 : decode cX8_feed 48 = .ok (.invokevirtual 50, 3) := by decide +kernel
theorem dX8_feed_51 : decode cX8_feed 51 = .ok (.aload_n 0, 1) := by decide +kernel
theorem dX8_feed_52 : decode cX8_feed 52 = .ok (.getfield 10, 3) := by decide +kernel
theorem dX8_feed_55 : decode cX8_feed 55 = .ok (.iload 5, 2) := by decide +kernel
theorem dX8_feed_57 : decode cX8_feed 57 = .ok (.invokevirtual 50, 3) := by decide +kernel
theorem dX8_feed_60 : decode cX8_feed 60 = .ok (.aload_n 0, 1) := by decide +kernel
theorem dX8_feed_61 : decode cX8_feed 61 = .ok (.getfield 10, 3) := by decide +kernel
theorem dX8_feed_64 : decode cX8_feed 64 = .ok (.getfield 46, 3) := by decide +kernel
theorem dX8_feed_67 : decode cX8_feed 67 = .ok (.ireturn, 1) := by decide +kernel
theorem dX8_end_0 : decode cX8_end 0 = .ok (.iload_n 1, 1) := by decide +kernel
theorem dX8_end_1 : decode cX8_end 1 = .ok (.ifCond .lt 14, 3) := by decide +kernel
theorem dX8_end_4 : decode cX8_end 4 = .ok (.iload_n 1, 1) := by decide +kernel
theorem dX8_end_5 : decode cX8_end 5 = .ok (.aload_n 0, 1) := by decide +kernel
theorem dX8_end_6 : decode cX8_end 6 = .ok (.getfield 10, 3) := by decide +kernel
theorem dX8_end_9 : decode cX8_end 9 = .ok (.getfield 46, 3) := by decide +kernel
theorem dX8_end_12 : decode cX8_end 12 = .ok (.if_icmp .le 5, 3) := by decide +kernel
theorem dX8_end_15 : decode cX8_end 15 = .ok (.iconst (-1), 1) := by decide +kernel
theorem dX8_end_16 : decode cX8_end 16 = .ok (.ireturn, 1) := by decide +kernel
theorem dX8_end_17 : decode cX8_end 17 = .ok (.aload_n 0, 1) := by decide +kernel
theorem dX8_end_18 : decode cX8_end 18 = .ok (.getfield 10, 3) := by decide +kernel
theorem dX8_end_21 : decode cX8_end 21 = .ok (.iload_n 1, 1) := by decide +kernel
theorem dX8_end_22 : decode cX8_end 22 = .ok (.putfield 46, 3) := by decide +kernel
theorem dX8_end_25 : decode cX8_end 25 = .ok (.iload_n 1, 1) := by decide +kernel
theorem dX8_end_26 : decode cX8_end 26 = .ok (.ireturn, 1) := by decide +kernel
theorem dX8_out_0 : decode cX8_out 0 = .ok (.aload_n 0, 1) := by decide +kernel
theorem dX8_out_1 : decode cX8_out 1 = .ok (.getfield 19, 3) := by decide +kernel
theorem dX8_out_4 : decode cX8_out 4 = .ok (.iload_n 1, 1) := by decide +kernel
theorem dX8_out_5 : decode cX8_out 5 = .ok (.invokevirtual 54, 3) := by decide +kernel
theorem dX8_out_8 : decode cX8_out 8 = .ok (.ireturn, 1) := by decide +kernel
theorem dX8_page_0 : decode cX8_page 0 = .ok (.aload_n 0, 1) := by decide +kernel
theorem dX8_page_1 : decode cX8_page 1 = .ok (.getfield 10, 3) := by decide +kernel
theorem dX8_page_4 : decode cX8_page 4 = .ok (.invokevirtual 58, 3) := by decide +kernel
theorem dX8_page_7 : decode cX8_page 7 = .ok (.istore_n 1, 1) := by decide +kernel
theorem dX8_page_8 : decode cX8_page 8 = .ok (.iconst (-1), 1) := by decide +kernel
theorem dX8_page_9 : decode cX8_page 9 = .ok (.istore_n 2, 1) := by decide +kernel
theorem dX8_page_10 : decode cX8_page 10 = .ok (.iload_n 1, 1) := by decide +kernel
theorem dX8_page_11 : decode cX8_page 11 = .ok (.iconst (-1), 1) := by decide +kernel
theorem dX8_page_12 : decode cX8_page 12 = .ok (.if_icmp .eq 12, 3) := by decide +kernel
theorem dX8_page_15 : decode cX8_page 15 = .ok (.sipush (-1000), 3) := by decide +kernel
theorem dX8_page_18 : decode cX8_page 18 = .ok (.iload_n 1, 1) := by decide +kernel
theorem dX8_page_19 : decode cX8_page 19 = .ok (.isub, 1) := by decide +kernel
theorem dX8_page_20 : decode cX8_page 20 = .ok (.istore_n 2, 1) := by decide +kernel
theorem dX8_page_21 : decode cX8_page 21 = .ok (.goto 31, 3) := by decide +kernel
theorem dX8_page_24 : decode cX8_page 24 = .ok (.aload_n 0, 1) := by decide +kernel
theorem dX8_page_25 : decode cX8_page 25 = .ok (.getfield 10, 3) := by decide +kernel
theorem dX8_page_28 : decode cX8_page 28 = .ok (.getfield 46, 3) := by decide +kernel
theorem dX8_page_31 : decode cX8_page 31 = .ok (.sipush 1500, 3) := by decide +kernel
theorem dX8_page_34 : decode cX8_page 34 = .ok (.if_icmp .gt 18, 3) := by decide +kernel
theorem dX8_page_37 : decode cX8_page 37 = .ok (.aload_n 0, 1) := by decide +kernel
theorem dX8_page_38 : decode cX8_page 38 = .ok (.getfield 42, 3) := by decide +kernel
theorem dX8_page_41 : decode cX8_page 41 = .ok (.invokevirtual 62, 3) := by decide +kernel
theorem dX8_page_44 : decode cX8_page 44 = .ok (.aload_n 0, 1) := by decide +kernel
theorem dX8_page_45 : decode cX8_page 45 = .ok (.getfield 33, 3) := by decide +kernel
theorem dX8_page_48 : decode cX8_page 48 = .ok (.getfield 65, 3) := by decide +kernel
theorem dX8_page_51 : decode cX8_page 51 = .ok (.istore_n 2, 1) := by decide +kernel
theorem dX8_page_52 : decode cX8_page 52 = .ok (.aload_n 0, 1) := by decide +kernel
theorem dX8_page_53 : decode cX8_page 53 = .ok (.getfield 10, 3) := by decide +kernel
theorem dX8_page_56 : decode cX8_page 56 = .ok (.iconst 0, 1) := by decide +kernel
theorem dX8_page_57 : decode cX8_page 57 = .ok (.putfield 46, 3) := by decide +kernel
theorem dX8_page_60 : decode cX8_page 60 = .ok (.iload_n 2, 1) := by decide +kernel
theorem dX8_page_61 : decode cX8_page 61 = .ok (.ireturn, 1) := by decide +kernel
theorem dX8_node_0 : decode cX8_node 0 = .ok (.aload_n 0, 1) := by decide +kernel
theorem dX8_node_1 : decode cX8_node 1 = .ok (.getfield 33, 3) := by decide +kernel
theorem dX8_node_4 : decode cX8_node 4 = .ok (.iload_n 1, 1) := by decide +kernel
theorem dX8_node_5 : decode cX8_node 5 = .ok (.invokevirtual 68, 3) := by decide +kernel
theorem dX8_node_8 : decode cX8_node 8 = .ok (.astore_n 3, 1) := by decide +kernel
theorem dX8_node_9 : decode cX8_node 9 = .ok (.aload_n 3, 1) := by decide +kernel
theorem dX8_node_10 : decode cX8_node 10 = .ok (.ifnonnull 5, 3) := by decide +kernel
theorem dX8_node_13 : decode cX8_node 13 = .ok (.iconst (-1), 1) := by decide +kernel
theorem dX8_node_14 : decode cX8_node 14 = .ok (.ireturn, 1) := by decide +kernel
theorem dX8_node_15 : decode cX8_node 15 = .ok (.iload_n 2, 1) := by decide +kernel
theorem dX8_node_16 : decode cX8_node 16 = .ok (.tableswitch 96 0 6 #[44, 49, 68, 73, 78, 86, 91], 44) := by decide +kernel
theorem dX8_node_60 : decode cX8_node 60 = .ok (.aload_n 3, 1) := by decide +kernel
theorem dX8_node_61 : decode cX8_node 61 = .ok (.getfield 72, 3) := by decide +kernel
theorem dX8_node_64 : decode cX8_node 64 = .ok (.ireturn, 1) := by decide +kernel
theorem dX8_node_65 : decode cX8_node 65 = .ok (.aload_n 3, 1) := by decide +kernel
theorem dX8_node_66 : decode cX8_node 66 = .ok (.getfield 77, 3) := by decide +kernel
theorem dX8_node_69 : decode cX8_node 69 = .ok (.ifnonnull 7, 3) := by decide +kernel
theorem dX8_node_72 : decode cX8_node 72 = .ok (.iconst (-1), 1) := by decide +kernel
theorem dX8_node_73 : decode cX8_node 73 = .ok (.goto 10, 3) := by decide +kernel
theorem dX8_node_76 : decode cX8_node 76 = .ok (.aload_n 3, 1) := by decide +kernel
theorem dX8_node_77 : decode cX8_node 77 = .ok (.getfield 77, 3) := by decide +kernel
theorem dX8_node_80 : decode cX8_node 80 = .ok (.getfield 81, 3) := by decide +kernel
theorem dX8_node_83 : decode cX8_node 83 = .ok (.ireturn, 1) := by decide +kernel
theorem dX8_node_84 : decode cX8_node 84 = .ok (.aload_n 3, 1) := by decide +kernel
theorem dX8_node_85 : decode cX8_node 85 = .ok (.invokevirtual 84, 3) := by decide +kernel
theorem dX8_node_88 : decode cX8_node 88 = .ok (.ireturn, 1) := by decide +kernel
theorem dX8_node_89 : decode cX8_node 89 = .ok (.aload_n 3, 1) := by decide +kernel
theorem dX8_node_90 : decode cX8_node 90 = .ok (.invokevirtual 87, 3) := by decide +kernel
theorem dX8_node_93 : decode cX8_node 93 = .ok (.ireturn, 1) := by decide +kernel
theorem dX8_node_94 : decode cX8_node 94 = .ok (.aload_n 3, 1) := by decide +kernel
theorem dX8_node_95 : decode cX8_node 95 = .ok (.getfield 90, 3) := by decide +kernel
theorem dX8_node_98 : decode cX8_node 98 = .ok (.getfield 94, 3) := by decide +kernel
theorem dX8_node_101 : decode cX8_node 101 = .ok (.ireturn, 1) := by decide +kernel
theorem dX8_node_102 : decode cX8_node 102 = .ok (.aload_n 3, 1) := by decide +kernel
theorem dX8_node_103 : decode cX8_node 103 = .ok (.getfield 97, 3) := by decide +kernel
theorem dX8_node_106 : decode cX8_node 106 = .ok (.ireturn, 1) := by decide +kernel
theorem dX8_node_107 : decode cX8_node 107 = .ok (.aload_n 3, 1) := by decide +kernel
theorem dX8_node_108 : decode cX8_node 108 = .ok (.getfield 98, 3) := by decide +kernel
theorem dX8_node_111 : decode cX8_node 111 = .ok (.ireturn, 1) := by decide +kernel
theorem dX8_node_112 : decode cX8_node 112 = .ok (.iconst (-1), 1) := by decide +kernel
theorem dX8_node_113 : decode cX8_node 113 = .ok (.ireturn, 1) := by decide +kernel
theorem dX8_kid_0 : decode cX8_kid 0 = .ok (.aload_n 0, 1) := by decide +kernel
theorem dX8_kid_1 : decode cX8_kid 1 = .ok (.getfield 33, 3) := by decide +kernel
theorem dX8_kid_4 : decode cX8_kid 4 = .ok (.iload_n 1, 1) := by decide +kernel
theorem dX8_kid_5 : decode cX8_kid 5 = .ok (.invokevirtual 68, 3) := by decide +kernel
theorem dX8_kid_8 : decode cX8_kid 8 = .ok (.astore_n 3, 1) := by decide +kernel
theorem dX8_kid_9 : decode cX8_kid 9 = .ok (.aload_n 3, 1) := by decide +kernel
theorem dX8_kid_10 : decode cX8_kid 10 = .ok (.ifnull 7, 3) := by decide +kernel
theorem dX8_kid_13 : decode cX8_kid 13 = .ok (.iload_n 2, 1) := by decide +kernel
theorem dX8_kid_14 : decode cX8_kid 14 = .ok (.ifCond .ge 5, 3) := by decide +kernel
theorem dX8_kid_17 : decode cX8_kid 17 = .ok (.iconst (-1), 1) := by decide +kernel
theorem dX8_kid_18 : decode cX8_kid 18 = .ok (.ireturn, 1) := by decide +kernel
theorem dX8_kid_19 : decode cX8_kid 19 = .ok (.iload_n 2, 1) := by decide +kernel
theorem dX8_kid_20 : decode cX8_kid 20 = .ok (.istore 4, 2) := by decide +kernel
theorem dX8_kid_22 : decode cX8_kid 22 = .ok (.aload_n 3, 1) := by decide +kernel
theorem dX8_kid_23 : decode cX8_kid 23 = .ok (.getfield 101, 3) := by decide +kernel
theorem dX8_kid_26 : decode cX8_kid 26 = .ok (.astore 5, 2) := by decide +kernel
theorem dX8_kid_28 : decode cX8_kid 28 = .ok (.aload 5, 2) := by decide +kernel
theorem dX8_kid_30 : decode cX8_kid 30 = .ok (.ifnull 27, 3) := by decide +kernel
theorem dX8_kid_33 : decode cX8_kid 33 = .ok (.iload 4, 2) := by decide +kernel
theorem dX8_kid_35 : decode cX8_kid 35 = .ok (.ifCond .ne 9, 3) := by decide +kernel
theorem dX8_kid_38 : decode cX8_kid 38 = .ok (.aload 5, 2) := by decide +kernel
theorem dX8_kid_40 : decode cX8_kid 40 = .ok (.getfield 81, 3) := by decide +kernel
theorem dX8_kid_43 : decode cX8_kid 43 = .ok (.ireturn, 1) := by decide +kernel
theorem dX8_kid_44 : decode cX8_kid 44 = .ok (.iinc 4 (-1), 3) := by decide +kernel
theorem dX8_kid_47 : decode cX8_kid 47 = .ok (.aload 5, 2) := by decide +kernel
theorem dX8_kid_49 : decode cX8_kid 49 = .ok (.getfield 104, 3) := by decide +kernel
theorem dX8_kid_52 : decode cX8_kid 52 = .ok (.astore 5, 2) := by decide +kernel
theorem dX8_kid_54 : decode cX8_kid 54 = .ok (.goto (-26), 3) := by decide +kernel
theorem dX8_kid_57 : decode cX8_kid 57 = .ok (.iconst (-1), 1) := by decide +kernel
theorem dX8_kid_58 : decode cX8_kid 58 = .ok (.ireturn, 1) := by decide +kernel
theorem dX8_name_0 : decode cX8_name 0 = .ok (.aload_n 0, 1) := by decide +kernel
theorem dX8_name_1 : decode cX8_name 1 = .ok (.getfield 33, 3) := by decide +kernel
theorem dX8_name_4 : decode cX8_name 4 = .ok (.iload_n 1, 1) := by decide +kernel
theorem dX8_name_5 : decode cX8_name 5 = .ok (.invokevirtual 68, 3) := by decide +kernel
theorem dX8_name_8 : decode cX8_name 8 = .ok (.astore_n 2, 1) := by decide +kernel
theorem dX8_name_9 : decode cX8_name 9 = .ok (.aload_n 2, 1) := by decide +kernel
theorem dX8_name_10 : decode cX8_name 10 = .ok (.ifnonnull 5, 3) := by decide +kernel
theorem dX8_name_13 : decode cX8_name 13 = .ok (.iconst (-1), 1) := by decide +kernel
theorem dX8_name_14 : decode cX8_name 14 = .ok (.ireturn, 1) := by decide +kernel
theorem dX8_name_15 : decode cX8_name 15 = .ok (.aload_n 0, 1) := by decide +kernel
theorem dX8_name_16 : decode cX8_name 16 = .ok (.getfield 19, 3) := by decide +kernel
theorem dX8_name_19 : decode cX8_name 19 = .ok (.iconst 0, 1) := by decide +kernel
theorem dX8_name_20 : decode cX8_name 20 = .ok (.putfield 107, 3) := by decide +kernel
theorem dX8_name_23 : decode cX8_name 23 = .ok (.aload_n 2, 1) := by decide +kernel
theorem dX8_name_24 : decode cX8_name 24 = .ok (.getfield 72, 3) := by decide +kernel
theorem dX8_name_27 : decode cX8_name 27 = .ok (.bipush 17, 2) := by decide +kernel
theorem dX8_name_29 : decode cX8_name 29 = .ok (.if_icmp .ne 21, 3) := by decide +kernel
theorem dX8_name_32 : decode cX8_name 32 = .ok (.aload_n 0, 1) := by decide +kernel
theorem dX8_name_33 : decode cX8_name 33 = .ok (.getfield 19, 3) := by decide +kernel
theorem dX8_name_36 : decode cX8_name 36 = .ok (.aload_n 2, 1) := by decide +kernel
theorem dX8_name_37 : decode cX8_name 37 = .ok (.getfield 108, 3) := by decide +kernel
theorem dX8_name_40 : decode cX8_name 40 = .ok (.aload_n 2, 1) := by decide +kernel
theorem dX8_name_41 : decode cX8_name 41 = .ok (.getfield 97, 3) := by decide +kernel
theorem dX8_name_44 : decode cX8_name 44 = .ok (.invokevirtual 112, 3) := by decide +kernel
theorem dX8_name_47 : decode cX8_name 47 = .ok (.goto 14, 3) := by decide +kernel
theorem dX8_name_50 : decode cX8_name 50 = .ok (.aload_n 0, 1) := by decide +kernel
theorem dX8_name_51 : decode cX8_name 51 = .ok (.getfield 19, 3) := by decide +kernel
theorem dX8_name_54 : decode cX8_name 54 = .ok (.aload_n 2, 1) := by decide +kernel
theorem dX8_name_55 : decode cX8_name 55 = .ok (.getfield 116, 3) := by decide +kernel
theorem dX8_name_58 : decode cX8_name 58 = .ok (.invokevirtual 120, 3) := by decide +kernel
theorem dX8_name_61 : decode cX8_name 61 = .ok (.aload_n 0, 1) := by decide +kernel
theorem dX8_name_62 : decode cX8_name 62 = .ok (.getfield 19, 3) := by decide +kernel
theorem dX8_name_65 : decode cX8_name 65 = .ok (.getfield 107, 3) := by decide +kernel
theorem dX8_name_68 : decode cX8_name 68 = .ok (.ireturn, 1) := by decide +kernel
theorem dX8_writeValue_0 : decode cX8_writeValue 0 = .ok (.aload_n 0, 1) := by decide +kernel
theorem dX8_writeValue_1 : decode cX8_writeValue 1 = .ok (.getfield 10, 3) := by decide +kernel
theorem dX8_writeValue_4 : decode cX8_writeValue 4 = .ok (.invokevirtual 154, 3) := by decide +kernel
theorem dX8_writeValue_7 : decode cX8_writeValue 7 = .ok (.istore_n 2, 1) := by decide +kernel
theorem dX8_writeValue_8 : decode cX8_writeValue 8 = .ok (.iload_n 2, 1) := by decide +kernel
theorem dX8_writeValue_9 : decode cX8_writeValue 9 = .ok (.ifCond .eq 5, 3) := by decide +kernel
theorem dX8_writeValue_12 : decode cX8_writeValue 12 = .ok (.iload_n 2, 1) := by decide +kernel
theorem dX8_writeValue_13 : decode cX8_writeValue 13 = .ok (.ireturn, 1) := by decide +kernel
theorem dX8_writeValue_14 : decode cX8_writeValue 14 = .ok (.aload_n 0, 1) := by decide +kernel
theorem dX8_writeValue_15 : decode cX8_writeValue 15 = .ok (.getfield 33, 3) := by decide +kernel
theorem dX8_writeValue_18 : decode cX8_writeValue 18 = .ok (.iload_n 1, 1) := by decide +kernel
theorem dX8_writeValue_19 : decode cX8_writeValue 19 = .ok (.invokevirtual 157, 3) := by decide +kernel
theorem dX8_writeValue_22 : decode cX8_writeValue 22 = .ok (.astore_n 3, 1) := by decide +kernel
theorem dX8_writeValue_23 : decode cX8_writeValue 23 = .ok (.aload_n 3, 1) := by decide +kernel
theorem dX8_writeValue_24 : decode cX8_writeValue 24 = .ok (.ifnonnull 5, 3) := by decide +kernel
theorem dX8_writeValue_27 : decode cX8_writeValue 27 = .ok (.iconst (-1), 1) := by decide +kernel
theorem dX8_writeValue_28 : decode cX8_writeValue 28 = .ok (.ireturn, 1) := by decide +kernel
theorem dX8_writeValue_29 : decode cX8_writeValue 29 = .ok (.aload_n 3, 1) := by decide +kernel
theorem dX8_writeValue_30 : decode cX8_writeValue 30 = .ok (.getfield 90, 3) := by decide +kernel
theorem dX8_writeValue_33 : decode cX8_writeValue 33 = .ok (.aload_n 0, 1) := by decide +kernel
theorem dX8_writeValue_34 : decode cX8_writeValue 34 = .ok (.getfield 10, 3) := by decide +kernel
theorem dX8_writeValue_37 : decode cX8_writeValue 37 = .ok (.aload_n 0, 1) := by decide +kernel
theorem dX8_writeValue_38 : decode cX8_writeValue 38 = .ok (.getfield 10, 3) := by decide +kernel
theorem dX8_writeValue_41 : decode cX8_writeValue 41 = .ok (.getfield 46, 3) := by decide +kernel
theorem dX8_writeValue_44 : decode cX8_writeValue 44 = .ok (.invokevirtual 160, 3) := by decide +kernel
theorem dX8_writeValue_47 : decode cX8_writeValue 47 = .ok (.invokevirtual 164, 3) := by decide +kernel
theorem dX8_writeValue_50 : decode cX8_writeValue 50 = .ok (.astore 4, 2) := by decide +kernel
theorem dX8_writeValue_52 : decode cX8_writeValue 52 = .ok (.aload 4, 2) := by decide +kernel
theorem dX8_writeValue_54 : decode cX8_writeValue 54 = .ok (.ifnonnull 5, 3) := by decide +kernel
theorem dX8_writeValue_57 : decode cX8_writeValue 57 = .ok (.iconst (-1), 1) := by decide +kernel
theorem dX8_writeValue_58 : decode cX8_writeValue 58 = .ok (.ireturn, 1) := by decide +kernel
theorem dX8_writeValue_59 : decode cX8_writeValue 59 = .ok (.aload_n 0, 1) := by decide +kernel
theorem dX8_writeValue_60 : decode cX8_writeValue 60 = .ok (.getfield 19, 3) := by decide +kernel
theorem dX8_writeValue_63 : decode cX8_writeValue 63 = .ok (.iconst 0, 1) := by decide +kernel
theorem dX8_writeValue_64 : decode cX8_writeValue 64 = .ok (.putfield 107, 3) := by decide +kernel
theorem dX8_writeValue_67 : decode cX8_writeValue 67 = .ok (.aload_n 0, 1) := by decide +kernel
theorem dX8_writeValue_68 : decode cX8_writeValue 68 = .ok (.getfield 19, 3) := by decide +kernel
theorem dX8_writeValue_71 : decode cX8_writeValue 71 = .ok (.aload 4, 2) := by decide +kernel
theorem dX8_writeValue_73 : decode cX8_writeValue 73 = .ok (.getfield 168, 3) := by decide +kernel
theorem dX8_writeValue_76 : decode cX8_writeValue 76 = .ok (.aload 4, 2) := by decide +kernel
theorem dX8_writeValue_78 : decode cX8_writeValue 78 = .ok (.getfield 173, 3) := by decide +kernel
theorem dX8_writeValue_81 : decode cX8_writeValue 81 = .ok (.invokevirtual 112, 3) := by decide +kernel
theorem dX8_writeValue_84 : decode cX8_writeValue 84 = .ok (.aload_n 0, 1) := by decide +kernel
theorem dX8_writeValue_85 : decode cX8_writeValue 85 = .ok (.getfield 19, 3) := by decide +kernel
theorem dX8_writeValue_88 : decode cX8_writeValue 88 = .ok (.getfield 107, 3) := by decide +kernel
theorem dX8_writeValue_91 : decode cX8_writeValue 91 = .ok (.ireturn, 1) := by decide +kernel
theorem dX8_attribute_0 : decode cX8_attribute 0 = .ok (.aload_n 0, 1) := by decide +kernel
theorem dX8_attribute_1 : decode cX8_attribute 1 = .ok (.iload_n 1, 1) := by decide +kernel
theorem dX8_attribute_2 : decode cX8_attribute 2 = .ok (.invokevirtual 124, 3) := by decide +kernel
theorem dX8_attribute_5 : decode cX8_attribute 5 = .ok (.istore_n 2, 1) := by decide +kernel
theorem dX8_attribute_6 : decode cX8_attribute 6 = .ok (.aload_n 0, 1) := by decide +kernel
theorem dX8_attribute_7 : decode cX8_attribute 7 = .ok (.getfield 10, 3) := by decide +kernel
theorem dX8_attribute_10 : decode cX8_attribute 10 = .ok (.iconst 0, 1) := by decide +kernel
theorem dX8_attribute_11 : decode cX8_attribute 11 = .ok (.putfield 46, 3) := by decide +kernel
theorem dX8_attribute_14 : decode cX8_attribute 14 = .ok (.iload_n 2, 1) := by decide +kernel
theorem dX8_attribute_15 : decode cX8_attribute 15 = .ok (.ireturn, 1) := by decide +kernel
theorem dX8_writeStartTag_0 : decode cX8_writeStartTag 0 = .ok (.aload_n 0, 1) := by decide +kernel
theorem dX8_writeStartTag_1 : decode cX8_writeStartTag 1 = .ok (.getfield 19, 3) := by decide +kernel
theorem dX8_writeStartTag_4 : decode cX8_writeStartTag 4 = .ok (.bipush 60, 2) := by decide +kernel
theorem dX8_writeStartTag_6 : decode cX8_writeStartTag 6 = .ok (.invokevirtual 215, 3) := by decide +kernel
theorem dX8_writeStartTag_9 : decode cX8_writeStartTag 9 = .ok (.aload_n 0, 1) := by decide +kernel
theorem dX8_writeStartTag_10 : decode cX8_writeStartTag 10 = .ok (.getfield 19, 3) := by decide +kernel
theorem dX8_writeStartTag_13 : decode cX8_writeStartTag 13 = .ok (.aload_n 1, 1) := by decide +kernel
theorem dX8_writeStartTag_14 : decode cX8_writeStartTag 14 = .ok (.getfield 116, 3) := by decide +kernel
theorem dX8_writeStartTag_17 : decode cX8_writeStartTag 17 = .ok (.invokevirtual 120, 3) := by decide +kernel
theorem dX8_writeStartTag_20 : decode cX8_writeStartTag 20 = .ok (.iconst 0, 1) := by decide +kernel
theorem dX8_writeStartTag_21 : decode cX8_writeStartTag 21 = .ok (.istore_n 2, 1) := by decide +kernel
theorem dX8_writeStartTag_22 : decode cX8_writeStartTag 22 = .ok (.iload_n 2, 1) := by decide +kernel
theorem dX8_writeStartTag_23 : decode cX8_writeStartTag 23 = .ok (.aload_n 1, 1) := by decide +kernel
theorem dX8_writeStartTag_24 : decode cX8_writeStartTag 24 = .ok (.getfield 90, 3) := by decide +kernel
theorem dX8_writeStartTag_27 : decode cX8_writeStartTag 27 = .ok (.getfield 94, 3) := by decide +kernel
theorem dX8_writeStartTag_30 : decode cX8_writeStartTag 30 = .ok (.if_icmp .ge 84, 3) := by decide +kernel
theorem dX8_writeStartTag_33 : decode cX8_writeStartTag 33 = .ok (.aload_n 1, 1) := by decide +kernel
theorem dX8_writeStartTag_34 : decode cX8_writeStartTag 34 = .ok (.getfield 90, 3) := by decide +kernel
theorem dX8_writeStartTag_37 : decode cX8_writeStartTag 37 = .ok (.iload_n 2, 1) := by decide +kernel
theorem dX8_writeStartTag_38 : decode cX8_writeStartTag 38 = .ok (.invokevirtual 219, 3) := by decide +kernel
theorem dX8_writeStartTag_41 : decode cX8_writeStartTag 41 = .ok (.astore_n 3, 1) := by decide +kernel
theorem dX8_writeStartTag_42 : decode cX8_writeStartTag 42 = .ok (.aload_n 3, 1) := by decide +kernel
theorem dX8_writeStartTag_43 : decode cX8_writeStartTag 43 = .ok (.ifnull 65, 3) := by decide +kernel
theorem dX8_writeStartTag_46 : decode cX8_writeStartTag 46 = .ok (.aload_n 0, 1) := by decide +kernel
theorem dX8_writeStartTag_47 : decode cX8_writeStartTag 47 = .ok (.getfield 19, 3) := by decide +kernel
theorem dX8_writeStartTag_50 : decode cX8_writeStartTag 50 = .ok (.bipush 32, 2) := by decide +kernel
theorem dX8_writeStartTag_52 : decode cX8_writeStartTag 52 = .ok (.invokevirtual 215, 3) := by decide +kernel
theorem dX8_writeStartTag_55 : decode cX8_writeStartTag 55 = .ok (.aload_n 0, 1) := by decide +kernel
theorem dX8_writeStartTag_56 : decode cX8_writeStartTag 56 = .ok (.getfield 19, 3) := by decide +kernel
theorem dX8_writeStartTag_59 : decode cX8_writeStartTag 59 = .ok (.aload_n 3, 1) := by decide +kernel
theorem dX8_writeStartTag_60 : decode cX8_writeStartTag 60 = .ok (.getfield 223, 3) := by decide +kernel
theorem dX8_writeStartTag_63 : decode cX8_writeStartTag 63 = .ok (.invokevirtual 120, 3) := by decide +kernel
theorem dX8_writeStartTag_66 : decode cX8_writeStartTag 66 = .ok (.aload_n 0, 1) := by decide +kernel
theorem dX8_writeStartTag_67 : decode cX8_writeStartTag 67 = .ok (.getfield 19, 3) := by decide +kernel
theorem dX8_writeStartTag_70 : decode cX8_writeStartTag 70 = .ok (.bipush 61, 2) := by decide +kernel
theorem dX8_writeStartTag_72 : decode cX8_writeStartTag 72 = .ok (.invokevirtual 215, 3) := by decide +kernel
theorem dX8_writeStartTag_75 : decode cX8_writeStartTag 75 = .ok (.aload_n 0, 1) := by decide +kernel
theorem dX8_writeStartTag_76 : decode cX8_writeStartTag 76 = .ok (.getfield 19, 3) := by decide +kernel
theorem dX8_writeStartTag_79 : decode cX8_writeStartTag 79 = .ok (.bipush 34, 2) := by decide +kernel
theorem dX8_writeStartTag_81 : decode cX8_writeStartTag 81 = .ok (.invokevirtual 215, 3) := by decide +kernel
theorem dX8_writeStartTag_84 : decode cX8_writeStartTag 84 = .ok (.aload_n 0, 1) := by decide +kernel
theorem dX8_writeStartTag_85 : decode cX8_writeStartTag 85 = .ok (.getfield 19, 3) := by decide +kernel
theorem dX8_writeStartTag_88 : decode cX8_writeStartTag 88 = .ok (.aload_n 3, 1) := by decide +kernel
theorem dX8_writeStartTag_89 : decode cX8_writeStartTag 89 = .ok (.getfield 168, 3) := by decide +kernel
theorem dX8_writeStartTag_92 : decode cX8_writeStartTag 92 = .ok (.aload_n 3, 1) := by decide +kernel
theorem dX8_writeStartTag_93 : decode cX8_writeStartTag 93 = .ok (.getfield 173, 3) := by decide +kernel
theorem dX8_writeStartTag_96 : decode cX8_writeStartTag 96 = .ok (.invokevirtual 216, 3) := by decide +kernel
theorem dX8_writeStartTag_99 : decode cX8_writeStartTag 99 = .ok (.aload_n 0, 1) := by decide +kernel
theorem dX8_writeStartTag_100 : decode cX8_writeStartTag 100 = .ok (.getfield 19, 3) := by decide +kernel
theorem dX8_writeStartTag_103 : decode cX8_writeStartTag 103 = .ok (.bipush 34, 2) := by decide +kernel
theorem dX8_writeStartTag_105 : decode cX8_writeStartTag 105 = .ok (.invokevirtual 215, 3) := by decide +kernel
theorem dX8_writeStartTag_108 : decode cX8_writeStartTag 108 = .ok (.iinc 2 1, 3) := by decide +kernel
theorem dX8_writeStartTag_111 : decode cX8_writeStartTag 111 = .ok (.goto (-89), 3) := by decide +kernel
theorem dX8_writeStartTag_114 : decode cX8_writeStartTag 114 = .ok (.aload_n 0, 1) := by decide +kernel
theorem dX8_writeStartTag_115 : decode cX8_writeStartTag 115 = .ok (.getfield 19, 3) := by decide +kernel
theorem dX8_writeStartTag_118 : decode cX8_writeStartTag 118 = .ok (.bipush 62, 2) := by decide +kernel
theorem dX8_writeStartTag_120 : decode cX8_writeStartTag 120 = .ok (.invokevirtual 215, 3) := by decide +kernel
theorem dX8_writeStartTag_123 : decode cX8_writeStartTag 123 = .ok (.return_, 1) := by decide +kernel
theorem dX8_writeText_0 : decode cX8_writeText 0 = .ok (.aload_n 1, 1) := by decide +kernel
theorem dX8_writeText_1 : decode cX8_writeText 1 = .ok (.getfield 77, 3) := by decide +kernel
theorem dX8_writeText_4 : decode cX8_writeText 4 = .ok (.ifnull 33, 3) := by decide +kernel
theorem dX8_writeText_7 : decode cX8_writeText 7 = .ok (.aload_n 1, 1) := by decide +kernel
theorem dX8_writeText_8 : decode cX8_writeText 8 = .ok (.getfield 77, 3) := by decide +kernel
theorem dX8_writeText_11 : decode cX8_writeText 11 = .ok (.getfield 72, 3) := by decide +kernel
theorem dX8_writeText_14 : decode cX8_writeText 14 = .ok (.bipush 15, 2) := by decide +kernel
theorem dX8_writeText_16 : decode cX8_writeText 16 = .ok (.if_icmp .ne 21, 3) := by decide +kernel
theorem dX8_writeText_19 : decode cX8_writeText 19 = .ok (.aload_n 0, 1) := by decide +kernel
theorem dX8_writeText_20 : decode cX8_writeText 20 = .ok (.getfield 19, 3) := by decide +kernel
theorem dX8_writeText_23 : decode cX8_writeText 23 = .ok (.aload_n 1, 1) := by decide +kernel
theorem dX8_writeText_24 : decode cX8_writeText 24 = .ok (.getfield 108, 3) := by decide +kernel
theorem dX8_writeText_27 : decode cX8_writeText 27 = .ok (.aload_n 1, 1) := by decide +kernel
theorem dX8_writeText_28 : decode cX8_writeText 28 = .ok (.getfield 97, 3) := by decide +kernel
theorem dX8_writeText_31 : decode cX8_writeText 31 = .ok (.invokevirtual 112, 3) := by decide +kernel
theorem dX8_writeText_34 : decode cX8_writeText 34 = .ok (.goto 18, 3) := by decide +kernel
theorem dX8_writeText_37 : decode cX8_writeText 37 = .ok (.aload_n 0, 1) := by decide +kernel
theorem dX8_writeText_38 : decode cX8_writeText 38 = .ok (.getfield 19, 3) := by decide +kernel
theorem dX8_writeText_41 : decode cX8_writeText 41 = .ok (.aload_n 1, 1) := by decide +kernel
theorem dX8_writeText_42 : decode cX8_writeText 42 = .ok (.getfield 108, 3) := by decide +kernel
theorem dX8_writeText_45 : decode cX8_writeText 45 = .ok (.aload_n 1, 1) := by decide +kernel
theorem dX8_writeText_46 : decode cX8_writeText 46 = .ok (.getfield 97, 3) := by decide +kernel
theorem dX8_writeText_49 : decode cX8_writeText 49 = .ok (.invokevirtual 216, 3) := by decide +kernel
theorem dX8_writeText_52 : decode cX8_writeText 52 = .ok (.return_, 1) := by decide +kernel
theorem dX8_writeNode_0 : decode cX8_writeNode 0 = .ok (.iload_n 2, 1) := by decide +kernel
theorem dX8_writeNode_1 : decode cX8_writeNode 1 = .ok (.bipush 20, 2) := by decide +kernel
theorem dX8_writeNode_3 : decode cX8_writeNode 3 = .ok (.if_icmp .le 4, 3) := by decide +kernel
theorem dX8_writeNode_6 : decode cX8_writeNode 6 = .ok (.return_, 1) := by decide +kernel
theorem dX8_writeNode_7 : decode cX8_writeNode 7 = .ok (.aload_n 1, 1) := by decide +kernel
theorem dX8_writeNode_8 : decode cX8_writeNode 8 = .ok (.getfield 72, 3) := by decide +kernel
theorem dX8_writeNode_11 : decode cX8_writeNode 11 = .ok (.bipush 17, 2) := by decide +kernel
theorem dX8_writeNode_13 : decode cX8_writeNode 13 = .ok (.if_icmp .ne 9, 3) := by decide +kernel
theorem dX8_writeNode_16 : decode cX8_writeNode 16 = .ok (.aload_n 0, 1) := by decide +kernel
theorem dX8_writeNode_17 : decode cX8_writeNode 17 = .ok (.aload_n 1, 1) := by decide +kernel
theorem dX8_writeNode_18 : decode cX8_writeNode 18 = .ok (.invokevirtual 209, 3) := by decide +kernel
theorem dX8_writeNode_21 : decode cX8_writeNode 21 = .ok (.return_, 1) := by decide +kernel
theorem dX8_writeNode_22 : decode cX8_writeNode 22 = .ok (.aload_n 0, 1) := by decide +kernel
theorem dX8_writeNode_23 : decode cX8_writeNode 23 = .ok (.aload_n 1, 1) := by decide +kernel
theorem dX8_writeNode_24 : decode cX8_writeNode 24 = .ok (.invokevirtual 212, 3) := by decide +kernel
theorem dX8_writeNode_27 : decode cX8_writeNode 27 = .ok (.aload_n 1, 1) := by decide +kernel
theorem dX8_writeNode_28 : decode cX8_writeNode 28 = .ok (.getfield 101, 3) := by decide +kernel
theorem dX8_writeNode_31 : decode cX8_writeNode 31 = .ok (.astore_n 3, 1) := by decide +kernel
theorem dX8_writeNode_32 : decode cX8_writeNode 32 = .ok (.aload_n 3, 1) := by decide +kernel
theorem dX8_writeNode_33 : decode cX8_writeNode 33 = .ok (.ifnull 19, 3) := by decide +kernel
theorem dX8_writeNode_36 : decode cX8_writeNode 36 = .ok (.aload_n 0, 1) := by decide +kernel
theorem dX8_writeNode_37 : decode cX8_writeNode 37 = .ok (.aload_n 3, 1) := by decide +kernel
theorem dX8_writeNode_38 : decode cX8_writeNode 38 = .ok (.iload_n 2, 1) := by decide +kernel
theorem dX8_writeNode_39 : decode cX8_writeNode 39 = .ok (.iconst 1, 1) := by decide +kernel
theorem dX8_writeNode_40 : decode cX8_writeNode 40 = .ok (.iadd, 1) := by decide +kernel
theorem dX8_writeNode_41 : decode cX8_writeNode 41 = .ok (.invokevirtual 127, 3) := by decide +kernel
theorem dX8_writeNode_44 : decode cX8_writeNode 44 = .ok (.aload_n 3, 1) := by decide +kernel
theorem dX8_writeNode_45 : decode cX8_writeNode 45 = .ok (.getfield 104, 3) := by decide +kernel
theorem dX8_writeNode_48 : decode cX8_writeNode 48 = .ok (.astore_n 3, 1) := by decide +kernel
theorem dX8_writeNode_49 : decode cX8_writeNode 49 = .ok (.goto (-17), 3) := by decide +kernel
theorem dX8_writeNode_52 : decode cX8_writeNode 52 = .ok (.aload_n 1, 1) := by decide +kernel
theorem dX8_writeNode_53 : decode cX8_writeNode 53 = .ok (.getfield 72, 3) := by decide +kernel
theorem dX8_writeNode_56 : decode cX8_writeNode 56 = .ok (.invokestatic 174, 3) := by decide +kernel
theorem dX8_writeNode_59 : decode cX8_writeNode 59 = .ok (.ifCond .ne 41, 3) := by decide +kernel
theorem dX8_writeNode_62 : decode cX8_writeNode 62 = .ok (.aload_n 0, 1) := by decide +kernel
theorem dX8_writeNode_63 : decode cX8_writeNode 63 = .ok (.getfield 19, 3) := by decide +kernel
theorem dX8_writeNode_66 : decode cX8_writeNode 66 = .ok (.bipush 60, 2) := by decide +kernel
theorem dX8_writeNode_68 : decode cX8_writeNode 68 = .ok (.invokevirtual 215, 3) := by decide +kernel
theorem dX8_writeNode_71 : decode cX8_writeNode 71 = .ok (.aload_n 0, 1) := by decide +kernel
theorem dX8_writeNode_72 : decode cX8_writeNode 72 = .ok (.getfield 19, 3) := by decide +kernel
theorem dX8_writeNode_75 : decode cX8_writeNode 75 = .ok (.bipush 47, 2) := by decide +kernel
theorem dX8_writeNode_77 : decode cX8_writeNode 77 = .ok (.invokevirtual 215, 3) := by decide +kernel
theorem dX8_writeNode_80 : decode cX8_writeNode 80 = .ok (.aload_n 0, 1) := by decide +kernel
theorem dX8_writeNode_81 : decode cX8_writeNode 81 = .ok (.getfield 19, 3) := by decide +kernel
theorem dX8_writeNode_84 : decode cX8_writeNode 84 = .ok (.aload_n 1, 1) := by decide +kernel
theorem dX8_writeNode_85 : decode cX8_writeNode 85 = .ok (.getfield 116, 3) := by decide +kernel
theorem dX8_writeNode_88 : decode cX8_writeNode 88 = .ok (.invokevirtual 120, 3) := by decide +kernel
theorem dX8_writeNode_91 : decode cX8_writeNode 91 = .ok (.aload_n 0, 1) := by decide +kernel
theorem dX8_writeNode_92 : decode cX8_writeNode 92 = .ok (.getfield 19, 3) := by decide +kernel
theorem dX8_writeNode_95 : decode cX8_writeNode 95 = .ok (.bipush 62, 2) := by decide +kernel
theorem dX8_writeNode_97 : decode cX8_writeNode 97 = .ok (.invokevirtual 215, 3) := by decide +kernel
theorem dX8_writeNode_100 : decode cX8_writeNode 100 = .ok (.return_, 1) := by decide +kernel
theorem dX8_serialise_0 : decode cX8_serialise 0 = .ok (.aload_n 0, 1) := by decide +kernel
theorem dX8_serialise_1 : decode cX8_serialise 1 = .ok (.getfield 33, 3) := by decide +kernel
theorem dX8_serialise_4 : decode cX8_serialise 4 = .ok (.iload_n 1, 1) := by decide +kernel
theorem dX8_serialise_5 : decode cX8_serialise 5 = .ok (.invokevirtual 68, 3) := by decide +kernel
theorem dX8_serialise_8 : decode cX8_serialise 8 = .ok (.astore_n 2, 1) := by decide +kernel
theorem dX8_serialise_9 : decode cX8_serialise 9 = .ok (.aload_n 2, 1) := by decide +kernel
theorem dX8_serialise_10 : decode cX8_serialise 10 = .ok (.ifnonnull 5, 3) := by decide +kernel
theorem dX8_serialise_13 : decode cX8_serialise 13 = .ok (.iconst (-1), 1) := by decide +kernel
theorem dX8_serialise_14 : decode cX8_serialise 14 = .ok (.ireturn, 1) := by decide +kernel
theorem dX8_serialise_15 : decode cX8_serialise 15 = .ok (.aload_n 0, 1) := by decide +kernel
theorem dX8_serialise_16 : decode cX8_serialise 16 = .ok (.getfield 19, 3) := by decide +kernel
theorem dX8_serialise_19 : decode cX8_serialise 19 = .ok (.iconst 0, 1) := by decide +kernel
theorem dX8_serialise_20 : decode cX8_serialise 20 = .ok (.putfield 107, 3) := by decide +kernel
theorem dX8_serialise_23 : decode cX8_serialise 23 = .ok (.aload_n 0, 1) := by decide +kernel
theorem dX8_serialise_24 : decode cX8_serialise 24 = .ok (.aload_n 2, 1) := by decide +kernel
theorem dX8_serialise_25 : decode cX8_serialise 25 = .ok (.iconst 0, 1) := by decide +kernel
theorem dX8_serialise_26 : decode cX8_serialise 26 = .ok (.invokevirtual 127, 3) := by decide +kernel
theorem dX8_serialise_29 : decode cX8_serialise 29 = .ok (.aload_n 0, 1) := by decide +kernel
theorem dX8_serialise_30 : decode cX8_serialise 30 = .ok (.getfield 19, 3) := by decide +kernel
theorem dX8_serialise_33 : decode cX8_serialise 33 = .ok (.getfield 107, 3) := by decide +kernel
theorem dX8_serialise_36 : decode cX8_serialise 36 = .ok (.ireturn, 1) := by decide +kernel
theorem dX8_fault_0 : decode cX8_fault 0 = .ok (.iload_n 2, 1) := by decide +kernel
theorem dX8_fault_1 : decode cX8_fault 1 = .ok (.ifCond .ne 12, 3) := by decide +kernel
theorem dX8_fault_4 : decode cX8_fault 4 = .ok (.aload_n 0, 1) := by decide +kernel
theorem dX8_fault_5 : decode cX8_fault 5 = .ok (.getfield 26, 3) := by decide +kernel
theorem dX8_fault_8 : decode cX8_fault 8 = .ok (.iload_n 1, 1) := by decide +kernel
theorem dX8_fault_9 : decode cX8_fault 9 = .ok (.invokevirtual 131, 3) := by decide +kernel
theorem dX8_fault_12 : decode cX8_fault 12 = .ok (.ireturn, 1) := by decide +kernel
theorem dX8_fault_13 : decode cX8_fault 13 = .ok (.iload_n 2, 1) := by decide +kernel
theorem dX8_fault_14 : decode cX8_fault 14 = .ok (.iconst 1, 1) := by decide +kernel
theorem dX8_fault_15 : decode cX8_fault 15 = .ok (.if_icmp .ne 14, 3) := by decide +kernel
theorem dX8_fault_18 : decode cX8_fault 18 = .ok (.aload_n 0, 1) := by decide +kernel
theorem dX8_fault_19 : decode cX8_fault 19 = .ok (.getfield 26, 3) := by decide +kernel
theorem dX8_fault_22 : decode cX8_fault 22 = .ok (.iload_n 1, 1) := by decide +kernel
theorem dX8_fault_23 : decode cX8_fault 23 = .ok (.invokevirtual 134, 3) := by decide +kernel
theorem dX8_fault_26 : decode cX8_fault 26 = .ok (.goto 4, 3) := by decide +kernel
theorem dX8_fault_29 : decode cX8_fault 29 = .ok (.iconst (-1), 1) := by decide +kernel
theorem dX8_fault_30 : decode cX8_fault 30 = .ok (.ireturn, 1) := by decide +kernel
theorem dX8_faults_0 : decode cX8_faults 0 = .ok (.aload_n 0, 1) := by decide +kernel
theorem dX8_faults_1 : decode cX8_faults 1 = .ok (.getfield 26, 3) := by decide +kernel
theorem dX8_faults_4 : decode cX8_faults 4 = .ok (.getfield 137, 3) := by decide +kernel
theorem dX8_faults_7 : decode cX8_faults 7 = .ok (.ireturn, 1) := by decide +kernel
theorem dX8_addElement_0 : decode cX8_addElement 0 = .ok (.aload_n 0, 1) := by decide +kernel
theorem dX8_addElement_1 : decode cX8_addElement 1 = .ok (.getfield 10, 3) := by decide +kernel
theorem dX8_addElement_4 : decode cX8_addElement 4 = .ok (.invokevirtual 154, 3) := by decide +kernel
theorem dX8_addElement_7 : decode cX8_addElement 7 = .ok (.istore_n 2, 1) := by decide +kernel
theorem dX8_addElement_8 : decode cX8_addElement 8 = .ok (.iload_n 2, 1) := by decide +kernel
theorem dX8_addElement_9 : decode cX8_addElement 9 = .ok (.ifCond .eq 5, 3) := by decide +kernel
theorem dX8_addElement_12 : decode cX8_addElement 12 = .ok (.iload_n 2, 1) := by decide +kernel
theorem dX8_addElement_13 : decode cX8_addElement 13 = .ok (.ireturn, 1) := by decide +kernel
theorem dX8_addElement_14 : decode cX8_addElement 14 = .ok (.aload_n 0, 1) := by decide +kernel
theorem dX8_addElement_15 : decode cX8_addElement 15 = .ok (.getfield 33, 3) := by decide +kernel
theorem dX8_addElement_18 : decode cX8_addElement 18 = .ok (.iload_n 1, 1) := by decide +kernel
theorem dX8_addElement_19 : decode cX8_addElement 19 = .ok (.invokevirtual 157, 3) := by decide +kernel
theorem dX8_addElement_22 : decode cX8_addElement 22 = .ok (.astore_n 3, 1) := by decide +kernel
theorem dX8_addElement_23 : decode cX8_addElement 23 = .ok (.aload_n 3, 1) := by decide +kernel
theorem dX8_addElement_24 : decode cX8_addElement 24 = .ok (.ifnull 13, 3) := by decide +kernel
theorem dX8_addElement_27 : decode cX8_addElement 27 = .ok (.aload_n 3, 1) := by decide +kernel
theorem dX8_addElement_28 : decode cX8_addElement 28 = .ok (.getfield 72, 3) := by decide +kernel
theorem dX8_addElement_31 : decode cX8_addElement 31 = .ok (.invokestatic 174, 3) := by decide +kernel
theorem dX8_addElement_34 : decode cX8_addElement 34 = .ok (.ifCond .eq 5, 3) := by decide +kernel
theorem dX8_addElement_37 : decode cX8_addElement 37 = .ok (.iconst (-1), 1) := by decide +kernel
theorem dX8_addElement_38 : decode cX8_addElement 38 = .ok (.ireturn, 1) := by decide +kernel
theorem dX8_addElement_39 : decode cX8_addElement 39 = .ok (.aload_n 0, 1) := by decide +kernel
theorem dX8_addElement_40 : decode cX8_addElement 40 = .ok (.getfield 10, 3) := by decide +kernel
theorem dX8_addElement_43 : decode cX8_addElement 43 = .ok (.aload_n 0, 1) := by decide +kernel
theorem dX8_addElement_44 : decode cX8_addElement 44 = .ok (.getfield 10, 3) := by decide +kernel
theorem dX8_addElement_47 : decode cX8_addElement 47 = .ok (.getfield 46, 3) := by decide +kernel
theorem dX8_addElement_50 : decode cX8_addElement 50 = .ok (.invokevirtual 160, 3) := by decide +kernel
theorem dX8_addElement_53 : decode cX8_addElement 53 = .ok (.lstore 4, 2) := by decide +kernel
theorem dX8_addElement_55 : decode cX8_addElement 55 = .ok (.aload_n 0, 1) := by decide +kernel
theorem dX8_addElement_56 : decode cX8_addElement 56 = .ok (.getfield 33, 3) := by decide +kernel
theorem dX8_addElement_59 : decode cX8_addElement 59 = .ok (.aload_n 3, 1) := by decide +kernel
theorem dX8_addElement_60 : decode cX8_addElement 60 = .ok (.lload 4, 2) := by decide +kernel
theorem dX8_addElement_62 : decode cX8_addElement 62 = .ok (.invokestatic 178, 3) := by decide +kernel
theorem dX8_addElement_65 : decode cX8_addElement 65 = .ok (.lload 4, 2) := by decide +kernel
theorem dX8_addElement_67 : decode cX8_addElement 67 = .ok (.invokevirtual 182, 3) := by decide +kernel
theorem dX8_addElement_70 : decode cX8_addElement 70 = .ok (.astore 6, 2) := by decide +kernel
theorem dX8_addElement_72 : decode cX8_addElement 72 = .ok (.aload 6, 2) := by decide +kernel
theorem dX8_addElement_74 : decode cX8_addElement 74 = .ok (.ifnonnull 7, 3) := by decide +kernel
theorem dX8_addElement_77 : decode cX8_addElement 77 = .ok (.iconst (-1), 1) := by decide +kernel
theorem dX8_addElement_78 : decode cX8_addElement 78 = .ok (.goto 8, 3) := by decide +kernel
theorem dX8_addElement_81 : decode cX8_addElement 81 = .ok (.aload 6, 2) := by decide +kernel
theorem dX8_addElement_83 : decode cX8_addElement 83 = .ok (.getfield 81, 3) := by decide +kernel
theorem dX8_addElement_86 : decode cX8_addElement 86 = .ok (.ireturn, 1) := by decide +kernel
theorem dX8_add_0 : decode cX8_add 0 = .ok (.aload_n 0, 1) := by decide +kernel
theorem dX8_add_1 : decode cX8_add 1 = .ok (.iload_n 1, 1) := by decide +kernel
theorem dX8_add_2 : decode cX8_add 2 = .ok (.invokevirtual 138, 3) := by decide +kernel
theorem dX8_add_5 : decode cX8_add 5 = .ok (.istore_n 2, 1) := by decide +kernel
theorem dX8_add_6 : decode cX8_add 6 = .ok (.aload_n 0, 1) := by decide +kernel
theorem dX8_add_7 : decode cX8_add 7 = .ok (.getfield 10, 3) := by decide +kernel
theorem dX8_add_10 : decode cX8_add 10 = .ok (.iconst 0, 1) := by decide +kernel
theorem dX8_add_11 : decode cX8_add 11 = .ok (.putfield 46, 3) := by decide +kernel
theorem dX8_add_14 : decode cX8_add 14 = .ok (.iload_n 2, 1) := by decide +kernel
theorem dX8_add_15 : decode cX8_add 15 = .ok (.ireturn, 1) := by decide +kernel
theorem dX8_replaceByText_0 : decode cX8_replaceByText 0 = .ok (.aload_n 0, 1) := by decide +kernel
theorem dX8_replaceByText_1 : decode cX8_replaceByText 1 = .ok (.getfield 10, 3) := by decide +kernel
theorem dX8_replaceByText_4 : decode cX8_replaceByText 4 = .ok (.invokevirtual 58, 3) := by decide +kernel
theorem dX8_replaceByText_7 : decode cX8_replaceByText 7 = .ok (.istore_n 2, 1) := by decide +kernel
theorem dX8_replaceByText_8 : decode cX8_replaceByText 8 = .ok (.iload_n 2, 1) := by decide +kernel
theorem dX8_replaceByText_9 : decode cX8_replaceByText 9 = .ok (.iconst (-1), 1) := by decide +kernel
theorem dX8_replaceByText_10 : decode cX8_replaceByText 10 = .ok (.if_icmp .eq 9, 3) := by decide +kernel
theorem dX8_replaceByText_13 : decode cX8_replaceByText 13 = .ok (.sipush (-1000), 3) := by decide +kernel
theorem dX8_replaceByText_16 : decode cX8_replaceByText 16 = .ok (.iload_n 2, 1) := by decide +kernel
theorem dX8_replaceByText_17 : decode cX8_replaceByText 17 = .ok (.isub, 1) := by decide +kernel
theorem dX8_replaceByText_18 : decode cX8_replaceByText 18 = .ok (.ireturn, 1) := by decide +kernel
theorem dX8_replaceByText_19 : decode cX8_replaceByText 19 = .ok (.aload_n 0, 1) := by decide +kernel
theorem dX8_replaceByText_20 : decode cX8_replaceByText 20 = .ok (.getfield 33, 3) := by decide +kernel
theorem dX8_replaceByText_23 : decode cX8_replaceByText 23 = .ok (.iload_n 1, 1) := by decide +kernel
theorem dX8_replaceByText_24 : decode cX8_replaceByText 24 = .ok (.invokevirtual 157, 3) := by decide +kernel
theorem dX8_replaceByText_27 : decode cX8_replaceByText 27 = .ok (.astore_n 3, 1) := by decide +kernel
theorem dX8_replaceByText_28 : decode cX8_replaceByText 28 = .ok (.aload_n 3, 1) := by decide +kernel
theorem dX8_replaceByText_29 : decode cX8_replaceByText 29 = .ok (.ifnull 22, 3) := by decide +kernel
theorem dX8_replaceByText_32 : decode cX8_replaceByText 32 = .ok (.aload_n 3, 1) := by decide +kernel
theorem dX8_replaceByText_33 : decode cX8_replaceByText 33 = .ok (.getfield 72, 3) := by decide +kernel
theorem dX8_replaceByText_36 : decode cX8_replaceByText 36 = .ok (.invokestatic 174, 3) := by decide +kernel
theorem dX8_replaceByText_39 : decode cX8_replaceByText 39 = .ok (.ifCond .ne 12, 3) := by decide +kernel
theorem dX8_replaceByText_42 : decode cX8_replaceByText 42 = .ok (.aload_n 3, 1) := by decide +kernel
theorem dX8_replaceByText_43 : decode cX8_replaceByText 43 = .ok (.getfield 98, 3) := by decide +kernel
theorem dX8_replaceByText_46 : decode cX8_replaceByText 46 = .ok (.bipush 20, 2) := by decide +kernel
theorem dX8_replaceByText_48 : decode cX8_replaceByText 48 = .ok (.if_icmp .lt 5, 3) := by decide +kernel
theorem dX8_replaceByText_51 : decode cX8_replaceByText 51 = .ok (.iconst (-1), 1) := by decide +kernel
theorem dX8_replaceByText_52 : decode cX8_replaceByText 52 = .ok (.ireturn, 1) := by decide +kernel
theorem dX8_replaceByText_53 : decode cX8_replaceByText 53 = .ok (.aload_n 0, 1) := by decide +kernel
theorem dX8_replaceByText_54 : decode cX8_replaceByText 54 = .ok (.getfield 10, 3) := by decide +kernel
theorem dX8_replaceByText_57 : decode cX8_replaceByText 57 = .ok (.getfield 46, 3) := by decide +kernel
theorem dX8_replaceByText_60 : decode cX8_replaceByText 60 = .ok (.ifCond .le 24, 3) := by decide +kernel
theorem dX8_replaceByText_63 : decode cX8_replaceByText 63 = .ok (.aload_n 3, 1) := by decide +kernel
theorem dX8_replaceByText_64 : decode cX8_replaceByText 64 = .ok (.getfield 101, 3) := by decide +kernel
theorem dX8_replaceByText_67 : decode cX8_replaceByText 67 = .ok (.ifnonnull 17, 3) := by decide +kernel
theorem dX8_replaceByText_70 : decode cX8_replaceByText 70 = .ok (.aload_n 0, 1) := by decide +kernel
theorem dX8_replaceByText_71 : decode cX8_replaceByText 71 = .ok (.getfield 33, 3) := by decide +kernel
theorem dX8_replaceByText_74 : decode cX8_replaceByText 74 = .ok (.getfield 65, 3) := by decide +kernel
theorem dX8_replaceByText_77 : decode cX8_replaceByText 77 = .ok (.bipush 120, 2) := by decide +kernel
theorem dX8_replaceByText_79 : decode cX8_replaceByText 79 = .ok (.if_icmp .lt 5, 3) := by decide +kernel
theorem dX8_replaceByText_82 : decode cX8_replaceByText 82 = .ok (.iconst (-1), 1) := by decide +kernel
theorem dX8_replaceByText_83 : decode cX8_replaceByText 83 = .ok (.ireturn, 1) := by decide +kernel
theorem dX8_replaceByText_84 : decode cX8_replaceByText 84 = .ok (.aload_n 0, 1) := by decide +kernel
theorem dX8_replaceByText_85 : decode cX8_replaceByText 85 = .ok (.getfield 33, 3) := by decide +kernel
theorem dX8_replaceByText_88 : decode cX8_replaceByText 88 = .ok (.aload_n 3, 1) := by decide +kernel
theorem dX8_replaceByText_89 : decode cX8_replaceByText 89 = .ok (.invokevirtual 186, 3) := by decide +kernel
theorem dX8_replaceByText_92 : decode cX8_replaceByText 92 = .ok (.aload_n 0, 1) := by decide +kernel
theorem dX8_replaceByText_93 : decode cX8_replaceByText 93 = .ok (.getfield 10, 3) := by decide +kernel
theorem dX8_replaceByText_96 : decode cX8_replaceByText 96 = .ok (.getfield 46, 3) := by decide +kernel
theorem dX8_replaceByText_99 : decode cX8_replaceByText 99 = .ok (.ifCond .le 40, 3) := by decide +kernel
theorem dX8_replaceByText_102 : decode cX8_replaceByText 102 = .ok (.aload_n 0, 1) := by decide +kernel
theorem dX8_replaceByText_103 : decode cX8_replaceByText 103 = .ok (.getfield 33, 3) := by decide +kernel
theorem dX8_replaceByText_106 : decode cX8_replaceByText 106 = .ok (.aload_n 3, 1) := by decide +kernel
theorem dX8_replaceByText_107 : decode cX8_replaceByText 107 = .ok (.bipush 17, 2) := by decide +kernel
theorem dX8_replaceByText_109 : decode cX8_replaceByText 109 = .ok (.lconst 0, 1) := by decide +kernel
theorem dX8_replaceByText_110 : decode cX8_replaceByText 110 = .ok (.invokevirtual 182, 3) := by decide +kernel
theorem dX8_replaceByText_113 : decode cX8_replaceByText 113 = .ok (.astore 4, 2) := by decide +kernel
theorem dX8_replaceByText_115 : decode cX8_replaceByText 115 = .ok (.aload 4, 2) := by decide +kernel
theorem dX8_replaceByText_117 : decode cX8_replaceByText 117 = .ok (.ifnull 22, 3) := by decide +kernel
theorem dX8_replaceByText_120 : decode cX8_replaceByText 120 = .ok (.aload 4, 2) := by decide +kernel
theorem dX8_replaceByText_122 : decode cX8_replaceByText 122 = .ok (.aload_n 0, 1) := by decide +kernel
theorem dX8_replaceByText_123 : decode cX8_replaceByText 123 = .ok (.getfield 10, 3) := by decide +kernel
theorem dX8_replaceByText_126 : decode cX8_replaceByText 126 = .ok (.getfield 189, 3) := by decide +kernel
theorem dX8_replaceByText_129 : decode cX8_replaceByText 129 = .ok (.aload_n 0, 1) := by decide +kernel
theorem dX8_replaceByText_130 : decode cX8_replaceByText 130 = .ok (.getfield 10, 3) := by decide +kernel
theorem dX8_replaceByText_133 : decode cX8_replaceByText 133 = .ok (.getfield 46, 3) := by decide +kernel
theorem dX8_replaceByText_136 : decode cX8_replaceByText 136 = .ok (.invokevirtual 190, 3) := by decide +kernel
theorem dX8_replaceByText_139 : decode cX8_replaceByText 139 = .ok (.aload_n 0, 1) := by decide +kernel
theorem dX8_replaceByText_140 : decode cX8_replaceByText 140 = .ok (.getfield 33, 3) := by decide +kernel
theorem dX8_replaceByText_143 : decode cX8_replaceByText 143 = .ok (.getfield 65, 3) := by decide +kernel
theorem dX8_replaceByText_146 : decode cX8_replaceByText 146 = .ok (.ireturn, 1) := by decide +kernel
theorem dX8_text_0 : decode cX8_text 0 = .ok (.aload_n 0, 1) := by decide +kernel
theorem dX8_text_1 : decode cX8_text 1 = .ok (.iload_n 1, 1) := by decide +kernel
theorem dX8_text_2 : decode cX8_text 2 = .ok (.invokevirtual 141, 3) := by decide +kernel
theorem dX8_text_5 : decode cX8_text 5 = .ok (.istore_n 2, 1) := by decide +kernel
theorem dX8_text_6 : decode cX8_text 6 = .ok (.aload_n 0, 1) := by decide +kernel
theorem dX8_text_7 : decode cX8_text 7 = .ok (.getfield 10, 3) := by decide +kernel
theorem dX8_text_10 : decode cX8_text 10 = .ok (.iconst 0, 1) := by decide +kernel
theorem dX8_text_11 : decode cX8_text 11 = .ok (.putfield 46, 3) := by decide +kernel
theorem dX8_text_14 : decode cX8_text 14 = .ok (.iload_n 2, 1) := by decide +kernel
theorem dX8_text_15 : decode cX8_text 15 = .ok (.ireturn, 1) := by decide +kernel
theorem dX8_setAttribute_0 : decode cX8_setAttribute 0 = .ok (.aload_n 0, 1) := by decide +kernel
theorem dX8_setAttribute_1 : decode cX8_setAttribute 1 = .ok (.getfield 10, 3) := by decide +kernel
theorem dX8_setAttribute_4 : decode cX8_setAttribute 4 = .ok (.invokevirtual 193, 3) := by decide +kernel
theorem dX8_setAttribute_7 : decode cX8_setAttribute 7 = .ok (.istore_n 2, 1) := by decide +kernel
theorem dX8_setAttribute_8 : decode cX8_setAttribute 8 = .ok (.iload_n 2, 1) := by decide +kernel
theorem dX8_setAttribute_9 : decode cX8_setAttribute 9 = .ok (.ifCond .eq 5, 3) := by decide +kernel
theorem dX8_setAttribute_12 : decode cX8_setAttribute 12 = .ok (.iload_n 2, 1) := by decide +kernel
theorem dX8_setAttribute_13 : decode cX8_setAttribute 13 = .ok (.ireturn, 1) := by decide +kernel
theorem dX8_setAttribute_14 : decode cX8_setAttribute 14 = .ok (.aload_n 0, 1) := by decide +kernel
theorem dX8_setAttribute_15 : decode cX8_setAttribute 15 = .ok (.getfield 33, 3) := by decide +kernel
theorem dX8_setAttribute_18 : decode cX8_setAttribute 18 = .ok (.iload_n 1, 1) := by decide +kernel
theorem dX8_setAttribute_19 : decode cX8_setAttribute 19 = .ok (.invokevirtual 157, 3) := by decide +kernel
theorem dX8_setAttribute_22 : decode cX8_setAttribute 22 = .ok (.astore_n 3, 1) := by decide +kernel
theorem dX8_setAttribute_23 : decode cX8_setAttribute 23 = .ok (.aload_n 3, 1) := by decide +kernel
theorem dX8_setAttribute_24 : decode cX8_setAttribute 24 = .ok (.ifnonnull 5, 3) := by decide +kernel
theorem dX8_setAttribute_27 : decode cX8_setAttribute 27 = .ok (.iconst (-1), 1) := by decide +kernel
theorem dX8_setAttribute_28 : decode cX8_setAttribute 28 = .ok (.ireturn, 1) := by decide +kernel
theorem dX8_setAttribute_29 : decode cX8_setAttribute 29 = .ok (.aload_n 0, 1) := by decide +kernel
theorem dX8_setAttribute_30 : decode cX8_setAttribute 30 = .ok (.getfield 10, 3) := by decide +kernel
theorem dX8_setAttribute_33 : decode cX8_setAttribute 33 = .ok (.invokevirtual 196, 3) := by decide +kernel
theorem dX8_setAttribute_36 : decode cX8_setAttribute 36 = .ok (.istore 4, 2) := by decide +kernel
theorem dX8_setAttribute_38 : decode cX8_setAttribute 38 = .ok (.aload_n 0, 1) := by decide +kernel
theorem dX8_setAttribute_39 : decode cX8_setAttribute 39 = .ok (.getfield 10, 3) := by decide +kernel
theorem dX8_setAttribute_42 : decode cX8_setAttribute 42 = .ok (.iload 4, 2) := by decide +kernel
theorem dX8_setAttribute_44 : decode cX8_setAttribute 44 = .ok (.invokevirtual 160, 3) := by decide +kernel
theorem dX8_setAttribute_47 : decode cX8_setAttribute 47 = .ok (.lstore 5, 2) := by decide +kernel
theorem dX8_setAttribute_49 : decode cX8_setAttribute 49 = .ok (.aload_n 3, 1) := by decide +kernel
theorem dX8_setAttribute_50 : decode cX8_setAttribute 50 = .ok (.getfield 90, 3) := by decide +kernel
theorem dX8_setAttribute_53 : decode cX8_setAttribute 53 = .ok (.lload 5, 2) := by decide +kernel
theorem dX8_setAttribute_55 : decode cX8_setAttribute 55 = .ok (.invokevirtual 164, 3) := by decide +kernel
theorem dX8_setAttribute_58 : decode cX8_setAttribute 58 = .ok (.astore 7, 2) := by decide +kernel
theorem dX8_setAttribute_60 : decode cX8_setAttribute 60 = .ok (.aload 7, 2) := by decide +kernel
theorem dX8_setAttribute_62 : decode cX8_setAttribute 62 = .ok (.ifnonnull 14, 3) := by decide +kernel
theorem dX8_setAttribute_65 : decode cX8_setAttribute 65 = .ok (.aload_n 3, 1) := by decide +kernel
theorem dX8_setAttribute_66 : decode cX8_setAttribute 66 = .ok (.getfield 90, 3) := by decide +kernel
theorem dX8_setAttribute_69 : decode cX8_setAttribute 69 = .ok (.lload 5, 2) := by decide +kernel
theorem dX8_setAttribute_71 : decode cX8_setAttribute 71 = .ok (.invokevirtual 199, 3) := by decide +kernel
theorem dX8_setAttribute_74 : decode cX8_setAttribute 74 = .ok (.astore 7, 2) := by decide +kernel
theorem dX8_setAttribute_76 : decode cX8_setAttribute 76 = .ok (.aload 7, 2) := by decide +kernel
theorem dX8_setAttribute_78 : decode cX8_setAttribute 78 = .ok (.ifnonnull 5, 3) := by decide +kernel
theorem dX8_setAttribute_81 : decode cX8_setAttribute 81 = .ok (.iconst (-1), 1) := by decide +kernel
theorem dX8_setAttribute_82 : decode cX8_setAttribute 82 = .ok (.ireturn, 1) := by decide +kernel
theorem dX8_setAttribute_83 : decode cX8_setAttribute 83 = .ok (.aload 7, 2) := by decide +kernel
theorem dX8_setAttribute_85 : decode cX8_setAttribute 85 = .ok (.iconst 0, 1) := by decide +kernel
theorem dX8_setAttribute_86 : decode cX8_setAttribute 86 = .ok (.putfield 173, 3) := by decide +kernel
theorem dX8_setAttribute_89 : decode cX8_setAttribute 89 = .ok (.iload 4, 2) := by decide +kernel
theorem dX8_setAttribute_91 : decode cX8_setAttribute 91 = .ok (.iconst 1, 1) := by decide +kernel
theorem dX8_setAttribute_92 : decode cX8_setAttribute 92 = .ok (.iadd, 1) := by decide +kernel
theorem dX8_setAttribute_93 : decode cX8_setAttribute 93 = .ok (.istore 8, 2) := by decide +kernel
theorem dX8_setAttribute_95 : decode cX8_setAttribute 95 = .ok (.iload 8, 2) := by decide +kernel
theorem dX8_setAttribute_97 : decode cX8_setAttribute 97 = .ok (.aload_n 0, 1) := by decide +kernel
theorem dX8_setAttribute_98 : decode cX8_setAttribute 98 = .ok (.getfield 10, 3) := by decide +kernel
theorem dX8_setAttribute_101 : decode cX8_setAttribute 101 = .ok (.getfield 46, 3) := by decide +kernel
theorem dX8_setAttribute_104 : decode cX8_setAttribute 104 = .ok (.if_icmp .ge 23, 3) := by decide +kernel
theorem dX8_setAttribute_107 : decode cX8_setAttribute 107 = .ok (.aload 7, 2) := by decide +kernel
theorem dX8_setAttribute_109 : decode cX8_setAttribute 109 = .ok (.aload_n 0, 1) := by decide +kernel
theorem dX8_setAttribute_110 : decode cX8_setAttribute 110 = .ok (.getfield 10, 3) := by decide +kernel
theorem dX8_setAttribute_113 : decode cX8_setAttribute 113 = .ok (.iload 8, 2) := by decide +kernel
theorem dX8_setAttribute_115 : decode cX8_setAttribute 115 = .ok (.invokevirtual 201, 3) := by decide +kernel
theorem dX8_setAttribute_118 : decode cX8_setAttribute 118 = .ok (.invokevirtual 202, 3) := by decide +kernel
theorem dX8_setAttribute_121 : decode cX8_setAttribute 121 = .ok (.iinc 8 1, 3) := by decide +kernel
theorem dX8_setAttribute_124 : decode cX8_setAttribute 124 = .ok (.goto (-29), 3) := by decide +kernel
theorem dX8_setAttribute_127 : decode cX8_setAttribute 127 = .ok (.aload_n 3, 1) := by decide +kernel
theorem dX8_setAttribute_128 : decode cX8_setAttribute 128 = .ok (.getfield 90, 3) := by decide +kernel
theorem dX8_setAttribute_131 : decode cX8_setAttribute 131 = .ok (.getfield 94, 3) := by decide +kernel
theorem dX8_setAttribute_134 : decode cX8_setAttribute 134 = .ok (.ireturn, 1) := by decide +kernel
theorem dX8_set_0 : decode cX8_set 0 = .ok (.aload_n 0, 1) := by decide +kernel
theorem dX8_set_1 : decode cX8_set 1 = .ok (.iload_n 1, 1) := by decide +kernel
theorem dX8_set_2 : decode cX8_set 2 = .ok (.invokevirtual 144, 3) := by decide +kernel
theorem dX8_set_5 : decode cX8_set 5 = .ok (.istore_n 2, 1) := by decide +kernel
theorem dX8_set_6 : decode cX8_set 6 = .ok (.aload_n 0, 1) := by decide +kernel
theorem dX8_set_7 : decode cX8_set 7 = .ok (.getfield 10, 3) := by decide +kernel
theorem dX8_set_10 : decode cX8_set 10 = .ok (.iconst 0, 1) := by decide +kernel
theorem dX8_set_11 : decode cX8_set 11 = .ok (.putfield 46, 3) := by decide +kernel
theorem dX8_set_14 : decode cX8_set 14 = .ok (.iload_n 2, 1) := by decide +kernel
theorem dX8_set_15 : decode cX8_set 15 = .ok (.ireturn, 1) := by decide +kernel
theorem dX8_remove_0 : decode cX8_remove 0 = .ok (.aload_n 0, 1) := by decide +kernel
theorem dX8_remove_1 : decode cX8_remove 1 = .ok (.getfield 33, 3) := by decide +kernel
theorem dX8_remove_4 : decode cX8_remove 4 = .ok (.iload_n 1, 1) := by decide +kernel
theorem dX8_remove_5 : decode cX8_remove 5 = .ok (.invokevirtual 68, 3) := by decide +kernel
theorem dX8_remove_8 : decode cX8_remove 8 = .ok (.astore_n 2, 1) := by decide +kernel
theorem dX8_remove_9 : decode cX8_remove 9 = .ok (.aload_n 2, 1) := by decide +kernel
theorem dX8_remove_10 : decode cX8_remove 10 = .ok (.ifnull 10, 3) := by decide +kernel
theorem dX8_remove_13 : decode cX8_remove 13 = .ok (.aload_n 2, 1) := by decide +kernel
theorem dX8_remove_14 : decode cX8_remove 14 = .ok (.getfield 77, 3) := by decide +kernel
theorem dX8_remove_17 : decode cX8_remove 17 = .ok (.ifnonnull 5, 3) := by decide +kernel
theorem dX8_remove_20 : decode cX8_remove 20 = .ok (.iconst (-1), 1) := by decide +kernel
theorem dX8_remove_21 : decode cX8_remove 21 = .ok (.ireturn, 1) := by decide +kernel
theorem dX8_remove_22 : decode cX8_remove 22 = .ok (.aload_n 0, 1) := by decide +kernel
theorem dX8_remove_23 : decode cX8_remove 23 = .ok (.getfield 33, 3) := by decide +kernel
theorem dX8_remove_26 : decode cX8_remove 26 = .ok (.aload_n 2, 1) := by decide +kernel
theorem dX8_remove_27 : decode cX8_remove 27 = .ok (.invokevirtual 147, 3) := by decide +kernel
theorem dX8_remove_30 : decode cX8_remove 30 = .ok (.aload_n 0, 1) := by decide +kernel
theorem dX8_remove_31 : decode cX8_remove 31 = .ok (.getfield 33, 3) := by decide +kernel
theorem dX8_remove_34 : decode cX8_remove 34 = .ok (.getfield 65, 3) := by decide +kernel
theorem dX8_remove_37 : decode cX8_remove 37 = .ok (.ireturn, 1) := by decide +kernel
theorem dX8_findElement_0 : decode cX8_findElement 0 = .ok (.aload_n 0, 1) := by decide +kernel
theorem dX8_findElement_1 : decode cX8_findElement 1 = .ok (.getfield 10, 3) := by decide +kernel
theorem dX8_findElement_4 : decode cX8_findElement 4 = .ok (.invokevirtual 154, 3) := by decide +kernel
theorem dX8_findElement_7 : decode cX8_findElement 7 = .ok (.istore_n 2, 1) := by decide +kernel
theorem dX8_findElement_8 : decode cX8_findElement 8 = .ok (.iload_n 2, 1) := by decide +kernel
theorem dX8_findElement_9 : decode cX8_findElement 9 = .ok (.ifCond .eq 5, 3) := by decide +kernel
theorem dX8_findElement_12 : decode cX8_findElement 12 = .ok (.iload_n 2, 1) := by decide +kernel
theorem dX8_findElement_13 : decode cX8_findElement 13 = .ok (.ireturn, 1) := by decide +kernel
theorem dX8_findElement_14 : decode cX8_findElement 14 = .ok (.aload_n 0, 1) := by decide +kernel
theorem dX8_findElement_15 : decode cX8_findElement 15 = .ok (.getfield 33, 3) := by decide +kernel
theorem dX8_findElement_18 : decode cX8_findElement 18 = .ok (.iconst 0, 1) := by decide +kernel
theorem dX8_findElement_19 : decode cX8_findElement 19 = .ok (.invokevirtual 68, 3) := by decide +kernel
theorem dX8_findElement_22 : decode cX8_findElement 22 = .ok (.astore_n 3, 1) := by decide +kernel
theorem dX8_findElement_23 : decode cX8_findElement 23 = .ok (.iload_n 1, 1) := by decide +kernel
theorem dX8_findElement_24 : decode cX8_findElement 24 = .ok (.iconst (-1), 1) := by decide +kernel
theorem dX8_findElement_25 : decode cX8_findElement 25 = .ok (.if_icmp .eq 28, 3) := by decide +kernel
theorem dX8_findElement_28 : decode cX8_findElement 28 = .ok (.aload_n 0, 1) := by decide +kernel
theorem dX8_findElement_29 : decode cX8_findElement 29 = .ok (.getfield 33, 3) := by decide +kernel
theorem dX8_findElement_32 : decode cX8_findElement 32 = .ok (.iload_n 1, 1) := by decide +kernel
theorem dX8_findElement_33 : decode cX8_findElement 33 = .ok (.invokevirtual 68, 3) := by decide +kernel
theorem dX8_findElement_36 : decode cX8_findElement 36 = .ok (.astore 4, 2) := by decide +kernel
theorem dX8_findElement_38 : decode cX8_findElement 38 = .ok (.aload 4, 2) := by decide +kernel
theorem dX8_findElement_40 : decode cX8_findElement 40 = .ok (.ifnonnull 7, 3) := by decide +kernel
theorem dX8_findElement_43 : decode cX8_findElement 43 = .ok (.aconst_null, 1) := by decide +kernel
theorem dX8_findElement_44 : decode cX8_findElement 44 = .ok (.goto 8, 3) := by decide +kernel
theorem dX8_findElement_47 : decode cX8_findElement 47 = .ok (.aload 4, 2) := by decide +kernel
theorem dX8_findElement_49 : decode cX8_findElement 49 = .ok (.invokevirtual 205, 3) := by decide +kernel
theorem dX8_findElement_52 : decode cX8_findElement 52 = .ok (.astore_n 3, 1) := by decide +kernel
theorem dX8_findElement_53 : decode cX8_findElement 53 = .ok (.aload_n 0, 1) := by decide +kernel
theorem dX8_findElement_54 : decode cX8_findElement 54 = .ok (.getfield 10, 3) := by decide +kernel
theorem dX8_findElement_57 : decode cX8_findElement 57 = .ok (.aload_n 0, 1) := by decide +kernel
theorem dX8_findElement_58 : decode cX8_findElement 58 = .ok (.getfield 10, 3) := by decide +kernel
theorem dX8_findElement_61 : decode cX8_findElement 61 = .ok (.getfield 46, 3) := by decide +kernel
theorem dX8_findElement_64 : decode cX8_findElement 64 = .ok (.invokevirtual 160, 3) := by decide +kernel
theorem dX8_findElement_67 : decode cX8_findElement 67 = .ok (.lstore 4, 2) := by decide +kernel
theorem dX8_findElement_69 : decode cX8_findElement 69 = .ok (.iconst 0, 1) := by decide +kernel
theorem dX8_findElement_70 : decode cX8_findElement 70 = .ok (.istore 6, 2) := by decide +kernel
theorem dX8_findElement_72 : decode cX8_findElement 72 = .ok (.iload 6, 2) := by decide +kernel
theorem dX8_findElement_74 : decode cX8_findElement 74 = .ok (.bipush 120, 2) := by decide +kernel
theorem dX8_findElement_76 : decode cX8_findElement 76 = .ok (.if_icmp .ge 42, 3) := by decide +kernel
theorem dX8_findElement_79 : decode cX8_findElement 79 = .ok (.aload_n 3, 1) := by decide +kernel
theorem dX8_findElement_80 : decode cX8_findElement 80 = .ok (.ifnull 38, 3) := by decide +kernel
theorem dX8_findElement_83 : decode cX8_findElement 83 = .ok (.aload_n 3, 1) := by decide +kernel
theorem dX8_findElement_84 : decode cX8_findElement 84 = .ok (.getfield 72, 3) := by decide +kernel
theorem dX8_findElement_87 : decode cX8_findElement 87 = .ok (.bipush 17, 2) := by decide +kernel
theorem dX8_findElement_89 : decode cX8_findElement 89 = .ok (.if_icmp .eq 18, 3) := by decide +kernel
theorem dX8_findElement_92 : decode cX8_findElement 92 = .ok (.aload_n 3, 1) := by decide +kernel
theorem dX8_findElement_93 : decode cX8_findElement 93 = .ok (.getfield 116, 3) := by decide +kernel
theorem dX8_findElement_96 : decode cX8_findElement 96 = .ok (.lload 4, 2) := by decide +kernel
theorem dX8_findElement_98 : decode cX8_findElement 98 = .ok (.lcmp, 1) := by decide +kernel
theorem dX8_findElement_99 : decode cX8_findElement 99 = .ok (.ifCond .ne 8, 3) := by decide +kernel
theorem dX8_findElement_102 : decode cX8_findElement 102 = .ok (.aload_n 3, 1) := by decide +kernel
theorem dX8_findElement_103 : decode cX8_findElement 103 = .ok (.getfield 81, 3) := by decide +kernel
theorem dX8_findElement_106 : decode cX8_findElement 106 = .ok (.ireturn, 1) := by decide +kernel
theorem dX8_findElement_107 : decode cX8_findElement 107 = .ok (.aload_n 3, 1) := by decide +kernel
theorem dX8_findElement_108 : decode cX8_findElement 108 = .ok (.invokevirtual 205, 3) := by decide +kernel
theorem dX8_findElement_111 : decode cX8_findElement 111 = .ok (.astore_n 3, 1) := by decide +kernel
theorem dX8_findElement_112 : decode cX8_findElement 112 = .ok (.iinc 6 1, 3) := by decide +kernel
theorem dX8_findElement_115 : decode cX8_findElement 115 = .ok (.goto (-43), 3) := by decide +kernel
theorem dX8_findElement_118 : decode cX8_findElement 118 = .ok (.iconst (-1), 1) := by decide +kernel
theorem dX8_findElement_119 : decode cX8_findElement 119 = .ok (.ireturn, 1) := by decide +kernel
theorem dX8_find_0 : decode cX8_find 0 = .ok (.aload_n 0, 1) := by decide +kernel
theorem dX8_find_1 : decode cX8_find 1 = .ok (.iload_n 1, 1) := by decide +kernel
theorem dX8_find_2 : decode cX8_find 2 = .ok (.invokevirtual 151, 3) := by decide +kernel
theorem dX8_find_5 : decode cX8_find 5 = .ok (.istore_n 2, 1) := by decide +kernel
theorem dX8_find_6 : decode cX8_find 6 = .ok (.aload_n 0, 1) := by decide +kernel
theorem dX8_find_7 : decode cX8_find 7 = .ok (.getfield 10, 3) := by decide +kernel
theorem dX8_find_10 : decode cX8_find 10 = .ok (.iconst 0, 1) := by decide +kernel
theorem dX8_find_11 : decode cX8_find 11 = .ok (.putfield 46, 3) := by decide +kernel
theorem dX8_find_14 : decode cX8_find 14 = .ok (.iload_n 2, 1) := by decide +kernel
theorem dX8_find_15 : decode cX8_find 15 = .ok (.ireturn, 1) := by decide +kernel
