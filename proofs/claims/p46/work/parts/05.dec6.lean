theorem dX6_init_0 : decode cX6_init 0 = .ok (.aload_n 0, 1) := by decide +kernel
theorem dX6_init_1 : decode cX6_init 1 = .ok (.invokespecial 1, 3) := by decide +kernel
theorem dX6_init_4 : decode cX6_init 4 = .ok (.aload_n 0, 1) := by decide +kernel
theorem dX6_init_5 : decode cX6_init 5 = .ok (.new 7, 3) := by decide +kernel
theorem dX6_init_8 : decode cX6_init 8 = .ok (.dup, 1) := by decide +kernel
theorem dX6_init_9 : decode cX6_init 9 = .ok (.invokespecial 9, 3) := by decide +kernel
theorem dX6_init_12 : decode cX6_init 12 = .ok (.putfield 10, 3) := by decide +kernel
theorem dX6_init_15 : decode cX6_init 15 = .ok (.aload_n 0, 1) := by decide +kernel
theorem dX6_init_16 : decode cX6_init 16 = .ok (.new 16, 3) := by decide +kernel
theorem dX6_init_19 : decode cX6_init 19 = .ok (.dup, 1) := by decide +kernel
theorem dX6_init_20 : decode cX6_init 20 = .ok (.invokespecial 18, 3) := by decide +kernel
theorem dX6_init_23 : decode cX6_init 23 = .ok (.putfield 19, 3) := by decide +kernel
theorem dX6_init_26 : decode cX6_init 26 = .ok (.aload_n 0, 1) := by decide +kernel
theorem dX6_init_27 : decode cX6_init 27 = .ok (.new 16, 3) := by decide +kernel
theorem dX6_init_30 : decode cX6_init 30 = .ok (.dup, 1) := by decide +kernel
theorem dX6_init_31 : decode cX6_init 31 = .ok (.invokespecial 18, 3) := by decide +kernel
theorem dX6_init_34 : decode cX6_init 34 = .ok (.putfield 23, 3) := by decide +kernel
theorem dX6_init_37 : decode cX6_init 37 = .ok (.aload_n 0, 1) := by decide +kernel
theorem dX6_init_38 : decode cX6_init 38 = .ok (.new 26, 3) := by decide +kernel
theorem dX6_init_41 : decode cX6_init 41 = .ok (.dup, 1) := by decide +kernel
theorem dX6_init_42 : decode cX6_init 42 = .ok (.invokespecial 28, 3) := by decide +kernel
theorem dX6_init_45 : decode cX6_init 45 = .ok (.putfield 29, 3) := by decide +kernel
theorem dX6_init_48 : decode cX6_init 48 = .ok (.aload_n 0, 1) := by decide +kernel
theorem dX6_init_49 : decode cX6_init 49 = .ok (.new 33, 3) := by decide +kernel
theorem dX6_init_52 : decode cX6_init 52 = .ok (.dup, 1) := by decide +kernel
theorem dX6_init_53 : decode cX6_init 53 = .ok (.invokespecial 35, 3) := by decide +kernel
theorem dX6_init_56 : decode cX6_init 56 = .ok (.putfield 36, 3) := by decide +kernel
theorem dX6_init_59 : decode cX6_init 59 = .ok (.aload_n 0, 1) := by decide +kernel
theorem dX6_init_60 : decode cX6_init 60 = .ok (.new 40, 3) := by decide +kernel
theorem dX6_init_63 : decode cX6_init 63 = .ok (.dup, 1) := by decide +kernel
theorem dX6_init_64 : decode cX6_init 64 = .ok (.invokespecial 42, 3) := by decide +kernel
theorem dX6_init_67 : decode cX6_init 67 = .ok (.putfield 43, 3) := by decide +kernel
theorem dX6_init_70 : decode cX6_init 70 = .ok (.aload_n 0, 1) := by decide +kernel
theorem dX6_init_71 : decode cX6_init 71 = .ok (.new 40, 3) := by decide +kernel
theorem dX6_init_74 : decode cX6_init 74 = .ok (.dup, 1) := by decide +kernel
theorem dX6_init_75 : decode cX6_init 75 = .ok (.invokespecial 42, 3) := by decide +kernel
theorem dX6_init_78 : decode cX6_init 78 = .ok (.putfield 47, 3) := by decide +kernel
theorem dX6_init_81 : decode cX6_init 81 = .ok (.return_, 1) := by decide +kernel
theorem dX6_feed_0 : decode cX6_feed 0 = .ok (.aload_n 0, 1) := by decide +kernel
theorem dX6_feed_1 : decode cX6_feed 1 = .ok (.getfield 10, 3) := by decide +kernel
theorem dX6_feed_4 : decode cX6_feed 4 = .ok (.bipush 20, 2) := by decide +kernel
theorem dX6_feed_6 : decode cX6_feed 6 = .ok (.invokevirtual 50, 3) := by decide +kernel
theorem dX6_feed_9 : decode cX6_feed 9 = .ok (.ifCond .ne 6, 3) := by decide +kernel
theorem dX6_feed_12 : decode cX6_feed 12 = .ok (.bipush (-2), 2) := by decide +kernel
theorem dX6_feed_14 : decode cX6_feed 14 = .ok (.ireturn, 1) := by decide +kernel
theorem dX6_feed_15 : decode cX6_feed 15 = .ok (.aload_n 0, 1) := by decide +kernel
theorem dX6_feed_16 : decode cX6_feed 16 = .ok (.getfield 10, 3) := by decide +kernel
theorem dX6_feed_19 : decode cX6_feed 19 = .ok (.iload_n 1, 1) := by decide +kernel
theorem dX6_feed_20 : decode cX6_feed 20 = .ok (.invokevirtual 54, 3) := by decide +kernel
theorem dX6_feed_23 : decode cX6_feed 23 = .ok (.aload_n 0, 1) := by decide +kernel
theorem dX6_feed_24 : decode cX6_feed 24 = .ok (.getfield 10, 3) := by decide +kernel
theorem dX6_feed_27 : decode cX6_feed 27 = .ok (.iload_n 2, 1) := by decide +kernel
theorem dX6_feed_28 : decode cX6_feed 28 = .ok (.invokevirtual 54, 3) := by decide +kernel
theorem dX6_feed_31 : decode cX6_feed 31 = .ok (.aload_n 0, 1) := by decide +kernel
theorem dX6_feed_32 : decode cX6_feed 32 = .ok (.getfield 10, 3) := by decide +kernel
theorem dX6_feed_35 : decode cX6_feed 35 = .ok (.iload_n 3, 1) := by decide +kernel
theorem dX6_feed_36 : decode cX6_feed 36 = .ok (.invokevirtual 54, 3) := by decide +kernel
theorem dX6_feed_39 : decode cX6_feed 39 = .ok (.aload_n 0, 1) := by decide +kernel
theorem dX6_feed_40 : decode cX6_feed 40 = .ok (.getfield 10, 3) := by decide +kernel
theorem dX6_feed_43 : decode cX6_feed 43 = .ok (.iload 4, 2) := by decide +kernel
theorem dX6_feed_45 : decode cX6_feed 45 = .ok (.invokevirtual 54, 3) := by decide +kernel
theorem dX6_feed_48 : decode cX6_feed 48 = .ok (.aload_n 0, 1) := by decide +kernel
theorem dX6_feed_49 : decode cX6_feed 49 = .ok (.getfield 10, 3) := by decide +kernel
theorem dX6_feed_52 : decode cX6_feed 52 = .ok (.iload 5, 2) := by decide +kernel
theorem dX6_feed_54 : decode cX6_feed 54 = .ok (.invokevirtual 54, 3) := by decide +kernel
theorem dX6_feed_57 : decode cX6_feed 57 = .ok (.aload_n 0, 1) := by decide +kernel
theorem dX6_feed_58 : decode cX6_feed 58 = .ok (.getfield 10, 3) := by decide +kernel
theorem dX6_feed_61 : decode cX6_feed 61 = .ok (.invokevirtual 58, 3) := by decide +kernel
theorem dX6_feed_64 : decode cX6_feed 64 = .ok (.ireturn, 1) := by decide +kernel
theorem dX6_load_0 : decode cX6_load 0 = .ok (.iload_n 1, 1) := by decide +kernel
theorem dX6_load_1 : decode cX6_load 1 = .ok (.iconst 0, 1) := by decide +kernel
theorem dX6_load_2 : decode cX6_load 2 = .ok (.aload_n 0, 1) := by decide +kernel
theorem dX6_load_3 : decode cX6_load 3 = .ok (.getfield 10, 3) := by decide +kernel
theorem dX6_load_6 : decode cX6_load 6 = .ok (.invokevirtual 58, 3) := by decide +kernel
theorem dX6_load_9 : decode cX6_load 9 = .ok (.invokestatic 62, 3) := by decide +kernel
theorem dX6_load_12 : decode cX6_load 12 = .ok (.aload_n 0, 1) := by decide +kernel
theorem dX6_load_13 : decode cX6_load 13 = .ok (.getfield 10, 3) := by decide +kernel
theorem dX6_load_16 : decode cX6_load 16 = .ok (.iload_n 1, 1) := by decide +kernel
theorem dX6_load_17 : decode cX6_load 17 = .ok (.aload_n 0, 1) := by decide +kernel
theorem dX6_load_18 : decode cX6_load 18 = .ok (.getfield 23, 3) := by decide +kernel
theorem dX6_load_21 : decode cX6_load 21 = .ok (.getfield 66, 3) := by decide +kernel
theorem dX6_load_24 : decode cX6_load 24 = .ok (.invokevirtual 70, 3) := by decide +kernel
theorem dX6_load_27 : decode cX6_load 27 = .ok (.istore_n 2, 1) := by decide +kernel
theorem dX6_load_28 : decode cX6_load 28 = .ok (.aload_n 0, 1) := by decide +kernel
theorem dX6_load_29 : decode cX6_load 29 = .ok (.getfield 10, 3) := by decide +kernel
theorem dX6_load_32 : decode cX6_load 32 = .ok (.invokevirtual 74, 3) := by decide +kernel
theorem dX6_load_35 : decode cX6_load 35 = .ok (.iload_n 2, 1) := by decide +kernel
theorem dX6_load_36 : decode cX6_load 36 = .ok (.ifCond .ne 6, 3) := by decide +kernel
theorem dX6_load_39 : decode cX6_load 39 = .ok (.bipush (-3), 2) := by decide +kernel
theorem dX6_load_41 : decode cX6_load 41 = .ok (.ireturn, 1) := by decide +kernel
theorem dX6_load_42 : decode cX6_load 42 = .ok (.aload_n 0, 1) := by decide +kernel
theorem dX6_load_43 : decode cX6_load 43 = .ok (.getfield 19, 3) := by decide +kernel
theorem dX6_load_46 : decode cX6_load 46 = .ok (.getfield 66, 3) := by decide +kernel
theorem dX6_load_49 : decode cX6_load 49 = .ok (.aload_n 0, 1) := by decide +kernel
theorem dX6_load_50 : decode cX6_load 50 = .ok (.getfield 23, 3) := by decide +kernel
theorem dX6_load_53 : decode cX6_load 53 = .ok (.getfield 66, 3) := by decide +kernel
theorem dX6_load_56 : decode cX6_load 56 = .ok (.invokevirtual 77, 3) := by decide +kernel
theorem dX6_load_59 : decode cX6_load 59 = .ok (.aload_n 0, 1) := by decide +kernel
theorem dX6_load_60 : decode cX6_load 60 = .ok (.getfield 19, 3) := by decide +kernel
theorem dX6_load_63 : decode cX6_load 63 = .ok (.invokevirtual 83, 3) := by decide +kernel
theorem dX6_load_66 : decode cX6_load 66 = .ok (.aload_n 0, 1) := by decide +kernel
theorem dX6_load_67 : decode cX6_load 67 = .ok (.getfield 29, 3) := by decide +kernel
theorem dX6_load_70 : decode cX6_load 70 = .ok (.invokevirtual 86, 3) := by decide +kernel
theorem dX6_load_73 : decode cX6_load 73 = .ok (.aload_n 0, 1) := by decide +kernel
theorem dX6_load_74 : decode cX6_load 74 = .ok (.getfield 19, 3) := by decide +kernel
theorem dX6_load_77 : decode cX6_load 77 = .ok (.getfield 66, 3) := by decide +kernel
theorem dX6_load_80 : decode cX6_load 80 = .ok (.invokevirtual 87, 3) := by decide +kernel
theorem dX6_load_83 : decode cX6_load 83 = .ok (.ireturn, 1) := by decide +kernel
theorem dX6_errorKind_0 : decode cX6_errorKind 0 = .ok (.aload_n 0, 1) := by decide +kernel
theorem dX6_errorKind_1 : decode cX6_errorKind 1 = .ok (.getfield 10, 3) := by decide +kernel
theorem dX6_errorKind_4 : decode cX6_errorKind 4 = .ok (.invokevirtual 90, 3) := by decide +kernel
theorem dX6_errorKind_7 : decode cX6_errorKind 7 = .ok (.ireturn, 1) := by decide +kernel
theorem dX6_mode_0 : decode cX6_mode 0 = .ok (.aload_n 0, 1) := by decide +kernel
theorem dX6_mode_1 : decode cX6_mode 1 = .ok (.getfield 19, 3) := by decide +kernel
theorem dX6_mode_4 : decode cX6_mode 4 = .ok (.getfield 66, 3) := by decide +kernel
theorem dX6_mode_7 : decode cX6_mode 7 = .ok (.getfield 96, 3) := by decide +kernel
theorem dX6_mode_10 : decode cX6_mode 10 = .ok (.ireturn, 1) := by decide +kernel
theorem dX6_point_0 : decode cX6_point 0 = .ok (.aload_n 0, 1) := by decide +kernel
theorem dX6_point_1 : decode cX6_point 1 = .ok (.iload_n 1, 1) := by decide +kernel
theorem dX6_point_2 : decode cX6_point 2 = .ok (.invokevirtual 103, 3) := by decide +kernel
theorem dX6_point_5 : decode cX6_point 5 = .ok (.iload_n 2, 1) := by decide +kernel
theorem dX6_point_6 : decode cX6_point 6 = .ok (.iconst 0, 1) := by decide +kernel
theorem dX6_point_7 : decode cX6_point 7 = .ok (.iconst 3, 1) := by decide +kernel
theorem dX6_point_8 : decode cX6_point 8 = .ok (.invokestatic 62, 3) := by decide +kernel
theorem dX6_point_11 : decode cX6_point 11 = .ok (.iload_n 2, 1) := by decide +kernel
theorem dX6_point_12 : decode cX6_point 12 = .ok (.tableswitch 64 0 2 #[28, 40, 52], 28) := by decide +kernel
theorem dX6_point_40 : decode cX6_point 40 = .ok (.aload_n 0, 1) := by decide +kernel
theorem dX6_point_41 : decode cX6_point 41 = .ok (.getfield 19, 3) := by decide +kernel
theorem dX6_point_44 : decode cX6_point 44 = .ok (.getfield 66, 3) := by decide +kernel
theorem dX6_point_47 : decode cX6_point 47 = .ok (.iload_n 1, 1) := by decide +kernel
theorem dX6_point_48 : decode cX6_point 48 = .ok (.invokevirtual 106, 3) := by decide +kernel
theorem dX6_point_51 : decode cX6_point 51 = .ok (.ireturn, 1) := by decide +kernel
theorem dX6_point_52 : decode cX6_point 52 = .ok (.aload_n 0, 1) := by decide +kernel
theorem dX6_point_53 : decode cX6_point 53 = .ok (.getfield 19, 3) := by decide +kernel
theorem dX6_point_56 : decode cX6_point 56 = .ok (.getfield 66, 3) := by decide +kernel
theorem dX6_point_59 : decode cX6_point 59 = .ok (.iload_n 1, 1) := by decide +kernel
theorem dX6_point_60 : decode cX6_point 60 = .ok (.invokevirtual 110, 3) := by decide +kernel
theorem dX6_point_63 : decode cX6_point 63 = .ok (.ireturn, 1) := by decide +kernel
theorem dX6_point_64 : decode cX6_point 64 = .ok (.aload_n 0, 1) := by decide +kernel
theorem dX6_point_65 : decode cX6_point 65 = .ok (.getfield 19, 3) := by decide +kernel
theorem dX6_point_68 : decode cX6_point 68 = .ok (.getfield 66, 3) := by decide +kernel
theorem dX6_point_71 : decode cX6_point 71 = .ok (.iload_n 1, 1) := by decide +kernel
theorem dX6_point_72 : decode cX6_point 72 = .ok (.invokevirtual 113, 3) := by decide +kernel
theorem dX6_point_75 : decode cX6_point 75 = .ok (.ireturn, 1) := by decide +kernel
theorem dX6_point_76 : decode cX6_point 76 = .ok (.aload_n 0, 1) := by decide +kernel
theorem dX6_point_77 : decode cX6_point 77 = .ok (.getfield 19, 3) := by decide +kernel
theorem dX6_point_80 : decode cX6_point 80 = .ok (.getfield 66, 3) := by decide +kernel
theorem dX6_point_83 : decode cX6_point 83 = .ok (.iload_n 1, 1) := by decide +kernel
theorem dX6_point_84 : decode cX6_point 84 = .ok (.invokevirtual 116, 3) := by decide +kernel
theorem dX6_point_87 : decode cX6_point 87 = .ok (.ireturn, 1) := by decide +kernel
theorem dX6_weight_0 : decode cX6_weight 0 = .ok (.aload_n 0, 1) := by decide +kernel
theorem dX6_weight_1 : decode cX6_weight 1 = .ok (.iload_n 1, 1) := by decide +kernel
theorem dX6_weight_2 : decode cX6_weight 2 = .ok (.invokevirtual 103, 3) := by decide +kernel
theorem dX6_weight_5 : decode cX6_weight 5 = .ok (.aload_n 0, 1) := by decide +kernel
theorem dX6_weight_6 : decode cX6_weight 6 = .ok (.getfield 19, 3) := by decide +kernel
theorem dX6_weight_9 : decode cX6_weight 9 = .ok (.iload_n 1, 1) := by decide +kernel
theorem dX6_weight_10 : decode cX6_weight 10 = .ok (.invokevirtual 133, 3) := by decide +kernel
theorem dX6_weight_13 : decode cX6_weight 13 = .ok (.lreturn, 1) := by decide +kernel
theorem dX6_isAlternating_0 : decode cX6_isAlternating 0 = .ok (.aload_n 0, 1) := by decide +kernel
theorem dX6_isAlternating_1 : decode cX6_isAlternating 1 = .ok (.getfield 19, 3) := by decide +kernel
theorem dX6_isAlternating_4 : decode cX6_isAlternating 4 = .ok (.invokevirtual 137, 3) := by decide +kernel
theorem dX6_isAlternating_7 : decode cX6_isAlternating 7 = .ok (.ireturn, 1) := by decide +kernel
theorem dX6_weightSum_0 : decode cX6_weightSum 0 = .ok (.lconst 0, 1) := by decide +kernel
theorem dX6_weightSum_1 : decode cX6_weightSum 1 = .ok (.lstore_n 1, 1) := by decide +kernel
theorem dX6_weightSum_2 : decode cX6_weightSum 2 = .ok (.iconst 0, 1) := by decide +kernel
theorem dX6_weightSum_3 : decode cX6_weightSum 3 = .ok (.istore_n 3, 1) := by decide +kernel
theorem dX6_weightSum_4 : decode cX6_weightSum 4 = .ok (.iload_n 3, 1) := by decide +kernel
theorem dX6_weightSum_5 : decode cX6_weightSum 5 = .ok (.aload_n 0, 1) := by decide +kernel
theorem dX6_weightSum_6 : decode cX6_weightSum 6 = .ok (.getfield 19, 3) := by decide +kernel
theorem dX6_weightSum_9 : decode cX6_weightSum 9 = .ok (.getfield 66, 3) := by decide +kernel
theorem dX6_weightSum_12 : decode cX6_weightSum 12 = .ok (.invokevirtual 87, 3) := by decide +kernel
theorem dX6_weightSum_15 : decode cX6_weightSum 15 = .ok (.if_icmp .ge 20, 3) := by decide +kernel
theorem dX6_weightSum_18 : decode cX6_weightSum 18 = .ok (.lload_n 1, 1) := by decide +kernel
theorem dX6_weightSum_19 : decode cX6_weightSum 19 = .ok (.aload_n 0, 1) := by decide +kernel
theorem dX6_weightSum_20 : decode cX6_weightSum 20 = .ok (.getfield 19, 3) := by decide +kernel
theorem dX6_weightSum_23 : decode cX6_weightSum 23 = .ok (.iload_n 3, 1) := by decide +kernel
theorem dX6_weightSum_24 : decode cX6_weightSum 24 = .ok (.invokevirtual 133, 3) := by decide +kernel
theorem dX6_weightSum_27 : decode cX6_weightSum 27 = .ok (.ladd, 1) := by decide +kernel
theorem dX6_weightSum_28 : decode cX6_weightSum 28 = .ok (.lstore_n 1, 1) := by decide +kernel
theorem dX6_weightSum_29 : decode cX6_weightSum 29 = .ok (.iinc 3 1, 3) := by decide +kernel
theorem dX6_weightSum_32 : decode cX6_weightSum 32 = .ok (.goto (-28), 3) := by decide +kernel
theorem dX6_weightSum_35 : decode cX6_weightSum 35 = .ok (.lload_n 1, 1) := by decide +kernel
theorem dX6_weightSum_36 : decode cX6_weightSum 36 = .ok (.lreturn, 1) := by decide +kernel
theorem dX6_degreeOf_0 : decode cX6_degreeOf 0 = .ok (.iconst 4, 1) := by decide +kernel
theorem dX6_degreeOf_1 : decode cX6_degreeOf 1 = .ok (.istore_n 2, 1) := by decide +kernel
theorem dX6_degreeOf_2 : decode cX6_degreeOf 2 = .ok (.iload_n 2, 1) := by decide +kernel
theorem dX6_degreeOf_3 : decode cX6_degreeOf 3 = .ok (.ifCond .lt 25, 3) := by decide +kernel
theorem dX6_degreeOf_6 : decode cX6_degreeOf 6 = .ok (.aload_n 0, 1) := by decide +kernel
theorem dX6_degreeOf_7 : decode cX6_degreeOf 7 = .ok (.getfield 19, 3) := by decide +kernel
theorem dX6_degreeOf_10 : decode cX6_degreeOf 10 = .ok (.iload_n 1, 1) := by decide +kernel
theorem dX6_degreeOf_11 : decode cX6_degreeOf 11 = .ok (.iload_n 2, 1) := by decide +kernel
theorem dX6_degreeOf_12 : decode cX6_degreeOf 12 = .ok (.invokevirtual 141, 3) := by decide +kernel
theorem dX6_degreeOf_15 : decode cX6_degreeOf 15 = .ok (.lconst 0, 1) := by decide +kernel
theorem dX6_degreeOf_16 : decode cX6_degreeOf 16 = .ok (.lcmp, 1) := by decide +kernel
theorem dX6_degreeOf_17 : decode cX6_degreeOf 17 = .ok (.ifCond .eq 5, 3) := by decide +kernel
theorem dX6_degreeOf_20 : decode cX6_degreeOf 20 = .ok (.iload_n 2, 1) := by decide +kernel
theorem dX6_degreeOf_21 : decode cX6_degreeOf 21 = .ok (.ireturn, 1) := by decide +kernel
theorem dX6_degreeOf_22 : decode cX6_degreeOf 22 = .ok (.iinc 2 (-1), 3) := by decide +kernel
theorem dX6_degreeOf_25 : decode cX6_degreeOf 25 = .ok (.goto (-23), 3) := by decide +kernel
theorem dX6_degreeOf_28 : decode cX6_degreeOf 28 = .ok (.iconst (-1), 1) := by decide +kernel
theorem dX6_degreeOf_29 : decode cX6_degreeOf 29 = .ok (.ireturn, 1) := by decide +kernel
theorem dX6_coefficient_0 : decode cX6_coefficient 0 = .ok (.iload_n 2, 1) := by decide +kernel
theorem dX6_coefficient_1 : decode cX6_coefficient 1 = .ok (.iconst 0, 1) := by decide +kernel
theorem dX6_coefficient_2 : decode cX6_coefficient 2 = .ok (.iconst 4, 1) := by decide +kernel
theorem dX6_coefficient_3 : decode cX6_coefficient 3 = .ok (.invokestatic 62, 3) := by decide +kernel
theorem dX6_coefficient_6 : decode cX6_coefficient 6 = .ok (.aload_n 0, 1) := by decide +kernel
theorem dX6_coefficient_7 : decode cX6_coefficient 7 = .ok (.getfield 19, 3) := by decide +kernel
theorem dX6_coefficient_10 : decode cX6_coefficient 10 = .ok (.iload_n 1, 1) := by decide +kernel
theorem dX6_coefficient_11 : decode cX6_coefficient 11 = .ok (.iload_n 2, 1) := by decide +kernel
theorem dX6_coefficient_12 : decode cX6_coefficient 12 = .ok (.invokevirtual 141, 3) := by decide +kernel
theorem dX6_coefficient_15 : decode cX6_coefficient 15 = .ok (.lreturn, 1) := by decide +kernel
theorem dX6_kindAt_0 : decode cX6_kindAt 0 = .ok (.iload_n 1, 1) := by decide +kernel
theorem dX6_kindAt_1 : decode cX6_kindAt 1 = .ok (.bipush 12, 2) := by decide +kernel
theorem dX6_kindAt_3 : decode cX6_kindAt 3 = .ok (.invokestatic 119, 3) := by decide +kernel
theorem dX6_kindAt_6 : decode cX6_kindAt 6 = .ok (.aload_n 0, 1) := by decide +kernel
theorem dX6_kindAt_7 : decode cX6_kindAt 7 = .ok (.getfield 19, 3) := by decide +kernel
theorem dX6_kindAt_10 : decode cX6_kindAt 10 = .ok (.iload_n 1, 1) := by decide +kernel
theorem dX6_kindAt_11 : decode cX6_kindAt 11 = .ok (.invokevirtual 145, 3) := by decide +kernel
theorem dX6_kindAt_14 : decode cX6_kindAt 14 = .ok (.ireturn, 1) := by decide +kernel
theorem dX6_value_0 : decode cX6_value 0 = .ok (.iload_n 1, 1) := by decide +kernel
theorem dX6_value_1 : decode cX6_value 1 = .ok (.bipush 12, 2) := by decide +kernel
theorem dX6_value_3 : decode cX6_value 3 = .ok (.invokestatic 119, 3) := by decide +kernel
theorem dX6_value_6 : decode cX6_value 6 = .ok (.iload_n 2, 1) := by decide +kernel
theorem dX6_value_7 : decode cX6_value 7 = .ok (.invokestatic 148, 3) := by decide +kernel
theorem dX6_value_10 : decode cX6_value 10 = .ok (.aload_n 0, 1) := by decide +kernel
theorem dX6_value_11 : decode cX6_value 11 = .ok (.aload_n 0, 1) := by decide +kernel
theorem dX6_value_12 : decode cX6_value 12 = .ok (.getfield 19, 3) := by decide +kernel
theorem dX6_value_15 : decode cX6_value 15 = .ok (.iload_n 1, 1) := by decide +kernel
theorem dX6_value_16 : decode cX6_value 16 = .ok (.invokevirtual 151, 3) := by decide +kernel
theorem dX6_value_19 : decode cX6_value 19 = .ok (.aload_n 0, 1) := by decide +kernel
theorem dX6_value_20 : decode cX6_value 20 = .ok (.getfield 43, 3) := by decide +kernel
theorem dX6_value_23 : decode cX6_value 23 = .ok (.iload_n 2, 1) := by decide +kernel
theorem dX6_value_24 : decode cX6_value 24 = .ok (.invokevirtual 155, 3) := by decide +kernel
theorem dX6_value_27 : decode cX6_value 27 = .ok (.lreturn, 1) := by decide +kernel
theorem dX6_missed_0 : decode cX6_missed 0 = .ok (.iconst 0, 1) := by decide +kernel
theorem dX6_missed_1 : decode cX6_missed 1 = .ok (.istore_n 1, 1) := by decide +kernel
theorem dX6_missed_2 : decode cX6_missed 2 = .ok (.iconst 0, 1) := by decide +kernel
theorem dX6_missed_3 : decode cX6_missed 3 = .ok (.istore_n 2, 1) := by decide +kernel
theorem dX6_missed_4 : decode cX6_missed 4 = .ok (.iload_n 2, 1) := by decide +kernel
theorem dX6_missed_5 : decode cX6_missed 5 = .ok (.aload_n 0, 1) := by decide +kernel
theorem dX6_missed_6 : decode cX6_missed 6 = .ok (.getfield 19, 3) := by decide +kernel
theorem dX6_missed_9 : decode cX6_missed 9 = .ok (.getfield 66, 3) := by decide +kernel
theorem dX6_missed_12 : decode cX6_missed 12 = .ok (.invokevirtual 87, 3) := by decide +kernel
theorem dX6_missed_15 : decode cX6_missed 15 = .ok (.if_icmp .ge 20, 3) := by decide +kernel
theorem dX6_missed_18 : decode cX6_missed 18 = .ok (.aload_n 0, 1) := by decide +kernel
theorem dX6_missed_19 : decode cX6_missed 19 = .ok (.iload_n 2, 1) := by decide +kernel
theorem dX6_missed_20 : decode cX6_missed 20 = .ok (.invokevirtual 158, 3) := by decide +kernel
theorem dX6_missed_23 : decode cX6_missed 23 = .ok (.ifCond .ne 6, 3) := by decide +kernel
theorem dX6_missed_26 : decode cX6_missed 26 = .ok (.iinc 1 1, 3) := by decide +kernel
theorem dX6_missed_29 : decode cX6_missed 29 = .ok (.iinc 2 1, 3) := by decide +kernel
theorem dX6_missed_32 : decode cX6_missed 32 = .ok (.goto (-28), 3) := by decide +kernel
theorem dX6_missed_35 : decode cX6_missed 35 = .ok (.iload_n 1, 1) := by decide +kernel
theorem dX6_missed_36 : decode cX6_missed 36 = .ok (.ireturn, 1) := by decide +kernel
theorem dX6_many_0 : decode cX6_many 0 = .ok (.iconst 0, 1) := by decide +kernel
theorem dX6_many_1 : decode cX6_many 1 = .ok (.istore_n 2, 1) := by decide +kernel
theorem dX6_many_2 : decode cX6_many 2 = .ok (.bipush (-12), 2) := by decide +kernel
theorem dX6_many_4 : decode cX6_many 4 = .ok (.istore_n 3, 1) := by decide +kernel
theorem dX6_many_5 : decode cX6_many 5 = .ok (.iload_n 3, 1) := by decide +kernel
theorem dX6_many_6 : decode cX6_many 6 = .ok (.bipush 12, 2) := by decide +kernel
theorem dX6_many_8 : decode cX6_many 8 = .ok (.if_icmp .gt 24, 3) := by decide +kernel
theorem dX6_many_11 : decode cX6_many 11 = .ok (.aload_n 0, 1) := by decide +kernel
theorem dX6_many_12 : decode cX6_many 12 = .ok (.getfield 19, 3) := by decide +kernel
theorem dX6_many_15 : decode cX6_many 15 = .ok (.iload_n 3, 1) := by decide +kernel
theorem dX6_many_16 : decode cX6_many 16 = .ok (.invokevirtual 145, 3) := by decide +kernel
theorem dX6_many_19 : decode cX6_many 19 = .ok (.iload_n 1, 1) := by decide +kernel
theorem dX6_many_20 : decode cX6_many 20 = .ok (.if_icmp .ne 6, 3) := by decide +kernel
theorem dX6_many_23 : decode cX6_many 23 = .ok (.iinc 2 1, 3) := by decide +kernel
theorem dX6_many_26 : decode cX6_many 26 = .ok (.iinc 3 1, 3) := by decide +kernel
theorem dX6_many_29 : decode cX6_many 29 = .ok (.goto (-24), 3) := by decide +kernel
theorem dX6_many_32 : decode cX6_many 32 = .ok (.iload_n 2, 1) := by decide +kernel
theorem dX6_many_33 : decode cX6_many 33 = .ok (.ireturn, 1) := by decide +kernel
theorem dX6_hiddenPoles_0 : decode cX6_hiddenPoles 0 = .ok (.iconst 0, 1) := by decide +kernel
theorem dX6_hiddenPoles_1 : decode cX6_hiddenPoles 1 = .ok (.istore_n 1, 1) := by decide +kernel
theorem dX6_hiddenPoles_2 : decode cX6_hiddenPoles 2 = .ok (.bipush (-12), 2) := by decide +kernel
theorem dX6_hiddenPoles_4 : decode cX6_hiddenPoles 4 = .ok (.istore_n 2, 1) := by decide +kernel
theorem dX6_hiddenPoles_5 : decode cX6_hiddenPoles 5 = .ok (.iload_n 2, 1) := by decide +kernel
theorem dX6_hiddenPoles_6 : decode cX6_hiddenPoles 6 = .ok (.bipush 12, 2) := by decide +kernel
theorem dX6_hiddenPoles_8 : decode cX6_hiddenPoles 8 = .ok (.if_icmp .ge 23, 3) := by decide +kernel
theorem dX6_hiddenPoles_11 : decode cX6_hiddenPoles 11 = .ok (.aload_n 0, 1) := by decide +kernel
theorem dX6_hiddenPoles_12 : decode cX6_hiddenPoles 12 = .ok (.getfield 19, 3) := by decide +kernel
theorem dX6_hiddenPoles_15 : decode cX6_hiddenPoles 15 = .ok (.iload_n 2, 1) := by decide +kernel
theorem dX6_hiddenPoles_16 : decode cX6_hiddenPoles 16 = .ok (.invokevirtual 161, 3) := by decide +kernel
theorem dX6_hiddenPoles_19 : decode cX6_hiddenPoles 19 = .ok (.ifCond .eq 6, 3) := by decide +kernel
theorem dX6_hiddenPoles_22 : decode cX6_hiddenPoles 22 = .ok (.iinc 1 1, 3) := by decide +kernel
theorem dX6_hiddenPoles_25 : decode cX6_hiddenPoles 25 = .ok (.iinc 2 1, 3) := by decide +kernel
theorem dX6_hiddenPoles_28 : decode cX6_hiddenPoles 28 = .ok (.goto (-23), 3) := by decide +kernel
theorem dX6_hiddenPoles_31 : decode cX6_hiddenPoles 31 = .ok (.iload_n 1, 1) := by decide +kernel
theorem dX6_hiddenPoles_32 : decode cX6_hiddenPoles 32 = .ok (.ireturn, 1) := by decide +kernel
theorem dX6_divided_0 : decode cX6_divided 0 = .ok (.aload_n 0, 1) := by decide +kernel
theorem dX6_divided_1 : decode cX6_divided 1 = .ok (.iload_n 1, 1) := by decide +kernel
theorem dX6_divided_2 : decode cX6_divided 2 = .ok (.invokevirtual 103, 3) := by decide +kernel
theorem dX6_divided_5 : decode cX6_divided 5 = .ok (.aload_n 0, 1) := by decide +kernel
theorem dX6_divided_6 : decode cX6_divided 6 = .ok (.iload_n 2, 1) := by decide +kernel
theorem dX6_divided_7 : decode cX6_divided 7 = .ok (.invokevirtual 103, 3) := by decide +kernel
theorem dX6_divided_10 : decode cX6_divided 10 = .ok (.iload_n 3, 1) := by decide +kernel
theorem dX6_divided_11 : decode cX6_divided 11 = .ok (.invokestatic 148, 3) := by decide +kernel
theorem dX6_divided_14 : decode cX6_divided 14 = .ok (.iload_n 1, 1) := by decide +kernel
theorem dX6_divided_15 : decode cX6_divided 15 = .ok (.iconst 0, 1) := by decide +kernel
theorem dX6_divided_16 : decode cX6_divided 16 = .ok (.iload_n 2, 1) := by decide +kernel
theorem dX6_divided_17 : decode cX6_divided 17 = .ok (.invokestatic 62, 3) := by decide +kernel
theorem dX6_divided_20 : decode cX6_divided 20 = .ok (.aload_n 0, 1) := by decide +kernel
theorem dX6_divided_21 : decode cX6_divided 21 = .ok (.getfield 19, 3) := by decide +kernel
theorem dX6_divided_24 : decode cX6_divided 24 = .ok (.getfield 66, 3) := by decide +kernel
theorem dX6_divided_27 : decode cX6_divided 27 = .ok (.iload_n 1, 1) := by decide +kernel
theorem dX6_divided_28 : decode cX6_divided 28 = .ok (.iload_n 2, 1) := by decide +kernel
theorem dX6_divided_29 : decode cX6_divided 29 = .ok (.aload_n 0, 1) := by decide +kernel
theorem dX6_divided_30 : decode cX6_divided 30 = .ok (.getfield 43, 3) := by decide +kernel
theorem dX6_divided_33 : decode cX6_divided 33 = .ok (.invokevirtual 192, 3) := by decide +kernel
theorem dX6_divided_36 : decode cX6_divided 36 = .ok (.aload_n 0, 1) := by decide +kernel
theorem dX6_divided_37 : decode cX6_divided 37 = .ok (.getfield 43, 3) := by decide +kernel
theorem dX6_divided_40 : decode cX6_divided 40 = .ok (.iload_n 3, 1) := by decide +kernel
theorem dX6_divided_41 : decode cX6_divided 41 = .ok (.invokevirtual 155, 3) := by decide +kernel
theorem dX6_divided_44 : decode cX6_divided 44 = .ok (.lreturn, 1) := by decide +kernel
theorem dX6_plainValue_0 : decode cX6_plainValue 0 = .ok (.iload_n 1, 1) := by decide +kernel
theorem dX6_plainValue_1 : decode cX6_plainValue 1 = .ok (.bipush 12, 2) := by decide +kernel
theorem dX6_plainValue_3 : decode cX6_plainValue 3 = .ok (.invokestatic 119, 3) := by decide +kernel
theorem dX6_plainValue_6 : decode cX6_plainValue 6 = .ok (.iload_n 2, 1) := by decide +kernel
theorem dX6_plainValue_7 : decode cX6_plainValue 7 = .ok (.invokestatic 148, 3) := by decide +kernel
theorem dX6_plainValue_10 : decode cX6_plainValue 10 = .ok (.aload_n 0, 1) := by decide +kernel
theorem dX6_plainValue_11 : decode cX6_plainValue 11 = .ok (.getfield 23, 3) := by decide +kernel
theorem dX6_plainValue_14 : decode cX6_plainValue 14 = .ok (.getfield 66, 3) := by decide +kernel
theorem dX6_plainValue_17 : decode cX6_plainValue 17 = .ok (.aload_n 0, 1) := by decide +kernel
theorem dX6_plainValue_18 : decode cX6_plainValue 18 = .ok (.getfield 19, 3) := by decide +kernel
theorem dX6_plainValue_21 : decode cX6_plainValue 21 = .ok (.getfield 66, 3) := by decide +kernel
theorem dX6_plainValue_24 : decode cX6_plainValue 24 = .ok (.invokevirtual 77, 3) := by decide +kernel
theorem dX6_plainValue_27 : decode cX6_plainValue 27 = .ok (.aload_n 0, 1) := by decide +kernel
theorem dX6_plainValue_28 : decode cX6_plainValue 28 = .ok (.getfield 23, 3) := by decide +kernel
theorem dX6_plainValue_31 : decode cX6_plainValue 31 = .ok (.getfield 66, 3) := by decide +kernel
theorem dX6_plainValue_34 : decode cX6_plainValue 34 = .ok (.iconst 0, 1) := by decide +kernel
theorem dX6_plainValue_35 : decode cX6_plainValue 35 = .ok (.putfield 96, 3) := by decide +kernel
theorem dX6_plainValue_38 : decode cX6_plainValue 38 = .ok (.aload_n 0, 1) := by decide +kernel
theorem dX6_plainValue_39 : decode cX6_plainValue 39 = .ok (.getfield 23, 3) := by decide +kernel
theorem dX6_plainValue_42 : decode cX6_plainValue 42 = .ok (.invokevirtual 83, 3) := by decide +kernel
theorem dX6_plainValue_45 : decode cX6_plainValue 45 = .ok (.aload_n 0, 1) := by decide +kernel
theorem dX6_plainValue_46 : decode cX6_plainValue 46 = .ok (.aload_n 0, 1) := by decide +kernel
theorem dX6_plainValue_47 : decode cX6_plainValue 47 = .ok (.getfield 23, 3) := by decide +kernel
theorem dX6_plainValue_50 : decode cX6_plainValue 50 = .ok (.iload_n 1, 1) := by decide +kernel
theorem dX6_plainValue_51 : decode cX6_plainValue 51 = .ok (.invokevirtual 151, 3) := by decide +kernel
theorem dX6_plainValue_54 : decode cX6_plainValue 54 = .ok (.aload_n 0, 1) := by decide +kernel
theorem dX6_plainValue_55 : decode cX6_plainValue 55 = .ok (.getfield 43, 3) := by decide +kernel
theorem dX6_plainValue_58 : decode cX6_plainValue 58 = .ok (.iload_n 2, 1) := by decide +kernel
theorem dX6_plainValue_59 : decode cX6_plainValue 59 = .ok (.invokevirtual 155, 3) := by decide +kernel
theorem dX6_plainValue_62 : decode cX6_plainValue 62 = .ok (.lreturn, 1) := by decide +kernel
theorem dX6_setMode_0 : decode cX6_setMode 0 = .ok (.iload_n 1, 1) := by decide +kernel
theorem dX6_setMode_1 : decode cX6_setMode 1 = .ok (.iconst 0, 1) := by decide +kernel
theorem dX6_setMode_2 : decode cX6_setMode 2 = .ok (.iconst 2, 1) := by decide +kernel
theorem dX6_setMode_3 : decode cX6_setMode 3 = .ok (.invokestatic 62, 3) := by decide +kernel
theorem dX6_setMode_6 : decode cX6_setMode 6 = .ok (.iload_n 2, 1) := by decide +kernel
theorem dX6_setMode_7 : decode cX6_setMode 7 = .ok (.iconst 0, 1) := by decide +kernel
theorem dX6_setMode_8 : decode cX6_setMode 8 = .ok (.iconst 4, 1) := by decide +kernel
theorem dX6_setMode_9 : decode cX6_setMode 9 = .ok (.invokestatic 62, 3) := by decide +kernel
theorem dX6_setMode_12 : decode cX6_setMode 12 = .ok (.aload_n 0, 1) := by decide +kernel
theorem dX6_setMode_13 : decode cX6_setMode 13 = .ok (.getfield 19, 3) := by decide +kernel
theorem dX6_setMode_16 : decode cX6_setMode 16 = .ok (.getfield 66, 3) := by decide +kernel
theorem dX6_setMode_19 : decode cX6_setMode 19 = .ok (.getfield 96, 3) := by decide +kernel
theorem dX6_setMode_22 : decode cX6_setMode 22 = .ok (.istore_n 3, 1) := by decide +kernel
theorem dX6_setMode_23 : decode cX6_setMode 23 = .ok (.aload_n 0, 1) := by decide +kernel
theorem dX6_setMode_24 : decode cX6_setMode 24 = .ok (.getfield 29, 3) := by decide +kernel
theorem dX6_setMode_27 : decode cX6_setMode 27 = .ok (.aload_n 0, 1) := by decide +kernel
theorem dX6_setMode_28 : decode cX6_setMode 28 = .ok (.getfield 19, 3) := by decide +kernel
theorem dX6_setMode_31 : decode cX6_setMode 31 = .ok (.getfield 66, 3) := by decide +kernel
theorem dX6_setMode_34 : decode cX6_setMode 34 = .ok (.invokevirtual 210, 3) := by decide +kernel
theorem dX6_setMode_37 : decode cX6_setMode 37 = .ok (.aload_n 0, 1) := by decide +kernel
theorem dX6_setMode_38 : decode cX6_setMode 38 = .ok (.getfield 19, 3) := by decide +kernel
theorem dX6_setMode_41 : decode cX6_setMode 41 = .ok (.getfield 66, 3) := by decide +kernel
theorem dX6_setMode_44 : decode cX6_setMode 44 = .ok (.iload_n 1, 1) := by decide +kernel
theorem dX6_setMode_45 : decode cX6_setMode 45 = .ok (.putfield 96, 3) := by decide +kernel
theorem dX6_setMode_48 : decode cX6_setMode 48 = .ok (.iload_n 1, 1) := by decide +kernel
theorem dX6_setMode_49 : decode cX6_setMode 49 = .ok (.iconst 1, 1) := by decide +kernel
theorem dX6_setMode_50 : decode cX6_setMode 50 = .ok (.if_icmp .ne 14, 3) := by decide +kernel
theorem dX6_setMode_53 : decode cX6_setMode 53 = .ok (.aload_n 0, 1) := by decide +kernel
theorem dX6_setMode_54 : decode cX6_setMode 54 = .ok (.getfield 19, 3) := by decide +kernel
theorem dX6_setMode_57 : decode cX6_setMode 57 = .ok (.getfield 66, 3) := by decide +kernel
theorem dX6_setMode_60 : decode cX6_setMode 60 = .ok (.iload_n 2, 1) := by decide +kernel
theorem dX6_setMode_61 : decode cX6_setMode 61 = .ok (.putfield 100, 3) := by decide +kernel
theorem dX6_setMode_64 : decode cX6_setMode 64 = .ok (.aload_n 0, 1) := by decide +kernel
theorem dX6_setMode_65 : decode cX6_setMode 65 = .ok (.getfield 19, 3) := by decide +kernel
theorem dX6_setMode_68 : decode cX6_setMode 68 = .ok (.invokevirtual 83, 3) := by decide +kernel
theorem dX6_setMode_71 : decode cX6_setMode 71 = .ok (.iload_n 3, 1) := by decide +kernel
theorem dX6_setMode_72 : decode cX6_setMode 72 = .ok (.ireturn, 1) := by decide +kernel
theorem dX6_needPoint_0 : decode cX6_needPoint 0 = .ok (.aload_n 0, 1) := by decide +kernel
theorem dX6_needPoint_1 : decode cX6_needPoint 1 = .ok (.getfield 19, 3) := by decide +kernel
theorem dX6_needPoint_4 : decode cX6_needPoint 4 = .ok (.getfield 66, 3) := by decide +kernel
theorem dX6_needPoint_7 : decode cX6_needPoint 7 = .ok (.iload_n 1, 1) := by decide +kernel
theorem dX6_needPoint_8 : decode cX6_needPoint 8 = .ok (.invokevirtual 264, 3) := by decide +kernel
theorem dX6_needPoint_11 : decode cX6_needPoint 11 = .ok (.ifCond .ne 14, 3) := by decide +kernel
theorem dX6_needPoint_14 : decode cX6_needPoint 14 = .ok (.new 255, 3) := by decide +kernel
theorem dX6_needPoint_17 : decode cX6_needPoint 17 = .ok (.dup, 1) := by decide +kernel
theorem dX6_needPoint_18 : decode cX6_needPoint 18 = .ok (.ldc_w 267, 3) := by decide +kernel
theorem dX6_needPoint_21 : decode cX6_needPoint 21 = .ok (.invokespecial 259, 3) := by decide +kernel
theorem dX6_needPoint_24 : decode cX6_needPoint 24 = .ok (.athrow, 1) := by decide +kernel
theorem dX6_needPoint_25 : decode cX6_needPoint 25 = .ok (.return_, 1) := by decide +kernel
theorem dX6_needBetween_0 : decode cX6_needBetween 0 = .ok (.iload_n 0, 1) := by decide +kernel
theorem dX6_needBetween_1 : decode cX6_needBetween 1 = .ok (.iload_n 1, 1) := by decide +kernel
theorem dX6_needBetween_2 : decode cX6_needBetween 2 = .ok (.if_icmp .lt 8, 3) := by decide +kernel
theorem dX6_needBetween_5 : decode cX6_needBetween 5 = .ok (.iload_n 0, 1) := by decide +kernel
theorem dX6_needBetween_6 : decode cX6_needBetween 6 = .ok (.iload_n 2, 1) := by decide +kernel
theorem dX6_needBetween_7 : decode cX6_needBetween 7 = .ok (.if_icmp .le 14, 3) := by decide +kernel
theorem dX6_needBetween_10 : decode cX6_needBetween 10 = .ok (.new 269, 3) := by decide +kernel
theorem dX6_needBetween_13 : decode cX6_needBetween 13 = .ok (.dup, 1) := by decide +kernel
theorem dX6_needBetween_14 : decode cX6_needBetween 14 = .ok (.ldc_w 271, 3) := by decide +kernel
theorem dX6_needBetween_17 : decode cX6_needBetween 17 = .ok (.invokespecial 273, 3) := by decide +kernel
theorem dX6_needBetween_20 : decode cX6_needBetween 20 = .ok (.athrow, 1) := by decide +kernel
theorem dX6_needBetween_21 : decode cX6_needBetween 21 = .ok (.return_, 1) := by decide +kernel
theorem dX6_needWithin_0 : decode cX6_needWithin 0 = .ok (.iload_n 0, 1) := by decide +kernel
theorem dX6_needWithin_1 : decode cX6_needWithin 1 = .ok (.iload_n 1, 1) := by decide +kernel
theorem dX6_needWithin_2 : decode cX6_needWithin 2 = .ok (.ineg, 1) := by decide +kernel
theorem dX6_needWithin_3 : decode cX6_needWithin 3 = .ok (.iload_n 1, 1) := by decide +kernel
theorem dX6_needWithin_4 : decode cX6_needWithin 4 = .ok (.invokestatic 62, 3) := by decide +kernel
theorem dX6_needWithin_7 : decode cX6_needWithin 7 = .ok (.return_, 1) := by decide +kernel
theorem dX6_needPart_0 : decode cX6_needPart 0 = .ok (.iload_n 0, 1) := by decide +kernel
theorem dX6_needPart_1 : decode cX6_needPart 1 = .ok (.iconst 0, 1) := by decide +kernel
theorem dX6_needPart_2 : decode cX6_needPart 2 = .ok (.iconst 1, 1) := by decide +kernel
theorem dX6_needPart_3 : decode cX6_needPart 3 = .ok (.invokestatic 62, 3) := by decide +kernel
theorem dX6_needPart_6 : decode cX6_needPart 6 = .ok (.return_, 1) := by decide +kernel
theorem dX6_needValue_0 : decode cX6_needValue 0 = .ok (.aload_n 1, 1) := by decide +kernel
theorem dX6_needValue_1 : decode cX6_needValue 1 = .ok (.iload_n 2, 1) := by decide +kernel
theorem dX6_needValue_2 : decode cX6_needValue 2 = .ok (.aload_n 0, 1) := by decide +kernel
theorem dX6_needValue_3 : decode cX6_needValue 3 = .ok (.getfield 43, 3) := by decide +kernel
theorem dX6_needValue_6 : decode cX6_needValue 6 = .ok (.invokevirtual 166, 3) := by decide +kernel
theorem dX6_needValue_9 : decode cX6_needValue 9 = .ok (.ifCond .ne 13, 3) := by decide +kernel
theorem dX6_needValue_12 : decode cX6_needValue 12 = .ok (.new 126, 3) := by decide +kernel
theorem dX6_needValue_15 : decode cX6_needValue 15 = .ok (.dup, 1) := by decide +kernel
theorem dX6_needValue_16 : decode cX6_needValue 16 = .ok (.ldc 177, 2) := by decide +kernel
theorem dX6_needValue_18 : decode cX6_needValue 18 = .ok (.invokespecial 130, 3) := by decide +kernel
theorem dX6_needValue_21 : decode cX6_needValue 21 = .ok (.athrow, 1) := by decide +kernel
theorem dX6_needValue_22 : decode cX6_needValue 22 = .ok (.return_, 1) := by decide +kernel
theorem dX6_meets_0 : decode cX6_meets 0 = .ok (.aload_n 0, 1) := by decide +kernel
theorem dX6_meets_1 : decode cX6_meets 1 = .ok (.getfield 19, 3) := by decide +kernel
theorem dX6_meets_4 : decode cX6_meets 4 = .ok (.aload_n 0, 1) := by decide +kernel
theorem dX6_meets_5 : decode cX6_meets 5 = .ok (.getfield 19, 3) := by decide +kernel
theorem dX6_meets_8 : decode cX6_meets 8 = .ok (.getfield 66, 3) := by decide +kernel
theorem dX6_meets_11 : decode cX6_meets 11 = .ok (.iload_n 1, 1) := by decide +kernel
theorem dX6_meets_12 : decode cX6_meets 12 = .ok (.invokevirtual 106, 3) := by decide +kernel
theorem dX6_meets_15 : decode cX6_meets 15 = .ok (.aload_n 0, 1) := by decide +kernel
theorem dX6_meets_16 : decode cX6_meets 16 = .ok (.getfield 43, 3) := by decide +kernel
theorem dX6_meets_19 : decode cX6_meets 19 = .ok (.invokevirtual 166, 3) := by decide +kernel
theorem dX6_meets_22 : decode cX6_meets 22 = .ok (.ifCond .eq 44, 3) := by decide +kernel
theorem dX6_meets_25 : decode cX6_meets 25 = .ok (.aload_n 0, 1) := by decide +kernel
theorem dX6_meets_26 : decode cX6_meets 26 = .ok (.getfield 43, 3) := by decide +kernel
theorem dX6_meets_29 : decode cX6_meets 29 = .ok (.iconst 1, 1) := by decide +kernel
theorem dX6_meets_30 : decode cX6_meets 30 = .ok (.invokevirtual 155, 3) := by decide +kernel
theorem dX6_meets_33 : decode cX6_meets 33 = .ok (.lconst 1, 1) := by decide +kernel
theorem dX6_meets_34 : decode cX6_meets 34 = .ok (.lcmp, 1) := by decide +kernel
theorem dX6_meets_35 : decode cX6_meets 35 = .ok (.ifCond .ne 31, 3) := by decide +kernel
theorem dX6_meets_38 : decode cX6_meets 38 = .ok (.aload_n 0, 1) := by decide +kernel
theorem dX6_meets_39 : decode cX6_meets 39 = .ok (.getfield 43, 3) := by decide +kernel
theorem dX6_meets_42 : decode cX6_meets 42 = .ok (.iconst 0, 1) := by decide +kernel
theorem dX6_meets_43 : decode cX6_meets 43 = .ok (.invokevirtual 155, 3) := by decide +kernel
theorem dX6_meets_46 : decode cX6_meets 46 = .ok (.aload_n 0, 1) := by decide +kernel
theorem dX6_meets_47 : decode cX6_meets 47 = .ok (.getfield 19, 3) := by decide +kernel
theorem dX6_meets_50 : decode cX6_meets 50 = .ok (.getfield 66, 3) := by decide +kernel
theorem dX6_meets_53 : decode cX6_meets 53 = .ok (.iload_n 1, 1) := by decide +kernel
theorem dX6_meets_54 : decode cX6_meets 54 = .ok (.invokevirtual 110, 3) := by decide +kernel
theorem dX6_meets_57 : decode cX6_meets 57 = .ok (.i2l, 1) := by decide +kernel
theorem dX6_meets_58 : decode cX6_meets 58 = .ok (.lcmp, 1) := by decide +kernel
theorem dX6_meets_59 : decode cX6_meets 59 = .ok (.ifCond .ne 7, 3) := by decide +kernel
theorem dX6_meets_62 : decode cX6_meets 62 = .ok (.iconst 1, 1) := by decide +kernel
theorem dX6_meets_63 : decode cX6_meets 63 = .ok (.goto 4, 3) := by decide +kernel
theorem dX6_meets_66 : decode cX6_meets 66 = .ok (.iconst 0, 1) := by decide +kernel
theorem dX6_meets_67 : decode cX6_meets 67 = .ok (.ireturn, 1) := by decide +kernel
theorem dJ5_init_d00df_0 : decode cJ5_init_d00df 0 = .ok (.aload_n 0, 1) := by decide +kernel
theorem dJ5_init_d00df_1 : decode cJ5_init_d00df 1 = .ok (.invokespecial 3, 3) := by decide +kernel
theorem dJ5_init_d00df_4 : decode cJ5_init_d00df 4 = .ok (.getstatic 18, 3) := by decide +kernel
theorem dJ5_init_d00df_7 : decode cJ5_init_d00df 7 = .ok (.ifCond .eq 18, 3) := by decide +kernel
theorem dJ5_init_d00df_10 : decode cJ5_init_d00df 10 = .ok (.aload_n 0, 1) := by decide +kernel
theorem dJ5_init_d00df_11 : decode cJ5_init_d00df 11 = .ok (.iload_n 1, 1) := by decide +kernel
theorem dJ5_init_d00df_12 : decode cJ5_init_d00df 12 = .ok (.newarray .byte, 2) := by decide +kernel
theorem dJ5_init_d00df_14 : decode cJ5_init_d00df 14 = .ok (.putfield 15, 3) := by decide +kernel
theorem dJ5_init_d00df_17 : decode cJ5_init_d00df 17 = .ok (.aload_n 0, 1) := by decide +kernel
theorem dJ5_init_d00df_18 : decode cJ5_init_d00df 18 = .ok (.iconst 0, 1) := by decide +kernel
theorem dJ5_init_d00df_19 : decode cJ5_init_d00df 19 = .ok (.putfield 22, 3) := by decide +kernel
theorem dJ5_init_d00df_22 : decode cJ5_init_d00df 22 = .ok (.goto 16, 3) := by decide +kernel
theorem dJ5_init_d00df_25 : decode cJ5_init_d00df 25 = .ok (.aload_n 0, 1) := by decide +kernel
theorem dJ5_init_d00df_26 : decode cJ5_init_d00df 26 = .ok (.iload_n 1, 1) := by decide +kernel
theorem dJ5_init_d00df_27 : decode cJ5_init_d00df 27 = .ok (.invokestatic 26, 3) := by decide +kernel
theorem dJ5_init_d00df_30 : decode cJ5_init_d00df 30 = .ok (.putfield 15, 3) := by decide +kernel
theorem dJ5_init_d00df_33 : decode cJ5_init_d00df 33 = .ok (.aload_n 0, 1) := by decide +kernel
theorem dJ5_init_d00df_34 : decode cJ5_init_d00df 34 = .ok (.iconst 1, 1) := by decide +kernel
theorem dJ5_init_d00df_35 : decode cJ5_init_d00df 35 = .ok (.putfield 22, 3) := by decide +kernel
theorem dJ5_init_d00df_38 : decode cJ5_init_d00df 38 = .ok (.return_, 1) := by decide +kernel
theorem dJ5_length_8abf5_0 : decode cJ5_length_8abf5 0 = .ok (.aload_n 0, 1) := by decide +kernel
theorem dJ5_length_8abf5_1 : decode cJ5_length_8abf5 1 = .ok (.getfield 79, 3) := by decide +kernel
theorem dJ5_length_8abf5_4 : decode cJ5_length_8abf5 4 = .ok (.ireturn, 1) := by decide +kernel
theorem dJ5_ensureCapacityInternal_d00df_0 : decode cJ5_ensureCapacityInternal_d00df 0 = .ok (.aload_n 0, 1) := by decide +kernel
theorem dJ5_ensureCapacityInternal_d00df_1 : decode cJ5_ensureCapacityInternal_d00df 1 = .ok (.getfield 15, 3) := by decide +kernel
theorem dJ5_ensureCapacityInternal_d00df_4 : decode cJ5_ensureCapacityInternal_d00df 4 = .ok (.arraylength, 1) := by decide +kernel
theorem dJ5_ensureCapacityInternal_d00df_5 : decode cJ5_ensureCapacityInternal_d00df 5 = .ok (.aload_n 0, 1) := by decide +kernel
theorem dJ5_ensureCapacityInternal_d00df_6 : decode cJ5_ensureCapacityInternal_d00df 6 = .ok (.getfield 22, 3) := by decide +kernel
theorem dJ5_ensureCapacityInternal_d00df_9 : decode cJ5_ensureCapacityInternal_d00df 9 = .ok (.ishr, 1) := by decide +kernel
theorem dJ5_ensureCapacityInternal_d00df_10 : decode cJ5_ensureCapacityInternal_d00df 10 = .ok (.istore_n 2, 1) := by decide +kernel
theorem dJ5_ensureCapacityInternal_d00df_11 : decode cJ5_ensureCapacityInternal_d00df 11 = .ok (.iload_n 1, 1) := by decide +kernel
theorem dJ5_ensureCapacityInternal_d00df_12 : decode cJ5_ensureCapacityInternal_d00df 12 = .ok (.iload_n 2, 1) := by decide +kernel
theorem dJ5_ensureCapacityInternal_d00df_13 : decode cJ5_ensureCapacityInternal_d00df 13 = .ok (.isub, 1) := by decide +kernel
theorem dJ5_ensureCapacityInternal_d00df_14 : decode cJ5_ensureCapacityInternal_d00df 14 = .ok (.ifCond .le 24, 3) := by decide +kernel
theorem dJ5_ensureCapacityInternal_d00df_17 : decode cJ5_ensureCapacityInternal_d00df 17 = .ok (.aload_n 0, 1) := by decide +kernel
theorem dJ5_ensureCapacityInternal_d00df_18 : decode cJ5_ensureCapacityInternal_d00df 18 = .ok (.aload_n 0, 1) := by decide +kernel
theorem dJ5_ensureCapacityInternal_d00df_19 : decode cJ5_ensureCapacityInternal_d00df 19 = .ok (.getfield 15, 3) := by decide +kernel
theorem dJ5_ensureCapacityInternal_d00df_22 : decode cJ5_ensureCapacityInternal_d00df 22 = .ok (.aload_n 0, 1) := by decide +kernel
theorem dJ5_ensureCapacityInternal_d00df_23 : decode cJ5_ensureCapacityInternal_d00df 23 = .ok (.iload_n 1, 1) := by decide +kernel
theorem dJ5_ensureCapacityInternal_d00df_24 : decode cJ5_ensureCapacityInternal_d00df 24 = .ok (.invokevirtual 104, 3) := by decide +kernel
theorem dJ5_ensureCapacityInternal_d00df_27 : decode cJ5_ensureCapacityInternal_d00df 27 = .ok (.aload_n 0, 1) := by decide +kernel
theorem dJ5_ensureCapacityInternal_d00df_28 : decode cJ5_ensureCapacityInternal_d00df 28 = .ok (.getfield 22, 3) := by decide +kernel
theorem dJ5_ensureCapacityInternal_d00df_31 : decode cJ5_ensureCapacityInternal_d00df 31 = .ok (.ishl, 1) := by decide +kernel
theorem dJ5_ensureCapacityInternal_d00df_32 : decode cJ5_ensureCapacityInternal_d00df 32 = .ok (.invokestatic 108, 3) := by decide +kernel
theorem dJ5_ensureCapacityInternal_d00df_35 : decode cJ5_ensureCapacityInternal_d00df 35 = .ok (.putfield 15, 3) := by decide +kernel
theorem dJ5_ensureCapacityInternal_d00df_38 : decode cJ5_ensureCapacityInternal_d00df 38 = .ok (.return_, 1) := by decide +kernel
theorem dJ5_newCapacity_0f7a4_0 : decode cJ5_newCapacity_0f7a4 0 = .ok (.aload_n 0, 1) := by decide +kernel
theorem dJ5_newCapacity_0f7a4_1 : decode cJ5_newCapacity_0f7a4 1 = .ok (.getfield 15, 3) := by decide +kernel
theorem dJ5_newCapacity_0f7a4_4 : decode cJ5_newCapacity_0f7a4 4 = .ok (.arraylength, 1) := by decide +kernel
theorem dJ5_newCapacity_0f7a4_5 : decode cJ5_newCapacity_0f7a4 5 = .ok (.istore_n 2, 1) := by decide +kernel
theorem dJ5_newCapacity_0f7a4_6 : decode cJ5_newCapacity_0f7a4 6 = .ok (.iload_n 1, 1) := by decide +kernel
theorem dJ5_newCapacity_0f7a4_7 : decode cJ5_newCapacity_0f7a4 7 = .ok (.aload_n 0, 1) := by decide +kernel
theorem dJ5_newCapacity_0f7a4_8 : decode cJ5_newCapacity_0f7a4 8 = .ok (.getfield 22, 3) := by decide +kernel
theorem dJ5_newCapacity_0f7a4_11 : decode cJ5_newCapacity_0f7a4 11 = .ok (.ishl, 1) := by decide +kernel
theorem dJ5_newCapacity_0f7a4_12 : decode cJ5_newCapacity_0f7a4 12 = .ok (.istore_n 3, 1) := by decide +kernel
theorem dJ5_newCapacity_0f7a4_13 : decode cJ5_newCapacity_0f7a4 13 = .ok (.iload_n 3, 1) := by decide +kernel
theorem dJ5_newCapacity_0f7a4_14 : decode cJ5_newCapacity_0f7a4 14 = .ok (.iload_n 2, 1) := by decide +kernel
theorem dJ5_newCapacity_0f7a4_15 : decode cJ5_newCapacity_0f7a4 15 = .ok (.isub, 1) := by decide +kernel
theorem dJ5_newCapacity_0f7a4_16 : decode cJ5_newCapacity_0f7a4 16 = .ok (.istore 4, 2) := by decide +kernel
theorem dJ5_newCapacity_0f7a4_18 : decode cJ5_newCapacity_0f7a4 18 = .ok (.iload_n 2, 1) := by decide +kernel
theorem dJ5_newCapacity_0f7a4_19 : decode cJ5_newCapacity_0f7a4 19 = .ok (.iload 4, 2) := by decide +kernel
theorem dJ5_newCapacity_0f7a4_21 : decode cJ5_newCapacity_0f7a4 21 = .ok (.iload_n 2, 1) := by decide +kernel
theorem dJ5_newCapacity_0f7a4_22 : decode cJ5_newCapacity_0f7a4 22 = .ok (.iconst 2, 1) := by decide +kernel
theorem dJ5_newCapacity_0f7a4_23 : decode cJ5_newCapacity_0f7a4 23 = .ok (.aload_n 0, 1) := by decide +kernel
theorem dJ5_newCapacity_0f7a4_24 : decode cJ5_newCapacity_0f7a4 24 = .ok (.getfield 22, 3) := by decide +kernel
theorem dJ5_newCapacity_0f7a4_27 : decode cJ5_newCapacity_0f7a4 27 = .ok (.ishl, 1) := by decide +kernel
theorem dJ5_newCapacity_0f7a4_28 : decode cJ5_newCapacity_0f7a4 28 = .ok (.iadd, 1) := by decide +kernel
theorem dJ5_newCapacity_0f7a4_29 : decode cJ5_newCapacity_0f7a4 29 = .ok (.invokestatic 114, 3) := by decide +kernel
theorem dJ5_newCapacity_0f7a4_32 : decode cJ5_newCapacity_0f7a4 32 = .ok (.istore 5, 2) := by decide +kernel
theorem dJ5_newCapacity_0f7a4_34 : decode cJ5_newCapacity_0f7a4 34 = .ok (.iload 5, 2) := by decide +kernel
theorem dJ5_newCapacity_0f7a4_36 : decode cJ5_newCapacity_0f7a4 36 = .ok (.ldc 39, 2) := by decide +kernel
theorem dJ5_newCapacity_0f7a4_38 : decode cJ5_newCapacity_0f7a4 38 = .ok (.if_icmp .ne 13, 3) := by decide +kernel
theorem dJ5_newCapacity_0f7a4_41 : decode cJ5_newCapacity_0f7a4 41 = .ok (.new 120, 3) := by decide +kernel
theorem dJ5_newCapacity_0f7a4_44 : decode cJ5_newCapacity_0f7a4 44 = .ok (.dup, 1) := by decide +kernel
theorem dJ5_newCapacity_0f7a4_45 : decode cJ5_newCapacity_0f7a4 45 = .ok (.ldc 122, 2) := by decide +kernel
theorem dJ5_newCapacity_0f7a4_47 : decode cJ5_newCapacity_0f7a4 47 = .ok (.invokespecial 124, 3) := by decide +kernel
theorem dJ5_newCapacity_0f7a4_50 : decode cJ5_newCapacity_0f7a4 50 = .ok (.athrow, 1) := by decide +kernel
theorem dJ5_newCapacity_0f7a4_51 : decode cJ5_newCapacity_0f7a4 51 = .ok (.iload 5, 2) := by decide +kernel
theorem dJ5_newCapacity_0f7a4_53 : decode cJ5_newCapacity_0f7a4 53 = .ok (.aload_n 0, 1) := by decide +kernel
theorem dJ5_newCapacity_0f7a4_54 : decode cJ5_newCapacity_0f7a4 54 = .ok (.getfield 22, 3) := by decide +kernel
theorem dJ5_newCapacity_0f7a4_57 : decode cJ5_newCapacity_0f7a4 57 = .ok (.ishr, 1) := by decide +kernel
theorem dJ5_newCapacity_0f7a4_58 : decode cJ5_newCapacity_0f7a4 58 = .ok (.ireturn, 1) := by decide +kernel
theorem dJ5_append_cf1ce_0 : decode cJ5_append_cf1ce 0 = .ok (.aload_n 1, 1) := by decide +kernel
theorem dJ5_append_cf1ce_1 : decode cJ5_append_cf1ce 1 = .ok (.ifnonnull 8, 3) := by decide +kernel
theorem dJ5_append_cf1ce_4 : decode cJ5_append_cf1ce 4 = .ok (.aload_n 0, 1) := by decide +kernel
theorem dJ5_append_cf1ce_5 : decode cJ5_append_cf1ce 5 = .ok (.invokevirtual 204, 3) := by decide +kernel
theorem dJ5_append_cf1ce_8 : decode cJ5_append_cf1ce 8 = .ok (.areturn, 1) := by decide +kernel
theorem dJ5_append_cf1ce_9 : decode cJ5_append_cf1ce 9 = .ok (.aload_n 1, 1) := by decide +kernel
theorem dJ5_append_cf1ce_10 : decode cJ5_append_cf1ce 10 = .ok (.invokevirtual 32, 3) := by decide +kernel
theorem dJ5_append_cf1ce_13 : decode cJ5_append_cf1ce 13 = .ok (.istore_n 2, 1) := by decide +kernel
theorem dJ5_append_cf1ce_14 : decode cJ5_append_cf1ce 14 = .ok (.aload_n 0, 1) := by decide +kernel
theorem dJ5_append_cf1ce_15 : decode cJ5_append_cf1ce 15 = .ok (.aload_n 0, 1) := by decide +kernel
theorem dJ5_append_cf1ce_16 : decode cJ5_append_cf1ce 16 = .ok (.getfield 79, 3) := by decide +kernel
theorem dJ5_append_cf1ce_19 : decode cJ5_append_cf1ce 19 = .ok (.iload_n 2, 1) := by decide +kernel
theorem dJ5_append_cf1ce_20 : decode cJ5_append_cf1ce 20 = .ok (.iadd, 1) := by decide +kernel
theorem dJ5_append_cf1ce_21 : decode cJ5_append_cf1ce 21 = .ok (.invokevirtual 100, 3) := by decide +kernel
theorem dJ5_append_cf1ce_24 : decode cJ5_append_cf1ce 24 = .ok (.aload_n 0, 1) := by decide +kernel
theorem dJ5_append_cf1ce_25 : decode cJ5_append_cf1ce 25 = .ok (.aload_n 0, 1) := by decide +kernel
theorem dJ5_append_cf1ce_26 : decode cJ5_append_cf1ce 26 = .ok (.getfield 79, 3) := by decide +kernel
theorem dJ5_append_cf1ce_29 : decode cJ5_append_cf1ce 29 = .ok (.aload_n 1, 1) := by decide +kernel
theorem dJ5_append_cf1ce_30 : decode cJ5_append_cf1ce 30 = .ok (.invokevirtual 208, 3) := by decide +kernel
theorem dJ5_append_cf1ce_33 : decode cJ5_append_cf1ce 33 = .ok (.aload_n 0, 1) := by decide +kernel
theorem dJ5_append_cf1ce_34 : decode cJ5_append_cf1ce 34 = .ok (.dup, 1) := by decide +kernel
theorem dJ5_append_cf1ce_35 : decode cJ5_append_cf1ce 35 = .ok (.getfield 79, 3) := by decide +kernel
theorem dJ5_append_cf1ce_38 : decode cJ5_append_cf1ce 38 = .ok (.iload_n 2, 1) := by decide +kernel
theorem dJ5_append_cf1ce_39 : decode cJ5_append_cf1ce 39 = .ok (.iadd, 1) := by decide +kernel
theorem dJ5_append_cf1ce_40 : decode cJ5_append_cf1ce 40 = .ok (.putfield 79, 3) := by decide +kernel
theorem dJ5_append_cf1ce_43 : decode cJ5_append_cf1ce 43 = .ok (.aload_n 0, 1) := by decide +kernel
theorem dJ5_append_cf1ce_44 : decode cJ5_append_cf1ce 44 = .ok (.areturn, 1) := by decide +kernel
theorem dJ5_append_c97b9_0 : decode cJ5_append_c97b9 0 = .ok (.aload_n 0, 1) := by decide +kernel
theorem dJ5_append_c97b9_1 : decode cJ5_append_c97b9 1 = .ok (.getfield 79, 3) := by decide +kernel
theorem dJ5_append_c97b9_4 : decode cJ5_append_c97b9 4 = .ok (.istore_n 2, 1) := by decide +kernel
theorem dJ5_append_c97b9_5 : decode cJ5_append_c97b9 5 = .ok (.iload_n 2, 1) := by decide +kernel
theorem dJ5_append_c97b9_6 : decode cJ5_append_c97b9 6 = .ok (.iload_n 1, 1) := by decide +kernel
theorem dJ5_append_c97b9_7 : decode cJ5_append_c97b9 7 = .ok (.invokestatic 245, 3) := by decide +kernel
theorem dJ5_append_c97b9_10 : decode cJ5_append_c97b9 10 = .ok (.iadd, 1) := by decide +kernel
theorem dJ5_append_c97b9_11 : decode cJ5_append_c97b9 11 = .ok (.istore_n 3, 1) := by decide +kernel
theorem dJ5_append_c97b9_12 : decode cJ5_append_c97b9 12 = .ok (.aload_n 0, 1) := by decide +kernel
theorem dJ5_append_c97b9_13 : decode cJ5_append_c97b9 13 = .ok (.iload_n 3, 1) := by decide +kernel
theorem dJ5_append_c97b9_14 : decode cJ5_append_c97b9 14 = .ok (.invokevirtual 100, 3) := by decide +kernel
theorem dJ5_append_c97b9_17 : decode cJ5_append_c97b9 17 = .ok (.aload_n 0, 1) := by decide +kernel
theorem dJ5_append_c97b9_18 : decode cJ5_append_c97b9 18 = .ok (.invokevirtual 83, 3) := by decide +kernel
theorem dJ5_append_c97b9_21 : decode cJ5_append_c97b9 21 = .ok (.ifCond .eq 16, 3) := by decide +kernel
theorem dJ5_append_c97b9_24 : decode cJ5_append_c97b9 24 = .ok (.iload_n 1, 1) := by decide +kernel
theorem dJ5_append_c97b9_25 : decode cJ5_append_c97b9 25 = .ok (.iload_n 3, 1) := by decide +kernel
theorem dJ5_append_c97b9_26 : decode cJ5_append_c97b9 26 = .ok (.aload_n 0, 1) := by decide +kernel
theorem dJ5_append_c97b9_27 : decode cJ5_append_c97b9 27 = .ok (.getfield 15, 3) := by decide +kernel
theorem dJ5_append_c97b9_30 : decode cJ5_append_c97b9 30 = .ok (.invokestatic 248, 3) := by decide +kernel
theorem dJ5_append_c97b9_33 : decode cJ5_append_c97b9 33 = .ok (.pop, 1) := by decide +kernel
theorem dJ5_append_c97b9_34 : decode cJ5_append_c97b9 34 = .ok (.goto 14, 3) := by decide +kernel
theorem dJ5_append_c97b9_37 : decode cJ5_append_c97b9 37 = .ok (.iload_n 1, 1) := by decide +kernel
theorem dJ5_append_c97b9_38 : decode cJ5_append_c97b9 38 = .ok (.iload_n 2, 1) := by decide +kernel
theorem dJ5_append_c97b9_39 : decode cJ5_append_c97b9 39 = .ok (.iload_n 3, 1) := by decide +kernel
theorem dJ5_append_c97b9_40 : decode cJ5_append_c97b9 40 = .ok (.aload_n 0, 1) := by decide +kernel
theorem dJ5_append_c97b9_41 : decode cJ5_append_c97b9 41 = .ok (.getfield 15, 3) := by decide +kernel
theorem dJ5_append_c97b9_44 : decode cJ5_append_c97b9 44 = .ok (.invokestatic 251, 3) := by decide +kernel
theorem dJ5_append_c97b9_47 : decode cJ5_append_c97b9 47 = .ok (.pop, 1) := by decide +kernel
theorem dJ5_append_c97b9_48 : decode cJ5_append_c97b9 48 = .ok (.aload_n 0, 1) := by decide +kernel
theorem dJ5_append_c97b9_49 : decode cJ5_append_c97b9 49 = .ok (.iload_n 3, 1) := by decide +kernel
theorem dJ5_append_c97b9_50 : decode cJ5_append_c97b9 50 = .ok (.putfield 79, 3) := by decide +kernel
theorem dJ5_append_c97b9_53 : decode cJ5_append_c97b9 53 = .ok (.aload_n 0, 1) := by decide +kernel
theorem dJ5_append_c97b9_54 : decode cJ5_append_c97b9 54 = .ok (.areturn, 1) := by decide +kernel
theorem dJ5_getValue_6d5f1_0 : decode cJ5_getValue_6d5f1 0 = .ok (.aload_n 0, 1) := by decide +kernel
theorem dJ5_getValue_6d5f1_1 : decode cJ5_getValue_6d5f1 1 = .ok (.getfield 15, 3) := by decide +kernel
theorem dJ5_getValue_6d5f1_4 : decode cJ5_getValue_6d5f1 4 = .ok (.areturn, 1) := by decide +kernel
theorem dJ5_isLatin1_aae02_0 : decode cJ5_isLatin1_aae02 0 = .ok (.getstatic 18, 3) := by decide +kernel
theorem dJ5_isLatin1_aae02_3 : decode cJ5_isLatin1_aae02 3 = .ok (.ifCond .eq 14, 3) := by decide +kernel
theorem dJ5_isLatin1_aae02_6 : decode cJ5_isLatin1_aae02 6 = .ok (.aload_n 0, 1) := by decide +kernel
theorem dJ5_isLatin1_aae02_7 : decode cJ5_isLatin1_aae02 7 = .ok (.getfield 22, 3) := by decide +kernel
theorem dJ5_isLatin1_aae02_10 : decode cJ5_isLatin1_aae02 10 = .ok (.ifCond .ne 7, 3) := by decide +kernel
theorem dJ5_isLatin1_aae02_13 : decode cJ5_isLatin1_aae02 13 = .ok (.iconst 1, 1) := by decide +kernel
theorem dJ5_isLatin1_aae02_14 : decode cJ5_isLatin1_aae02 14 = .ok (.goto 4, 3) := by decide +kernel
theorem dJ5_isLatin1_aae02_17 : decode cJ5_isLatin1_aae02 17 = .ok (.iconst 0, 1) := by decide +kernel
theorem dJ5_isLatin1_aae02_18 : decode cJ5_isLatin1_aae02 18 = .ok (.ireturn, 1) := by decide +kernel
theorem dJ5_inflateIfNeededFor_a7421_0 : decode cJ5_inflateIfNeededFor_a7421 0 = .ok (.getstatic 18, 3) := by decide +kernel
theorem dJ5_inflateIfNeededFor_a7421_3 : decode cJ5_inflateIfNeededFor_a7421 3 = .ok (.ifCond .eq 18, 3) := by decide +kernel
theorem dJ5_inflateIfNeededFor_a7421_6 : decode cJ5_inflateIfNeededFor_a7421 6 = .ok (.aload_n 0, 1) := by decide +kernel
theorem dJ5_inflateIfNeededFor_a7421_7 : decode cJ5_inflateIfNeededFor_a7421 7 = .ok (.getfield 22, 3) := by decide +kernel
theorem dJ5_inflateIfNeededFor_a7421_10 : decode cJ5_inflateIfNeededFor_a7421 10 = .ok (.aload_n 1, 1) := by decide +kernel
theorem dJ5_inflateIfNeededFor_a7421_11 : decode cJ5_inflateIfNeededFor_a7421 11 = .ok (.invokevirtual 40, 3) := by decide +kernel
theorem dJ5_inflateIfNeededFor_a7421_14 : decode cJ5_inflateIfNeededFor_a7421 14 = .ok (.if_icmp .eq 7, 3) := by decide +kernel
theorem dJ5_inflateIfNeededFor_a7421_17 : decode cJ5_inflateIfNeededFor_a7421 17 = .ok (.aload_n 0, 1) := by decide +kernel
theorem dJ5_inflateIfNeededFor_a7421_18 : decode cJ5_inflateIfNeededFor_a7421 18 = .ok (.invokevirtual 195, 3) := by decide +kernel
theorem dJ5_inflateIfNeededFor_a7421_21 : decode cJ5_inflateIfNeededFor_a7421 21 = .ok (.return_, 1) := by decide +kernel
theorem dJ5_putStringAt_47b60_0 : decode cJ5_putStringAt_47b60 0 = .ok (.aload_n 0, 1) := by decide +kernel
theorem dJ5_putStringAt_47b60_1 : decode cJ5_putStringAt_47b60 1 = .ok (.aload_n 2, 1) := by decide +kernel
theorem dJ5_putStringAt_47b60_2 : decode cJ5_putStringAt_47b60 2 = .ok (.invokevirtual 397, 3) := by decide +kernel
theorem dJ5_putStringAt_47b60_5 : decode cJ5_putStringAt_47b60 5 = .ok (.aload_n 2, 1) := by decide +kernel
theorem dJ5_putStringAt_47b60_6 : decode cJ5_putStringAt_47b60 6 = .ok (.aload_n 0, 1) := by decide +kernel
theorem dJ5_putStringAt_47b60_7 : decode cJ5_putStringAt_47b60 7 = .ok (.getfield 15, 3) := by decide +kernel
theorem dJ5_putStringAt_47b60_10 : decode cJ5_putStringAt_47b60 10 = .ok (.iload_n 1, 1) := by decide +kernel
theorem dJ5_putStringAt_47b60_11 : decode cJ5_putStringAt_47b60 11 = .ok (.aload_n 0, 1) := by decide +kernel
theorem dJ5_putStringAt_47b60_12 : decode cJ5_putStringAt_47b60 12 = .ok (.getfield 22, 3) := by decide +kernel
theorem dJ5_putStringAt_47b60_15 : decode cJ5_putStringAt_47b60 15 = .ok (.invokevirtual 399, 3) := by decide +kernel
theorem dJ5_putStringAt_47b60_18 : decode cJ5_putStringAt_47b60 18 = .ok (.return_, 1) := by decide +kernel
theorem dJ6_getChars_ba4f3_0 : decode cJ6_getChars_ba4f3 0 = .ok (.iload_n 1, 1) := by decide +kernel
theorem dJ6_getChars_ba4f3_1 : decode cJ6_getChars_ba4f3 1 = .ok (.istore 5, 2) := by decide +kernel
theorem dJ6_getChars_ba4f3_3 : decode cJ6_getChars_ba4f3 3 = .ok (.iload_n 0, 1) := by decide +kernel
theorem dJ6_getChars_ba4f3_4 : decode cJ6_getChars_ba4f3 4 = .ok (.ifCond .ge 7, 3) := by decide +kernel
theorem dJ6_getChars_ba4f3_7 : decode cJ6_getChars_ba4f3 7 = .ok (.iconst 1, 1) := by decide +kernel
theorem dJ6_getChars_ba4f3_8 : decode cJ6_getChars_ba4f3 8 = .ok (.goto 4, 3) := by decide +kernel
theorem dJ6_getChars_ba4f3_11 : decode cJ6_getChars_ba4f3 11 = .ok (.iconst 0, 1) := by decide +kernel
theorem dJ6_getChars_ba4f3_12 : decode cJ6_getChars_ba4f3 12 = .ok (.istore 6, 2) := by decide +kernel
theorem dJ6_getChars_ba4f3_14 : decode cJ6_getChars_ba4f3 14 = .ok (.iload 6, 2) := by decide +kernel
theorem dJ6_getChars_ba4f3_16 : decode cJ6_getChars_ba4f3 16 = .ok (.ifCond .ne 6, 3) := by decide +kernel
theorem dJ6_getChars_ba4f3_19 : decode cJ6_getChars_ba4f3 19 = .ok (.iload_n 0, 1) := by decide +kernel
theorem dJ6_getChars_ba4f3_20 : decode cJ6_getChars_ba4f3 20 = .ok (.ineg, 1) := by decide +kernel
theorem dJ6_getChars_ba4f3_21 : decode cJ6_getChars_ba4f3 21 = .ok (.istore_n 0, 1) := by decide +kernel
theorem dJ6_getChars_ba4f3_22 : decode cJ6_getChars_ba4f3 22 = .ok (.iload_n 0, 1) := by decide +kernel
theorem dJ6_getChars_ba4f3_23 : decode cJ6_getChars_ba4f3 23 = .ok (.bipush (-100), 2) := by decide +kernel
theorem dJ6_getChars_ba4f3_25 : decode cJ6_getChars_ba4f3 25 = .ok (.if_icmp .gt 47, 3) := by decide +kernel
theorem dJ6_getChars_ba4f3_28 : decode cJ6_getChars_ba4f3 28 = .ok (.iload_n 0, 1) := by decide +kernel
theorem dJ6_getChars_ba4f3_29 : decode cJ6_getChars_ba4f3 29 = .ok (.bipush 100, 2) := by decide +kernel
theorem dJ6_getChars_ba4f3_31 : decode cJ6_getChars_ba4f3 31 = .ok (.idiv, 1) := by decide +kernel
theorem dJ6_getChars_ba4f3_32 : decode cJ6_getChars_ba4f3 32 = .ok (.istore_n 3, 1) := by decide +kernel
theorem dJ6_getChars_ba4f3_33 : decode cJ6_getChars_ba4f3 33 = .ok (.iload_n 3, 1) := by decide +kernel
theorem dJ6_getChars_ba4f3_34 : decode cJ6_getChars_ba4f3 34 = .ok (.bipush 100, 2) := by decide +kernel
theorem dJ6_getChars_ba4f3_36 : decode cJ6_getChars_ba4f3 36 = .ok (.imul, 1) := by decide +kernel
theorem dJ6_getChars_ba4f3_37 : decode cJ6_getChars_ba4f3 37 = .ok (.iload_n 0, 1) := by decide +kernel
theorem dJ6_getChars_ba4f3_38 : decode cJ6_getChars_ba4f3 38 = .ok (.isub, 1) := by decide +kernel
theorem dJ6_getChars_ba4f3_39 : decode cJ6_getChars_ba4f3 39 = .ok (.istore 4, 2) := by decide +kernel
theorem dJ6_getChars_ba4f3_41 : decode cJ6_getChars_ba4f3 41 = .ok (.iload_n 3, 1) := by decide +kernel
theorem dJ6_getChars_ba4f3_42 : decode cJ6_getChars_ba4f3 42 = .ok (.istore_n 0, 1) := by decide +kernel
theorem dJ6_getChars_ba4f3_43 : decode cJ6_getChars_ba4f3 43 = .ok (.aload_n 2, 1) := by decide +kernel
theorem dJ6_getChars_ba4f3_44 : decode cJ6_getChars_ba4f3 44 = .ok (.iinc 5 (-1), 3) := by decide +kernel
theorem dJ6_getChars_ba4f3_47 : decode cJ6_getChars_ba4f3 47 = .ok (.iload 5, 2) := by decide +kernel
theorem dJ6_getChars_ba4f3_49 : decode cJ6_getChars_ba4f3 49 = .ok (.getstatic 83, 3) := by decide +kernel
theorem dJ6_getChars_ba4f3_52 : decode cJ6_getChars_ba4f3 52 = .ok (.iload 4, 2) := by decide +kernel
theorem dJ6_getChars_ba4f3_54 : decode cJ6_getChars_ba4f3 54 = .ok (.baload, 1) := by decide +kernel
theorem dJ6_getChars_ba4f3_55 : decode cJ6_getChars_ba4f3 55 = .ok (.bastore, 1) := by decide +kernel
theorem dJ6_getChars_ba4f3_56 : decode cJ6_getChars_ba4f3 56 = .ok (.aload_n 2, 1) := by decide +kernel
theorem dJ6_getChars_ba4f3_57 : decode cJ6_getChars_ba4f3 57 = .ok (.iinc 5 (-1), 3) := by decide +kernel
theorem dJ6_getChars_ba4f3_60 : decode cJ6_getChars_ba4f3 60 = .ok (.iload 5, 2) := by decide +kernel
theorem dJ6_getChars_ba4f3_62 : decode cJ6_getChars_ba4f3 62 = .ok (.getstatic 87, 3) := by decide +kernel
theorem dJ6_getChars_ba4f3_65 : decode cJ6_getChars_ba4f3 65 = .ok (.iload 4, 2) := by decide +kernel
theorem dJ6_getChars_ba4f3_67 : decode cJ6_getChars_ba4f3 67 = .ok (.baload, 1) := by decide +kernel
theorem dJ6_getChars_ba4f3_68 : decode cJ6_getChars_ba4f3 68 = .ok (.bastore, 1) := by decide +kernel
theorem dJ6_getChars_ba4f3_69 : decode cJ6_getChars_ba4f3 69 = .ok (.goto (-47), 3) := by decide +kernel
theorem dJ6_getChars_ba4f3_72 : decode cJ6_getChars_ba4f3 72 = .ok (.aload_n 2, 1) := by decide +kernel
theorem dJ6_getChars_ba4f3_73 : decode cJ6_getChars_ba4f3 73 = .ok (.iinc 5 (-1), 3) := by decide +kernel
theorem dJ6_getChars_ba4f3_76 : decode cJ6_getChars_ba4f3 76 = .ok (.iload 5, 2) := by decide +kernel
theorem dJ6_getChars_ba4f3_78 : decode cJ6_getChars_ba4f3 78 = .ok (.getstatic 83, 3) := by decide +kernel
theorem dJ6_getChars_ba4f3_81 : decode cJ6_getChars_ba4f3 81 = .ok (.iload_n 0, 1) := by decide +kernel
theorem dJ6_getChars_ba4f3_82 : decode cJ6_getChars_ba4f3 82 = .ok (.ineg, 1) := by decide +kernel
theorem dJ6_getChars_ba4f3_83 : decode cJ6_getChars_ba4f3 83 = .ok (.baload, 1) := by decide +kernel
theorem dJ6_getChars_ba4f3_84 : decode cJ6_getChars_ba4f3 84 = .ok (.bastore, 1) := by decide +kernel
theorem dJ6_getChars_ba4f3_85 : decode cJ6_getChars_ba4f3 85 = .ok (.iload_n 0, 1) := by decide +kernel
theorem dJ6_getChars_ba4f3_86 : decode cJ6_getChars_ba4f3 86 = .ok (.bipush (-9), 2) := by decide +kernel
theorem dJ6_getChars_ba4f3_88 : decode cJ6_getChars_ba4f3 88 = .ok (.if_icmp .ge 16, 3) := by decide +kernel
theorem dJ6_getChars_ba4f3_91 : decode cJ6_getChars_ba4f3 91 = .ok (.aload_n 2, 1) := by decide +kernel
theorem dJ6_getChars_ba4f3_92 : decode cJ6_getChars_ba4f3 92 = .ok (.iinc 5 (-1), 3) := by decide +kernel
theorem dJ6_getChars_ba4f3_95 : decode cJ6_getChars_ba4f3 95 = .ok (.iload 5, 2) := by decide +kernel
theorem dJ6_getChars_ba4f3_97 : decode cJ6_getChars_ba4f3 97 = .ok (.getstatic 87, 3) := by decide +kernel
theorem dJ6_getChars_ba4f3_100 : decode cJ6_getChars_ba4f3 100 = .ok (.iload_n 0, 1) := by decide +kernel
theorem dJ6_getChars_ba4f3_101 : decode cJ6_getChars_ba4f3 101 = .ok (.ineg, 1) := by decide +kernel
theorem dJ6_getChars_ba4f3_102 : decode cJ6_getChars_ba4f3 102 = .ok (.baload, 1) := by decide +kernel
theorem dJ6_getChars_ba4f3_103 : decode cJ6_getChars_ba4f3 103 = .ok (.bastore, 1) := by decide +kernel
theorem dJ6_getChars_ba4f3_104 : decode cJ6_getChars_ba4f3 104 = .ok (.iload 6, 2) := by decide +kernel
theorem dJ6_getChars_ba4f3_106 : decode cJ6_getChars_ba4f3 106 = .ok (.ifCond .eq 12, 3) := by decide +kernel
theorem dJ6_getChars_ba4f3_109 : decode cJ6_getChars_ba4f3 109 = .ok (.aload_n 2, 1) := by decide +kernel
theorem dJ6_getChars_ba4f3_110 : decode cJ6_getChars_ba4f3 110 = .ok (.iinc 5 (-1), 3) := by decide +kernel
theorem dJ6_getChars_ba4f3_113 : decode cJ6_getChars_ba4f3 113 = .ok (.iload 5, 2) := by decide +kernel
theorem dJ6_getChars_ba4f3_115 : decode cJ6_getChars_ba4f3 115 = .ok (.bipush 45, 2) := by decide +kernel
theorem dJ6_getChars_ba4f3_117 : decode cJ6_getChars_ba4f3 117 = .ok (.bastore, 1) := by decide +kernel
theorem dJ6_getChars_ba4f3_118 : decode cJ6_getChars_ba4f3 118 = .ok (.iload 5, 2) := by decide +kernel
theorem dJ6_getChars_ba4f3_120 : decode cJ6_getChars_ba4f3 120 = .ok (.ireturn, 1) := by decide +kernel
theorem dJ6_stringSize_0f7a4_0 : decode cJ6_stringSize_0f7a4 0 = .ok (.iconst 1, 1) := by decide +kernel
theorem dJ6_stringSize_0f7a4_1 : decode cJ6_stringSize_0f7a4 1 = .ok (.istore_n 1, 1) := by decide +kernel
theorem dJ6_stringSize_0f7a4_2 : decode cJ6_stringSize_0f7a4 2 = .ok (.iload_n 0, 1) := by decide +kernel
theorem dJ6_stringSize_0f7a4_3 : decode cJ6_stringSize_0f7a4 3 = .ok (.ifCond .lt 8, 3) := by decide +kernel
theorem dJ6_stringSize_0f7a4_6 : decode cJ6_stringSize_0f7a4 6 = .ok (.iconst 0, 1) := by decide +kernel
theorem dJ6_stringSize_0f7a4_7 : decode cJ6_stringSize_0f7a4 7 = .ok (.istore_n 1, 1) := by decide +kernel
theorem dJ6_stringSize_0f7a4_8 : decode cJ6_stringSize_0f7a4 8 = .ok (.iload_n 0, 1) := by decide +kernel
theorem dJ6_stringSize_0f7a4_9 : decode cJ6_stringSize_0f7a4 9 = .ok (.ineg, 1) := by decide +kernel
theorem dJ6_stringSize_0f7a4_10 : decode cJ6_stringSize_0f7a4 10 = .ok (.istore_n 0, 1) := by decide +kernel
theorem dJ6_stringSize_0f7a4_11 : decode cJ6_stringSize_0f7a4 11 = .ok (.bipush (-10), 2) := by decide +kernel
theorem dJ6_stringSize_0f7a4_13 : decode cJ6_stringSize_0f7a4 13 = .ok (.istore_n 2, 1) := by decide +kernel
theorem dJ6_stringSize_0f7a4_14 : decode cJ6_stringSize_0f7a4 14 = .ok (.iconst 1, 1) := by decide +kernel
theorem dJ6_stringSize_0f7a4_15 : decode cJ6_stringSize_0f7a4 15 = .ok (.istore_n 3, 1) := by decide +kernel
theorem dJ6_stringSize_0f7a4_16 : decode cJ6_stringSize_0f7a4 16 = .ok (.iload_n 3, 1) := by decide +kernel
theorem dJ6_stringSize_0f7a4_17 : decode cJ6_stringSize_0f7a4 17 = .ok (.bipush 10, 2) := by decide +kernel
theorem dJ6_stringSize_0f7a4_19 : decode cJ6_stringSize_0f7a4 19 = .ok (.if_icmp .ge 23, 3) := by decide +kernel
theorem dJ6_stringSize_0f7a4_22 : decode cJ6_stringSize_0f7a4 22 = .ok (.iload_n 0, 1) := by decide +kernel
theorem dJ6_stringSize_0f7a4_23 : decode cJ6_stringSize_0f7a4 23 = .ok (.iload_n 2, 1) := by decide +kernel
theorem dJ6_stringSize_0f7a4_24 : decode cJ6_stringSize_0f7a4 24 = .ok (.if_icmp .le 7, 3) := by decide +kernel
theorem dJ6_stringSize_0f7a4_27 : decode cJ6_stringSize_0f7a4 27 = .ok (.iload_n 3, 1) := by decide +kernel
theorem dJ6_stringSize_0f7a4_28 : decode cJ6_stringSize_0f7a4 28 = .ok (.iload_n 1, 1) := by decide +kernel
theorem dJ6_stringSize_0f7a4_29 : decode cJ6_stringSize_0f7a4 29 = .ok (.iadd, 1) := by decide +kernel
theorem dJ6_stringSize_0f7a4_30 : decode cJ6_stringSize_0f7a4 30 = .ok (.ireturn, 1) := by decide +kernel
theorem dJ6_stringSize_0f7a4_31 : decode cJ6_stringSize_0f7a4 31 = .ok (.bipush 10, 2) := by decide +kernel
theorem dJ6_stringSize_0f7a4_33 : decode cJ6_stringSize_0f7a4 33 = .ok (.iload_n 2, 1) := by decide +kernel
theorem dJ6_stringSize_0f7a4_34 : decode cJ6_stringSize_0f7a4 34 = .ok (.imul, 1) := by decide +kernel
theorem dJ6_stringSize_0f7a4_35 : decode cJ6_stringSize_0f7a4 35 = .ok (.istore_n 2, 1) := by decide +kernel
theorem dJ6_stringSize_0f7a4_36 : decode cJ6_stringSize_0f7a4 36 = .ok (.iinc 3 1, 3) := by decide +kernel
theorem dJ6_stringSize_0f7a4_39 : decode cJ6_stringSize_0f7a4 39 = .ok (.goto (-23), 3) := by decide +kernel
theorem dJ6_stringSize_0f7a4_42 : decode cJ6_stringSize_0f7a4 42 = .ok (.bipush 10, 2) := by decide +kernel
theorem dJ6_stringSize_0f7a4_44 : decode cJ6_stringSize_0f7a4 44 = .ok (.iload_n 1, 1) := by decide +kernel
theorem dJ6_stringSize_0f7a4_45 : decode cJ6_stringSize_0f7a4 45 = .ok (.iadd, 1) := by decide +kernel
theorem dJ6_stringSize_0f7a4_46 : decode cJ6_stringSize_0f7a4 46 = .ok (.ireturn, 1) := by decide +kernel
theorem dJ0_init_81219_0 : decode cJ0_init_81219 0 = .ok (.aload_n 0, 1) := by decide +kernel
theorem dJ0_init_81219_1 : decode cJ0_init_81219 1 = .ok (.aload_n 1, 1) := by decide +kernel
theorem dJ0_init_81219_2 : decode cJ0_init_81219 2 = .ok (.aconst_null, 1) := by decide +kernel
theorem dJ0_init_81219_3 : decode cJ0_init_81219 3 = .ok (.invokespecial 489, 3) := by decide +kernel
theorem dJ0_init_81219_6 : decode cJ0_init_81219 6 = .ok (.return_, 1) := by decide +kernel
theorem dJ0_length_8abf5_0 : decode cJ0_length_8abf5 0 = .ok (.aload_n 0, 1) := by decide +kernel
theorem dJ0_length_8abf5_1 : decode cJ0_length_8abf5 1 = .ok (.getfield 9, 3) := by decide +kernel
theorem dJ0_length_8abf5_4 : decode cJ0_length_8abf5 4 = .ok (.arraylength, 1) := by decide +kernel
theorem dJ0_length_8abf5_5 : decode cJ0_length_8abf5 5 = .ok (.aload_n 0, 1) := by decide +kernel
theorem dJ0_length_8abf5_6 : decode cJ0_length_8abf5 6 = .ok (.invokevirtual 335, 3) := by decide +kernel
theorem dJ0_length_8abf5_9 : decode cJ0_length_8abf5 9 = .ok (.ishr, 1) := by decide +kernel
theorem dJ0_length_8abf5_10 : decode cJ0_length_8abf5 10 = .ok (.ireturn, 1) := by decide +kernel
theorem dJ0_charAt_5068e_0 : decode cJ0_charAt_5068e 0 = .ok (.aload_n 0, 1) := by decide +kernel
theorem dJ0_charAt_5068e_1 : decode cJ0_charAt_5068e 1 = .ok (.invokevirtual 492, 3) := by decide +kernel
theorem dJ0_charAt_5068e_4 : decode cJ0_charAt_5068e 4 = .ok (.ifCond .eq 12, 3) := by decide +kernel
theorem dJ0_charAt_5068e_7 : decode cJ0_charAt_5068e 7 = .ok (.aload_n 0, 1) := by decide +kernel
theorem dJ0_charAt_5068e_8 : decode cJ0_charAt_5068e 8 = .ok (.getfield 9, 3) := by decide +kernel
theorem dJ0_charAt_5068e_11 : decode cJ0_charAt_5068e 11 = .ok (.iload_n 1, 1) := by decide +kernel
theorem dJ0_charAt_5068e_12 : decode cJ0_charAt_5068e 12 = .ok (.invokestatic 495, 3) := by decide +kernel
theorem dJ0_charAt_5068e_15 : decode cJ0_charAt_5068e 15 = .ok (.ireturn, 1) := by decide +kernel
theorem dJ0_charAt_5068e_16 : decode cJ0_charAt_5068e 16 = .ok (.aload_n 0, 1) := by decide +kernel
theorem dJ0_charAt_5068e_17 : decode cJ0_charAt_5068e 17 = .ok (.getfield 9, 3) := by decide +kernel
theorem dJ0_charAt_5068e_20 : decode cJ0_charAt_5068e 20 = .ok (.iload_n 1, 1) := by decide +kernel
theorem dJ0_charAt_5068e_21 : decode cJ0_charAt_5068e 21 = .ok (.invokestatic 498, 3) := by decide +kernel
theorem dJ0_charAt_5068e_24 : decode cJ0_charAt_5068e 24 = .ok (.ireturn, 1) := by decide +kernel
theorem dJ0_getBytes_840e7_0 : decode cJ0_getBytes_840e7 0 = .ok (.aload_n 0, 1) := by decide +kernel
theorem dJ0_getBytes_840e7_1 : decode cJ0_getBytes_840e7 1 = .ok (.invokevirtual 335, 3) := by decide +kernel
theorem dJ0_getBytes_840e7_4 : decode cJ0_getBytes_840e7 4 = .ok (.iload_n 3, 1) := by decide +kernel
theorem dJ0_getBytes_840e7_5 : decode cJ0_getBytes_840e7 5 = .ok (.if_icmp .ne 23, 3) := by decide +kernel
theorem dJ0_getBytes_840e7_8 : decode cJ0_getBytes_840e7 8 = .ok (.aload_n 0, 1) := by decide +kernel
theorem dJ0_getBytes_840e7_9 : decode cJ0_getBytes_840e7 9 = .ok (.getfield 9, 3) := by decide +kernel
theorem dJ0_getBytes_840e7_12 : decode cJ0_getBytes_840e7 12 = .ok (.iconst 0, 1) := by decide +kernel
theorem dJ0_getBytes_840e7_13 : decode cJ0_getBytes_840e7 13 = .ok (.aload_n 1, 1) := by decide +kernel
theorem dJ0_getBytes_840e7_14 : decode cJ0_getBytes_840e7 14 = .ok (.iload_n 2, 1) := by decide +kernel
theorem dJ0_getBytes_840e7_15 : decode cJ0_getBytes_840e7 15 = .ok (.iload_n 3, 1) := by decide +kernel
theorem dJ0_getBytes_840e7_16 : decode cJ0_getBytes_840e7 16 = .ok (.ishl, 1) := by decide +kernel
theorem dJ0_getBytes_840e7_17 : decode cJ0_getBytes_840e7 17 = .ok (.aload_n 0, 1) := by decide +kernel
theorem dJ0_getBytes_840e7_18 : decode cJ0_getBytes_840e7 18 = .ok (.getfield 9, 3) := by decide +kernel
theorem dJ0_getBytes_840e7_21 : decode cJ0_getBytes_840e7 21 = .ok (.arraylength, 1) := by decide +kernel
theorem dJ0_getBytes_840e7_22 : decode cJ0_getBytes_840e7 22 = .ok (.invokestatic 212, 3) := by decide +kernel
theorem dJ0_getBytes_840e7_25 : decode cJ0_getBytes_840e7 25 = .ok (.goto 18, 3) := by decide +kernel
theorem dJ0_getBytes_840e7_28 : decode cJ0_getBytes_840e7 28 = .ok (.aload_n 0, 1) := by decide +kernel
theorem dJ0_getBytes_840e7_29 : decode cJ0_getBytes_840e7 29 = .ok (.getfield 9, 3) := by decide +kernel
theorem dJ0_getBytes_840e7_32 : decode cJ0_getBytes_840e7 32 = .ok (.iconst 0, 1) := by decide +kernel
theorem dJ0_getBytes_840e7_33 : decode cJ0_getBytes_840e7 33 = .ok (.aload_n 1, 1) := by decide +kernel
theorem dJ0_getBytes_840e7_34 : decode cJ0_getBytes_840e7 34 = .ok (.iload_n 2, 1) := by decide +kernel
theorem dJ0_getBytes_840e7_35 : decode cJ0_getBytes_840e7 35 = .ok (.aload_n 0, 1) := by decide +kernel
theorem dJ0_getBytes_840e7_36 : decode cJ0_getBytes_840e7 36 = .ok (.getfield 9, 3) := by decide +kernel
theorem dJ0_getBytes_840e7_39 : decode cJ0_getBytes_840e7 39 = .ok (.arraylength, 1) := by decide +kernel
theorem dJ0_getBytes_840e7_40 : decode cJ0_getBytes_840e7 40 = .ok (.invokestatic 106, 3) := by decide +kernel
theorem dJ0_getBytes_840e7_43 : decode cJ0_getBytes_840e7 43 = .ok (.return_, 1) := by decide +kernel
theorem dJ0_init_db425_0 : decode cJ0_init_db425 0 = .ok (.aload_n 0, 1) := by decide +kernel
theorem dJ0_init_db425_1 : decode cJ0_init_db425 1 = .ok (.invokespecial 1, 3) := by decide +kernel
theorem dJ0_init_db425_4 : decode cJ0_init_db425 4 = .ok (.aload_n 1, 1) := by decide +kernel
theorem dJ0_init_db425_5 : decode cJ0_init_db425 5 = .ok (.invokevirtual 552, 3) := by decide +kernel
theorem dJ0_init_db425_8 : decode cJ0_init_db425 8 = .ok (.astore_n 3, 1) := by decide +kernel
theorem dJ0_init_db425_9 : decode cJ0_init_db425 9 = .ok (.aload_n 1, 1) := by decide +kernel
theorem dJ0_init_db425_10 : decode cJ0_init_db425 10 = .ok (.invokevirtual 549, 3) := by decide +kernel
theorem dJ0_init_db425_13 : decode cJ0_init_db425 13 = .ok (.istore 4, 2) := by decide +kernel
theorem dJ0_init_db425_15 : decode cJ0_init_db425 15 = .ok (.aload_n 1, 1) := by decide +kernel
theorem dJ0_init_db425_16 : decode cJ0_init_db425 16 = .ok (.invokevirtual 1047, 3) := by decide +kernel
theorem dJ0_init_db425_19 : decode cJ0_init_db425 19 = .ok (.ifCond .eq 22, 3) := by decide +kernel
theorem dJ0_init_db425_22 : decode cJ0_init_db425 22 = .ok (.aload_n 0, 1) := by decide +kernel
theorem dJ0_init_db425_23 : decode cJ0_init_db425 23 = .ok (.iconst 0, 1) := by decide +kernel
theorem dJ0_init_db425_24 : decode cJ0_init_db425 24 = .ok (.putfield 15, 3) := by decide +kernel
theorem dJ0_init_db425_27 : decode cJ0_init_db425 27 = .ok (.aload_n 0, 1) := by decide +kernel
theorem dJ0_init_db425_28 : decode cJ0_init_db425 28 = .ok (.aload_n 3, 1) := by decide +kernel
theorem dJ0_init_db425_29 : decode cJ0_init_db425 29 = .ok (.iconst 0, 1) := by decide +kernel
theorem dJ0_init_db425_30 : decode cJ0_init_db425 30 = .ok (.iload 4, 2) := by decide +kernel
theorem dJ0_init_db425_32 : decode cJ0_init_db425 32 = .ok (.invokestatic 54, 3) := by decide +kernel
theorem dJ0_init_db425_35 : decode cJ0_init_db425 35 = .ok (.putfield 9, 3) := by decide +kernel
theorem dJ0_init_db425_38 : decode cJ0_init_db425 38 = .ok (.goto 59, 3) := by decide +kernel
theorem dJ0_init_db425_41 : decode cJ0_init_db425 41 = .ok (.getstatic 38, 3) := by decide +kernel
theorem dJ0_init_db425_44 : decode cJ0_init_db425 44 = .ok (.ifCond .eq 35, 3) := by decide +kernel
theorem dJ0_init_db425_47 : decode cJ0_init_db425 47 = .ok (.aload_n 1, 1) := by decide +kernel
theorem dJ0_init_db425_48 : decode cJ0_init_db425 48 = .ok (.getfield 1048, 3) := by decide +kernel
theorem dJ0_init_db425_51 : decode cJ0_init_db425 51 = .ok (.ifCond .eq 28, 3) := by decide +kernel
theorem dJ0_init_db425_54 : decode cJ0_init_db425 54 = .ok (.aload_n 0, 1) := by decide +kernel
theorem dJ0_init_db425_55 : decode cJ0_init_db425 55 = .ok (.aload_n 3, 1) := by decide +kernel
theorem dJ0_init_db425_56 : decode cJ0_init_db425 56 = .ok (.iconst 0, 1) := by decide +kernel
theorem dJ0_init_db425_57 : decode cJ0_init_db425 57 = .ok (.iload 4, 2) := by decide +kernel
theorem dJ0_init_db425_59 : decode cJ0_init_db425 59 = .ok (.invokestatic 1051, 3) := by decide +kernel
theorem dJ0_init_db425_62 : decode cJ0_init_db425 62 = .ok (.putfield 9, 3) := by decide +kernel
theorem dJ0_init_db425_65 : decode cJ0_init_db425 65 = .ok (.aload_n 0, 1) := by decide +kernel
theorem dJ0_init_db425_66 : decode cJ0_init_db425 66 = .ok (.aload_n 0, 1) := by decide +kernel
theorem dJ0_init_db425_67 : decode cJ0_init_db425 67 = .ok (.getfield 9, 3) := by decide +kernel
theorem dJ0_init_db425_70 : decode cJ0_init_db425 70 = .ok (.iload 4, 2) := by decide +kernel
theorem dJ0_init_db425_72 : decode cJ0_init_db425 72 = .ok (.invokestatic 47, 3) := by decide +kernel
theorem dJ0_init_db425_75 : decode cJ0_init_db425 75 = .ok (.putfield 15, 3) := by decide +kernel
theorem dJ0_init_db425_78 : decode cJ0_init_db425 78 = .ok (.return_, 1) := by decide +kernel
theorem dJ0_init_db425_79 : decode cJ0_init_db425 79 = .ok (.aload_n 0, 1) := by decide +kernel
theorem dJ0_init_db425_80 : decode cJ0_init_db425 80 = .ok (.iconst 1, 1) := by decide +kernel
theorem dJ0_init_db425_81 : decode cJ0_init_db425 81 = .ok (.putfield 15, 3) := by decide +kernel
theorem dJ0_init_db425_84 : decode cJ0_init_db425 84 = .ok (.aload_n 0, 1) := by decide +kernel
theorem dJ0_init_db425_85 : decode cJ0_init_db425 85 = .ok (.aload_n 3, 1) := by decide +kernel
theorem dJ0_init_db425_86 : decode cJ0_init_db425 86 = .ok (.iconst 0, 1) := by decide +kernel
theorem dJ0_init_db425_87 : decode cJ0_init_db425 87 = .ok (.iload 4, 2) := by decide +kernel
theorem dJ0_init_db425_89 : decode cJ0_init_db425 89 = .ok (.iconst 1, 1) := by decide +kernel
theorem dJ0_init_db425_90 : decode cJ0_init_db425 90 = .ok (.ishl, 1) := by decide +kernel
theorem dJ0_init_db425_91 : decode cJ0_init_db425 91 = .ok (.invokestatic 54, 3) := by decide +kernel
theorem dJ0_init_db425_94 : decode cJ0_init_db425 94 = .ok (.putfield 9, 3) := by decide +kernel
theorem dJ0_init_db425_97 : decode cJ0_init_db425 97 = .ok (.return_, 1) := by decide +kernel
theorem dJ0_coder_7d493_0 : decode cJ0_coder_7d493 0 = .ok (.getstatic 38, 3) := by decide +kernel
theorem dJ0_coder_7d493_3 : decode cJ0_coder_7d493 3 = .ok (.ifCond .eq 10, 3) := by decide +kernel
theorem dJ0_coder_7d493_6 : decode cJ0_coder_7d493 6 = .ok (.aload_n 0, 1) := by decide +kernel
theorem dJ0_coder_7d493_7 : decode cJ0_coder_7d493 7 = .ok (.getfield 15, 3) := by decide +kernel
theorem dJ0_coder_7d493_10 : decode cJ0_coder_7d493 10 = .ok (.goto 4, 3) := by decide +kernel
theorem dJ0_coder_7d493_13 : decode cJ0_coder_7d493 13 = .ok (.iconst 1, 1) := by decide +kernel
theorem dJ0_coder_7d493_14 : decode cJ0_coder_7d493 14 = .ok (.ireturn, 1) := by decide +kernel
theorem dJ0_isLatin1_aae02_0 : decode cJ0_isLatin1_aae02 0 = .ok (.getstatic 38, 3) := by decide +kernel
theorem dJ0_isLatin1_aae02_3 : decode cJ0_isLatin1_aae02 3 = .ok (.ifCond .eq 14, 3) := by decide +kernel
theorem dJ0_isLatin1_aae02_6 : decode cJ0_isLatin1_aae02 6 = .ok (.aload_n 0, 1) := by decide +kernel
theorem dJ0_isLatin1_aae02_7 : decode cJ0_isLatin1_aae02 7 = .ok (.getfield 15, 3) := by decide +kernel
theorem dJ0_isLatin1_aae02_10 : decode cJ0_isLatin1_aae02 10 = .ok (.ifCond .ne 7, 3) := by decide +kernel
theorem dJ0_isLatin1_aae02_13 : decode cJ0_isLatin1_aae02 13 = .ok (.iconst 1, 1) := by decide +kernel
theorem dJ0_isLatin1_aae02_14 : decode cJ0_isLatin1_aae02 14 = .ok (.goto 4, 3) := by decide +kernel
theorem dJ0_isLatin1_aae02_17 : decode cJ0_isLatin1_aae02 17 = .ok (.iconst 0, 1) := by decide +kernel
theorem dJ0_isLatin1_aae02_18 : decode cJ0_isLatin1_aae02 18 = .ok (.ireturn, 1) := by decide +kernel
theorem dJ0_checkIndex_df160_0 : decode cJ0_checkIndex_df160 0 = .ok (.iload_n 0, 1) := by decide +kernel
theorem dJ0_checkIndex_df160_1 : decode cJ0_checkIndex_df160 1 = .ok (.iload_n 1, 1) := by decide +kernel
theorem dJ0_checkIndex_df160_2 : decode cJ0_checkIndex_df160 2 = .ok (.getstatic 1053, 3) := by decide +kernel
theorem dJ0_checkIndex_df160_5 : decode cJ0_checkIndex_df160 5 = .ok (.invokestatic 1059, 3) := by decide +kernel
theorem dJ0_checkIndex_df160_8 : decode cJ0_checkIndex_df160 8 = .ok (.pop, 1) := by decide +kernel
theorem dJ0_checkIndex_df160_9 : decode cJ0_checkIndex_df160 9 = .ok (.return_, 1) := by decide +kernel
theorem dJ4_init_da8c8_0 : decode cJ4_init_da8c8 0 = .ok (.aload_n 0, 1) := by decide +kernel
theorem dJ4_init_da8c8_1 : decode cJ4_init_da8c8 1 = .ok (.bipush 16, 2) := by decide +kernel
theorem dJ4_init_da8c8_3 : decode cJ4_init_da8c8 3 = .ok (.invokespecial 1, 3) := by decide +kernel
theorem dJ4_init_da8c8_6 : decode cJ4_init_da8c8 6 = .ok (.return_, 1) := by decide +kernel
theorem dJ4_append_15ec4_0 : decode cJ4_append_15ec4 0 = .ok (.aload_n 0, 1) := by decide +kernel
theorem dJ4_append_15ec4_1 : decode cJ4_append_15ec4 1 = .ok (.aload_n 1, 1) := by decide +kernel
theorem dJ4_append_15ec4_2 : decode cJ4_append_15ec4 2 = .ok (.invokespecial 29, 3) := by decide +kernel
theorem dJ4_append_15ec4_5 : decode cJ4_append_15ec4 5 = .ok (.pop, 1) := by decide +kernel
theorem dJ4_append_15ec4_6 : decode cJ4_append_15ec4 6 = .ok (.aload_n 0, 1) := by decide +kernel
theorem dJ4_append_15ec4_7 : decode cJ4_append_15ec4 7 = .ok (.areturn, 1) := by decide +kernel
theorem dJ4_append_bf812_0 : decode cJ4_append_bf812 0 = .ok (.aload_n 0, 1) := by decide +kernel
theorem dJ4_append_bf812_1 : decode cJ4_append_bf812 1 = .ok (.iload_n 1, 1) := by decide +kernel
theorem dJ4_append_bf812_2 : decode cJ4_append_bf812 2 = .ok (.invokespecial 53, 3) := by decide +kernel
theorem dJ4_append_bf812_5 : decode cJ4_append_bf812 5 = .ok (.pop, 1) := by decide +kernel
theorem dJ4_append_bf812_6 : decode cJ4_append_bf812 6 = .ok (.aload_n 0, 1) := by decide +kernel
theorem dJ4_append_bf812_7 : decode cJ4_append_bf812 7 = .ok (.areturn, 1) := by decide +kernel
theorem dJ4_toString_0e30d_0 : decode cJ4_toString_0e30d 0 = .ok (.new 18, 3) := by decide +kernel
theorem dJ4_toString_0e30d_3 : decode cJ4_toString_0e30d 3 = .ok (.dup, 1) := by decide +kernel
theorem dJ4_toString_0e30d_4 : decode cJ4_toString_0e30d 4 = .ok (.aload_n 0, 1) := by decide +kernel
theorem dJ4_toString_0e30d_5 : decode cJ4_toString_0e30d 5 = .ok (.invokespecial 137, 3) := by decide +kernel
theorem dJ4_toString_0e30d_8 : decode cJ4_toString_0e30d 8 = .ok (.areturn, 1) := by decide +kernel
theorem dJ4_length_8abf5_0 : decode cJ4_length_8abf5 0 = .ok (.aload_n 0, 1) := by decide +kernel
theorem dJ4_length_8abf5_1 : decode cJ4_length_8abf5 1 = .ok (.invokespecial 343, 3) := by decide +kernel
theorem dJ4_length_8abf5_4 : decode cJ4_length_8abf5 4 = .ok (.ireturn, 1) := by decide +kernel
theorem dJ1_charAt_3b067_0 : decode cJ1_charAt_3b067 0 = .ok (.iload_n 1, 1) := by decide +kernel
theorem dJ1_charAt_3b067_1 : decode cJ1_charAt_3b067 1 = .ok (.aload_n 0, 1) := by decide +kernel
theorem dJ1_charAt_3b067_2 : decode cJ1_charAt_3b067 2 = .ok (.arraylength, 1) := by decide +kernel
theorem dJ1_charAt_3b067_3 : decode cJ1_charAt_3b067 3 = .ok (.invokestatic 9, 3) := by decide +kernel
theorem dJ1_charAt_3b067_6 : decode cJ1_charAt_3b067 6 = .ok (.aload_n 0, 1) := by decide +kernel
theorem dJ1_charAt_3b067_7 : decode cJ1_charAt_3b067 7 = .ok (.iload_n 1, 1) := by decide +kernel
theorem dJ1_charAt_3b067_8 : decode cJ1_charAt_3b067 8 = .ok (.baload, 1) := by decide +kernel
theorem dJ1_charAt_3b067_9 : decode cJ1_charAt_3b067 9 = .ok (.sipush 255, 3) := by decide +kernel
theorem dJ1_charAt_3b067_12 : decode cJ1_charAt_3b067 12 = .ok (.iand, 1) := by decide +kernel
theorem dJ1_charAt_3b067_13 : decode cJ1_charAt_3b067 13 = .ok (.i2c, 1) := by decide +kernel
theorem dJ1_charAt_3b067_14 : decode cJ1_charAt_3b067 14 = .ok (.ireturn, 1) := by decide +kernel
theorem dJ7_copyOf_9075b_0 : decode cJ7_copyOf_9075b 0 = .ok (.iload_n 1, 1) := by decide +kernel
theorem dJ7_copyOf_9075b_1 : decode cJ7_copyOf_9075b 1 = .ok (.aload_n 0, 1) := by decide +kernel
theorem dJ7_copyOf_9075b_2 : decode cJ7_copyOf_9075b 2 = .ok (.arraylength, 1) := by decide +kernel
theorem dJ7_copyOf_9075b_3 : decode cJ7_copyOf_9075b 3 = .ok (.if_icmp .ne 11, 3) := by decide +kernel
theorem dJ7_copyOf_9075b_6 : decode cJ7_copyOf_9075b 6 = .ok (.aload_n 0, 1) := by decide +kernel
theorem dJ7_copyOf_9075b_7 : decode cJ7_copyOf_9075b 7 = .ok (.invokevirtual 310, 3) := by decide +kernel
theorem dJ7_copyOf_9075b_10 : decode cJ7_copyOf_9075b 10 = .ok (.checkcast 311, 3) := by decide +kernel
theorem dJ7_copyOf_9075b_13 : decode cJ7_copyOf_9075b 13 = .ok (.areturn, 1) := by decide +kernel
theorem dJ7_copyOf_9075b_14 : decode cJ7_copyOf_9075b 14 = .ok (.iload_n 1, 1) := by decide +kernel
theorem dJ7_copyOf_9075b_15 : decode cJ7_copyOf_9075b 15 = .ok (.newarray .byte, 2) := by decide +kernel
theorem dJ7_copyOf_9075b_17 : decode cJ7_copyOf_9075b 17 = .ok (.astore_n 2, 1) := by decide +kernel
theorem dJ7_copyOf_9075b_18 : decode cJ7_copyOf_9075b 18 = .ok (.aload_n 0, 1) := by decide +kernel
theorem dJ7_copyOf_9075b_19 : decode cJ7_copyOf_9075b 19 = .ok (.iconst 0, 1) := by decide +kernel
theorem dJ7_copyOf_9075b_20 : decode cJ7_copyOf_9075b 20 = .ok (.aload_n 2, 1) := by decide +kernel
theorem dJ7_copyOf_9075b_21 : decode cJ7_copyOf_9075b 21 = .ok (.iconst 0, 1) := by decide +kernel
theorem dJ7_copyOf_9075b_22 : decode cJ7_copyOf_9075b 22 = .ok (.aload_n 0, 1) := by decide +kernel
theorem dJ7_copyOf_9075b_23 : decode cJ7_copyOf_9075b 23 = .ok (.arraylength, 1) := by decide +kernel
theorem dJ7_copyOf_9075b_24 : decode cJ7_copyOf_9075b 24 = .ok (.iload_n 1, 1) := by decide +kernel
theorem dJ7_copyOf_9075b_25 : decode cJ7_copyOf_9075b 25 = .ok (.invokestatic 304, 3) := by decide +kernel
theorem dJ7_copyOf_9075b_28 : decode cJ7_copyOf_9075b 28 = .ok (.invokestatic 150, 3) := by decide +kernel
theorem dJ7_copyOf_9075b_31 : decode cJ7_copyOf_9075b 31 = .ok (.aload_n 2, 1) := by decide +kernel
theorem dJ7_copyOf_9075b_32 : decode cJ7_copyOf_9075b 32 = .ok (.areturn, 1) := by decide +kernel
theorem dJ7_checkLength_df160_0 : decode cJ7_checkLength_df160 0 = .ok (.iload_n 1, 1) := by decide +kernel
theorem dJ7_checkLength_df160_1 : decode cJ7_checkLength_df160 1 = .ok (.iload_n 0, 1) := by decide +kernel
theorem dJ7_checkLength_df160_2 : decode cJ7_checkLength_df160 2 = .ok (.if_icmp .ge 35, 3) := by decide +kernel
theorem dJ7_checkLength_df160_5 : decode cJ7_checkLength_df160 5 = .ok (.new 43, 3) := by decide +kernel
theorem dJ7_checkLength_df160_8 : decode cJ7_checkLength_df160 8 = .ok (.dup, 1) := by decide +kernel
theorem dJ7_checkLength_df160_9 : decode cJ7_checkLength_df160 9 = .ok (.new 45, 3) := by decide +kernel
theorem dJ7_checkLength_df160_12 : decode cJ7_checkLength_df160 12 = .ok (.dup, 1) := by decide +kernel
theorem dJ7_checkLength_df160_13 : decode cJ7_checkLength_df160 13 = .ok (.invokespecial 47, 3) := by decide +kernel
theorem dJ7_checkLength_df160_16 : decode cJ7_checkLength_df160 16 = .ok (.iload_n 0, 1) := by decide +kernel
theorem dJ7_checkLength_df160_17 : decode cJ7_checkLength_df160 17 = .ok (.invokevirtual 54, 3) := by decide +kernel
theorem dJ7_checkLength_df160_20 : decode cJ7_checkLength_df160 20 = .ok (.ldc_w 337, 3) := by decide +kernel
theorem dJ7_checkLength_df160_23 : decode cJ7_checkLength_df160 23 = .ok (.invokevirtual 50, 3) := by decide +kernel
theorem dJ7_checkLength_df160_26 : decode cJ7_checkLength_df160 26 = .ok (.iload_n 1, 1) := by decide +kernel
theorem dJ7_checkLength_df160_27 : decode cJ7_checkLength_df160 27 = .ok (.invokevirtual 54, 3) := by decide +kernel
theorem dJ7_checkLength_df160_30 : decode cJ7_checkLength_df160 30 = .ok (.invokevirtual 61, 3) := by decide +kernel
theorem dJ7_checkLength_df160_33 : decode cJ7_checkLength_df160 33 = .ok (.invokespecial 65, 3) := by decide +kernel
theorem dJ7_checkLength_df160_36 : decode cJ7_checkLength_df160 36 = .ok (.athrow, 1) := by decide +kernel
theorem dJ7_checkLength_df160_37 : decode cJ7_checkLength_df160 37 = .ok (.return_, 1) := by decide +kernel
theorem dJ7_copyOfRange_39247_0 : decode cJ7_copyOfRange_39247 0 = .ok (.iload_n 1, 1) := by decide +kernel
theorem dJ7_copyOfRange_39247_1 : decode cJ7_copyOfRange_39247 1 = .ok (.ifCond .ne 9, 3) := by decide +kernel
theorem dJ7_copyOfRange_39247_4 : decode cJ7_copyOfRange_39247 4 = .ok (.iload_n 2, 1) := by decide +kernel
theorem dJ7_copyOfRange_39247_5 : decode cJ7_copyOfRange_39247 5 = .ok (.aload_n 0, 1) := by decide +kernel
theorem dJ7_copyOfRange_39247_6 : decode cJ7_copyOfRange_39247 6 = .ok (.arraylength, 1) := by decide +kernel
theorem dJ7_copyOfRange_39247_7 : decode cJ7_copyOfRange_39247 7 = .ok (.if_icmp .eq 10, 3) := by decide +kernel
theorem dJ7_copyOfRange_39247_10 : decode cJ7_copyOfRange_39247 10 = .ok (.aload_n 0, 1) := by decide +kernel
theorem dJ7_copyOfRange_39247_11 : decode cJ7_copyOfRange_39247 11 = .ok (.iload_n 1, 1) := by decide +kernel
theorem dJ7_copyOfRange_39247_12 : decode cJ7_copyOfRange_39247 12 = .ok (.iload_n 2, 1) := by decide +kernel
theorem dJ7_copyOfRange_39247_13 : decode cJ7_copyOfRange_39247 13 = .ok (.invokestatic 339, 3) := by decide +kernel
theorem dJ7_copyOfRange_39247_16 : decode cJ7_copyOfRange_39247 16 = .ok (.areturn, 1) := by decide +kernel
theorem dJ7_copyOfRange_39247_17 : decode cJ7_copyOfRange_39247 17 = .ok (.aload_n 0, 1) := by decide +kernel
theorem dJ7_copyOfRange_39247_18 : decode cJ7_copyOfRange_39247 18 = .ok (.invokevirtual 310, 3) := by decide +kernel
theorem dJ7_copyOfRange_39247_21 : decode cJ7_copyOfRange_39247 21 = .ok (.checkcast 311, 3) := by decide +kernel
theorem dJ7_copyOfRange_39247_24 : decode cJ7_copyOfRange_39247 24 = .ok (.areturn, 1) := by decide +kernel
theorem dJ7_copyOfRangeByte_39247_0 : decode cJ7_copyOfRangeByte_39247 0 = .ok (.iload_n 1, 1) := by decide +kernel
theorem dJ7_copyOfRangeByte_39247_1 : decode cJ7_copyOfRangeByte_39247 1 = .ok (.iload_n 2, 1) := by decide +kernel
theorem dJ7_copyOfRangeByte_39247_2 : decode cJ7_copyOfRangeByte_39247 2 = .ok (.invokestatic 343, 3) := by decide +kernel
theorem dJ7_copyOfRangeByte_39247_5 : decode cJ7_copyOfRangeByte_39247 5 = .ok (.iload_n 2, 1) := by decide +kernel
theorem dJ7_copyOfRangeByte_39247_6 : decode cJ7_copyOfRangeByte_39247 6 = .ok (.iload_n 1, 1) := by decide +kernel
theorem dJ7_copyOfRangeByte_39247_7 : decode cJ7_copyOfRangeByte_39247 7 = .ok (.isub, 1) := by decide +kernel
theorem dJ7_copyOfRangeByte_39247_8 : decode cJ7_copyOfRangeByte_39247 8 = .ok (.istore_n 3, 1) := by decide +kernel
theorem dJ7_copyOfRangeByte_39247_9 : decode cJ7_copyOfRangeByte_39247 9 = .ok (.iload_n 3, 1) := by decide +kernel
theorem dJ7_copyOfRangeByte_39247_10 : decode cJ7_copyOfRangeByte_39247 10 = .ok (.newarray .byte, 2) := by decide +kernel
theorem dJ7_copyOfRangeByte_39247_12 : decode cJ7_copyOfRangeByte_39247 12 = .ok (.astore 4, 2) := by decide +kernel
theorem dJ7_copyOfRangeByte_39247_14 : decode cJ7_copyOfRangeByte_39247 14 = .ok (.aload_n 0, 1) := by decide +kernel
theorem dJ7_copyOfRangeByte_39247_15 : decode cJ7_copyOfRangeByte_39247 15 = .ok (.iload_n 1, 1) := by decide +kernel
theorem dJ7_copyOfRangeByte_39247_16 : decode cJ7_copyOfRangeByte_39247 16 = .ok (.aload 4, 2) := by decide +kernel
theorem dJ7_copyOfRangeByte_39247_18 : decode cJ7_copyOfRangeByte_39247 18 = .ok (.iconst 0, 1) := by decide +kernel
theorem dJ7_copyOfRangeByte_39247_19 : decode cJ7_copyOfRangeByte_39247 19 = .ok (.aload_n 0, 1) := by decide +kernel
theorem dJ7_copyOfRangeByte_39247_20 : decode cJ7_copyOfRangeByte_39247 20 = .ok (.arraylength, 1) := by decide +kernel
theorem dJ7_copyOfRangeByte_39247_21 : decode cJ7_copyOfRangeByte_39247 21 = .ok (.iload_n 1, 1) := by decide +kernel
theorem dJ7_copyOfRangeByte_39247_22 : decode cJ7_copyOfRangeByte_39247 22 = .ok (.isub, 1) := by decide +kernel
theorem dJ7_copyOfRangeByte_39247_23 : decode cJ7_copyOfRangeByte_39247 23 = .ok (.iload_n 3, 1) := by decide +kernel
theorem dJ7_copyOfRangeByte_39247_24 : decode cJ7_copyOfRangeByte_39247 24 = .ok (.invokestatic 304, 3) := by decide +kernel
theorem dJ7_copyOfRangeByte_39247_27 : decode cJ7_copyOfRangeByte_39247 27 = .ok (.invokestatic 150, 3) := by decide +kernel
theorem dJ7_copyOfRangeByte_39247_30 : decode cJ7_copyOfRangeByte_39247 30 = .ok (.aload 4, 2) := by decide +kernel
theorem dJ7_copyOfRangeByte_39247_32 : decode cJ7_copyOfRangeByte_39247 32 = .ok (.areturn, 1) := by decide +kernel
theorem dJ8_newLength_cabcc_0 : decode cJ8_newLength_cabcc 0 = .ok (.iload_n 0, 1) := by decide +kernel
theorem dJ8_newLength_cabcc_1 : decode cJ8_newLength_cabcc 1 = .ok (.iload_n 1, 1) := by decide +kernel
theorem dJ8_newLength_cabcc_2 : decode cJ8_newLength_cabcc 2 = .ok (.iload_n 2, 1) := by decide +kernel
theorem dJ8_newLength_cabcc_3 : decode cJ8_newLength_cabcc 3 = .ok (.invokestatic 194, 3) := by decide +kernel
theorem dJ8_newLength_cabcc_6 : decode cJ8_newLength_cabcc 6 = .ok (.iadd, 1) := by decide +kernel
theorem dJ8_newLength_cabcc_7 : decode cJ8_newLength_cabcc 7 = .ok (.istore_n 3, 1) := by decide +kernel
theorem dJ8_newLength_cabcc_8 : decode cJ8_newLength_cabcc 8 = .ok (.iconst 0, 1) := by decide +kernel
theorem dJ8_newLength_cabcc_9 : decode cJ8_newLength_cabcc 9 = .ok (.iload_n 3, 1) := by decide +kernel
theorem dJ8_newLength_cabcc_10 : decode cJ8_newLength_cabcc 10 = .ok (.if_icmp .ge 11, 3) := by decide +kernel
theorem dJ8_newLength_cabcc_13 : decode cJ8_newLength_cabcc 13 = .ok (.iload_n 3, 1) := by decide +kernel
theorem dJ8_newLength_cabcc_14 : decode cJ8_newLength_cabcc 14 = .ok (.ldc 200, 2) := by decide +kernel
theorem dJ8_newLength_cabcc_16 : decode cJ8_newLength_cabcc 16 = .ok (.if_icmp .gt 5, 3) := by decide +kernel
theorem dJ8_newLength_cabcc_19 : decode cJ8_newLength_cabcc 19 = .ok (.iload_n 3, 1) := by decide +kernel
theorem dJ8_newLength_cabcc_20 : decode cJ8_newLength_cabcc 20 = .ok (.ireturn, 1) := by decide +kernel
theorem dJ8_newLength_cabcc_21 : decode cJ8_newLength_cabcc 21 = .ok (.iload_n 0, 1) := by decide +kernel
theorem dJ8_newLength_cabcc_22 : decode cJ8_newLength_cabcc 22 = .ok (.iload_n 1, 1) := by decide +kernel
theorem dJ8_newLength_cabcc_23 : decode cJ8_newLength_cabcc 23 = .ok (.invokestatic 201, 3) := by decide +kernel
theorem dJ8_newLength_cabcc_26 : decode cJ8_newLength_cabcc 26 = .ok (.ireturn, 1) := by decide +kernel
theorem dJ3_checkIndex_8e157_0 : decode cJ3_checkIndex_8e157 0 = .ok (.iload_n 0, 1) := by decide +kernel
theorem dJ3_checkIndex_8e157_1 : decode cJ3_checkIndex_8e157 1 = .ok (.ifCond .lt 8, 3) := by decide +kernel
theorem dJ3_checkIndex_8e157_4 : decode cJ3_checkIndex_8e157 4 = .ok (.iload_n 0, 1) := by decide +kernel
theorem dJ3_checkIndex_8e157_5 : decode cJ3_checkIndex_8e157 5 = .ok (.iload_n 1, 1) := by decide +kernel
theorem dJ3_checkIndex_8e157_6 : decode cJ3_checkIndex_8e157 6 = .ok (.if_icmp .lt 10, 3) := by decide +kernel
theorem dJ3_checkIndex_8e157_9 : decode cJ3_checkIndex_8e157 9 = .ok (.aload_n 2, 1) := by decide +kernel
theorem dJ3_checkIndex_8e157_10 : decode cJ3_checkIndex_8e157 10 = .ok (.iload_n 0, 1) := by decide +kernel
theorem dJ3_checkIndex_8e157_11 : decode cJ3_checkIndex_8e157 11 = .ok (.iload_n 1, 1) := by decide +kernel
theorem dJ3_checkIndex_8e157_12 : decode cJ3_checkIndex_8e157 12 = .ok (.invokestatic 95, 3) := by decide +kernel
theorem dJ3_checkIndex_8e157_15 : decode cJ3_checkIndex_8e157 15 = .ok (.athrow, 1) := by decide +kernel
theorem dJ3_checkIndex_8e157_16 : decode cJ3_checkIndex_8e157 16 = .ok (.iload_n 0, 1) := by decide +kernel
theorem dJ3_checkIndex_8e157_17 : decode cJ3_checkIndex_8e157 17 = .ok (.ireturn, 1) := by decide +kernel
theorem dL_init_0 : decode cL_init 0 = .ok (.aload_n 0, 1) := by decide +kernel
theorem dL_init_1 : decode cL_init 1 = .ok (.invokespecial 1, 3) := by decide +kernel
theorem dL_init_4 : decode cL_init 4 = .ok (.aload_n 0, 1) := by decide +kernel
theorem dL_init_5 : decode cL_init 5 = .ok (.iconst 0, 1) := by decide +kernel
theorem dL_init_6 : decode cL_init 6 = .ok (.newarray .int, 2) := by decide +kernel
theorem dL_init_8 : decode cL_init 8 = .ok (.putfield 7, 3) := by decide +kernel
theorem dL_init_11 : decode cL_init 11 = .ok (.aload_n 0, 1) := by decide +kernel
theorem dL_init_12 : decode cL_init 12 = .ok (.iconst 5, 1) := by decide +kernel
theorem dL_init_13 : decode cL_init 13 = .ok (.newarray .int, 2) := by decide +kernel
theorem dL_init_15 : decode cL_init 15 = .ok (.putfield 13, 3) := by decide +kernel
theorem dL_init_18 : decode cL_init 18 = .ok (.aload_n 0, 1) := by decide +kernel
theorem dL_init_19 : decode cL_init 19 = .ok (.iconst 5, 1) := by decide +kernel
theorem dL_init_20 : decode cL_init 20 = .ok (.newarray .int, 2) := by decide +kernel
theorem dL_init_22 : decode cL_init 22 = .ok (.putfield 16, 3) := by decide +kernel
theorem dL_init_25 : decode cL_init 25 = .ok (.aload_n 0, 1) := by decide +kernel
theorem dL_init_26 : decode cL_init 26 = .ok (.iconst 5, 1) := by decide +kernel
theorem dL_init_27 : decode cL_init 27 = .ok (.newarray .int, 2) := by decide +kernel
theorem dL_init_29 : decode cL_init 29 = .ok (.putfield 19, 3) := by decide +kernel
theorem dL_init_32 : decode cL_init 32 = .ok (.return_, 1) := by decide +kernel
theorem dL_among_0 : decode cL_among 0 = .ok (.iload_n 0, 1) := by decide +kernel
theorem dL_among_1 : decode cL_among 1 = .ok (.iload_n 1, 1) := by decide +kernel
theorem dL_among_2 : decode cL_among 2 = .ok (.irem, 1) := by decide +kernel
theorem dL_among_3 : decode cL_among 3 = .ok (.istore_n 2, 1) := by decide +kernel
theorem dL_among_4 : decode cL_among 4 = .ok (.iload_n 2, 1) := by decide +kernel
theorem dL_among_5 : decode cL_among 5 = .ok (.ifCond .ge 9, 3) := by decide +kernel
theorem dL_among_8 : decode cL_among 8 = .ok (.iload_n 2, 1) := by decide +kernel
theorem dL_among_9 : decode cL_among 9 = .ok (.iload_n 1, 1) := by decide +kernel
theorem dL_among_10 : decode cL_among 10 = .ok (.iadd, 1) := by decide +kernel
theorem dL_among_11 : decode cL_among 11 = .ok (.goto 4, 3) := by decide +kernel
theorem dL_among_14 : decode cL_among 14 = .ok (.iload_n 2, 1) := by decide +kernel
theorem dL_among_15 : decode cL_among 15 = .ok (.ireturn, 1) := by decide +kernel
theorem dL_cell_0 : decode cL_cell 0 = .ok (.iload_n 1, 1) := by decide +kernel
theorem dL_cell_1 : decode cL_cell 1 = .ok (.aload_n 0, 1) := by decide +kernel
theorem dL_cell_2 : decode cL_cell 2 = .ok (.arraylength, 1) := by decide +kernel
theorem dL_cell_3 : decode cL_cell 3 = .ok (.if_icmp .ge 9, 3) := by decide +kernel
theorem dL_cell_6 : decode cL_cell 6 = .ok (.aload_n 0, 1) := by decide +kernel
theorem dL_cell_7 : decode cL_cell 7 = .ok (.iload_n 1, 1) := by decide +kernel
theorem dL_cell_8 : decode cL_cell 8 = .ok (.iaload, 1) := by decide +kernel
theorem dL_cell_9 : decode cL_cell 9 = .ok (.goto 14, 3) := by decide +kernel
theorem dL_cell_12 : decode cL_cell 12 = .ok (.sipush 7919, 3) := by decide +kernel
theorem dL_cell_15 : decode cL_cell 15 = .ok (.iload_n 1, 1) := by decide +kernel
theorem dL_cell_16 : decode cL_cell 16 = .ok (.sipush 1000, 3) := by decide +kernel
theorem dL_cell_19 : decode cL_cell 19 = .ok (.irem, 1) := by decide +kernel
theorem dL_cell_20 : decode cL_cell 20 = .ok (.imul, 1) := by decide +kernel
theorem dL_cell_21 : decode cL_cell 21 = .ok (.iconst 5, 1) := by decide +kernel
theorem dL_cell_22 : decode cL_cell 22 = .ok (.iadd, 1) := by decide +kernel
theorem dL_cell_23 : decode cL_cell 23 = .ok (.ireturn, 1) := by decide +kernel
theorem dL_four_0 : decode cL_four 0 = .ok (.iconst 0, 1) := by decide +kernel
theorem dL_four_1 : decode cL_four 1 = .ok (.istore_n 2, 1) := by decide +kernel
theorem dL_four_2 : decode cL_four 2 = .ok (.iload_n 1, 1) := by decide +kernel
theorem dL_four_3 : decode cL_four 3 = .ok (.istore_n 3, 1) := by decide +kernel
theorem dL_four_4 : decode cL_four 4 = .ok (.iload_n 3, 1) := by decide +kernel
theorem dL_four_5 : decode cL_four 5 = .ok (.iload_n 1, 1) := by decide +kernel
theorem dL_four_6 : decode cL_four 6 = .ok (.iconst 4, 1) := by decide +kernel
theorem dL_four_7 : decode cL_four 7 = .ok (.iadd, 1) := by decide +kernel
theorem dL_four_8 : decode cL_four 8 = .ok (.if_icmp .ge 33, 3) := by decide +kernel
theorem dL_four_11 : decode cL_four 11 = .ok (.iload_n 2, 1) := by decide +kernel
theorem dL_four_12 : decode cL_four 12 = .ok (.bipush 8, 2) := by decide +kernel
theorem dL_four_14 : decode cL_four 14 = .ok (.ishl, 1) := by decide +kernel
theorem dL_four_15 : decode cL_four 15 = .ok (.iload_n 3, 1) := by decide +kernel
theorem dL_four_16 : decode cL_four 16 = .ok (.aload_n 0, 1) := by decide +kernel
theorem dL_four_17 : decode cL_four 17 = .ok (.invokevirtual 22, 3) := by decide +kernel
theorem dL_four_20 : decode cL_four 20 = .ok (.if_icmp .ge 11, 3) := by decide +kernel
theorem dL_four_23 : decode cL_four 23 = .ok (.aload_n 0, 1) := by decide +kernel
theorem dL_four_24 : decode cL_four 24 = .ok (.iload_n 3, 1) := by decide +kernel
theorem dL_four_25 : decode cL_four 25 = .ok (.invokevirtual 28, 3) := by decide +kernel
theorem dL_four_28 : decode cL_four 28 = .ok (.goto 5, 3) := by decide +kernel
theorem dL_four_31 : decode cL_four 31 = .ok (.bipush 32, 2) := by decide +kernel
theorem dL_four_33 : decode cL_four 33 = .ok (.ior, 1) := by decide +kernel
theorem dL_four_34 : decode cL_four 34 = .ok (.istore_n 2, 1) := by decide +kernel
theorem dL_four_35 : decode cL_four 35 = .ok (.iinc 3 1, 3) := by decide +kernel
theorem dL_four_38 : decode cL_four 38 = .ok (.goto (-34), 3) := by decide +kernel
theorem dL_four_41 : decode cL_four 41 = .ok (.iload_n 2, 1) := by decide +kernel
theorem dL_four_42 : decode cL_four 42 = .ok (.ireturn, 1) := by decide +kernel
theorem dL_load_0 : decode cL_load 0 = .ok (.iconst 0, 1) := by decide +kernel
theorem dL_load_1 : decode cL_load 1 = .ok (.istore_n 2, 1) := by decide +kernel
theorem dL_load_2 : decode cL_load 2 = .ok (.iload_n 2, 1) := by decide +kernel
theorem dL_load_3 : decode cL_load 3 = .ok (.aload_n 1, 1) := by decide +kernel
theorem dL_load_4 : decode cL_load 4 = .ok (.invokevirtual 22, 3) := by decide +kernel
theorem dL_load_7 : decode cL_load 7 = .ok (.if_icmp .ge 50, 3) := by decide +kernel
theorem dL_load_10 : decode cL_load 10 = .ok (.aload_n 0, 1) := by decide +kernel
theorem dL_load_11 : decode cL_load 11 = .ok (.aload_n 1, 1) := by decide +kernel
theorem dL_load_12 : decode cL_load 12 = .ok (.iload_n 2, 1) := by decide +kernel
theorem dL_load_13 : decode cL_load 13 = .ok (.invokestatic 32, 3) := by decide +kernel
theorem dL_load_16 : decode cL_load 16 = .ok (.aload_n 1, 1) := by decide +kernel
theorem dL_load_17 : decode cL_load 17 = .ok (.iload_n 2, 1) := by decide +kernel
theorem dL_load_18 : decode cL_load 18 = .ok (.iconst 4, 1) := by decide +kernel
theorem dL_load_19 : decode cL_load 19 = .ok (.iadd, 1) := by decide +kernel
theorem dL_load_20 : decode cL_load 20 = .ok (.invokestatic 32, 3) := by decide +kernel
theorem dL_load_23 : decode cL_load 23 = .ok (.aload_n 1, 1) := by decide +kernel
theorem dL_load_24 : decode cL_load 24 = .ok (.iload_n 2, 1) := by decide +kernel
theorem dL_load_25 : decode cL_load 25 = .ok (.bipush 8, 2) := by decide +kernel
theorem dL_load_27 : decode cL_load 27 = .ok (.iadd, 1) := by decide +kernel
theorem dL_load_28 : decode cL_load 28 = .ok (.invokestatic 32, 3) := by decide +kernel
theorem dL_load_31 : decode cL_load 31 = .ok (.aload_n 1, 1) := by decide +kernel
theorem dL_load_32 : decode cL_load 32 = .ok (.iload_n 2, 1) := by decide +kernel
theorem dL_load_33 : decode cL_load 33 = .ok (.bipush 12, 2) := by decide +kernel
theorem dL_load_35 : decode cL_load 35 = .ok (.iadd, 1) := by decide +kernel
theorem dL_load_36 : decode cL_load 36 = .ok (.invokestatic 32, 3) := by decide +kernel
theorem dL_load_39 : decode cL_load 39 = .ok (.aload_n 1, 1) := by decide +kernel
theorem dL_load_40 : decode cL_load 40 = .ok (.iload_n 2, 1) := by decide +kernel
theorem dL_load_41 : decode cL_load 41 = .ok (.bipush 16, 2) := by decide +kernel
theorem dL_load_43 : decode cL_load 43 = .ok (.iadd, 1) := by decide +kernel
theorem dL_load_44 : decode cL_load 44 = .ok (.invokestatic 32, 3) := by decide +kernel
theorem dL_load_47 : decode cL_load 47 = .ok (.invokevirtual 36, 3) := by decide +kernel
theorem dL_load_50 : decode cL_load 50 = .ok (.pop, 1) := by decide +kernel
theorem dL_load_51 : decode cL_load 51 = .ok (.iinc 2 20, 3) := by decide +kernel
theorem dL_load_54 : decode cL_load 54 = .ok (.goto (-52), 3) := by decide +kernel
theorem dL_load_57 : decode cL_load 57 = .ok (.aload_n 0, 1) := by decide +kernel
theorem dL_load_58 : decode cL_load 58 = .ok (.aload_n 1, 1) := by decide +kernel
theorem dL_load_59 : decode cL_load 59 = .ok (.invokevirtual 22, 3) := by decide +kernel
theorem dL_load_62 : decode cL_load 62 = .ok (.invokevirtual 42, 3) := by decide +kernel
theorem dL_load_65 : decode cL_load 65 = .ok (.ireturn, 1) := by decide +kernel
theorem dL_chosen_0 : decode cL_chosen 0 = .ok (.aload_n 0, 1) := by decide +kernel
theorem dL_chosen_1 : decode cL_chosen 1 = .ok (.getfield 7, 3) := by decide +kernel
theorem dL_chosen_4 : decode cL_chosen 4 = .ok (.aload_n 0, 1) := by decide +kernel
theorem dL_chosen_5 : decode cL_chosen 5 = .ok (.getfield 46, 3) := by decide +kernel
theorem dL_chosen_8 : decode cL_chosen 8 = .ok (.invokestatic 50, 3) := by decide +kernel
theorem dL_chosen_11 : decode cL_chosen 11 = .ok (.iload_n 1, 1) := by decide +kernel
theorem dL_chosen_12 : decode cL_chosen 12 = .ok (.invokestatic 54, 3) := by decide +kernel
theorem dL_chosen_15 : decode cL_chosen 15 = .ok (.istore_n 2, 1) := by decide +kernel
theorem dL_chosen_16 : decode cL_chosen 16 = .ok (.aload_n 0, 1) := by decide +kernel
theorem dL_chosen_17 : decode cL_chosen 17 = .ok (.dup, 1) := by decide +kernel
theorem dL_chosen_18 : decode cL_chosen 18 = .ok (.getfield 46, 3) := by decide +kernel
theorem dL_chosen_21 : decode cL_chosen 21 = .ok (.iconst 1, 1) := by decide +kernel
theorem dL_chosen_22 : decode cL_chosen 22 = .ok (.iadd, 1) := by decide +kernel
theorem dL_chosen_23 : decode cL_chosen 23 = .ok (.putfield 46, 3) := by decide +kernel
theorem dL_chosen_26 : decode cL_chosen 26 = .ok (.iload_n 2, 1) := by decide +kernel
theorem dL_chosen_27 : decode cL_chosen 27 = .ok (.ireturn, 1) := by decide +kernel
theorem dL_from_0 : decode cL_from 0 = .ok (.iload_n 1, 1) := by decide +kernel
theorem dL_from_1 : decode cL_from 1 = .ok (.aload_n 0, 1) := by decide +kernel
theorem dL_from_2 : decode cL_from 2 = .ok (.iload_n 2, 1) := by decide +kernel
theorem dL_from_3 : decode cL_from 3 = .ok (.iload_n 1, 1) := by decide +kernel
theorem dL_from_4 : decode cL_from 4 = .ok (.isub, 1) := by decide +kernel
theorem dL_from_5 : decode cL_from 5 = .ok (.iconst 1, 1) := by decide +kernel
theorem dL_from_6 : decode cL_from 6 = .ok (.iadd, 1) := by decide +kernel
theorem dL_from_7 : decode cL_from 7 = .ok (.invokevirtual 58, 3) := by decide +kernel
theorem dL_from_10 : decode cL_from 10 = .ok (.iadd, 1) := by decide +kernel
theorem dL_from_11 : decode cL_from 11 = .ok (.ireturn, 1) := by decide +kernel
theorem dL_text_0 : decode cL_text 0 = .ok (.aload_n 0, 1) := by decide +kernel
theorem dL_text_1 : decode cL_text 1 = .ok (.aload_n 0, 1) := by decide +kernel
theorem dL_text_2 : decode cL_text 2 = .ok (.iconst 1, 1) := by decide +kernel
theorem dL_text_3 : decode cL_text 3 = .ok (.iload_n 2, 1) := by decide +kernel
theorem dL_text_4 : decode cL_text 4 = .ok (.invokevirtual 61, 3) := by decide +kernel
theorem dL_text_7 : decode cL_text 7 = .ok (.putfield 64, 3) := by decide +kernel
theorem dL_text_10 : decode cL_text 10 = .ok (.ldc 67, 2) := by decide +kernel
theorem dL_text_12 : decode cL_text 12 = .ok (.astore 4, 2) := by decide +kernel
theorem dL_text_14 : decode cL_text 14 = .ok (.iconst 0, 1) := by decide +kernel
theorem dL_text_15 : decode cL_text 15 = .ok (.istore 5, 2) := by decide +kernel
theorem dL_text_17 : decode cL_text 17 = .ok (.iload 5, 2) := by decide +kernel
theorem dL_text_19 : decode cL_text 19 = .ok (.aload_n 0, 1) := by decide +kernel
theorem dL_text_20 : decode cL_text 20 = .ok (.getfield 64, 3) := by decide +kernel
theorem dL_text_23 : decode cL_text 23 = .ok (.if_icmp .ge 149, 3) := by decide +kernel
theorem dL_text_26 : decode cL_text 26 = .ok (.aload_n 0, 1) := by decide +kernel
theorem dL_text_27 : decode cL_text 27 = .ok (.iload_n 3, 1) := by decide +kernel
theorem dL_text_28 : decode cL_text 28 = .ok (.ineg, 1) := by decide +kernel
theorem dL_text_29 : decode cL_text 29 = .ok (.iload_n 3, 1) := by decide +kernel
theorem dL_text_30 : decode cL_text 30 = .ok (.invokevirtual 61, 3) := by decide +kernel
theorem dL_text_33 : decode cL_text 33 = .ok (.istore 6, 2) := by decide +kernel
theorem dL_text_35 : decode cL_text 35 = .ok (.aload_n 0, 1) := by decide +kernel
theorem dL_text_36 : decode cL_text 36 = .ok (.iload 6, 2) := by decide +kernel
theorem dL_text_38 : decode cL_text 38 = .ok (.iload 5, 2) := by decide +kernel
theorem dL_text_40 : decode cL_text 40 = .ok (.invokevirtual 69, 3) := by decide +kernel
theorem dL_text_43 : decode cL_text 43 = .ok (.ifCond .eq 23, 3) := by decide +kernel
theorem dL_text_46 : decode cL_text 46 = .ok (.iload 6, 2) := by decide +kernel
theorem dL_text_48 : decode cL_text 48 = .ok (.iload_n 3, 1) := by decide +kernel
theorem dL_text_49 : decode cL_text 49 = .ok (.if_icmp .ne 8, 3) := by decide +kernel
theorem dL_text_52 : decode cL_text 52 = .ok (.iload_n 3, 1) := by decide +kernel
theorem dL_text_53 : decode cL_text 53 = .ok (.ineg, 1) := by decide +kernel
theorem dL_text_54 : decode cL_text 54 = .ok (.goto 7, 3) := by decide +kernel
theorem dL_text_57 : decode cL_text 57 = .ok (.iload 6, 2) := by decide +kernel
theorem dL_text_59 : decode cL_text 59 = .ok (.iconst 1, 1) := by decide +kernel
theorem dL_text_60 : decode cL_text 60 = .ok (.iadd, 1) := by decide +kernel
theorem dL_text_61 : decode cL_text 61 = .ok (.istore 6, 2) := by decide +kernel
theorem dL_text_63 : decode cL_text 63 = .ok (.goto (-28), 3) := by decide +kernel
theorem dL_text_66 : decode cL_text 66 = .ok (.aload_n 0, 1) := by decide +kernel
theorem dL_text_67 : decode cL_text 67 = .ok (.getfield 13, 3) := by decide +kernel
theorem dL_text_70 : decode cL_text 70 = .ok (.iload 5, 2) := by decide +kernel
theorem dL_text_72 : decode cL_text 72 = .ok (.iload 6, 2) := by decide +kernel
theorem dL_text_74 : decode cL_text 74 = .ok (.iastore, 1) := by decide +kernel
theorem dL_text_75 : decode cL_text 75 = .ok (.aload_n 0, 1) := by decide +kernel
theorem dL_text_76 : decode cL_text 76 = .ok (.getfield 16, 3) := by decide +kernel
theorem dL_text_79 : decode cL_text 79 = .ok (.iload 5, 2) := by decide +kernel
theorem dL_text_81 : decode cL_text 81 = .ok (.aload_n 0, 1) := by decide +kernel
theorem dL_text_82 : decode cL_text 82 = .ok (.bipush (-20), 2) := by decide +kernel
theorem dL_text_84 : decode cL_text 84 = .ok (.bipush 20, 2) := by decide +kernel
theorem dL_text_86 : decode cL_text 86 = .ok (.invokevirtual 61, 3) := by decide +kernel
theorem dL_text_89 : decode cL_text 89 = .ok (.iastore, 1) := by decide +kernel
theorem dL_text_90 : decode cL_text 90 = .ok (.aload_n 0, 1) := by decide +kernel
theorem dL_text_91 : decode cL_text 91 = .ok (.getfield 19, 3) := by decide +kernel
theorem dL_text_94 : decode cL_text 94 = .ok (.iload 5, 2) := by decide +kernel
theorem dL_text_96 : decode cL_text 96 = .ok (.aload_n 0, 1) := by decide +kernel
theorem dL_text_97 : decode cL_text 97 = .ok (.bipush (-4), 2) := by decide +kernel
theorem dL_text_99 : decode cL_text 99 = .ok (.iconst 4, 1) := by decide +kernel
theorem dL_text_100 : decode cL_text 100 = .ok (.invokevirtual 61, 3) := by decide +kernel
theorem dL_text_103 : decode cL_text 103 = .ok (.iastore, 1) := by decide +kernel
theorem dL_text_104 : decode cL_text 104 = .ok (.new 73, 3) := by decide +kernel
theorem dL_text_107 : decode cL_text 107 = .ok (.dup, 1) := by decide +kernel
theorem dL_text_108 : decode cL_text 108 = .ok (.invokespecial 75, 3) := by decide +kernel
theorem dL_text_111 : decode cL_text 111 = .ok (.aload 4, 2) := by decide +kernel
theorem dL_text_113 : decode cL_text 113 = .ok (.invokevirtual 76, 3) := by decide +kernel
theorem dL_text_116 : decode cL_text 116 = .ok (.ldc 80, 2) := by decide +kernel
theorem dL_text_118 : decode cL_text 118 = .ok (.invokevirtual 76, 3) := by decide +kernel
theorem dL_text_121 : decode cL_text 121 = .ok (.iload 6, 2) := by decide +kernel
theorem dL_text_123 : decode cL_text 123 = .ok (.invokevirtual 82, 3) := by decide +kernel
theorem dL_text_126 : decode cL_text 126 = .ok (.ldc 85, 2) := by decide +kernel
theorem dL_text_128 : decode cL_text 128 = .ok (.invokevirtual 76, 3) := by decide +kernel
theorem dL_text_131 : decode cL_text 131 = .ok (.aload_n 0, 1) := by decide +kernel
theorem dL_text_132 : decode cL_text 132 = .ok (.getfield 16, 3) := by decide +kernel
theorem dL_text_135 : decode cL_text 135 = .ok (.iload 5, 2) := by decide +kernel
theorem dL_text_137 : decode cL_text 137 = .ok (.iaload, 1) := by decide +kernel
theorem dL_text_138 : decode cL_text 138 = .ok (.invokevirtual 82, 3) := by decide +kernel
theorem dL_text_141 : decode cL_text 141 = .ok (.ldc 87, 2) := by decide +kernel
theorem dL_text_143 : decode cL_text 143 = .ok (.invokevirtual 76, 3) := by decide +kernel
theorem dL_text_146 : decode cL_text 146 = .ok (.aload_n 0, 1) := by decide +kernel
theorem dL_text_147 : decode cL_text 147 = .ok (.getfield 19, 3) := by decide +kernel
theorem dL_text_150 : decode cL_text 150 = .ok (.iload 5, 2) := by decide +kernel
theorem dL_text_152 : decode cL_text 152 = .ok (.iaload, 1) := by decide +kernel
theorem dL_text_153 : decode cL_text 153 = .ok (.invokevirtual 82, 3) := by decide +kernel
theorem dL_text_156 : decode cL_text 156 = .ok (.ldc 89, 2) := by decide +kernel
theorem dL_text_158 : decode cL_text 158 = .ok (.invokevirtual 76, 3) := by decide +kernel
theorem dL_text_161 : decode cL_text 161 = .ok (.invokevirtual 91, 3) := by decide +kernel
theorem dL_text_164 : decode cL_text 164 = .ok (.astore 4, 2) := by decide +kernel
theorem dL_text_166 : decode cL_text 166 = .ok (.iinc 5 1, 3) := by decide +kernel
theorem dL_text_169 : decode cL_text 169 = .ok (.goto (-152), 3) := by decide +kernel
theorem dL_text_172 : decode cL_text 172 = .ok (.iload_n 1, 1) := by decide +kernel
theorem dL_text_173 : decode cL_text 173 = .ok (.ifCond .ge 11, 3) := by decide +kernel
theorem dL_text_176 : decode cL_text 176 = .ok (.aload_n 0, 1) := by decide +kernel
theorem dL_text_177 : decode cL_text 177 = .ok (.iconst 3, 1) := by decide +kernel
theorem dL_text_178 : decode cL_text 178 = .ok (.invokevirtual 58, 3) := by decide +kernel
theorem dL_text_181 : decode cL_text 181 = .ok (.goto 4, 3) := by decide +kernel
theorem dL_text_184 : decode cL_text 184 = .ok (.iload_n 1, 1) := by decide +kernel
theorem dL_text_185 : decode cL_text 185 = .ok (.istore 5, 2) := by decide +kernel
theorem dL_text_187 : decode cL_text 187 = .ok (.new 73, 3) := by decide +kernel
theorem dL_text_190 : decode cL_text 190 = .ok (.dup, 1) := by decide +kernel
theorem dL_text_191 : decode cL_text 191 = .ok (.invokespecial 75, 3) := by decide +kernel
theorem dL_text_194 : decode cL_text 194 = .ok (.aload 4, 2) := by decide +kernel
theorem dL_text_196 : decode cL_text 196 = .ok (.invokevirtual 76, 3) := by decide +kernel
theorem dL_text_199 : decode cL_text 199 = .ok (.iload 5, 2) := by decide +kernel
theorem dL_text_201 : decode cL_text 201 = .ok (.ifCond .ne 8, 3) := by decide +kernel
theorem dL_text_204 : decode cL_text 204 = .ok (.ldc 95, 2) := by decide +kernel
theorem dL_text_206 : decode cL_text 206 = .ok (.goto 42, 3) := by decide +kernel
theorem dL_text_209 : decode cL_text 209 = .ok (.iload 5, 2) := by decide +kernel
theorem dL_text_211 : decode cL_text 211 = .ok (.iconst 1, 1) := by decide +kernel
theorem dL_text_212 : decode cL_text 212 = .ok (.if_icmp .ne 34, 3) := by decide +kernel
theorem dL_text_215 : decode cL_text 215 = .ok (.new 73, 3) := by decide +kernel
theorem dL_text_218 : decode cL_text 218 = .ok (.dup, 1) := by decide +kernel
theorem dL_text_219 : decode cL_text 219 = .ok (.invokespecial 75, 3) := by decide +kernel
theorem dL_text_222 : decode cL_text 222 = .ok (.ldc 97, 2) := by decide +kernel
theorem dL_text_224 : decode cL_text 224 = .ok (.invokevirtual 76, 3) := by decide +kernel
theorem dL_text_227 : decode cL_text 227 = .ok (.aload_n 0, 1) := by decide +kernel
theorem dL_text_228 : decode cL_text 228 = .ok (.iconst 5, 1) := by decide +kernel
theorem dL_text_229 : decode cL_text 229 = .ok (.invokevirtual 58, 3) := by decide +kernel
theorem dL_text_232 : decode cL_text 232 = .ok (.invokevirtual 82, 3) := by decide +kernel
theorem dL_text_235 : decode cL_text 235 = .ok (.ldc 89, 2) := by decide +kernel
theorem dL_text_237 : decode cL_text 237 = .ok (.invokevirtual 76, 3) := by decide +kernel
theorem dL_text_240 : decode cL_text 240 = .ok (.invokevirtual 91, 3) := by decide +kernel
theorem dL_text_243 : decode cL_text 243 = .ok (.goto 5, 3) := by decide +kernel
theorem dL_text_246 : decode cL_text 246 = .ok (.ldc 99, 2) := by decide +kernel
theorem dL_text_248 : decode cL_text 248 = .ok (.invokevirtual 76, 3) := by decide +kernel
theorem dL_text_251 : decode cL_text 251 = .ok (.invokevirtual 91, 3) := by decide +kernel
theorem dL_text_254 : decode cL_text 254 = .ok (.areturn, 1) := by decide +kernel
theorem dL_isTaken_0 : decode cL_isTaken 0 = .ok (.iconst 0, 1) := by decide +kernel
theorem dL_isTaken_1 : decode cL_isTaken 1 = .ok (.istore_n 3, 1) := by decide +kernel
theorem dL_isTaken_2 : decode cL_isTaken 2 = .ok (.iload_n 3, 1) := by decide +kernel
theorem dL_isTaken_3 : decode cL_isTaken 3 = .ok (.iload_n 2, 1) := by decide +kernel
theorem dL_isTaken_4 : decode cL_isTaken 4 = .ok (.if_icmp .ge 21, 3) := by decide +kernel
theorem dL_isTaken_7 : decode cL_isTaken 7 = .ok (.aload_n 0, 1) := by decide +kernel
theorem dL_isTaken_8 : decode cL_isTaken 8 = .ok (.getfield 13, 3) := by decide +kernel
theorem dL_isTaken_11 : decode cL_isTaken 11 = .ok (.iload_n 3, 1) := by decide +kernel
theorem dL_isTaken_12 : decode cL_isTaken 12 = .ok (.iaload, 1) := by decide +kernel
theorem dL_isTaken_13 : decode cL_isTaken 13 = .ok (.iload_n 1, 1) := by decide +kernel
theorem dL_isTaken_14 : decode cL_isTaken 14 = .ok (.if_icmp .ne 5, 3) := by decide +kernel
theorem dL_isTaken_17 : decode cL_isTaken 17 = .ok (.iconst 1, 1) := by decide +kernel
theorem dL_isTaken_18 : decode cL_isTaken 18 = .ok (.ireturn, 1) := by decide +kernel
theorem dL_isTaken_19 : decode cL_isTaken 19 = .ok (.iinc 3 1, 3) := by decide +kernel
theorem dL_isTaken_22 : decode cL_isTaken 22 = .ok (.goto (-20), 3) := by decide +kernel
theorem dL_isTaken_25 : decode cL_isTaken 25 = .ok (.iconst 0, 1) := by decide +kernel
theorem dL_isTaken_26 : decode cL_isTaken 26 = .ok (.ireturn, 1) := by decide +kernel
theorem dL_law_0 : decode cL_law 0 = .ok (.new 8, 3) := by decide +kernel
theorem dL_law_3 : decode cL_law 3 = .ok (.dup, 1) := by decide +kernel
theorem dL_law_4 : decode cL_law 4 = .ok (.invokespecial 123, 3) := by decide +kernel
theorem dL_law_7 : decode cL_law 7 = .ok (.astore_n 1, 1) := by decide +kernel
theorem dL_law_8 : decode cL_law 8 = .ok (.aload_n 1, 1) := by decide +kernel
theorem dL_law_9 : decode cL_law 9 = .ok (.aload_n 0, 1) := by decide +kernel
theorem dL_law_10 : decode cL_law 10 = .ok (.putfield 7, 3) := by decide +kernel
theorem dL_law_13 : decode cL_law 13 = .ok (.new 37, 3) := by decide +kernel
theorem dL_law_16 : decode cL_law 16 = .ok (.dup, 1) := by decide +kernel
theorem dL_law_17 : decode cL_law 17 = .ok (.invokespecial 124, 3) := by decide +kernel
theorem dL_law_20 : decode cL_law 20 = .ok (.astore_n 2, 1) := by decide +kernel
theorem dL_law_21 : decode cL_law 21 = .ok (.aload_n 2, 1) := by decide +kernel
theorem dL_law_22 : decode cL_law 22 = .ok (.aload_n 1, 1) := by decide +kernel
theorem dL_law_23 : decode cL_law 23 = .ok (.iconst 0, 1) := by decide +kernel
theorem dL_law_24 : decode cL_law 24 = .ok (.iconst 4, 1) := by decide +kernel
theorem dL_law_25 : decode cL_law 25 = .ok (.iconst 5, 1) := by decide +kernel
theorem dL_law_26 : decode cL_law 26 = .ok (.invokevirtual 125, 3) := by decide +kernel
theorem dL_law_29 : decode cL_law 29 = .ok (.invokestatic 129, 3) := by decide +kernel
theorem dL_law_32 : decode cL_law 32 = .ok (.aload_n 1, 1) := by decide +kernel
theorem dL_law_33 : decode cL_law 33 = .ok (.getfield 64, 3) := by decide +kernel
theorem dL_law_36 : decode cL_law 36 = .ok (.if_icmp .ne 25, 3) := by decide +kernel
theorem dL_law_39 : decode cL_law 39 = .ok (.aload_n 2, 1) := by decide +kernel
theorem dL_law_40 : decode cL_law 40 = .ok (.invokevirtual 132, 3) := by decide +kernel
theorem dL_law_43 : decode cL_law 43 = .ok (.ifCond .ne 18, 3) := by decide +kernel
theorem dL_law_46 : decode cL_law 46 = .ok (.aload_n 2, 1) := by decide +kernel
theorem dL_law_47 : decode cL_law 47 = .ok (.invokevirtual 101, 3) := by decide +kernel
theorem dL_law_50 : decode cL_law 50 = .ok (.ifCond .ne 11, 3) := by decide +kernel
theorem dL_law_53 : decode cL_law 53 = .ok (.aload_n 1, 1) := by decide +kernel
theorem dL_law_54 : decode cL_law 54 = .ok (.aload_n 2, 1) := by decide +kernel
theorem dL_law_55 : decode cL_law 55 = .ok (.invokevirtual 135, 3) := by decide +kernel
theorem dL_law_58 : decode cL_law 58 = .ok (.ifCond .ne 5, 3) := by decide +kernel
theorem dL_law_61 : decode cL_law 61 = .ok (.iconst 0, 1) := by decide +kernel
theorem dL_law_62 : decode cL_law 62 = .ok (.ireturn, 1) := by decide +kernel
theorem dL_law_63 : decode cL_law 63 = .ok (.aload_n 2, 1) := by decide +kernel
theorem dL_law_64 : decode cL_law 64 = .ok (.iconst 2, 1) := by decide +kernel
theorem dL_law_65 : decode cL_law 65 = .ok (.iconst 0, 1) := by decide +kernel
theorem dL_law_66 : decode cL_law 66 = .ok (.invokevirtual 139, 3) := by decide +kernel
theorem dL_law_69 : decode cL_law 69 = .ok (.ifCond .ne 11, 3) := by decide +kernel
theorem dL_law_72 : decode cL_law 72 = .ok (.aload_n 1, 1) := by decide +kernel
theorem dL_law_73 : decode cL_law 73 = .ok (.aload_n 2, 1) := by decide +kernel
theorem dL_law_74 : decode cL_law 74 = .ok (.invokevirtual 142, 3) := by decide +kernel
theorem dL_law_77 : decode cL_law 77 = .ok (.ifCond .ne 5, 3) := by decide +kernel
theorem dL_law_80 : decode cL_law 80 = .ok (.iconst 0, 1) := by decide +kernel
theorem dL_law_81 : decode cL_law 81 = .ok (.ireturn, 1) := by decide +kernel
theorem dL_law_82 : decode cL_law 82 = .ok (.bipush (-4), 2) := by decide +kernel
theorem dL_law_84 : decode cL_law 84 = .ok (.istore_n 3, 1) := by decide +kernel
theorem dL_law_85 : decode cL_law 85 = .ok (.iload_n 3, 1) := by decide +kernel
theorem dL_law_86 : decode cL_law 86 = .ok (.iconst 4, 1) := by decide +kernel
theorem dL_law_87 : decode cL_law 87 = .ok (.if_icmp .gt 20, 3) := by decide +kernel
theorem dL_law_90 : decode cL_law 90 = .ok (.aload_n 1, 1) := by decide +kernel
theorem dL_law_91 : decode cL_law 91 = .ok (.aload_n 2, 1) := by decide +kernel
theorem dL_law_92 : decode cL_law 92 = .ok (.iload_n 3, 1) := by decide +kernel
theorem dL_law_93 : decode cL_law 93 = .ok (.invokevirtual 145, 3) := by decide +kernel
theorem dL_law_96 : decode cL_law 96 = .ok (.ifCond .ne 5, 3) := by decide +kernel
theorem dL_law_99 : decode cL_law 99 = .ok (.iconst 0, 1) := by decide +kernel
theorem dL_law_100 : decode cL_law 100 = .ok (.ireturn, 1) := by decide +kernel
theorem dL_law_101 : decode cL_law 101 = .ok (.iinc 3 1, 3) := by decide +kernel
theorem dL_law_104 : decode cL_law 104 = .ok (.goto (-19), 3) := by decide +kernel
theorem dL_law_107 : decode cL_law 107 = .ok (.aload_n 2, 1) := by decide +kernel
theorem dL_law_108 : decode cL_law 108 = .ok (.invokestatic 149, 3) := by decide +kernel
theorem dL_law_111 : decode cL_law 111 = .ok (.ifCond .eq 20, 3) := by decide +kernel
theorem dL_law_114 : decode cL_law 114 = .ok (.aload_n 2, 1) := by decide +kernel
theorem dL_law_115 : decode cL_law 115 = .ok (.invokestatic 152, 3) := by decide +kernel
theorem dL_law_118 : decode cL_law 118 = .ok (.ifCond .eq 13, 3) := by decide +kernel
theorem dL_law_121 : decode cL_law 121 = .ok (.invokestatic 155, 3) := by decide +kernel
theorem dL_law_124 : decode cL_law 124 = .ok (.ifCond .eq 7, 3) := by decide +kernel
theorem dL_law_127 : decode cL_law 127 = .ok (.iconst 1, 1) := by decide +kernel
theorem dL_law_128 : decode cL_law 128 = .ok (.goto 4, 3) := by decide +kernel
theorem dL_law_131 : decode cL_law 131 = .ok (.iconst 0, 1) := by decide +kernel
theorem dL_law_132 : decode cL_law 132 = .ok (.ireturn, 1) := by decide +kernel
theorem dL_isPlain_0 : decode cL_isPlain 0 = .ok (.aload_n 1, 1) := by decide +kernel
theorem dL_isPlain_1 : decode cL_isPlain 1 = .ok (.invokevirtual 159, 3) := by decide +kernel
theorem dL_isPlain_4 : decode cL_isPlain 4 = .ok (.ifCond .ne 47, 3) := by decide +kernel
theorem dL_isPlain_7 : decode cL_isPlain 7 = .ok (.aload_n 1, 1) := by decide +kernel
theorem dL_isPlain_8 : decode cL_isPlain 8 = .ok (.iconst 0, 1) := by decide +kernel
theorem dL_isPlain_9 : decode cL_isPlain 9 = .ok (.invokevirtual 116, 3) := by decide +kernel
theorem dL_isPlain_12 : decode cL_isPlain 12 = .ok (.bipush 25, 2) := by decide +kernel
theorem dL_isPlain_14 : decode cL_isPlain 14 = .ok (.if_icmp .ne 37, 3) := by decide +kernel
theorem dL_isPlain_17 : decode cL_isPlain 17 = .ok (.aload_n 1, 1) := by decide +kernel
theorem dL_isPlain_18 : decode cL_isPlain 18 = .ok (.invokevirtual 162, 3) := by decide +kernel
theorem dL_isPlain_21 : decode cL_isPlain 21 = .ok (.ifCond .ne 30, 3) := by decide +kernel
theorem dL_isPlain_24 : decode cL_isPlain 24 = .ok (.aload_n 1, 1) := by decide +kernel
theorem dL_isPlain_25 : decode cL_isPlain 25 = .ok (.iconst 1, 1) := by decide +kernel
theorem dL_isPlain_26 : decode cL_isPlain 26 = .ok (.invokevirtual 165, 3) := by decide +kernel
theorem dL_isPlain_29 : decode cL_isPlain 29 = .ok (.ifCond .ne 22, 3) := by decide +kernel
theorem dL_isPlain_32 : decode cL_isPlain 32 = .ok (.aload_n 1, 1) := by decide +kernel
theorem dL_isPlain_33 : decode cL_isPlain 33 = .ok (.iconst 0, 1) := by decide +kernel
theorem dL_isPlain_34 : decode cL_isPlain 34 = .ok (.invokevirtual 165, 3) := by decide +kernel
theorem dL_isPlain_37 : decode cL_isPlain 37 = .ok (.aload_n 0, 1) := by decide +kernel
theorem dL_isPlain_38 : decode cL_isPlain 38 = .ok (.getfield 64, 3) := by decide +kernel
theorem dL_isPlain_41 : decode cL_isPlain 41 = .ok (.if_icmp .ge 10, 3) := by decide +kernel
theorem dL_isPlain_44 : decode cL_isPlain 44 = .ok (.aload_n 1, 1) := by decide +kernel
theorem dL_isPlain_45 : decode cL_isPlain 45 = .ok (.invokevirtual 168, 3) := by decide +kernel
theorem dL_isPlain_48 : decode cL_isPlain 48 = .ok (.ifCond .ne 5, 3) := by decide +kernel
theorem dL_isPlain_51 : decode cL_isPlain 51 = .ok (.iconst 0, 1) := by decide +kernel
theorem dL_isPlain_52 : decode cL_isPlain 52 = .ok (.ireturn, 1) := by decide +kernel
theorem dL_isPlain_53 : decode cL_isPlain 53 = .ok (.bipush (-12), 2) := by decide +kernel
theorem dL_isPlain_55 : decode cL_isPlain 55 = .ok (.istore_n 2, 1) := by decide +kernel
theorem dL_isPlain_56 : decode cL_isPlain 56 = .ok (.iload_n 2, 1) := by decide +kernel
theorem dL_isPlain_57 : decode cL_isPlain 57 = .ok (.bipush 12, 2) := by decide +kernel
theorem dL_isPlain_59 : decode cL_isPlain 59 = .ok (.if_icmp .gt 52, 3) := by decide +kernel
theorem dL_isPlain_62 : decode cL_isPlain 62 = .ok (.aload_n 1, 1) := by decide +kernel
theorem dL_isPlain_63 : decode cL_isPlain 63 = .ok (.iload_n 2, 1) := by decide +kernel
theorem dL_isPlain_64 : decode cL_isPlain 64 = .ok (.iconst 0, 1) := by decide +kernel
theorem dL_isPlain_65 : decode cL_isPlain 65 = .ok (.invokevirtual 171, 3) := by decide +kernel
theorem dL_isPlain_68 : decode cL_isPlain 68 = .ok (.aload_n 1, 1) := by decide +kernel
theorem dL_isPlain_69 : decode cL_isPlain 69 = .ok (.iload_n 2, 1) := by decide +kernel
theorem dL_isPlain_70 : decode cL_isPlain 70 = .ok (.iconst 0, 1) := by decide +kernel
theorem dL_isPlain_71 : decode cL_isPlain 71 = .ok (.invokevirtual 175, 3) := by decide +kernel
theorem dL_isPlain_74 : decode cL_isPlain 74 = .ok (.lcmp, 1) := by decide +kernel
theorem dL_isPlain_75 : decode cL_isPlain 75 = .ok (.ifCond .ne 28, 3) := by decide +kernel
theorem dL_isPlain_78 : decode cL_isPlain 78 = .ok (.aload_n 1, 1) := by decide +kernel
theorem dL_isPlain_79 : decode cL_isPlain 79 = .ok (.iload_n 2, 1) := by decide +kernel
theorem dL_isPlain_80 : decode cL_isPlain 80 = .ok (.iconst 1, 1) := by decide +kernel
theorem dL_isPlain_81 : decode cL_isPlain 81 = .ok (.invokevirtual 171, 3) := by decide +kernel
theorem dL_isPlain_84 : decode cL_isPlain 84 = .ok (.aload_n 1, 1) := by decide +kernel
theorem dL_isPlain_85 : decode cL_isPlain 85 = .ok (.iload_n 2, 1) := by decide +kernel
theorem dL_isPlain_86 : decode cL_isPlain 86 = .ok (.iconst 1, 1) := by decide +kernel
theorem dL_isPlain_87 : decode cL_isPlain 87 = .ok (.invokevirtual 175, 3) := by decide +kernel
theorem dL_isPlain_90 : decode cL_isPlain 90 = .ok (.lcmp, 1) := by decide +kernel
theorem dL_isPlain_91 : decode cL_isPlain 91 = .ok (.ifCond .ne 12, 3) := by decide +kernel
theorem dL_isPlain_94 : decode cL_isPlain 94 = .ok (.aload_n 0, 1) := by decide +kernel
theorem dL_isPlain_95 : decode cL_isPlain 95 = .ok (.aload_n 1, 1) := by decide +kernel
theorem dL_isPlain_96 : decode cL_isPlain 96 = .ok (.iload_n 2, 1) := by decide +kernel
theorem dL_isPlain_97 : decode cL_isPlain 97 = .ok (.invokevirtual 178, 3) := by decide +kernel
theorem dL_isPlain_100 : decode cL_isPlain 100 = .ok (.ifCond .ne 5, 3) := by decide +kernel
theorem dL_isPlain_103 : decode cL_isPlain 103 = .ok (.iconst 0, 1) := by decide +kernel
theorem dL_isPlain_104 : decode cL_isPlain 104 = .ok (.ireturn, 1) := by decide +kernel
theorem dL_isPlain_105 : decode cL_isPlain 105 = .ok (.iinc 2 1, 3) := by decide +kernel
theorem dL_isPlain_108 : decode cL_isPlain 108 = .ok (.goto (-52), 3) := by decide +kernel
theorem dL_isPlain_111 : decode cL_isPlain 111 = .ok (.iconst 1, 1) := by decide +kernel
theorem dL_isPlain_112 : decode cL_isPlain 112 = .ok (.ireturn, 1) := by decide +kernel
theorem dL_isByNewton_0 : decode cL_isByNewton 0 = .ok (.lconst 1, 1) := by decide +kernel
theorem dL_isByNewton_1 : decode cL_isByNewton 1 = .ok (.lstore_n 3, 1) := by decide +kernel
theorem dL_isByNewton_2 : decode cL_isByNewton 2 = .ok (.iconst 1, 1) := by decide +kernel
theorem dL_isByNewton_3 : decode cL_isByNewton 3 = .ok (.istore 5, 2) := by decide +kernel
theorem dL_isByNewton_5 : decode cL_isByNewton 5 = .ok (.iload 5, 2) := by decide +kernel
theorem dL_isByNewton_7 : decode cL_isByNewton 7 = .ok (.aload_n 0, 1) := by decide +kernel
theorem dL_isByNewton_8 : decode cL_isByNewton 8 = .ok (.getfield 64, 3) := by decide +kernel
theorem dL_isByNewton_11 : decode cL_isByNewton 11 = .ok (.if_icmp .ge 20, 3) := by decide +kernel
theorem dL_isByNewton_14 : decode cL_isByNewton 14 = .ok (.lload_n 3, 1) := by decide +kernel
theorem dL_isByNewton_15 : decode cL_isByNewton 15 = .ok (.aload_n 1, 1) := by decide +kernel
theorem dL_isByNewton_16 : decode cL_isByNewton 16 = .ok (.iconst 0, 1) := by decide +kernel
theorem dL_isByNewton_17 : decode cL_isByNewton 17 = .ok (.iload 5, 2) := by decide +kernel
theorem dL_isByNewton_19 : decode cL_isByNewton 19 = .ok (.iconst 1, 1) := by decide +kernel
theorem dL_isByNewton_20 : decode cL_isByNewton 20 = .ok (.invokevirtual 181, 3) := by decide +kernel
theorem dL_isByNewton_23 : decode cL_isByNewton 23 = .ok (.lmul, 1) := by decide +kernel
theorem dL_isByNewton_24 : decode cL_isByNewton 24 = .ok (.lstore_n 3, 1) := by decide +kernel
theorem dL_isByNewton_25 : decode cL_isByNewton 25 = .ok (.iinc 5 1, 3) := by decide +kernel
theorem dL_isByNewton_28 : decode cL_isByNewton 28 = .ok (.goto (-23), 3) := by decide +kernel
theorem dL_isByNewton_31 : decode cL_isByNewton 31 = .ok (.lconst 0, 1) := by decide +kernel
theorem dL_isByNewton_32 : decode cL_isByNewton 32 = .ok (.lstore 5, 2) := by decide +kernel
theorem dL_isByNewton_34 : decode cL_isByNewton 34 = .ok (.lconst 1, 1) := by decide +kernel
theorem dL_isByNewton_35 : decode cL_isByNewton 35 = .ok (.lstore 7, 2) := by decide +kernel
theorem dL_isByNewton_37 : decode cL_isByNewton 37 = .ok (.iconst 0, 1) := by decide +kernel
theorem dL_isByNewton_38 : decode cL_isByNewton 38 = .ok (.istore 9, 2) := by decide +kernel
theorem dL_isByNewton_40 : decode cL_isByNewton 40 = .ok (.iload 9, 2) := by decide +kernel
theorem dL_isByNewton_42 : decode cL_isByNewton 42 = .ok (.aload_n 0, 1) := by decide +kernel
theorem dL_isByNewton_43 : decode cL_isByNewton 43 = .ok (.getfield 64, 3) := by decide +kernel
theorem dL_isByNewton_46 : decode cL_isByNewton 46 = .ok (.if_icmp .ge 51, 3) := by decide +kernel
theorem dL_isByNewton_49 : decode cL_isByNewton 49 = .ok (.lload 5, 2) := by decide +kernel
theorem dL_isByNewton_51 : decode cL_isByNewton 51 = .ok (.aload_n 1, 1) := by decide +kernel
theorem dL_isByNewton_52 : decode cL_isByNewton 52 = .ok (.iconst 0, 1) := by decide +kernel
theorem dL_isByNewton_53 : decode cL_isByNewton 53 = .ok (.iload 9, 2) := by decide +kernel
theorem dL_isByNewton_55 : decode cL_isByNewton 55 = .ok (.iconst 0, 1) := by decide +kernel
theorem dL_isByNewton_56 : decode cL_isByNewton 56 = .ok (.invokevirtual 181, 3) := by decide +kernel
theorem dL_isByNewton_59 : decode cL_isByNewton 59 = .ok (.lload_n 3, 1) := by decide +kernel
theorem dL_isByNewton_60 : decode cL_isByNewton 60 = .ok (.aload_n 1, 1) := by decide +kernel
theorem dL_isByNewton_61 : decode cL_isByNewton 61 = .ok (.iconst 0, 1) := by decide +kernel
theorem dL_isByNewton_62 : decode cL_isByNewton 62 = .ok (.iload 9, 2) := by decide +kernel
theorem dL_isByNewton_64 : decode cL_isByNewton 64 = .ok (.iconst 1, 1) := by decide +kernel
theorem dL_isByNewton_65 : decode cL_isByNewton 65 = .ok (.invokevirtual 181, 3) := by decide +kernel
theorem dL_isByNewton_68 : decode cL_isByNewton 68 = .ok (.ldiv, 1) := by decide +kernel
theorem dL_isByNewton_69 : decode cL_isByNewton 69 = .ok (.lmul, 1) := by decide +kernel
theorem dL_isByNewton_70 : decode cL_isByNewton 70 = .ok (.lload 7, 2) := by decide +kernel
theorem dL_isByNewton_72 : decode cL_isByNewton 72 = .ok (.lmul, 1) := by decide +kernel
theorem dL_isByNewton_73 : decode cL_isByNewton 73 = .ok (.ladd, 1) := by decide +kernel
theorem dL_isByNewton_74 : decode cL_isByNewton 74 = .ok (.lstore 5, 2) := by decide +kernel
theorem dL_isByNewton_76 : decode cL_isByNewton 76 = .ok (.lload 7, 2) := by decide +kernel
theorem dL_isByNewton_78 : decode cL_isByNewton 78 = .ok (.iload_n 2, 1) := by decide +kernel
theorem dL_isByNewton_79 : decode cL_isByNewton 79 = .ok (.aload_n 0, 1) := by decide +kernel
theorem dL_isByNewton_80 : decode cL_isByNewton 80 = .ok (.getfield 13, 3) := by decide +kernel
theorem dL_isByNewton_83 : decode cL_isByNewton 83 = .ok (.iload 9, 2) := by decide +kernel
theorem dL_isByNewton_85 : decode cL_isByNewton 85 = .ok (.iaload, 1) := by decide +kernel
theorem dL_isByNewton_86 : decode cL_isByNewton 86 = .ok (.isub, 1) := by decide +kernel
theorem dL_isByNewton_87 : decode cL_isByNewton 87 = .ok (.i2l, 1) := by decide +kernel
theorem dL_isByNewton_88 : decode cL_isByNewton 88 = .ok (.lmul, 1) := by decide +kernel
theorem dL_isByNewton_89 : decode cL_isByNewton 89 = .ok (.lstore 7, 2) := by decide +kernel
theorem dL_isByNewton_91 : decode cL_isByNewton 91 = .ok (.iinc 9 1, 3) := by decide +kernel
theorem dL_isByNewton_94 : decode cL_isByNewton 94 = .ok (.goto (-54), 3) := by decide +kernel
theorem dL_isByNewton_97 : decode cL_isByNewton 97 = .ok (.lload 5, 2) := by decide +kernel
theorem dL_isByNewton_99 : decode cL_isByNewton 99 = .ok (.aload_n 1, 1) := by decide +kernel
theorem dL_isByNewton_100 : decode cL_isByNewton 100 = .ok (.iload_n 2, 1) := by decide +kernel
theorem dL_isByNewton_101 : decode cL_isByNewton 101 = .ok (.iconst 1, 1) := by decide +kernel
theorem dL_isByNewton_102 : decode cL_isByNewton 102 = .ok (.invokevirtual 175, 3) := by decide +kernel
theorem dL_isByNewton_105 : decode cL_isByNewton 105 = .ok (.lmul, 1) := by decide +kernel
theorem dL_isByNewton_106 : decode cL_isByNewton 106 = .ok (.lload_n 3, 1) := by decide +kernel
theorem dL_isByNewton_107 : decode cL_isByNewton 107 = .ok (.aload_n 1, 1) := by decide +kernel
theorem dL_isByNewton_108 : decode cL_isByNewton 108 = .ok (.iload_n 2, 1) := by decide +kernel
theorem dL_isByNewton_109 : decode cL_isByNewton 109 = .ok (.iconst 0, 1) := by decide +kernel
theorem dL_isByNewton_110 : decode cL_isByNewton 110 = .ok (.invokevirtual 175, 3) := by decide +kernel
theorem dL_isByNewton_113 : decode cL_isByNewton 113 = .ok (.lmul, 1) := by decide +kernel
theorem dL_isByNewton_114 : decode cL_isByNewton 114 = .ok (.lcmp, 1) := by decide +kernel
theorem dL_isByNewton_115 : decode cL_isByNewton 115 = .ok (.ifCond .ne 7, 3) := by decide +kernel
theorem dL_isByNewton_118 : decode cL_isByNewton 118 = .ok (.iconst 1, 1) := by decide +kernel
theorem dL_isByNewton_119 : decode cL_isByNewton 119 = .ok (.goto 4, 3) := by decide +kernel
theorem dL_isByNewton_122 : decode cL_isByNewton 122 = .ok (.iconst 0, 1) := by decide +kernel
theorem dL_isByNewton_123 : decode cL_isByNewton 123 = .ok (.ireturn, 1) := by decide +kernel
theorem dL_areInProportion_0 : decode cL_areInProportion 0 = .ok (.iconst 0, 1) := by decide +kernel
theorem dL_areInProportion_1 : decode cL_areInProportion 1 = .ok (.istore_n 2, 1) := by decide +kernel
theorem dL_areInProportion_2 : decode cL_areInProportion 2 = .ok (.iconst 0, 1) := by decide +kernel
theorem dL_areInProportion_3 : decode cL_areInProportion 3 = .ok (.istore_n 3, 1) := by decide +kernel
theorem dL_areInProportion_4 : decode cL_areInProportion 4 = .ok (.iload_n 3, 1) := by decide +kernel
theorem dL_areInProportion_5 : decode cL_areInProportion 5 = .ok (.aload_n 0, 1) := by decide +kernel
theorem dL_areInProportion_6 : decode cL_areInProportion 6 = .ok (.getfield 64, 3) := by decide +kernel
theorem dL_areInProportion_9 : decode cL_areInProportion 9 = .ok (.if_icmp .ge 49, 3) := by decide +kernel
theorem dL_areInProportion_12 : decode cL_areInProportion 12 = .ok (.iload_n 2, 1) := by decide +kernel
theorem dL_areInProportion_13 : decode cL_areInProportion 13 = .ok (.istore 4, 2) := by decide +kernel
theorem dL_areInProportion_15 : decode cL_areInProportion 15 = .ok (.aload_n 0, 1) := by decide +kernel
theorem dL_areInProportion_16 : decode cL_areInProportion 16 = .ok (.getfield 19, 3) := by decide +kernel
theorem dL_areInProportion_19 : decode cL_areInProportion 19 = .ok (.iload_n 3, 1) := by decide +kernel
theorem dL_areInProportion_20 : decode cL_areInProportion 20 = .ok (.iaload, 1) := by decide +kernel
theorem dL_areInProportion_21 : decode cL_areInProportion 21 = .ok (.invokestatic 185, 3) := by decide +kernel
theorem dL_areInProportion_24 : decode cL_areInProportion 24 = .ok (.istore 5, 2) := by decide +kernel
theorem dL_areInProportion_26 : decode cL_areInProportion 26 = .ok (.iload 5, 2) := by decide +kernel
theorem dL_areInProportion_28 : decode cL_areInProportion 28 = .ok (.ifCond .le 21, 3) := by decide +kernel
theorem dL_areInProportion_31 : decode cL_areInProportion 31 = .ok (.iload 4, 2) := by decide +kernel
theorem dL_areInProportion_33 : decode cL_areInProportion 33 = .ok (.iload 5, 2) := by decide +kernel
theorem dL_areInProportion_35 : decode cL_areInProportion 35 = .ok (.irem, 1) := by decide +kernel
theorem dL_areInProportion_36 : decode cL_areInProportion 36 = .ok (.istore 6, 2) := by decide +kernel
theorem dL_areInProportion_38 : decode cL_areInProportion 38 = .ok (.iload 5, 2) := by decide +kernel
theorem dL_areInProportion_40 : decode cL_areInProportion 40 = .ok (.istore 4, 2) := by decide +kernel
theorem dL_areInProportion_42 : decode cL_areInProportion 42 = .ok (.iload 6, 2) := by decide +kernel
theorem dL_areInProportion_44 : decode cL_areInProportion 44 = .ok (.istore 5, 2) := by decide +kernel
theorem dL_areInProportion_46 : decode cL_areInProportion 46 = .ok (.goto (-20), 3) := by decide +kernel
theorem dL_areInProportion_49 : decode cL_areInProportion 49 = .ok (.iload 4, 2) := by decide +kernel
theorem dL_areInProportion_51 : decode cL_areInProportion 51 = .ok (.istore_n 2, 1) := by decide +kernel
theorem dL_areInProportion_52 : decode cL_areInProportion 52 = .ok (.iinc 3 1, 3) := by decide +kernel
theorem dL_areInProportion_55 : decode cL_areInProportion 55 = .ok (.goto (-51), 3) := by decide +kernel
theorem dL_areInProportion_58 : decode cL_areInProportion 58 = .ok (.iconst 0, 1) := by decide +kernel
theorem dL_areInProportion_59 : decode cL_areInProportion 59 = .ok (.istore_n 3, 1) := by decide +kernel
theorem dL_areInProportion_60 : decode cL_areInProportion 60 = .ok (.iload_n 3, 1) := by decide +kernel
theorem dL_areInProportion_61 : decode cL_areInProportion 61 = .ok (.aload_n 0, 1) := by decide +kernel
theorem dL_areInProportion_62 : decode cL_areInProportion 62 = .ok (.getfield 64, 3) := by decide +kernel
theorem dL_areInProportion_65 : decode cL_areInProportion 65 = .ok (.if_icmp .ge 45, 3) := by decide +kernel
theorem dL_areInProportion_68 : decode cL_areInProportion 68 = .ok (.aload_n 1, 1) := by decide +kernel
theorem dL_areInProportion_69 : decode cL_areInProportion 69 = .ok (.iload_n 3, 1) := by decide +kernel
theorem dL_areInProportion_70 : decode cL_areInProportion 70 = .ok (.invokevirtual 190, 3) := by decide +kernel
theorem dL_areInProportion_73 : decode cL_areInProportion 73 = .ok (.iload_n 2, 1) := by decide +kernel
theorem dL_areInProportion_74 : decode cL_areInProportion 74 = .ok (.i2l, 1) := by decide +kernel
theorem dL_areInProportion_75 : decode cL_areInProportion 75 = .ok (.lmul, 1) := by decide +kernel
theorem dL_areInProportion_76 : decode cL_areInProportion 76 = .ok (.aload_n 0, 1) := by decide +kernel
theorem dL_areInProportion_77 : decode cL_areInProportion 77 = .ok (.getfield 19, 3) := by decide +kernel
theorem dL_areInProportion_80 : decode cL_areInProportion 80 = .ok (.iload_n 3, 1) := by decide +kernel
theorem dL_areInProportion_81 : decode cL_areInProportion 81 = .ok (.iaload, 1) := by decide +kernel
theorem dL_areInProportion_82 : decode cL_areInProportion 82 = .ok (.i2l, 1) := by decide +kernel
theorem dL_areInProportion_83 : decode cL_areInProportion 83 = .ok (.lcmp, 1) := by decide +kernel
theorem dL_areInProportion_84 : decode cL_areInProportion 84 = .ok (.ifCond .ne 18, 3) := by decide +kernel
theorem dL_areInProportion_87 : decode cL_areInProportion 87 = .ok (.aload_n 1, 1) := by decide +kernel
theorem dL_areInProportion_88 : decode cL_areInProportion 88 = .ok (.iload_n 3, 1) := by decide +kernel
theorem dL_areInProportion_89 : decode cL_areInProportion 89 = .ok (.iconst 2, 1) := by decide +kernel
theorem dL_areInProportion_90 : decode cL_areInProportion 90 = .ok (.invokevirtual 113, 3) := by decide +kernel
theorem dL_areInProportion_93 : decode cL_areInProportion 93 = .ok (.aload_n 0, 1) := by decide +kernel
theorem dL_areInProportion_94 : decode cL_areInProportion 94 = .ok (.getfield 19, 3) := by decide +kernel
theorem dL_areInProportion_97 : decode cL_areInProportion 97 = .ok (.iload_n 3, 1) := by decide +kernel
theorem dL_areInProportion_98 : decode cL_areInProportion 98 = .ok (.iaload, 1) := by decide +kernel
theorem dL_areInProportion_99 : decode cL_areInProportion 99 = .ok (.if_icmp .eq 5, 3) := by decide +kernel
theorem dL_areInProportion_102 : decode cL_areInProportion 102 = .ok (.iconst 0, 1) := by decide +kernel
theorem dL_areInProportion_103 : decode cL_areInProportion 103 = .ok (.ireturn, 1) := by decide +kernel
theorem dL_areInProportion_104 : decode cL_areInProportion 104 = .ok (.iinc 3 1, 3) := by decide +kernel
theorem dL_areInProportion_107 : decode cL_areInProportion 107 = .ok (.goto (-47), 3) := by decide +kernel
theorem dL_areInProportion_110 : decode cL_areInProportion 110 = .ok (.iload_n 2, 1) := by decide +kernel
theorem dL_areInProportion_111 : decode cL_areInProportion 111 = .ok (.ifCond .gt 12, 3) := by decide +kernel
theorem dL_areInProportion_114 : decode cL_areInProportion 114 = .ok (.aload_n 1, 1) := by decide +kernel
theorem dL_areInProportion_115 : decode cL_areInProportion 115 = .ok (.invokevirtual 194, 3) := by decide +kernel
theorem dL_areInProportion_118 : decode cL_areInProportion 118 = .ok (.lconst 0, 1) := by decide +kernel
theorem dL_areInProportion_119 : decode cL_areInProportion 119 = .ok (.lcmp, 1) := by decide +kernel
theorem dL_areInProportion_120 : decode cL_areInProportion 120 = .ok (.ifCond .ne 7, 3) := by decide +kernel
theorem dL_areInProportion_123 : decode cL_areInProportion 123 = .ok (.iconst 1, 1) := by decide +kernel
theorem dL_areInProportion_124 : decode cL_areInProportion 124 = .ok (.goto 4, 3) := by decide +kernel
theorem dL_areInProportion_127 : decode cL_areInProportion 127 = .ok (.iconst 0, 1) := by decide +kernel
theorem dL_areInProportion_128 : decode cL_areInProportion 128 = .ok (.ireturn, 1) := by decide +kernel
theorem dL_isSum_0 : decode cL_isSum 0 = .ok (.lconst 0, 1) := by decide +kernel
theorem dL_isSum_1 : decode cL_isSum 1 = .ok (.lstore_n 3, 1) := by decide +kernel
theorem dL_isSum_2 : decode cL_isSum 2 = .ok (.lconst 0, 1) := by decide +kernel
theorem dL_isSum_3 : decode cL_isSum 3 = .ok (.lstore 5, 2) := by decide +kernel
theorem dL_isSum_5 : decode cL_isSum 5 = .ok (.lconst 0, 1) := by decide +kernel
theorem dL_isSum_6 : decode cL_isSum 6 = .ok (.lstore 7, 2) := by decide +kernel
theorem dL_isSum_8 : decode cL_isSum 8 = .ok (.lconst 0, 1) := by decide +kernel
theorem dL_isSum_9 : decode cL_isSum 9 = .ok (.lstore 9, 2) := by decide +kernel
theorem dL_isSum_11 : decode cL_isSum 11 = .ok (.iconst 0, 1) := by decide +kernel
theorem dL_isSum_12 : decode cL_isSum 12 = .ok (.istore 11, 2) := by decide +kernel
theorem dL_isSum_14 : decode cL_isSum 14 = .ok (.iload 11, 2) := by decide +kernel
theorem dL_isSum_16 : decode cL_isSum 16 = .ok (.aload_n 0, 1) := by decide +kernel
theorem dL_isSum_17 : decode cL_isSum 17 = .ok (.getfield 64, 3) := by decide +kernel
theorem dL_isSum_20 : decode cL_isSum 20 = .ok (.if_icmp .ge 82, 3) := by decide +kernel
theorem dL_isSum_23 : decode cL_isSum 23 = .ok (.aload_n 1, 1) := by decide +kernel
theorem dL_isSum_24 : decode cL_isSum 24 = .ok (.iload 11, 2) := by decide +kernel
theorem dL_isSum_26 : decode cL_isSum 26 = .ok (.invokevirtual 190, 3) := by decide +kernel
theorem dL_isSum_29 : decode cL_isSum 29 = .ok (.lstore 12, 2) := by decide +kernel
theorem dL_isSum_31 : decode cL_isSum 31 = .ok (.iconst 0, 1) := by decide +kernel
theorem dL_isSum_32 : decode cL_isSum 32 = .ok (.istore 14, 2) := by decide +kernel
theorem dL_isSum_34 : decode cL_isSum 34 = .ok (.iload 14, 2) := by decide +kernel
theorem dL_isSum_36 : decode cL_isSum 36 = .ok (.aload_n 0, 1) := by decide +kernel
theorem dL_isSum_37 : decode cL_isSum 37 = .ok (.getfield 64, 3) := by decide +kernel
theorem dL_isSum_40 : decode cL_isSum 40 = .ok (.if_icmp .ge 35, 3) := by decide +kernel
theorem dL_isSum_43 : decode cL_isSum 43 = .ok (.lload 12, 2) := by decide +kernel
theorem dL_isSum_45 : decode cL_isSum 45 = .ok (.iload 14, 2) := by decide +kernel
theorem dL_isSum_47 : decode cL_isSum 47 = .ok (.iload 11, 2) := by decide +kernel
theorem dL_isSum_49 : decode cL_isSum 49 = .ok (.if_icmp .ne 7, 3) := by decide +kernel
theorem dL_isSum_52 : decode cL_isSum 52 = .ok (.lconst 1, 1) := by decide +kernel
theorem dL_isSum_53 : decode cL_isSum 53 = .ok (.goto 13, 3) := by decide +kernel
theorem dL_isSum_56 : decode cL_isSum 56 = .ok (.iload_n 2, 1) := by decide +kernel
theorem dL_isSum_57 : decode cL_isSum 57 = .ok (.aload_n 0, 1) := by decide +kernel
theorem dL_isSum_58 : decode cL_isSum 58 = .ok (.getfield 13, 3) := by decide +kernel
theorem dL_isSum_61 : decode cL_isSum 61 = .ok (.iload 14, 2) := by decide +kernel
theorem dL_isSum_63 : decode cL_isSum 63 = .ok (.iaload, 1) := by decide +kernel
theorem dL_isSum_64 : decode cL_isSum 64 = .ok (.isub, 1) := by decide +kernel
theorem dL_isSum_65 : decode cL_isSum 65 = .ok (.i2l, 1) := by decide +kernel
theorem dL_isSum_66 : decode cL_isSum 66 = .ok (.lmul, 1) := by decide +kernel
theorem dL_isSum_67 : decode cL_isSum 67 = .ok (.lstore 12, 2) := by decide +kernel
theorem dL_isSum_69 : decode cL_isSum 69 = .ok (.iinc 14 1, 3) := by decide +kernel
theorem dL_isSum_72 : decode cL_isSum 72 = .ok (.goto (-38), 3) := by decide +kernel
theorem dL_isSum_75 : decode cL_isSum 75 = .ok (.lload_n 3, 1) := by decide +kernel
theorem dL_isSum_76 : decode cL_isSum 76 = .ok (.lload 12, 2) := by decide +kernel
theorem dL_isSum_78 : decode cL_isSum 78 = .ok (.aload_n 0, 1) := by decide +kernel
theorem dL_isSum_79 : decode cL_isSum 79 = .ok (.getfield 16, 3) := by decide +kernel
theorem dL_isSum_82 : decode cL_isSum 82 = .ok (.iload 11, 2) := by decide +kernel
theorem dL_isSum_84 : decode cL_isSum 84 = .ok (.iaload, 1) := by decide +kernel
theorem dL_isSum_85 : decode cL_isSum 85 = .ok (.i2l, 1) := by decide +kernel
theorem dL_isSum_86 : decode cL_isSum 86 = .ok (.lmul, 1) := by decide +kernel
theorem dL_isSum_87 : decode cL_isSum 87 = .ok (.ladd, 1) := by decide +kernel
theorem dL_isSum_88 : decode cL_isSum 88 = .ok (.lstore_n 3, 1) := by decide +kernel
theorem dL_isSum_89 : decode cL_isSum 89 = .ok (.lload 5, 2) := by decide +kernel
theorem dL_isSum_91 : decode cL_isSum 91 = .ok (.lload 12, 2) := by decide +kernel
theorem dL_isSum_93 : decode cL_isSum 93 = .ok (.ladd, 1) := by decide +kernel
theorem dL_isSum_94 : decode cL_isSum 94 = .ok (.lstore 5, 2) := by decide +kernel
theorem dL_isSum_96 : decode cL_isSum 96 = .ok (.iinc 11 1, 3) := by decide +kernel
theorem dL_isSum_99 : decode cL_isSum 99 = .ok (.goto (-85), 3) := by decide +kernel
theorem dL_isSum_102 : decode cL_isSum 102 = .ok (.lconst 1, 1) := by decide +kernel
theorem dL_isSum_103 : decode cL_isSum 103 = .ok (.lstore 11, 2) := by decide +kernel
theorem dL_isSum_105 : decode cL_isSum 105 = .ok (.iconst 0, 1) := by decide +kernel
theorem dL_isSum_106 : decode cL_isSum 106 = .ok (.istore 13, 2) := by decide +kernel
theorem dL_isSum_108 : decode cL_isSum 108 = .ok (.iload 13, 2) := by decide +kernel
theorem dL_isSum_110 : decode cL_isSum 110 = .ok (.iconst 5, 1) := by decide +kernel
theorem dL_isSum_111 : decode cL_isSum 111 = .ok (.if_icmp .ge 46, 3) := by decide +kernel
theorem dL_isSum_114 : decode cL_isSum 114 = .ok (.lload 7, 2) := by decide +kernel
theorem dL_isSum_116 : decode cL_isSum 116 = .ok (.lload 11, 2) := by decide +kernel
theorem dL_isSum_118 : decode cL_isSum 118 = .ok (.aload_n 1, 1) := by decide +kernel
theorem dL_isSum_119 : decode cL_isSum 119 = .ok (.iconst 0, 1) := by decide +kernel
theorem dL_isSum_120 : decode cL_isSum 120 = .ok (.iload 13, 2) := by decide +kernel
theorem dL_isSum_122 : decode cL_isSum 122 = .ok (.invokevirtual 198, 3) := by decide +kernel
theorem dL_isSum_125 : decode cL_isSum 125 = .ok (.lmul, 1) := by decide +kernel
theorem dL_isSum_126 : decode cL_isSum 126 = .ok (.ladd, 1) := by decide +kernel
theorem dL_isSum_127 : decode cL_isSum 127 = .ok (.lstore 7, 2) := by decide +kernel
theorem dL_isSum_129 : decode cL_isSum 129 = .ok (.lload 9, 2) := by decide +kernel
theorem dL_isSum_131 : decode cL_isSum 131 = .ok (.lload 11, 2) := by decide +kernel
theorem dL_isSum_133 : decode cL_isSum 133 = .ok (.aload_n 1, 1) := by decide +kernel
theorem dL_isSum_134 : decode cL_isSum 134 = .ok (.iconst 1, 1) := by decide +kernel
theorem dL_isSum_135 : decode cL_isSum 135 = .ok (.iload 13, 2) := by decide +kernel
theorem dL_isSum_137 : decode cL_isSum 137 = .ok (.invokevirtual 198, 3) := by decide +kernel
theorem dL_isSum_140 : decode cL_isSum 140 = .ok (.lmul, 1) := by decide +kernel
theorem dL_isSum_141 : decode cL_isSum 141 = .ok (.ladd, 1) := by decide +kernel
theorem dL_isSum_142 : decode cL_isSum 142 = .ok (.lstore 9, 2) := by decide +kernel
theorem dL_isSum_144 : decode cL_isSum 144 = .ok (.lload 11, 2) := by decide +kernel
theorem dL_isSum_146 : decode cL_isSum 146 = .ok (.iload_n 2, 1) := by decide +kernel
theorem dL_isSum_147 : decode cL_isSum 147 = .ok (.i2l, 1) := by decide +kernel
theorem dL_isSum_148 : decode cL_isSum 148 = .ok (.lmul, 1) := by decide +kernel
theorem dL_isSum_149 : decode cL_isSum 149 = .ok (.lstore 11, 2) := by decide +kernel
theorem dL_isSum_151 : decode cL_isSum 151 = .ok (.iinc 13 1, 3) := by decide +kernel
theorem dL_isSum_154 : decode cL_isSum 154 = .ok (.goto (-46), 3) := by decide +kernel
theorem dL_isSum_157 : decode cL_isSum 157 = .ok (.lload_n 3, 1) := by decide +kernel
theorem dL_isSum_158 : decode cL_isSum 158 = .ok (.lload 7, 2) := by decide +kernel
theorem dL_isSum_160 : decode cL_isSum 160 = .ok (.lcmp, 1) := by decide +kernel
theorem dL_isSum_161 : decode cL_isSum 161 = .ok (.ifCond .ne 11, 3) := by decide +kernel
theorem dL_isSum_164 : decode cL_isSum 164 = .ok (.lload 5, 2) := by decide +kernel
theorem dL_isSum_166 : decode cL_isSum 166 = .ok (.lload 9, 2) := by decide +kernel
theorem dL_isSum_168 : decode cL_isSum 168 = .ok (.lcmp, 1) := by decide +kernel
theorem dL_isSum_169 : decode cL_isSum 169 = .ok (.ifCond .eq 5, 3) := by decide +kernel
theorem dL_isSum_172 : decode cL_isSum 172 = .ok (.iconst 0, 1) := by decide +kernel
theorem dL_isSum_173 : decode cL_isSum 173 = .ok (.ireturn, 1) := by decide +kernel
theorem dL_isSum_174 : decode cL_isSum 174 = .ok (.aload_n 1, 1) := by decide +kernel
theorem dL_isSum_175 : decode cL_isSum 175 = .ok (.iload_n 2, 1) := by decide +kernel
theorem dL_isSum_176 : decode cL_isSum 176 = .ok (.invokevirtual 202, 3) := by decide +kernel
theorem dL_isSum_179 : decode cL_isSum 179 = .ok (.istore 13, 2) := by decide +kernel
theorem dL_isSum_181 : decode cL_isSum 181 = .ok (.lload 5, 2) := by decide +kernel
theorem dL_isSum_183 : decode cL_isSum 183 = .ok (.lconst 0, 1) := by decide +kernel
theorem dL_isSum_184 : decode cL_isSum 184 = .ok (.lcmp, 1) := by decide +kernel
theorem dL_isSum_185 : decode cL_isSum 185 = .ok (.ifCond .eq 35, 3) := by decide +kernel
theorem dL_isSum_188 : decode cL_isSum 188 = .ok (.iload 13, 2) := by decide +kernel
theorem dL_isSum_190 : decode cL_isSum 190 = .ok (.ifCond .ne 28, 3) := by decide +kernel
theorem dL_isSum_193 : decode cL_isSum 193 = .ok (.aload_n 1, 1) := by decide +kernel
theorem dL_isSum_194 : decode cL_isSum 194 = .ok (.iload_n 2, 1) := by decide +kernel
theorem dL_isSum_195 : decode cL_isSum 195 = .ok (.iconst 0, 1) := by decide +kernel
theorem dL_isSum_196 : decode cL_isSum 196 = .ok (.invokevirtual 171, 3) := by decide +kernel
theorem dL_isSum_199 : decode cL_isSum 199 = .ok (.lload 5, 2) := by decide +kernel
theorem dL_isSum_201 : decode cL_isSum 201 = .ok (.lmul, 1) := by decide +kernel
theorem dL_isSum_202 : decode cL_isSum 202 = .ok (.aload_n 1, 1) := by decide +kernel
theorem dL_isSum_203 : decode cL_isSum 203 = .ok (.iload_n 2, 1) := by decide +kernel
theorem dL_isSum_204 : decode cL_isSum 204 = .ok (.iconst 1, 1) := by decide +kernel
theorem dL_isSum_205 : decode cL_isSum 205 = .ok (.invokevirtual 171, 3) := by decide +kernel
theorem dL_isSum_208 : decode cL_isSum 208 = .ok (.lload_n 3, 1) := by decide +kernel
theorem dL_isSum_209 : decode cL_isSum 209 = .ok (.lmul, 1) := by decide +kernel
theorem dL_isSum_210 : decode cL_isSum 210 = .ok (.lcmp, 1) := by decide +kernel
theorem dL_isSum_211 : decode cL_isSum 211 = .ok (.ifCond .ne 7, 3) := by decide +kernel
theorem dL_isSum_214 : decode cL_isSum 214 = .ok (.iconst 1, 1) := by decide +kernel
theorem dL_isSum_215 : decode cL_isSum 215 = .ok (.goto 4, 3) := by decide +kernel
theorem dL_isSum_218 : decode cL_isSum 218 = .ok (.iconst 0, 1) := by decide +kernel
theorem dL_isSum_219 : decode cL_isSum 219 = .ok (.ireturn, 1) := by decide +kernel
theorem dL_isSum_220 : decode cL_isSum 220 = .ok (.lload_n 3, 1) := by decide +kernel
theorem dL_isSum_221 : decode cL_isSum 221 = .ok (.lconst 0, 1) := by decide +kernel
theorem dL_isSum_222 : decode cL_isSum 222 = .ok (.lcmp, 1) := by decide +kernel
theorem dL_isSum_223 : decode cL_isSum 223 = .ok (.ifCond .eq 17, 3) := by decide +kernel
theorem dL_isSum_226 : decode cL_isSum 226 = .ok (.iload 13, 2) := by decide +kernel
theorem dL_isSum_228 : decode cL_isSum 228 = .ok (.iconst 2, 1) := by decide +kernel
theorem dL_isSum_229 : decode cL_isSum 229 = .ok (.if_icmp .ne 7, 3) := by decide +kernel
theorem dL_isSum_232 : decode cL_isSum 232 = .ok (.iconst 1, 1) := by decide +kernel
theorem dL_isSum_233 : decode cL_isSum 233 = .ok (.goto 24, 3) := by decide +kernel
theorem dL_isSum_236 : decode cL_isSum 236 = .ok (.iconst 0, 1) := by decide +kernel
theorem dL_isSum_237 : decode cL_isSum 237 = .ok (.goto 20, 3) := by decide +kernel
theorem dL_isSum_240 : decode cL_isSum 240 = .ok (.iload 13, 2) := by decide +kernel
theorem dL_isSum_242 : decode cL_isSum 242 = .ok (.iconst 1, 1) := by decide +kernel
theorem dL_isSum_243 : decode cL_isSum 243 = .ok (.if_icmp .eq 9, 3) := by decide +kernel
theorem dL_isSum_246 : decode cL_isSum 246 = .ok (.iload 13, 2) := by decide +kernel
theorem dL_isSum_248 : decode cL_isSum 248 = .ok (.iconst 3, 1) := by decide +kernel
theorem dL_isSum_249 : decode cL_isSum 249 = .ok (.if_icmp .ne 7, 3) := by decide +kernel
theorem dL_isSum_252 : decode cL_isSum 252 = .ok (.iconst 1, 1) := by decide +kernel
theorem dL_isSum_253 : decode cL_isSum 253 = .ok (.goto 4, 3) := by decide +kernel
theorem dL_isSum_256 : decode cL_isSum 256 = .ok (.iconst 0, 1) := by decide +kernel
theorem dL_isSum_257 : decode cL_isSum 257 = .ok (.ireturn, 1) := by decide +kernel
theorem dL_isNoPoint_0 : decode cL_isNoPoint 0 = .ok (.aload_n 0, 1) := by decide +kernel
theorem dL_isNoPoint_1 : decode cL_isNoPoint 1 = .ok (.iconst 5, 1) := by decide +kernel
theorem dL_isNoPoint_2 : decode cL_isNoPoint 2 = .ok (.invokevirtual 190, 3) := by decide +kernel
theorem dL_isNoPoint_5 : decode cL_isNoPoint 5 = .ok (.ldc2_w 205, 3) := by decide +kernel
theorem dL_isNoPoint_8 : decode cL_isNoPoint 8 = .ok (.lcmp, 1) := by decide +kernel
theorem dL_isNoPoint_9 : decode cL_isNoPoint 9 = .ok (.ifCond .ne 7, 3) := by decide +kernel
theorem dL_isNoPoint_12 : decode cL_isNoPoint 12 = .ok (.iconst 1, 1) := by decide +kernel
theorem dL_isNoPoint_13 : decode cL_isNoPoint 13 = .ok (.goto 4, 3) := by decide +kernel
theorem dL_isNoPoint_16 : decode cL_isNoPoint 16 = .ok (.iconst 0, 1) := by decide +kernel
theorem dL_isNoPoint_17 : decode cL_isNoPoint 17 = .ok (.ireturn, 1) := by decide +kernel
theorem dL_isNoPoint_18 : decode cL_isNoPoint 18 = .ok (.astore_n 1, 1) := by decide +kernel
theorem dL_isNoPoint_19 : decode cL_isNoPoint 19 = .ok (.iconst 1, 1) := by decide +kernel
theorem dL_isNoPoint_20 : decode cL_isNoPoint 20 = .ok (.ireturn, 1) := by decide +kernel
theorem dL_isBad_0 : decode cL_isBad 0 = .ok (.aload_n 0, 1) := by decide +kernel
theorem dL_isBad_1 : decode cL_isBad 1 = .ok (.bipush 13, 2) := by decide +kernel
theorem dL_isBad_3 : decode cL_isBad 3 = .ok (.invokevirtual 202, 3) := by decide +kernel
theorem dL_isBad_6 : decode cL_isBad 6 = .ok (.bipush (-7), 2) := by decide +kernel
theorem dL_isBad_8 : decode cL_isBad 8 = .ok (.if_icmp .ne 7, 3) := by decide +kernel
theorem dL_isBad_11 : decode cL_isBad 11 = .ok (.iconst 1, 1) := by decide +kernel
theorem dL_isBad_12 : decode cL_isBad 12 = .ok (.goto 4, 3) := by decide +kernel
theorem dL_isBad_15 : decode cL_isBad 15 = .ok (.iconst 0, 1) := by decide +kernel
theorem dL_isBad_16 : decode cL_isBad 16 = .ok (.ireturn, 1) := by decide +kernel
theorem dL_isBad_17 : decode cL_isBad 17 = .ok (.astore_n 1, 1) := by decide +kernel
theorem dL_isBad_18 : decode cL_isBad 18 = .ok (.iconst 1, 1) := by decide +kernel
theorem dL_isBad_19 : decode cL_isBad 19 = .ok (.ireturn, 1) := by decide +kernel
theorem dL_isNone_0 : decode cL_isNone 0 = .ok (.new 37, 3) := by decide +kernel
theorem dL_isNone_3 : decode cL_isNone 3 = .ok (.dup, 1) := by decide +kernel
theorem dL_isNone_4 : decode cL_isNone 4 = .ok (.invokespecial 124, 3) := by decide +kernel
theorem dL_isNone_7 : decode cL_isNone 7 = .ok (.astore_n 0, 1) := by decide +kernel
theorem dL_isNone_8 : decode cL_isNone 8 = .ok (.aload_n 0, 1) := by decide +kernel
theorem dL_isNone_9 : decode cL_isNone 9 = .ok (.iconst 3, 1) := by decide +kernel
theorem dL_isNone_10 : decode cL_isNone 10 = .ok (.invokevirtual 116, 3) := by decide +kernel
theorem dL_isNone_13 : decode cL_isNone 13 = .ok (.bipush 25, 2) := by decide +kernel
theorem dL_isNone_15 : decode cL_isNone 15 = .ok (.if_icmp .eq 5, 3) := by decide +kernel
theorem dL_isNone_18 : decode cL_isNone 18 = .ok (.iconst 0, 1) := by decide +kernel
theorem dL_isNone_19 : decode cL_isNone 19 = .ok (.ireturn, 1) := by decide +kernel
theorem dL_isNone_20 : decode cL_isNone 20 = .ok (.aload_n 0, 1) := by decide +kernel
theorem dL_isNone_21 : decode cL_isNone 21 = .ok (.iconst 0, 1) := by decide +kernel
theorem dL_isNone_22 : decode cL_isNone 22 = .ok (.iconst 0, 1) := by decide +kernel
theorem dL_isNone_23 : decode cL_isNone 23 = .ok (.invokevirtual 171, 3) := by decide +kernel
theorem dL_isNone_26 : decode cL_isNone 26 = .ok (.ldc2_w 205, 3) := by decide +kernel
theorem dL_isNone_29 : decode cL_isNone 29 = .ok (.lcmp, 1) := by decide +kernel
theorem dL_isNone_30 : decode cL_isNone 30 = .ok (.ifCond .ne 7, 3) := by decide +kernel
theorem dL_isNone_33 : decode cL_isNone 33 = .ok (.iconst 1, 1) := by decide +kernel
theorem dL_isNone_34 : decode cL_isNone 34 = .ok (.goto 4, 3) := by decide +kernel
theorem dL_isNone_37 : decode cL_isNone 37 = .ok (.iconst 0, 1) := by decide +kernel
theorem dL_isNone_38 : decode cL_isNone 38 = .ok (.ireturn, 1) := by decide +kernel
theorem dL_isNone_39 : decode cL_isNone 39 = .ok (.astore_n 1, 1) := by decide +kernel
theorem dL_isNone_40 : decode cL_isNone 40 = .ok (.iconst 1, 1) := by decide +kernel
theorem dL_isNone_41 : decode cL_isNone 41 = .ok (.ireturn, 1) := by decide +kernel
