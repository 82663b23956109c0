theorem dX0_init_0 : decode cX0_init 0 = .ok (.aload_n 0, 1) := by decide +kernel
theorem dX0_init_1 : decode cX0_init 1 = .ok (.invokespecial 3, 3) := by decide +kernel
theorem dX0_init_4 : decode cX0_init 4 = .ok (.aload_n 0, 1) := by decide +kernel
theorem dX0_init_5 : decode cX0_init 5 = .ok (.new 9, 3) := by decide +kernel
theorem dX0_init_8 : decode cX0_init 8 = .ok (.dup, 1) := by decide +kernel
theorem dX0_init_9 : decode cX0_init 9 = .ok (.invokespecial 11, 3) := by decide +kernel
theorem dX0_init_12 : decode cX0_init 12 = .ok (.putfield 12, 3) := by decide +kernel
theorem dX0_init_15 : decode cX0_init 15 = .ok (.aload_n 0, 1) := by decide +kernel
theorem dX0_init_16 : decode cX0_init 16 = .ok (.iconst 5, 1) := by decide +kernel
theorem dX0_init_17 : decode cX0_init 17 = .ok (.newarray .int, 2) := by decide +kernel
theorem dX0_init_19 : decode cX0_init 19 = .ok (.putfield 18, 3) := by decide +kernel
theorem dX0_init_22 : decode cX0_init 22 = .ok (.aload_n 0, 1) := by decide +kernel
theorem dX0_init_23 : decode cX0_init 23 = .ok (.iconst 5, 1) := by decide +kernel
theorem dX0_init_24 : decode cX0_init 24 = .ok (.newarray .int, 2) := by decide +kernel
theorem dX0_init_26 : decode cX0_init 26 = .ok (.putfield 22, 3) := by decide +kernel
theorem dX0_init_29 : decode cX0_init 29 = .ok (.aload_n 0, 1) := by decide +kernel
theorem dX0_init_30 : decode cX0_init 30 = .ok (.iconst 5, 1) := by decide +kernel
theorem dX0_init_31 : decode cX0_init 31 = .ok (.newarray .long, 2) := by decide +kernel
theorem dX0_init_33 : decode cX0_init 33 = .ok (.putfield 25, 3) := by decide +kernel
theorem dX0_init_36 : decode cX0_init 36 = .ok (.aload_n 0, 1) := by decide +kernel
theorem dX0_init_37 : decode cX0_init 37 = .ok (.iconst 5, 1) := by decide +kernel
theorem dX0_init_38 : decode cX0_init 38 = .ok (.newarray .long, 2) := by decide +kernel
theorem dX0_init_40 : decode cX0_init 40 = .ok (.putfield 29, 3) := by decide +kernel
theorem dX0_init_43 : decode cX0_init 43 = .ok (.aload_n 0, 1) := by decide +kernel
theorem dX0_init_44 : decode cX0_init 44 = .ok (.iconst 5, 1) := by decide +kernel
theorem dX0_init_45 : decode cX0_init 45 = .ok (.newarray .long, 2) := by decide +kernel
theorem dX0_init_47 : decode cX0_init 47 = .ok (.putfield 32, 3) := by decide +kernel
theorem dX0_init_50 : decode cX0_init 50 = .ok (.aload_n 0, 1) := by decide +kernel
theorem dX0_init_51 : decode cX0_init 51 = .ok (.iconst 5, 1) := by decide +kernel
theorem dX0_init_52 : decode cX0_init 52 = .ok (.newarray .long, 2) := by decide +kernel
theorem dX0_init_54 : decode cX0_init 54 = .ok (.putfield 35, 3) := by decide +kernel
theorem dX0_init_57 : decode cX0_init 57 = .ok (.return_, 1) := by decide +kernel
theorem dX0_reckon_0 : decode cX0_reckon 0 = .ok (.aload_n 0, 1) := by decide +kernel
theorem dX0_reckon_1 : decode cX0_reckon 1 = .ok (.invokevirtual 38, 3) := by decide +kernel
theorem dX0_reckon_4 : decode cX0_reckon 4 = .ok (.aload_n 0, 1) := by decide +kernel
theorem dX0_reckon_5 : decode cX0_reckon 5 = .ok (.invokevirtual 41, 3) := by decide +kernel
theorem dX0_reckon_8 : decode cX0_reckon 8 = .ok (.aload_n 0, 1) := by decide +kernel
theorem dX0_reckon_9 : decode cX0_reckon 9 = .ok (.invokevirtual 44, 3) := by decide +kernel
theorem dX0_reckon_12 : decode cX0_reckon 12 = .ok (.return_, 1) := by decide +kernel
theorem dX0_sort_0 : decode cX0_sort 0 = .ok (.iconst 0, 1) := by decide +kernel
theorem dX0_sort_1 : decode cX0_sort 1 = .ok (.istore_n 1, 1) := by decide +kernel
theorem dX0_sort_2 : decode cX0_sort 2 = .ok (.iload_n 1, 1) := by decide +kernel
theorem dX0_sort_3 : decode cX0_sort 3 = .ok (.aload_n 0, 1) := by decide +kernel
theorem dX0_sort_4 : decode cX0_sort 4 = .ok (.getfield 12, 3) := by decide +kernel
theorem dX0_sort_7 : decode cX0_sort 7 = .ok (.invokevirtual 47, 3) := by decide +kernel
theorem dX0_sort_10 : decode cX0_sort 10 = .ok (.if_icmp .ge 44, 3) := by decide +kernel
theorem dX0_sort_13 : decode cX0_sort 13 = .ok (.aload_n 0, 1) := by decide +kernel
theorem dX0_sort_14 : decode cX0_sort 14 = .ok (.getfield 12, 3) := by decide +kernel
theorem dX0_sort_17 : decode cX0_sort 17 = .ok (.iload_n 1, 1) := by decide +kernel
theorem dX0_sort_18 : decode cX0_sort 18 = .ok (.invokevirtual 51, 3) := by decide +kernel
theorem dX0_sort_21 : decode cX0_sort 21 = .ok (.istore_n 2, 1) := by decide +kernel
theorem dX0_sort_22 : decode cX0_sort 22 = .ok (.iload_n 2, 1) := by decide +kernel
theorem dX0_sort_23 : decode cX0_sort 23 = .ok (.iconst 5, 1) := by decide +kernel
theorem dX0_sort_24 : decode cX0_sort 24 = .ok (.if_icmp .ge 24, 3) := by decide +kernel
theorem dX0_sort_27 : decode cX0_sort 27 = .ok (.aload_n 0, 1) := by decide +kernel
theorem dX0_sort_28 : decode cX0_sort 28 = .ok (.getfield 18, 3) := by decide +kernel
theorem dX0_sort_31 : decode cX0_sort 31 = .ok (.iload_n 2, 1) := by decide +kernel
theorem dX0_sort_32 : decode cX0_sort 32 = .ok (.iload_n 1, 1) := by decide +kernel
theorem dX0_sort_33 : decode cX0_sort 33 = .ok (.iastore, 1) := by decide +kernel
theorem dX0_sort_34 : decode cX0_sort 34 = .ok (.aload_n 0, 1) := by decide +kernel
theorem dX0_sort_35 : decode cX0_sort 35 = .ok (.getfield 22, 3) := by decide +kernel
theorem dX0_sort_38 : decode cX0_sort 38 = .ok (.iload_n 2, 1) := by decide +kernel
theorem dX0_sort_39 : decode cX0_sort 39 = .ok (.aload_n 0, 1) := by decide +kernel
theorem dX0_sort_40 : decode cX0_sort 40 = .ok (.getfield 12, 3) := by decide +kernel
theorem dX0_sort_43 : decode cX0_sort 43 = .ok (.iload_n 1, 1) := by decide +kernel
theorem dX0_sort_44 : decode cX0_sort 44 = .ok (.invokevirtual 55, 3) := by decide +kernel
theorem dX0_sort_47 : decode cX0_sort 47 = .ok (.iastore, 1) := by decide +kernel
theorem dX0_sort_48 : decode cX0_sort 48 = .ok (.iinc 1 1, 3) := by decide +kernel
theorem dX0_sort_51 : decode cX0_sort 51 = .ok (.goto (-49), 3) := by decide +kernel
theorem dX0_sort_54 : decode cX0_sort 54 = .ok (.return_, 1) := by decide +kernel
theorem dX0_reckonWeights_0 : decode cX0_reckonWeights 0 = .ok (.aload_n 0, 1) := by decide +kernel
theorem dX0_reckonWeights_1 : decode cX0_reckonWeights 1 = .ok (.invokevirtual 58, 3) := by decide +kernel
theorem dX0_reckonWeights_4 : decode cX0_reckonWeights 4 = .ok (.lstore_n 1, 1) := by decide +kernel
theorem dX0_reckonWeights_5 : decode cX0_reckonWeights 5 = .ok (.lconst 0, 1) := by decide +kernel
theorem dX0_reckonWeights_6 : decode cX0_reckonWeights 6 = .ok (.lstore_n 3, 1) := by decide +kernel
theorem dX0_reckonWeights_7 : decode cX0_reckonWeights 7 = .ok (.iconst 0, 1) := by decide +kernel
theorem dX0_reckonWeights_8 : decode cX0_reckonWeights 8 = .ok (.istore 5, 2) := by decide +kernel
theorem dX0_reckonWeights_10 : decode cX0_reckonWeights 10 = .ok (.iload 5, 2) := by decide +kernel
theorem dX0_reckonWeights_12 : decode cX0_reckonWeights 12 = .ok (.aload_n 0, 1) := by decide +kernel
theorem dX0_reckonWeights_13 : decode cX0_reckonWeights 13 = .ok (.getfield 12, 3) := by decide +kernel
theorem dX0_reckonWeights_16 : decode cX0_reckonWeights 16 = .ok (.invokevirtual 47, 3) := by decide +kernel
theorem dX0_reckonWeights_19 : decode cX0_reckonWeights 19 = .ok (.if_icmp .ge 65, 3) := by decide +kernel
theorem dX0_reckonWeights_22 : decode cX0_reckonWeights 22 = .ok (.iload 5, 2) := by decide +kernel
theorem dX0_reckonWeights_24 : decode cX0_reckonWeights 24 = .ok (.iconst 5, 1) := by decide +kernel
theorem dX0_reckonWeights_25 : decode cX0_reckonWeights 25 = .ok (.if_icmp .ge 59, 3) := by decide +kernel
theorem dX0_reckonWeights_28 : decode cX0_reckonWeights 28 = .ok (.aload_n 0, 1) := by decide +kernel
theorem dX0_reckonWeights_29 : decode cX0_reckonWeights 29 = .ok (.getfield 25, 3) := by decide +kernel
theorem dX0_reckonWeights_32 : decode cX0_reckonWeights 32 = .ok (.iload 5, 2) := by decide +kernel
theorem dX0_reckonWeights_34 : decode cX0_reckonWeights 34 = .ok (.aload_n 0, 1) := by decide +kernel
theorem dX0_reckonWeights_35 : decode cX0_reckonWeights 35 = .ok (.getfield 12, 3) := by decide +kernel
theorem dX0_reckonWeights_38 : decode cX0_reckonWeights 38 = .ok (.getfield 62, 3) := by decide +kernel
theorem dX0_reckonWeights_41 : decode cX0_reckonWeights 41 = .ok (.iconst 2, 1) := by decide +kernel
theorem dX0_reckonWeights_42 : decode cX0_reckonWeights 42 = .ok (.if_icmp .ne 16, 3) := by decide +kernel
theorem dX0_reckonWeights_45 : decode cX0_reckonWeights 45 = .ok (.aload_n 0, 1) := by decide +kernel
theorem dX0_reckonWeights_46 : decode cX0_reckonWeights 46 = .ok (.getfield 12, 3) := by decide +kernel
theorem dX0_reckonWeights_49 : decode cX0_reckonWeights 49 = .ok (.iload 5, 2) := by decide +kernel
theorem dX0_reckonWeights_51 : decode cX0_reckonWeights 51 = .ok (.invokevirtual 66, 3) := by decide +kernel
theorem dX0_reckonWeights_54 : decode cX0_reckonWeights 54 = .ok (.i2l, 1) := by decide +kernel
theorem dX0_reckonWeights_55 : decode cX0_reckonWeights 55 = .ok (.goto 10, 3) := by decide +kernel
theorem dX0_reckonWeights_58 : decode cX0_reckonWeights 58 = .ok (.aload_n 0, 1) := by decide +kernel
theorem dX0_reckonWeights_59 : decode cX0_reckonWeights 59 = .ok (.iload 5, 2) := by decide +kernel
theorem dX0_reckonWeights_61 : decode cX0_reckonWeights 61 = .ok (.lload_n 1, 1) := by decide +kernel
theorem dX0_reckonWeights_62 : decode cX0_reckonWeights 62 = .ok (.invokevirtual 69, 3) := by decide +kernel
theorem dX0_reckonWeights_65 : decode cX0_reckonWeights 65 = .ok (.lastore, 1) := by decide +kernel
theorem dX0_reckonWeights_66 : decode cX0_reckonWeights 66 = .ok (.lload_n 3, 1) := by decide +kernel
theorem dX0_reckonWeights_67 : decode cX0_reckonWeights 67 = .ok (.aload_n 0, 1) := by decide +kernel
theorem dX0_reckonWeights_68 : decode cX0_reckonWeights 68 = .ok (.getfield 25, 3) := by decide +kernel
theorem dX0_reckonWeights_71 : decode cX0_reckonWeights 71 = .ok (.iload 5, 2) := by decide +kernel
theorem dX0_reckonWeights_73 : decode cX0_reckonWeights 73 = .ok (.laload, 1) := by decide +kernel
theorem dX0_reckonWeights_74 : decode cX0_reckonWeights 74 = .ok (.invokestatic 73, 3) := by decide +kernel
theorem dX0_reckonWeights_77 : decode cX0_reckonWeights 77 = .ok (.lstore_n 3, 1) := by decide +kernel
theorem dX0_reckonWeights_78 : decode cX0_reckonWeights 78 = .ok (.iinc 5 1, 3) := by decide +kernel
theorem dX0_reckonWeights_81 : decode cX0_reckonWeights 81 = .ok (.goto (-71), 3) := by decide +kernel
theorem dX0_reckonWeights_84 : decode cX0_reckonWeights 84 = .ok (.iconst 0, 1) := by decide +kernel
theorem dX0_reckonWeights_85 : decode cX0_reckonWeights 85 = .ok (.istore 5, 2) := by decide +kernel
theorem dX0_reckonWeights_87 : decode cX0_reckonWeights 87 = .ok (.iload 5, 2) := by decide +kernel
theorem dX0_reckonWeights_89 : decode cX0_reckonWeights 89 = .ok (.aload_n 0, 1) := by decide +kernel
theorem dX0_reckonWeights_90 : decode cX0_reckonWeights 90 = .ok (.getfield 12, 3) := by decide +kernel
theorem dX0_reckonWeights_93 : decode cX0_reckonWeights 93 = .ok (.invokevirtual 47, 3) := by decide +kernel
theorem dX0_reckonWeights_96 : decode cX0_reckonWeights 96 = .ok (.if_icmp .ge 37, 3) := by decide +kernel
theorem dX0_reckonWeights_99 : decode cX0_reckonWeights 99 = .ok (.iload 5, 2) := by decide +kernel
theorem dX0_reckonWeights_101 : decode cX0_reckonWeights 101 = .ok (.iconst 5, 1) := by decide +kernel
theorem dX0_reckonWeights_102 : decode cX0_reckonWeights 102 = .ok (.if_icmp .ge 31, 3) := by decide +kernel
theorem dX0_reckonWeights_105 : decode cX0_reckonWeights 105 = .ok (.lload_n 3, 1) := by decide +kernel
theorem dX0_reckonWeights_106 : decode cX0_reckonWeights 106 = .ok (.lconst 1, 1) := by decide +kernel
theorem dX0_reckonWeights_107 : decode cX0_reckonWeights 107 = .ok (.lcmp, 1) := by decide +kernel
theorem dX0_reckonWeights_108 : decode cX0_reckonWeights 108 = .ok (.ifCond .le 25, 3) := by decide +kernel
theorem dX0_reckonWeights_111 : decode cX0_reckonWeights 111 = .ok (.aload_n 0, 1) := by decide +kernel
theorem dX0_reckonWeights_112 : decode cX0_reckonWeights 112 = .ok (.getfield 25, 3) := by decide +kernel
theorem dX0_reckonWeights_115 : decode cX0_reckonWeights 115 = .ok (.iload 5, 2) := by decide +kernel
theorem dX0_reckonWeights_117 : decode cX0_reckonWeights 117 = .ok (.aload_n 0, 1) := by decide +kernel
theorem dX0_reckonWeights_118 : decode cX0_reckonWeights 118 = .ok (.getfield 25, 3) := by decide +kernel
theorem dX0_reckonWeights_121 : decode cX0_reckonWeights 121 = .ok (.iload 5, 2) := by decide +kernel
theorem dX0_reckonWeights_123 : decode cX0_reckonWeights 123 = .ok (.laload, 1) := by decide +kernel
theorem dX0_reckonWeights_124 : decode cX0_reckonWeights 124 = .ok (.lload_n 3, 1) := by decide +kernel
theorem dX0_reckonWeights_125 : decode cX0_reckonWeights 125 = .ok (.ldiv, 1) := by decide +kernel
theorem dX0_reckonWeights_126 : decode cX0_reckonWeights 126 = .ok (.lastore, 1) := by decide +kernel
theorem dX0_reckonWeights_127 : decode cX0_reckonWeights 127 = .ok (.iinc 5 1, 3) := by decide +kernel
theorem dX0_reckonWeights_130 : decode cX0_reckonWeights 130 = .ok (.goto (-43), 3) := by decide +kernel
theorem dX0_reckonWeights_133 : decode cX0_reckonWeights 133 = .ok (.return_, 1) := by decide +kernel
theorem dX0_pairProduct_0 : decode cX0_pairProduct 0 = .ok (.lconst 1, 1) := by decide +kernel
theorem dX0_pairProduct_1 : decode cX0_pairProduct 1 = .ok (.lstore_n 1, 1) := by decide +kernel
theorem dX0_pairProduct_2 : decode cX0_pairProduct 2 = .ok (.iconst 1, 1) := by decide +kernel
theorem dX0_pairProduct_3 : decode cX0_pairProduct 3 = .ok (.istore_n 3, 1) := by decide +kernel
theorem dX0_pairProduct_4 : decode cX0_pairProduct 4 = .ok (.iload_n 3, 1) := by decide +kernel
theorem dX0_pairProduct_5 : decode cX0_pairProduct 5 = .ok (.aload_n 0, 1) := by decide +kernel
theorem dX0_pairProduct_6 : decode cX0_pairProduct 6 = .ok (.getfield 12, 3) := by decide +kernel
theorem dX0_pairProduct_9 : decode cX0_pairProduct 9 = .ok (.invokevirtual 47, 3) := by decide +kernel
theorem dX0_pairProduct_12 : decode cX0_pairProduct 12 = .ok (.if_icmp .ge 47, 3) := by decide +kernel
theorem dX0_pairProduct_15 : decode cX0_pairProduct 15 = .ok (.iload_n 3, 1) := by decide +kernel
theorem dX0_pairProduct_16 : decode cX0_pairProduct 16 = .ok (.iconst 5, 1) := by decide +kernel
theorem dX0_pairProduct_17 : decode cX0_pairProduct 17 = .ok (.if_icmp .ge 42, 3) := by decide +kernel
theorem dX0_pairProduct_20 : decode cX0_pairProduct 20 = .ok (.iconst 0, 1) := by decide +kernel
theorem dX0_pairProduct_21 : decode cX0_pairProduct 21 = .ok (.istore 4, 2) := by decide +kernel
theorem dX0_pairProduct_23 : decode cX0_pairProduct 23 = .ok (.iload 4, 2) := by decide +kernel
theorem dX0_pairProduct_25 : decode cX0_pairProduct 25 = .ok (.iload_n 3, 1) := by decide +kernel
theorem dX0_pairProduct_26 : decode cX0_pairProduct 26 = .ok (.if_icmp .ge 27, 3) := by decide +kernel
theorem dX0_pairProduct_29 : decode cX0_pairProduct 29 = .ok (.lload_n 1, 1) := by decide +kernel
theorem dX0_pairProduct_30 : decode cX0_pairProduct 30 = .ok (.aload_n 0, 1) := by decide +kernel
theorem dX0_pairProduct_31 : decode cX0_pairProduct 31 = .ok (.getfield 22, 3) := by decide +kernel
theorem dX0_pairProduct_34 : decode cX0_pairProduct 34 = .ok (.iload_n 3, 1) := by decide +kernel
theorem dX0_pairProduct_35 : decode cX0_pairProduct 35 = .ok (.iaload, 1) := by decide +kernel
theorem dX0_pairProduct_36 : decode cX0_pairProduct 36 = .ok (.aload_n 0, 1) := by decide +kernel
theorem dX0_pairProduct_37 : decode cX0_pairProduct 37 = .ok (.getfield 22, 3) := by decide +kernel
theorem dX0_pairProduct_40 : decode cX0_pairProduct 40 = .ok (.iload 4, 2) := by decide +kernel
theorem dX0_pairProduct_42 : decode cX0_pairProduct 42 = .ok (.iaload, 1) := by decide +kernel
theorem dX0_pairProduct_43 : decode cX0_pairProduct 43 = .ok (.isub, 1) := by decide +kernel
theorem dX0_pairProduct_44 : decode cX0_pairProduct 44 = .ok (.i2l, 1) := by decide +kernel
theorem dX0_pairProduct_45 : decode cX0_pairProduct 45 = .ok (.lmul, 1) := by decide +kernel
theorem dX0_pairProduct_46 : decode cX0_pairProduct 46 = .ok (.lstore_n 1, 1) := by decide +kernel
theorem dX0_pairProduct_47 : decode cX0_pairProduct 47 = .ok (.iinc 4 1, 3) := by decide +kernel
theorem dX0_pairProduct_50 : decode cX0_pairProduct 50 = .ok (.goto (-27), 3) := by decide +kernel
theorem dX0_pairProduct_53 : decode cX0_pairProduct 53 = .ok (.iinc 3 1, 3) := by decide +kernel
theorem dX0_pairProduct_56 : decode cX0_pairProduct 56 = .ok (.goto (-52), 3) := by decide +kernel
theorem dX0_pairProduct_59 : decode cX0_pairProduct 59 = .ok (.lload_n 1, 1) := by decide +kernel
theorem dX0_pairProduct_60 : decode cX0_pairProduct 60 = .ok (.lreturn, 1) := by decide +kernel
theorem dX0_scaledWeight_0 : decode cX0_scaledWeight 0 = .ok (.aload_n 0, 1) := by decide +kernel
theorem dX0_scaledWeight_1 : decode cX0_scaledWeight 1 = .ok (.getfield 12, 3) := by decide +kernel
theorem dX0_scaledWeight_4 : decode cX0_scaledWeight 4 = .ok (.invokevirtual 47, 3) := by decide +kernel
theorem dX0_scaledWeight_7 : decode cX0_scaledWeight 7 = .ok (.iconst 1, 1) := by decide +kernel
theorem dX0_scaledWeight_8 : decode cX0_scaledWeight 8 = .ok (.isub, 1) := by decide +kernel
theorem dX0_scaledWeight_9 : decode cX0_scaledWeight 9 = .ok (.istore 4, 2) := by decide +kernel
theorem dX0_scaledWeight_11 : decode cX0_scaledWeight 11 = .ok (.aload_n 0, 1) := by decide +kernel
theorem dX0_scaledWeight_12 : decode cX0_scaledWeight 12 = .ok (.getfield 12, 3) := by decide +kernel
theorem dX0_scaledWeight_15 : decode cX0_scaledWeight 15 = .ok (.getfield 62, 3) := by decide +kernel
theorem dX0_scaledWeight_18 : decode cX0_scaledWeight 18 = .ok (.ifCond .ne 8, 3) := by decide +kernel
theorem dX0_scaledWeight_21 : decode cX0_scaledWeight 21 = .ok (.iload 4, 2) := by decide +kernel
theorem dX0_scaledWeight_23 : decode cX0_scaledWeight 23 = .ok (.goto 15, 3) := by decide +kernel
theorem dX0_scaledWeight_26 : decode cX0_scaledWeight 26 = .ok (.aload_n 0, 1) := by decide +kernel
theorem dX0_scaledWeight_27 : decode cX0_scaledWeight 27 = .ok (.getfield 12, 3) := by decide +kernel
theorem dX0_scaledWeight_30 : decode cX0_scaledWeight 30 = .ok (.getfield 79, 3) := by decide +kernel
theorem dX0_scaledWeight_33 : decode cX0_scaledWeight 33 = .ok (.iload 4, 2) := by decide +kernel
theorem dX0_scaledWeight_35 : decode cX0_scaledWeight 35 = .ok (.invokestatic 82, 3) := by decide +kernel
theorem dX0_scaledWeight_38 : decode cX0_scaledWeight 38 = .ok (.istore 5, 2) := by decide +kernel
theorem dX0_scaledWeight_40 : decode cX0_scaledWeight 40 = .ok (.aload_n 0, 1) := by decide +kernel
theorem dX0_scaledWeight_41 : decode cX0_scaledWeight 41 = .ok (.getfield 12, 3) := by decide +kernel
theorem dX0_scaledWeight_44 : decode cX0_scaledWeight 44 = .ok (.iload_n 1, 1) := by decide +kernel
theorem dX0_scaledWeight_45 : decode cX0_scaledWeight 45 = .ok (.invokevirtual 51, 3) := by decide +kernel
theorem dX0_scaledWeight_48 : decode cX0_scaledWeight 48 = .ok (.istore 6, 2) := by decide +kernel
theorem dX0_scaledWeight_50 : decode cX0_scaledWeight 50 = .ok (.iload 6, 2) := by decide +kernel
theorem dX0_scaledWeight_52 : decode cX0_scaledWeight 52 = .ok (.iload 4, 2) := by decide +kernel
theorem dX0_scaledWeight_54 : decode cX0_scaledWeight 54 = .ok (.iload 5, 2) := by decide +kernel
theorem dX0_scaledWeight_56 : decode cX0_scaledWeight 56 = .ok (.isub, 1) := by decide +kernel
theorem dX0_scaledWeight_57 : decode cX0_scaledWeight 57 = .ok (.invokestatic 82, 3) := by decide +kernel
theorem dX0_scaledWeight_60 : decode cX0_scaledWeight 60 = .ok (.istore 7, 2) := by decide +kernel
theorem dX0_scaledWeight_62 : decode cX0_scaledWeight 62 = .ok (.lconst 0, 1) := by decide +kernel
theorem dX0_scaledWeight_63 : decode cX0_scaledWeight 63 = .ok (.lstore 8, 2) := by decide +kernel
theorem dX0_scaledWeight_65 : decode cX0_scaledWeight 65 = .ok (.iconst 0, 1) := by decide +kernel
theorem dX0_scaledWeight_66 : decode cX0_scaledWeight 66 = .ok (.iload 6, 2) := by decide +kernel
theorem dX0_scaledWeight_68 : decode cX0_scaledWeight 68 = .ok (.iload 5, 2) := by decide +kernel
theorem dX0_scaledWeight_70 : decode cX0_scaledWeight 70 = .ok (.isub, 1) := by decide +kernel
theorem dX0_scaledWeight_71 : decode cX0_scaledWeight 71 = .ok (.invokestatic 88, 3) := by decide +kernel
theorem dX0_scaledWeight_74 : decode cX0_scaledWeight 74 = .ok (.istore 10, 2) := by decide +kernel
theorem dX0_scaledWeight_76 : decode cX0_scaledWeight 76 = .ok (.iload 10, 2) := by decide +kernel
theorem dX0_scaledWeight_78 : decode cX0_scaledWeight 78 = .ok (.iload 7, 2) := by decide +kernel
theorem dX0_scaledWeight_80 : decode cX0_scaledWeight 80 = .ok (.if_icmp .gt 99, 3) := by decide +kernel
theorem dX0_scaledWeight_83 : decode cX0_scaledWeight 83 = .ok (.lconst 1, 1) := by decide +kernel
theorem dX0_scaledWeight_84 : decode cX0_scaledWeight 84 = .ok (.lstore 11, 2) := by decide +kernel
theorem dX0_scaledWeight_86 : decode cX0_scaledWeight 86 = .ok (.iload 10, 2) := by decide +kernel
theorem dX0_scaledWeight_88 : decode cX0_scaledWeight 88 = .ok (.istore 13, 2) := by decide +kernel
theorem dX0_scaledWeight_90 : decode cX0_scaledWeight 90 = .ok (.iload 13, 2) := by decide +kernel
theorem dX0_scaledWeight_92 : decode cX0_scaledWeight 92 = .ok (.iload 10, 2) := by decide +kernel
theorem dX0_scaledWeight_94 : decode cX0_scaledWeight 94 = .ok (.iload 5, 2) := by decide +kernel
theorem dX0_scaledWeight_96 : decode cX0_scaledWeight 96 = .ok (.iadd, 1) := by decide +kernel
theorem dX0_scaledWeight_97 : decode cX0_scaledWeight 97 = .ok (.if_icmp .gt 48, 3) := by decide +kernel
theorem dX0_scaledWeight_100 : decode cX0_scaledWeight 100 = .ok (.iload 13, 2) := by decide +kernel
theorem dX0_scaledWeight_102 : decode cX0_scaledWeight 102 = .ok (.iconst 5, 1) := by decide +kernel
theorem dX0_scaledWeight_103 : decode cX0_scaledWeight 103 = .ok (.if_icmp .ge 42, 3) := by decide +kernel
theorem dX0_scaledWeight_106 : decode cX0_scaledWeight 106 = .ok (.lload 11, 2) := by decide +kernel
theorem dX0_scaledWeight_108 : decode cX0_scaledWeight 108 = .ok (.iload 13, 2) := by decide +kernel
theorem dX0_scaledWeight_110 : decode cX0_scaledWeight 110 = .ok (.iload 6, 2) := by decide +kernel
theorem dX0_scaledWeight_112 : decode cX0_scaledWeight 112 = .ok (.if_icmp .ne 7, 3) := by decide +kernel
theorem dX0_scaledWeight_115 : decode cX0_scaledWeight 115 = .ok (.lconst 1, 1) := by decide +kernel
theorem dX0_scaledWeight_116 : decode cX0_scaledWeight 116 = .ok (.goto 20, 3) := by decide +kernel
theorem dX0_scaledWeight_119 : decode cX0_scaledWeight 119 = .ok (.aload_n 0, 1) := by decide +kernel
theorem dX0_scaledWeight_120 : decode cX0_scaledWeight 120 = .ok (.getfield 12, 3) := by decide +kernel
theorem dX0_scaledWeight_123 : decode cX0_scaledWeight 123 = .ok (.iload_n 1, 1) := by decide +kernel
theorem dX0_scaledWeight_124 : decode cX0_scaledWeight 124 = .ok (.invokevirtual 55, 3) := by decide +kernel
theorem dX0_scaledWeight_127 : decode cX0_scaledWeight 127 = .ok (.aload_n 0, 1) := by decide +kernel
theorem dX0_scaledWeight_128 : decode cX0_scaledWeight 128 = .ok (.getfield 22, 3) := by decide +kernel
theorem dX0_scaledWeight_131 : decode cX0_scaledWeight 131 = .ok (.iload 13, 2) := by decide +kernel
theorem dX0_scaledWeight_133 : decode cX0_scaledWeight 133 = .ok (.iaload, 1) := by decide +kernel
theorem dX0_scaledWeight_134 : decode cX0_scaledWeight 134 = .ok (.isub, 1) := by decide +kernel
theorem dX0_scaledWeight_135 : decode cX0_scaledWeight 135 = .ok (.i2l, 1) := by decide +kernel
theorem dX0_scaledWeight_136 : decode cX0_scaledWeight 136 = .ok (.lmul, 1) := by decide +kernel
theorem dX0_scaledWeight_137 : decode cX0_scaledWeight 137 = .ok (.lstore 11, 2) := by decide +kernel
theorem dX0_scaledWeight_139 : decode cX0_scaledWeight 139 = .ok (.iinc 13 1, 3) := by decide +kernel
theorem dX0_scaledWeight_142 : decode cX0_scaledWeight 142 = .ok (.goto (-52), 3) := by decide +kernel
theorem dX0_scaledWeight_145 : decode cX0_scaledWeight 145 = .ok (.lload 11, 2) := by decide +kernel
theorem dX0_scaledWeight_147 : decode cX0_scaledWeight 147 = .ok (.lconst 0, 1) := by decide +kernel
theorem dX0_scaledWeight_148 : decode cX0_scaledWeight 148 = .ok (.lcmp, 1) := by decide +kernel
theorem dX0_scaledWeight_149 : decode cX0_scaledWeight 149 = .ok (.ifCond .eq 24, 3) := by decide +kernel
theorem dX0_scaledWeight_152 : decode cX0_scaledWeight 152 = .ok (.lload 8, 2) := by decide +kernel
theorem dX0_scaledWeight_154 : decode cX0_scaledWeight 154 = .ok (.iload 10, 2) := by decide +kernel
theorem dX0_scaledWeight_156 : decode cX0_scaledWeight 156 = .ok (.iconst 2, 1) := by decide +kernel
theorem dX0_scaledWeight_157 : decode cX0_scaledWeight 157 = .ok (.irem, 1) := by decide +kernel
theorem dX0_scaledWeight_158 : decode cX0_scaledWeight 158 = .ok (.ifCond .ne 7, 3) := by decide +kernel
theorem dX0_scaledWeight_161 : decode cX0_scaledWeight 161 = .ok (.lload_n 2, 1) := by decide +kernel
theorem dX0_scaledWeight_162 : decode cX0_scaledWeight 162 = .ok (.goto 5, 3) := by decide +kernel
theorem dX0_scaledWeight_165 : decode cX0_scaledWeight 165 = .ok (.lload_n 2, 1) := by decide +kernel
theorem dX0_scaledWeight_166 : decode cX0_scaledWeight 166 = .ok (.lneg, 1) := by decide +kernel
theorem dX0_scaledWeight_167 : decode cX0_scaledWeight 167 = .ok (.lload 11, 2) := by decide +kernel
theorem dX0_scaledWeight_169 : decode cX0_scaledWeight 169 = .ok (.ldiv, 1) := by decide +kernel
theorem dX0_scaledWeight_170 : decode cX0_scaledWeight 170 = .ok (.ladd, 1) := by decide +kernel
theorem dX0_scaledWeight_171 : decode cX0_scaledWeight 171 = .ok (.lstore 8, 2) := by decide +kernel
theorem dX0_scaledWeight_173 : decode cX0_scaledWeight 173 = .ok (.iinc 10 1, 3) := by decide +kernel
theorem dX0_scaledWeight_176 : decode cX0_scaledWeight 176 = .ok (.goto (-100), 3) := by decide +kernel
theorem dX0_scaledWeight_179 : decode cX0_scaledWeight 179 = .ok (.lload 8, 2) := by decide +kernel
theorem dX0_scaledWeight_181 : decode cX0_scaledWeight 181 = .ok (.lreturn, 1) := by decide +kernel
theorem dX0_reckonPolynomials_0 : decode cX0_reckonPolynomials 0 = .ok (.iconst 0, 1) := by decide +kernel
theorem dX0_reckonPolynomials_1 : decode cX0_reckonPolynomials 1 = .ok (.istore_n 1, 1) := by decide +kernel
theorem dX0_reckonPolynomials_2 : decode cX0_reckonPolynomials 2 = .ok (.iload_n 1, 1) := by decide +kernel
theorem dX0_reckonPolynomials_3 : decode cX0_reckonPolynomials 3 = .ok (.iconst 5, 1) := by decide +kernel
theorem dX0_reckonPolynomials_4 : decode cX0_reckonPolynomials 4 = .ok (.if_icmp .ge 23, 3) := by decide +kernel
theorem dX0_reckonPolynomials_7 : decode cX0_reckonPolynomials 7 = .ok (.aload_n 0, 1) := by decide +kernel
theorem dX0_reckonPolynomials_8 : decode cX0_reckonPolynomials 8 = .ok (.getfield 29, 3) := by decide +kernel
theorem dX0_reckonPolynomials_11 : decode cX0_reckonPolynomials 11 = .ok (.iload_n 1, 1) := by decide +kernel
theorem dX0_reckonPolynomials_12 : decode cX0_reckonPolynomials 12 = .ok (.lconst 0, 1) := by decide +kernel
theorem dX0_reckonPolynomials_13 : decode cX0_reckonPolynomials 13 = .ok (.lastore, 1) := by decide +kernel
theorem dX0_reckonPolynomials_14 : decode cX0_reckonPolynomials 14 = .ok (.aload_n 0, 1) := by decide +kernel
theorem dX0_reckonPolynomials_15 : decode cX0_reckonPolynomials 15 = .ok (.getfield 32, 3) := by decide +kernel
theorem dX0_reckonPolynomials_18 : decode cX0_reckonPolynomials 18 = .ok (.iload_n 1, 1) := by decide +kernel
theorem dX0_reckonPolynomials_19 : decode cX0_reckonPolynomials 19 = .ok (.lconst 0, 1) := by decide +kernel
theorem dX0_reckonPolynomials_20 : decode cX0_reckonPolynomials 20 = .ok (.lastore, 1) := by decide +kernel
theorem dX0_reckonPolynomials_21 : decode cX0_reckonPolynomials 21 = .ok (.iinc 1 1, 3) := by decide +kernel
theorem dX0_reckonPolynomials_24 : decode cX0_reckonPolynomials 24 = .ok (.goto (-22), 3) := by decide +kernel
theorem dX0_reckonPolynomials_27 : decode cX0_reckonPolynomials 27 = .ok (.iconst 0, 1) := by decide +kernel
theorem dX0_reckonPolynomials_28 : decode cX0_reckonPolynomials 28 = .ok (.istore_n 1, 1) := by decide +kernel
theorem dX0_reckonPolynomials_29 : decode cX0_reckonPolynomials 29 = .ok (.iload_n 1, 1) := by decide +kernel
theorem dX0_reckonPolynomials_30 : decode cX0_reckonPolynomials 30 = .ok (.aload_n 0, 1) := by decide +kernel
theorem dX0_reckonPolynomials_31 : decode cX0_reckonPolynomials 31 = .ok (.getfield 12, 3) := by decide +kernel
theorem dX0_reckonPolynomials_34 : decode cX0_reckonPolynomials 34 = .ok (.invokevirtual 47, 3) := by decide +kernel
theorem dX0_reckonPolynomials_37 : decode cX0_reckonPolynomials 37 = .ok (.if_icmp .ge 70, 3) := by decide +kernel
theorem dX0_reckonPolynomials_40 : decode cX0_reckonPolynomials 40 = .ok (.aload_n 0, 1) := by decide +kernel
theorem dX0_reckonPolynomials_41 : decode cX0_reckonPolynomials 41 = .ok (.iload_n 1, 1) := by decide +kernel
theorem dX0_reckonPolynomials_42 : decode cX0_reckonPolynomials 42 = .ok (.invokevirtual 91, 3) := by decide +kernel
theorem dX0_reckonPolynomials_45 : decode cX0_reckonPolynomials 45 = .ok (.iconst 0, 1) := by decide +kernel
theorem dX0_reckonPolynomials_46 : decode cX0_reckonPolynomials 46 = .ok (.istore_n 2, 1) := by decide +kernel
theorem dX0_reckonPolynomials_47 : decode cX0_reckonPolynomials 47 = .ok (.iload_n 2, 1) := by decide +kernel
theorem dX0_reckonPolynomials_48 : decode cX0_reckonPolynomials 48 = .ok (.iconst 5, 1) := by decide +kernel
theorem dX0_reckonPolynomials_49 : decode cX0_reckonPolynomials 49 = .ok (.if_icmp .ge 52, 3) := by decide +kernel
theorem dX0_reckonPolynomials_52 : decode cX0_reckonPolynomials 52 = .ok (.aload_n 0, 1) := by decide +kernel
theorem dX0_reckonPolynomials_53 : decode cX0_reckonPolynomials 53 = .ok (.iload_n 1, 1) := by decide +kernel
theorem dX0_reckonPolynomials_54 : decode cX0_reckonPolynomials 54 = .ok (.invokevirtual 95, 3) := by decide +kernel
theorem dX0_reckonPolynomials_57 : decode cX0_reckonPolynomials 57 = .ok (.aload_n 0, 1) := by decide +kernel
theorem dX0_reckonPolynomials_58 : decode cX0_reckonPolynomials 58 = .ok (.getfield 35, 3) := by decide +kernel
theorem dX0_reckonPolynomials_61 : decode cX0_reckonPolynomials 61 = .ok (.iload_n 2, 1) := by decide +kernel
theorem dX0_reckonPolynomials_62 : decode cX0_reckonPolynomials 62 = .ok (.laload, 1) := by decide +kernel
theorem dX0_reckonPolynomials_63 : decode cX0_reckonPolynomials 63 = .ok (.lmul, 1) := by decide +kernel
theorem dX0_reckonPolynomials_64 : decode cX0_reckonPolynomials 64 = .ok (.lstore_n 3, 1) := by decide +kernel
theorem dX0_reckonPolynomials_65 : decode cX0_reckonPolynomials 65 = .ok (.aload_n 0, 1) := by decide +kernel
theorem dX0_reckonPolynomials_66 : decode cX0_reckonPolynomials 66 = .ok (.getfield 29, 3) := by decide +kernel
theorem dX0_reckonPolynomials_69 : decode cX0_reckonPolynomials 69 = .ok (.iload_n 2, 1) := by decide +kernel
theorem dX0_reckonPolynomials_70 : decode cX0_reckonPolynomials 70 = .ok (.dup2, 1) := by decide +kernel
theorem dX0_reckonPolynomials_71 : decode cX0_reckonPolynomials 71 = .ok (.laload, 1) := by decide +kernel
theorem dX0_reckonPolynomials_72 : decode cX0_reckonPolynomials 72 = .ok (.lload_n 3, 1) := by decide +kernel
theorem dX0_reckonPolynomials_73 : decode cX0_reckonPolynomials 73 = .ok (.aload_n 0, 1) := by decide +kernel
theorem dX0_reckonPolynomials_74 : decode cX0_reckonPolynomials 74 = .ok (.getfield 12, 3) := by decide +kernel
theorem dX0_reckonPolynomials_77 : decode cX0_reckonPolynomials 77 = .ok (.iload_n 1, 1) := by decide +kernel
theorem dX0_reckonPolynomials_78 : decode cX0_reckonPolynomials 78 = .ok (.invokevirtual 99, 3) := by decide +kernel
theorem dX0_reckonPolynomials_81 : decode cX0_reckonPolynomials 81 = .ok (.i2l, 1) := by decide +kernel
theorem dX0_reckonPolynomials_82 : decode cX0_reckonPolynomials 82 = .ok (.lmul, 1) := by decide +kernel
theorem dX0_reckonPolynomials_83 : decode cX0_reckonPolynomials 83 = .ok (.ladd, 1) := by decide +kernel
theorem dX0_reckonPolynomials_84 : decode cX0_reckonPolynomials 84 = .ok (.lastore, 1) := by decide +kernel
theorem dX0_reckonPolynomials_85 : decode cX0_reckonPolynomials 85 = .ok (.aload_n 0, 1) := by decide +kernel
theorem dX0_reckonPolynomials_86 : decode cX0_reckonPolynomials 86 = .ok (.getfield 32, 3) := by decide +kernel
theorem dX0_reckonPolynomials_89 : decode cX0_reckonPolynomials 89 = .ok (.iload_n 2, 1) := by decide +kernel
theorem dX0_reckonPolynomials_90 : decode cX0_reckonPolynomials 90 = .ok (.dup2, 1) := by decide +kernel
theorem dX0_reckonPolynomials_91 : decode cX0_reckonPolynomials 91 = .ok (.laload, 1) := by decide +kernel
theorem dX0_reckonPolynomials_92 : decode cX0_reckonPolynomials 92 = .ok (.lload_n 3, 1) := by decide +kernel
theorem dX0_reckonPolynomials_93 : decode cX0_reckonPolynomials 93 = .ok (.ladd, 1) := by decide +kernel
theorem dX0_reckonPolynomials_94 : decode cX0_reckonPolynomials 94 = .ok (.lastore, 1) := by decide +kernel
theorem dX0_reckonPolynomials_95 : decode cX0_reckonPolynomials 95 = .ok (.iinc 2 1, 3) := by decide +kernel
theorem dX0_reckonPolynomials_98 : decode cX0_reckonPolynomials 98 = .ok (.goto (-51), 3) := by decide +kernel
theorem dX0_reckonPolynomials_101 : decode cX0_reckonPolynomials 101 = .ok (.iinc 1 1, 3) := by decide +kernel
theorem dX0_reckonPolynomials_104 : decode cX0_reckonPolynomials 104 = .ok (.goto (-75), 3) := by decide +kernel
theorem dX0_reckonPolynomials_107 : decode cX0_reckonPolynomials 107 = .ok (.return_, 1) := by decide +kernel
theorem dX0_reckonProduct_0 : decode cX0_reckonProduct 0 = .ok (.iconst 0, 1) := by decide +kernel
theorem dX0_reckonProduct_1 : decode cX0_reckonProduct 1 = .ok (.istore_n 2, 1) := by decide +kernel
theorem dX0_reckonProduct_2 : decode cX0_reckonProduct 2 = .ok (.iload_n 2, 1) := by decide +kernel
theorem dX0_reckonProduct_3 : decode cX0_reckonProduct 3 = .ok (.iconst 5, 1) := by decide +kernel
theorem dX0_reckonProduct_4 : decode cX0_reckonProduct 4 = .ok (.if_icmp .ge 24, 3) := by decide +kernel
theorem dX0_reckonProduct_7 : decode cX0_reckonProduct 7 = .ok (.aload_n 0, 1) := by decide +kernel
theorem dX0_reckonProduct_8 : decode cX0_reckonProduct 8 = .ok (.getfield 35, 3) := by decide +kernel
theorem dX0_reckonProduct_11 : decode cX0_reckonProduct 11 = .ok (.iload_n 2, 1) := by decide +kernel
theorem dX0_reckonProduct_12 : decode cX0_reckonProduct 12 = .ok (.iload_n 2, 1) := by decide +kernel
theorem dX0_reckonProduct_13 : decode cX0_reckonProduct 13 = .ok (.ifCond .ne 7, 3) := by decide +kernel
theorem dX0_reckonProduct_16 : decode cX0_reckonProduct 16 = .ok (.lconst 1, 1) := by decide +kernel
theorem dX0_reckonProduct_17 : decode cX0_reckonProduct 17 = .ok (.goto 4, 3) := by decide +kernel
theorem dX0_reckonProduct_20 : decode cX0_reckonProduct 20 = .ok (.lconst 0, 1) := by decide +kernel
theorem dX0_reckonProduct_21 : decode cX0_reckonProduct 21 = .ok (.lastore, 1) := by decide +kernel
theorem dX0_reckonProduct_22 : decode cX0_reckonProduct 22 = .ok (.iinc 2 1, 3) := by decide +kernel
theorem dX0_reckonProduct_25 : decode cX0_reckonProduct 25 = .ok (.goto (-23), 3) := by decide +kernel
theorem dX0_reckonProduct_28 : decode cX0_reckonProduct 28 = .ok (.iconst 0, 1) := by decide +kernel
theorem dX0_reckonProduct_29 : decode cX0_reckonProduct 29 = .ok (.istore_n 2, 1) := by decide +kernel
theorem dX0_reckonProduct_30 : decode cX0_reckonProduct 30 = .ok (.iload_n 2, 1) := by decide +kernel
theorem dX0_reckonProduct_31 : decode cX0_reckonProduct 31 = .ok (.aload_n 0, 1) := by decide +kernel
theorem dX0_reckonProduct_32 : decode cX0_reckonProduct 32 = .ok (.getfield 12, 3) := by decide +kernel
theorem dX0_reckonProduct_35 : decode cX0_reckonProduct 35 = .ok (.invokevirtual 47, 3) := by decide +kernel
theorem dX0_reckonProduct_38 : decode cX0_reckonProduct 38 = .ok (.if_icmp .ge 69, 3) := by decide +kernel
theorem dX0_reckonProduct_41 : decode cX0_reckonProduct 41 = .ok (.iload_n 2, 1) := by decide +kernel
theorem dX0_reckonProduct_42 : decode cX0_reckonProduct 42 = .ok (.iload_n 1, 1) := by decide +kernel
theorem dX0_reckonProduct_43 : decode cX0_reckonProduct 43 = .ok (.if_icmp .eq 58, 3) := by decide +kernel
theorem dX0_reckonProduct_46 : decode cX0_reckonProduct 46 = .ok (.iconst 4, 1) := by decide +kernel
theorem dX0_reckonProduct_47 : decode cX0_reckonProduct 47 = .ok (.istore_n 3, 1) := by decide +kernel
theorem dX0_reckonProduct_48 : decode cX0_reckonProduct 48 = .ok (.iload_n 3, 1) := by decide +kernel
theorem dX0_reckonProduct_49 : decode cX0_reckonProduct 49 = .ok (.ifCond .lt 52, 3) := by decide +kernel
theorem dX0_reckonProduct_52 : decode cX0_reckonProduct 52 = .ok (.iload_n 3, 1) := by decide +kernel
theorem dX0_reckonProduct_53 : decode cX0_reckonProduct 53 = .ok (.ifCond .le 14, 3) := by decide +kernel
theorem dX0_reckonProduct_56 : decode cX0_reckonProduct 56 = .ok (.aload_n 0, 1) := by decide +kernel
theorem dX0_reckonProduct_57 : decode cX0_reckonProduct 57 = .ok (.getfield 35, 3) := by decide +kernel
theorem dX0_reckonProduct_60 : decode cX0_reckonProduct 60 = .ok (.iload_n 3, 1) := by decide +kernel
theorem dX0_reckonProduct_61 : decode cX0_reckonProduct 61 = .ok (.iconst 1, 1) := by decide +kernel
theorem dX0_reckonProduct_62 : decode cX0_reckonProduct 62 = .ok (.isub, 1) := by decide +kernel
theorem dX0_reckonProduct_63 : decode cX0_reckonProduct 63 = .ok (.laload, 1) := by decide +kernel
theorem dX0_reckonProduct_64 : decode cX0_reckonProduct 64 = .ok (.goto 4, 3) := by decide +kernel
theorem dX0_reckonProduct_67 : decode cX0_reckonProduct 67 = .ok (.lconst 0, 1) := by decide +kernel
theorem dX0_reckonProduct_68 : decode cX0_reckonProduct 68 = .ok (.lstore 4, 2) := by decide +kernel
theorem dX0_reckonProduct_70 : decode cX0_reckonProduct 70 = .ok (.aload_n 0, 1) := by decide +kernel
theorem dX0_reckonProduct_71 : decode cX0_reckonProduct 71 = .ok (.getfield 35, 3) := by decide +kernel
theorem dX0_reckonProduct_74 : decode cX0_reckonProduct 74 = .ok (.iload_n 3, 1) := by decide +kernel
theorem dX0_reckonProduct_75 : decode cX0_reckonProduct 75 = .ok (.lload 4, 2) := by decide +kernel
theorem dX0_reckonProduct_77 : decode cX0_reckonProduct 77 = .ok (.aload_n 0, 1) := by decide +kernel
theorem dX0_reckonProduct_78 : decode cX0_reckonProduct 78 = .ok (.getfield 12, 3) := by decide +kernel
theorem dX0_reckonProduct_81 : decode cX0_reckonProduct 81 = .ok (.iload_n 2, 1) := by decide +kernel
theorem dX0_reckonProduct_82 : decode cX0_reckonProduct 82 = .ok (.invokevirtual 55, 3) := by decide +kernel
theorem dX0_reckonProduct_85 : decode cX0_reckonProduct 85 = .ok (.i2l, 1) := by decide +kernel
theorem dX0_reckonProduct_86 : decode cX0_reckonProduct 86 = .ok (.aload_n 0, 1) := by decide +kernel
theorem dX0_reckonProduct_87 : decode cX0_reckonProduct 87 = .ok (.getfield 35, 3) := by decide +kernel
theorem dX0_reckonProduct_90 : decode cX0_reckonProduct 90 = .ok (.iload_n 3, 1) := by decide +kernel
theorem dX0_reckonProduct_91 : decode cX0_reckonProduct 91 = .ok (.laload, 1) := by decide +kernel
theorem dX0_reckonProduct_92 : decode cX0_reckonProduct 92 = .ok (.lmul, 1) := by decide +kernel
theorem dX0_reckonProduct_93 : decode cX0_reckonProduct 93 = .ok (.lsub, 1) := by decide +kernel
theorem dX0_reckonProduct_94 : decode cX0_reckonProduct 94 = .ok (.lastore, 1) := by decide +kernel
theorem dX0_reckonProduct_95 : decode cX0_reckonProduct 95 = .ok (.iinc 3 (-1), 3) := by decide +kernel
theorem dX0_reckonProduct_98 : decode cX0_reckonProduct 98 = .ok (.goto (-50), 3) := by decide +kernel
theorem dX0_reckonProduct_101 : decode cX0_reckonProduct 101 = .ok (.iinc 2 1, 3) := by decide +kernel
theorem dX0_reckonProduct_104 : decode cX0_reckonProduct 104 = .ok (.goto (-74), 3) := by decide +kernel
theorem dX0_reckonProduct_107 : decode cX0_reckonProduct 107 = .ok (.return_, 1) := by decide +kernel
theorem dX0_weightOf_0 : decode cX0_weightOf 0 = .ok (.iload_n 1, 1) := by decide +kernel
theorem dX0_weightOf_1 : decode cX0_weightOf 1 = .ok (.ifCond .lt 28, 3) := by decide +kernel
theorem dX0_weightOf_4 : decode cX0_weightOf 4 = .ok (.iload_n 1, 1) := by decide +kernel
theorem dX0_weightOf_5 : decode cX0_weightOf 5 = .ok (.aload_n 0, 1) := by decide +kernel
theorem dX0_weightOf_6 : decode cX0_weightOf 6 = .ok (.getfield 12, 3) := by decide +kernel
theorem dX0_weightOf_9 : decode cX0_weightOf 9 = .ok (.invokevirtual 47, 3) := by decide +kernel
theorem dX0_weightOf_12 : decode cX0_weightOf 12 = .ok (.if_icmp .ge 17, 3) := by decide +kernel
theorem dX0_weightOf_15 : decode cX0_weightOf 15 = .ok (.iload_n 1, 1) := by decide +kernel
theorem dX0_weightOf_16 : decode cX0_weightOf 16 = .ok (.iconst 5, 1) := by decide +kernel
theorem dX0_weightOf_17 : decode cX0_weightOf 17 = .ok (.if_icmp .ge 12, 3) := by decide +kernel
theorem dX0_weightOf_20 : decode cX0_weightOf 20 = .ok (.aload_n 0, 1) := by decide +kernel
theorem dX0_weightOf_21 : decode cX0_weightOf 21 = .ok (.getfield 25, 3) := by decide +kernel
theorem dX0_weightOf_24 : decode cX0_weightOf 24 = .ok (.iload_n 1, 1) := by decide +kernel
theorem dX0_weightOf_25 : decode cX0_weightOf 25 = .ok (.laload, 1) := by decide +kernel
theorem dX0_weightOf_26 : decode cX0_weightOf 26 = .ok (.goto 4, 3) := by decide +kernel
theorem dX0_weightOf_29 : decode cX0_weightOf 29 = .ok (.lconst 0, 1) := by decide +kernel
theorem dX0_weightOf_30 : decode cX0_weightOf 30 = .ok (.lreturn, 1) := by decide +kernel
theorem dX0_alternates_0 : decode cX0_alternates 0 = .ok (.lconst 0, 1) := by decide +kernel
theorem dX0_alternates_1 : decode cX0_alternates 1 = .ok (.lstore_n 1, 1) := by decide +kernel
theorem dX0_alternates_2 : decode cX0_alternates 2 = .ok (.iconst 0, 1) := by decide +kernel
theorem dX0_alternates_3 : decode cX0_alternates 3 = .ok (.istore_n 3, 1) := by decide +kernel
theorem dX0_alternates_4 : decode cX0_alternates 4 = .ok (.iload_n 3, 1) := by decide +kernel
theorem dX0_alternates_5 : decode cX0_alternates 5 = .ok (.aload_n 0, 1) := by decide +kernel
theorem dX0_alternates_6 : decode cX0_alternates 6 = .ok (.getfield 12, 3) := by decide +kernel
theorem dX0_alternates_9 : decode cX0_alternates 9 = .ok (.invokevirtual 47, 3) := by decide +kernel
theorem dX0_alternates_12 : decode cX0_alternates 12 = .ok (.if_icmp .ge 68, 3) := by decide +kernel
theorem dX0_alternates_15 : decode cX0_alternates 15 = .ok (.iload_n 3, 1) := by decide +kernel
theorem dX0_alternates_16 : decode cX0_alternates 16 = .ok (.iconst 5, 1) := by decide +kernel
theorem dX0_alternates_17 : decode cX0_alternates 17 = .ok (.if_icmp .ge 63, 3) := by decide +kernel
theorem dX0_alternates_20 : decode cX0_alternates 20 = .ok (.aload_n 0, 1) := by decide +kernel
theorem dX0_alternates_21 : decode cX0_alternates 21 = .ok (.aload_n 0, 1) := by decide +kernel
theorem dX0_alternates_22 : decode cX0_alternates 22 = .ok (.getfield 18, 3) := by decide +kernel
theorem dX0_alternates_25 : decode cX0_alternates 25 = .ok (.iload_n 3, 1) := by decide +kernel
theorem dX0_alternates_26 : decode cX0_alternates 26 = .ok (.iaload, 1) := by decide +kernel
theorem dX0_alternates_27 : decode cX0_alternates 27 = .ok (.invokevirtual 95, 3) := by decide +kernel
theorem dX0_alternates_30 : decode cX0_alternates 30 = .ok (.lstore 4, 2) := by decide +kernel
theorem dX0_alternates_32 : decode cX0_alternates 32 = .ok (.lload 4, 2) := by decide +kernel
theorem dX0_alternates_34 : decode cX0_alternates 34 = .ok (.lconst 0, 1) := by decide +kernel
theorem dX0_alternates_35 : decode cX0_alternates 35 = .ok (.lcmp, 1) := by decide +kernel
theorem dX0_alternates_36 : decode cX0_alternates 36 = .ok (.ifCond .eq 33, 3) := by decide +kernel
theorem dX0_alternates_39 : decode cX0_alternates 39 = .ok (.iload_n 3, 1) := by decide +kernel
theorem dX0_alternates_40 : decode cX0_alternates 40 = .ok (.ifCond .le 31, 3) := by decide +kernel
theorem dX0_alternates_43 : decode cX0_alternates 43 = .ok (.lload 4, 2) := by decide +kernel
theorem dX0_alternates_45 : decode cX0_alternates 45 = .ok (.lconst 0, 1) := by decide +kernel
theorem dX0_alternates_46 : decode cX0_alternates 46 = .ok (.lcmp, 1) := by decide +kernel
theorem dX0_alternates_47 : decode cX0_alternates 47 = .ok (.ifCond .le 7, 3) := by decide +kernel
theorem dX0_alternates_50 : decode cX0_alternates 50 = .ok (.iconst 1, 1) := by decide +kernel
theorem dX0_alternates_51 : decode cX0_alternates 51 = .ok (.goto 4, 3) := by decide +kernel
theorem dX0_alternates_54 : decode cX0_alternates 54 = .ok (.iconst 0, 1) := by decide +kernel
theorem dX0_alternates_55 : decode cX0_alternates 55 = .ok (.lload_n 1, 1) := by decide +kernel
theorem dX0_alternates_56 : decode cX0_alternates 56 = .ok (.lconst 0, 1) := by decide +kernel
theorem dX0_alternates_57 : decode cX0_alternates 57 = .ok (.lcmp, 1) := by decide +kernel
theorem dX0_alternates_58 : decode cX0_alternates 58 = .ok (.ifCond .le 7, 3) := by decide +kernel
theorem dX0_alternates_61 : decode cX0_alternates 61 = .ok (.iconst 1, 1) := by decide +kernel
theorem dX0_alternates_62 : decode cX0_alternates 62 = .ok (.goto 4, 3) := by decide +kernel
theorem dX0_alternates_65 : decode cX0_alternates 65 = .ok (.iconst 0, 1) := by decide +kernel
theorem dX0_alternates_66 : decode cX0_alternates 66 = .ok (.if_icmp .ne 5, 3) := by decide +kernel
theorem dX0_alternates_69 : decode cX0_alternates 69 = .ok (.iconst 0, 1) := by decide +kernel
theorem dX0_alternates_70 : decode cX0_alternates 70 = .ok (.ireturn, 1) := by decide +kernel
theorem dX0_alternates_71 : decode cX0_alternates 71 = .ok (.lload 4, 2) := by decide +kernel
theorem dX0_alternates_73 : decode cX0_alternates 73 = .ok (.lstore_n 1, 1) := by decide +kernel
theorem dX0_alternates_74 : decode cX0_alternates 74 = .ok (.iinc 3 1, 3) := by decide +kernel
theorem dX0_alternates_77 : decode cX0_alternates 77 = .ok (.goto (-73), 3) := by decide +kernel
theorem dX0_alternates_80 : decode cX0_alternates 80 = .ok (.iconst 1, 1) := by decide +kernel
theorem dX0_alternates_81 : decode cX0_alternates 81 = .ok (.ireturn, 1) := by decide +kernel
theorem dX0_factor_0 : decode cX0_factor 0 = .ok (.iload_n 2, 1) := by decide +kernel
theorem dX0_factor_1 : decode cX0_factor 1 = .ok (.ifCond .lt 8, 3) := by decide +kernel
theorem dX0_factor_4 : decode cX0_factor 4 = .ok (.iload_n 2, 1) := by decide +kernel
theorem dX0_factor_5 : decode cX0_factor 5 = .ok (.iconst 5, 1) := by decide +kernel
theorem dX0_factor_6 : decode cX0_factor 6 = .ok (.if_icmp .lt 5, 3) := by decide +kernel
theorem dX0_factor_9 : decode cX0_factor 9 = .ok (.lconst 0, 1) := by decide +kernel
theorem dX0_factor_10 : decode cX0_factor 10 = .ok (.lreturn, 1) := by decide +kernel
theorem dX0_factor_11 : decode cX0_factor 11 = .ok (.iload_n 1, 1) := by decide +kernel
theorem dX0_factor_12 : decode cX0_factor 12 = .ok (.ifCond .eq 12, 3) := by decide +kernel
theorem dX0_factor_15 : decode cX0_factor 15 = .ok (.aload_n 0, 1) := by decide +kernel
theorem dX0_factor_16 : decode cX0_factor 16 = .ok (.getfield 32, 3) := by decide +kernel
theorem dX0_factor_19 : decode cX0_factor 19 = .ok (.iload_n 2, 1) := by decide +kernel
theorem dX0_factor_20 : decode cX0_factor 20 = .ok (.laload, 1) := by decide +kernel
theorem dX0_factor_21 : decode cX0_factor 21 = .ok (.goto 9, 3) := by decide +kernel
theorem dX0_factor_24 : decode cX0_factor 24 = .ok (.aload_n 0, 1) := by decide +kernel
theorem dX0_factor_25 : decode cX0_factor 25 = .ok (.getfield 29, 3) := by decide +kernel
theorem dX0_factor_28 : decode cX0_factor 28 = .ok (.iload_n 2, 1) := by decide +kernel
theorem dX0_factor_29 : decode cX0_factor 29 = .ok (.laload, 1) := by decide +kernel
theorem dX0_factor_30 : decode cX0_factor 30 = .ok (.lreturn, 1) := by decide +kernel
theorem dX0_at_0 : decode cX0_at 0 = .ok (.lconst 0, 1) := by decide +kernel
theorem dX0_at_1 : decode cX0_at 1 = .ok (.lstore_n 3, 1) := by decide +kernel
theorem dX0_at_2 : decode cX0_at 2 = .ok (.iconst 4, 1) := by decide +kernel
theorem dX0_at_3 : decode cX0_at 3 = .ok (.istore 5, 2) := by decide +kernel
theorem dX0_at_5 : decode cX0_at 5 = .ok (.iload 5, 2) := by decide +kernel
theorem dX0_at_7 : decode cX0_at 7 = .ok (.ifCond .lt 22, 3) := by decide +kernel
theorem dX0_at_10 : decode cX0_at 10 = .ok (.lload_n 3, 1) := by decide +kernel
theorem dX0_at_11 : decode cX0_at 11 = .ok (.iload_n 2, 1) := by decide +kernel
theorem dX0_at_12 : decode cX0_at 12 = .ok (.i2l, 1) := by decide +kernel
theorem dX0_at_13 : decode cX0_at 13 = .ok (.lmul, 1) := by decide +kernel
theorem dX0_at_14 : decode cX0_at 14 = .ok (.aload_n 0, 1) := by decide +kernel
theorem dX0_at_15 : decode cX0_at 15 = .ok (.iload_n 1, 1) := by decide +kernel
theorem dX0_at_16 : decode cX0_at 16 = .ok (.iload 5, 2) := by decide +kernel
theorem dX0_at_18 : decode cX0_at 18 = .ok (.invokevirtual 102, 3) := by decide +kernel
theorem dX0_at_21 : decode cX0_at 21 = .ok (.ladd, 1) := by decide +kernel
theorem dX0_at_22 : decode cX0_at 22 = .ok (.lstore_n 3, 1) := by decide +kernel
theorem dX0_at_23 : decode cX0_at 23 = .ok (.iinc 5 (-1), 3) := by decide +kernel
theorem dX0_at_26 : decode cX0_at 26 = .ok (.goto (-21), 3) := by decide +kernel
theorem dX0_at_29 : decode cX0_at 29 = .ok (.lload_n 3, 1) := by decide +kernel
theorem dX0_at_30 : decode cX0_at 30 = .ok (.lreturn, 1) := by decide +kernel
theorem dX0_derivativeAt_0 : decode cX0_derivativeAt 0 = .ok (.lconst 0, 1) := by decide +kernel
theorem dX0_derivativeAt_1 : decode cX0_derivativeAt 1 = .ok (.lstore_n 3, 1) := by decide +kernel
theorem dX0_derivativeAt_2 : decode cX0_derivativeAt 2 = .ok (.iconst 4, 1) := by decide +kernel
theorem dX0_derivativeAt_3 : decode cX0_derivativeAt 3 = .ok (.istore 5, 2) := by decide +kernel
theorem dX0_derivativeAt_5 : decode cX0_derivativeAt 5 = .ok (.iload 5, 2) := by decide +kernel
theorem dX0_derivativeAt_7 : decode cX0_derivativeAt 7 = .ok (.ifCond .le 26, 3) := by decide +kernel
theorem dX0_derivativeAt_10 : decode cX0_derivativeAt 10 = .ok (.lload_n 3, 1) := by decide +kernel
theorem dX0_derivativeAt_11 : decode cX0_derivativeAt 11 = .ok (.iload_n 2, 1) := by decide +kernel
theorem dX0_derivativeAt_12 : decode cX0_derivativeAt 12 = .ok (.i2l, 1) := by decide +kernel
theorem dX0_derivativeAt_13 : decode cX0_derivativeAt 13 = .ok (.lmul, 1) := by decide +kernel
theorem dX0_derivativeAt_14 : decode cX0_derivativeAt 14 = .ok (.iload 5, 2) := by decide +kernel
theorem dX0_derivativeAt_16 : decode cX0_derivativeAt 16 = .ok (.i2l, 1) := by decide +kernel
theorem dX0_derivativeAt_17 : decode cX0_derivativeAt 17 = .ok (.aload_n 0, 1) := by decide +kernel
theorem dX0_derivativeAt_18 : decode cX0_derivativeAt 18 = .ok (.iload_n 1, 1) := by decide +kernel
theorem dX0_derivativeAt_19 : decode cX0_derivativeAt 19 = .ok (.iload 5, 2) := by decide +kernel
theorem dX0_derivativeAt_21 : decode cX0_derivativeAt 21 = .ok (.invokevirtual 102, 3) := by decide +kernel
theorem dX0_derivativeAt_24 : decode cX0_derivativeAt 24 = .ok (.lmul, 1) := by decide +kernel
theorem dX0_derivativeAt_25 : decode cX0_derivativeAt 25 = .ok (.ladd, 1) := by decide +kernel
theorem dX0_derivativeAt_26 : decode cX0_derivativeAt 26 = .ok (.lstore_n 3, 1) := by decide +kernel
theorem dX0_derivativeAt_27 : decode cX0_derivativeAt 27 = .ok (.iinc 5 (-1), 3) := by decide +kernel
theorem dX0_derivativeAt_30 : decode cX0_derivativeAt 30 = .ok (.goto (-25), 3) := by decide +kernel
theorem dX0_derivativeAt_33 : decode cX0_derivativeAt 33 = .ok (.lload_n 3, 1) := by decide +kernel
theorem dX0_derivativeAt_34 : decode cX0_derivativeAt 34 = .ok (.lreturn, 1) := by decide +kernel
theorem dX0_kindOf_0 : decode cX0_kindOf 0 = .ok (.aload_n 0, 1) := by decide +kernel
theorem dX0_kindOf_1 : decode cX0_kindOf 1 = .ok (.iconst 1, 1) := by decide +kernel
theorem dX0_kindOf_2 : decode cX0_kindOf 2 = .ok (.iload_n 1, 1) := by decide +kernel
theorem dX0_kindOf_3 : decode cX0_kindOf 3 = .ok (.invokevirtual 106, 3) := by decide +kernel
theorem dX0_kindOf_6 : decode cX0_kindOf 6 = .ok (.lconst 0, 1) := by decide +kernel
theorem dX0_kindOf_7 : decode cX0_kindOf 7 = .ok (.lcmp, 1) := by decide +kernel
theorem dX0_kindOf_8 : decode cX0_kindOf 8 = .ok (.ifCond .eq 5, 3) := by decide +kernel
theorem dX0_kindOf_11 : decode cX0_kindOf 11 = .ok (.iconst 0, 1) := by decide +kernel
theorem dX0_kindOf_12 : decode cX0_kindOf 12 = .ok (.ireturn, 1) := by decide +kernel
theorem dX0_kindOf_13 : decode cX0_kindOf 13 = .ok (.aload_n 0, 1) := by decide +kernel
theorem dX0_kindOf_14 : decode cX0_kindOf 14 = .ok (.iconst 0, 1) := by decide +kernel
theorem dX0_kindOf_15 : decode cX0_kindOf 15 = .ok (.iload_n 1, 1) := by decide +kernel
theorem dX0_kindOf_16 : decode cX0_kindOf 16 = .ok (.invokevirtual 106, 3) := by decide +kernel
theorem dX0_kindOf_19 : decode cX0_kindOf 19 = .ok (.lconst 0, 1) := by decide +kernel
theorem dX0_kindOf_20 : decode cX0_kindOf 20 = .ok (.lcmp, 1) := by decide +kernel
theorem dX0_kindOf_21 : decode cX0_kindOf 21 = .ok (.ifCond .eq 5, 3) := by decide +kernel
theorem dX0_kindOf_24 : decode cX0_kindOf 24 = .ok (.iconst 2, 1) := by decide +kernel
theorem dX0_kindOf_25 : decode cX0_kindOf 25 = .ok (.ireturn, 1) := by decide +kernel
theorem dX0_kindOf_26 : decode cX0_kindOf 26 = .ok (.aload_n 0, 1) := by decide +kernel
theorem dX0_kindOf_27 : decode cX0_kindOf 27 = .ok (.iconst 1, 1) := by decide +kernel
theorem dX0_kindOf_28 : decode cX0_kindOf 28 = .ok (.iload_n 1, 1) := by decide +kernel
theorem dX0_kindOf_29 : decode cX0_kindOf 29 = .ok (.invokevirtual 109, 3) := by decide +kernel
theorem dX0_kindOf_32 : decode cX0_kindOf 32 = .ok (.lconst 0, 1) := by decide +kernel
theorem dX0_kindOf_33 : decode cX0_kindOf 33 = .ok (.lcmp, 1) := by decide +kernel
theorem dX0_kindOf_34 : decode cX0_kindOf 34 = .ok (.ifCond .eq 7, 3) := by decide +kernel
theorem dX0_kindOf_37 : decode cX0_kindOf 37 = .ok (.iconst 1, 1) := by decide +kernel
theorem dX0_kindOf_38 : decode cX0_kindOf 38 = .ok (.goto 4, 3) := by decide +kernel
theorem dX0_kindOf_41 : decode cX0_kindOf 41 = .ok (.iconst 3, 1) := by decide +kernel
theorem dX0_kindOf_42 : decode cX0_kindOf 42 = .ok (.ireturn, 1) := by decide +kernel
theorem dX0_putValue_0 : decode cX0_putValue 0 = .ok (.aload_n 0, 1) := by decide +kernel
theorem dX0_putValue_1 : decode cX0_putValue 1 = .ok (.iload_n 1, 1) := by decide +kernel
theorem dX0_putValue_2 : decode cX0_putValue 2 = .ok (.invokevirtual 112, 3) := by decide +kernel
theorem dX0_putValue_5 : decode cX0_putValue 5 = .ok (.istore_n 3, 1) := by decide +kernel
theorem dX0_putValue_6 : decode cX0_putValue 6 = .ok (.iload_n 3, 1) := by decide +kernel
theorem dX0_putValue_7 : decode cX0_putValue 7 = .ok (.ifCond .ne 22, 3) := by decide +kernel
theorem dX0_putValue_10 : decode cX0_putValue 10 = .ok (.aload_n 2, 1) := by decide +kernel
theorem dX0_putValue_11 : decode cX0_putValue 11 = .ok (.aload_n 0, 1) := by decide +kernel
theorem dX0_putValue_12 : decode cX0_putValue 12 = .ok (.iconst 0, 1) := by decide +kernel
theorem dX0_putValue_13 : decode cX0_putValue 13 = .ok (.iload_n 1, 1) := by decide +kernel
theorem dX0_putValue_14 : decode cX0_putValue 14 = .ok (.invokevirtual 106, 3) := by decide +kernel
theorem dX0_putValue_17 : decode cX0_putValue 17 = .ok (.aload_n 0, 1) := by decide +kernel
theorem dX0_putValue_18 : decode cX0_putValue 18 = .ok (.iconst 1, 1) := by decide +kernel
theorem dX0_putValue_19 : decode cX0_putValue 19 = .ok (.iload_n 1, 1) := by decide +kernel
theorem dX0_putValue_20 : decode cX0_putValue 20 = .ok (.invokevirtual 106, 3) := by decide +kernel
theorem dX0_putValue_23 : decode cX0_putValue 23 = .ok (.invokevirtual 115, 3) := by decide +kernel
theorem dX0_putValue_26 : decode cX0_putValue 26 = .ok (.goto 24, 3) := by decide +kernel
theorem dX0_putValue_29 : decode cX0_putValue 29 = .ok (.iload_n 3, 1) := by decide +kernel
theorem dX0_putValue_30 : decode cX0_putValue 30 = .ok (.iconst 1, 1) := by decide +kernel
theorem dX0_putValue_31 : decode cX0_putValue 31 = .ok (.if_icmp .ne 19, 3) := by decide +kernel
theorem dX0_putValue_34 : decode cX0_putValue 34 = .ok (.aload_n 2, 1) := by decide +kernel
theorem dX0_putValue_35 : decode cX0_putValue 35 = .ok (.aload_n 0, 1) := by decide +kernel
theorem dX0_putValue_36 : decode cX0_putValue 36 = .ok (.iconst 0, 1) := by decide +kernel
theorem dX0_putValue_37 : decode cX0_putValue 37 = .ok (.iload_n 1, 1) := by decide +kernel
theorem dX0_putValue_38 : decode cX0_putValue 38 = .ok (.invokevirtual 109, 3) := by decide +kernel
theorem dX0_putValue_41 : decode cX0_putValue 41 = .ok (.aload_n 0, 1) := by decide +kernel
theorem dX0_putValue_42 : decode cX0_putValue 42 = .ok (.iconst 1, 1) := by decide +kernel
theorem dX0_putValue_43 : decode cX0_putValue 43 = .ok (.iload_n 1, 1) := by decide +kernel
theorem dX0_putValue_44 : decode cX0_putValue 44 = .ok (.invokevirtual 109, 3) := by decide +kernel
theorem dX0_putValue_47 : decode cX0_putValue 47 = .ok (.invokevirtual 115, 3) := by decide +kernel
theorem dX0_putValue_50 : decode cX0_putValue 50 = .ok (.iload_n 3, 1) := by decide +kernel
theorem dX0_putValue_51 : decode cX0_putValue 51 = .ok (.ifCond .eq 8, 3) := by decide +kernel
theorem dX0_putValue_54 : decode cX0_putValue 54 = .ok (.iload_n 3, 1) := by decide +kernel
theorem dX0_putValue_55 : decode cX0_putValue 55 = .ok (.iconst 1, 1) := by decide +kernel
theorem dX0_putValue_56 : decode cX0_putValue 56 = .ok (.if_icmp .ne 7, 3) := by decide +kernel
theorem dX0_putValue_59 : decode cX0_putValue 59 = .ok (.iconst 1, 1) := by decide +kernel
theorem dX0_putValue_60 : decode cX0_putValue 60 = .ok (.goto 4, 3) := by decide +kernel
theorem dX0_putValue_63 : decode cX0_putValue 63 = .ok (.iconst 0, 1) := by decide +kernel
theorem dX0_putValue_64 : decode cX0_putValue 64 = .ok (.ireturn, 1) := by decide +kernel
theorem dX0_hidesPoleBehind_0 : decode cX0_hidesPoleBehind 0 = .ok (.aload_n 0, 1) := by decide +kernel
theorem dX0_hidesPoleBehind_1 : decode cX0_hidesPoleBehind 1 = .ok (.iconst 1, 1) := by decide +kernel
theorem dX0_hidesPoleBehind_2 : decode cX0_hidesPoleBehind 2 = .ok (.iload_n 1, 1) := by decide +kernel
theorem dX0_hidesPoleBehind_3 : decode cX0_hidesPoleBehind 3 = .ok (.invokevirtual 106, 3) := by decide +kernel
theorem dX0_hidesPoleBehind_6 : decode cX0_hidesPoleBehind 6 = .ok (.lstore_n 2, 1) := by decide +kernel
theorem dX0_hidesPoleBehind_7 : decode cX0_hidesPoleBehind 7 = .ok (.aload_n 0, 1) := by decide +kernel
theorem dX0_hidesPoleBehind_8 : decode cX0_hidesPoleBehind 8 = .ok (.iconst 1, 1) := by decide +kernel
theorem dX0_hidesPoleBehind_9 : decode cX0_hidesPoleBehind 9 = .ok (.iload_n 1, 1) := by decide +kernel
theorem dX0_hidesPoleBehind_10 : decode cX0_hidesPoleBehind 10 = .ok (.iconst 1, 1) := by decide +kernel
theorem dX0_hidesPoleBehind_11 : decode cX0_hidesPoleBehind 11 = .ok (.iadd, 1) := by decide +kernel
theorem dX0_hidesPoleBehind_12 : decode cX0_hidesPoleBehind 12 = .ok (.invokevirtual 106, 3) := by decide +kernel
theorem dX0_hidesPoleBehind_15 : decode cX0_hidesPoleBehind 15 = .ok (.lstore 4, 2) := by decide +kernel
theorem dX0_hidesPoleBehind_17 : decode cX0_hidesPoleBehind 17 = .ok (.lload_n 2, 1) := by decide +kernel
theorem dX0_hidesPoleBehind_18 : decode cX0_hidesPoleBehind 18 = .ok (.lconst 0, 1) := by decide +kernel
theorem dX0_hidesPoleBehind_19 : decode cX0_hidesPoleBehind 19 = .ok (.lcmp, 1) := by decide +kernel
theorem dX0_hidesPoleBehind_20 : decode cX0_hidesPoleBehind 20 = .ok (.ifCond .eq 40, 3) := by decide +kernel
theorem dX0_hidesPoleBehind_23 : decode cX0_hidesPoleBehind 23 = .ok (.lload 4, 2) := by decide +kernel
theorem dX0_hidesPoleBehind_25 : decode cX0_hidesPoleBehind 25 = .ok (.lconst 0, 1) := by decide +kernel
theorem dX0_hidesPoleBehind_26 : decode cX0_hidesPoleBehind 26 = .ok (.lcmp, 1) := by decide +kernel
theorem dX0_hidesPoleBehind_27 : decode cX0_hidesPoleBehind 27 = .ok (.ifCond .eq 33, 3) := by decide +kernel
theorem dX0_hidesPoleBehind_30 : decode cX0_hidesPoleBehind 30 = .ok (.lload_n 2, 1) := by decide +kernel
theorem dX0_hidesPoleBehind_31 : decode cX0_hidesPoleBehind 31 = .ok (.lconst 0, 1) := by decide +kernel
theorem dX0_hidesPoleBehind_32 : decode cX0_hidesPoleBehind 32 = .ok (.lcmp, 1) := by decide +kernel
theorem dX0_hidesPoleBehind_33 : decode cX0_hidesPoleBehind 33 = .ok (.ifCond .le 7, 3) := by decide +kernel
theorem dX0_hidesPoleBehind_36 : decode cX0_hidesPoleBehind 36 = .ok (.iconst 1, 1) := by decide +kernel
theorem dX0_hidesPoleBehind_37 : decode cX0_hidesPoleBehind 37 = .ok (.goto 4, 3) := by decide +kernel
theorem dX0_hidesPoleBehind_40 : decode cX0_hidesPoleBehind 40 = .ok (.iconst 0, 1) := by decide +kernel
theorem dX0_hidesPoleBehind_41 : decode cX0_hidesPoleBehind 41 = .ok (.lload 4, 2) := by decide +kernel
theorem dX0_hidesPoleBehind_43 : decode cX0_hidesPoleBehind 43 = .ok (.lconst 0, 1) := by decide +kernel
theorem dX0_hidesPoleBehind_44 : decode cX0_hidesPoleBehind 44 = .ok (.lcmp, 1) := by decide +kernel
theorem dX0_hidesPoleBehind_45 : decode cX0_hidesPoleBehind 45 = .ok (.ifCond .le 7, 3) := by decide +kernel
theorem dX0_hidesPoleBehind_48 : decode cX0_hidesPoleBehind 48 = .ok (.iconst 1, 1) := by decide +kernel
theorem dX0_hidesPoleBehind_49 : decode cX0_hidesPoleBehind 49 = .ok (.goto 4, 3) := by decide +kernel
theorem dX0_hidesPoleBehind_52 : decode cX0_hidesPoleBehind 52 = .ok (.iconst 0, 1) := by decide +kernel
theorem dX0_hidesPoleBehind_53 : decode cX0_hidesPoleBehind 53 = .ok (.if_icmp .eq 7, 3) := by decide +kernel
theorem dX0_hidesPoleBehind_56 : decode cX0_hidesPoleBehind 56 = .ok (.iconst 1, 1) := by decide +kernel
theorem dX0_hidesPoleBehind_57 : decode cX0_hidesPoleBehind 57 = .ok (.goto 4, 3) := by decide +kernel
theorem dX0_hidesPoleBehind_60 : decode cX0_hidesPoleBehind 60 = .ok (.iconst 0, 1) := by decide +kernel
theorem dX0_hidesPoleBehind_61 : decode cX0_hidesPoleBehind 61 = .ok (.ireturn, 1) := by decide +kernel
theorem dX1_init_0 : decode cX1_init 0 = .ok (.aload_n 0, 1) := by decide +kernel
theorem dX1_init_1 : decode cX1_init 1 = .ok (.invokespecial 1, 3) := by decide +kernel
theorem dX1_init_4 : decode cX1_init 4 = .ok (.aload_n 0, 1) := by decide +kernel
theorem dX1_init_5 : decode cX1_init 5 = .ok (.lconst 0, 1) := by decide +kernel
theorem dX1_init_6 : decode cX1_init 6 = .ok (.putfield 7, 3) := by decide +kernel
theorem dX1_init_9 : decode cX1_init 9 = .ok (.aload_n 0, 1) := by decide +kernel
theorem dX1_init_10 : decode cX1_init 10 = .ok (.lconst 1, 1) := by decide +kernel
theorem dX1_init_11 : decode cX1_init 11 = .ok (.putfield 13, 3) := by decide +kernel
theorem dX1_init_14 : decode cX1_init 14 = .ok (.return_, 1) := by decide +kernel
theorem dX1_put_0 : decode cX1_put 0 = .ok (.lload_n 1, 1) := by decide +kernel
theorem dX1_put_1 : decode cX1_put 1 = .ok (.lload_n 3, 1) := by decide +kernel
theorem dX1_put_2 : decode cX1_put 2 = .ok (.invokestatic 16, 3) := by decide +kernel
theorem dX1_put_5 : decode cX1_put 5 = .ok (.lstore 5, 2) := by decide +kernel
theorem dX1_put_7 : decode cX1_put 7 = .ok (.lload_n 3, 1) := by decide +kernel
theorem dX1_put_8 : decode cX1_put 8 = .ok (.lconst 0, 1) := by decide +kernel
theorem dX1_put_9 : decode cX1_put 9 = .ok (.lcmp, 1) := by decide +kernel
theorem dX1_put_10 : decode cX1_put 10 = .ok (.ifCond .eq 10, 3) := by decide +kernel
theorem dX1_put_13 : decode cX1_put 13 = .ok (.lload 5, 2) := by decide +kernel
theorem dX1_put_15 : decode cX1_put 15 = .ok (.lconst 0, 1) := by decide +kernel
theorem dX1_put_16 : decode cX1_put 16 = .ok (.lcmp, 1) := by decide +kernel
theorem dX1_put_17 : decode cX1_put 17 = .ok (.ifCond .ne 14, 3) := by decide +kernel
theorem dX1_put_20 : decode cX1_put 20 = .ok (.aload_n 0, 1) := by decide +kernel
theorem dX1_put_21 : decode cX1_put 21 = .ok (.lconst 0, 1) := by decide +kernel
theorem dX1_put_22 : decode cX1_put 22 = .ok (.putfield 7, 3) := by decide +kernel
theorem dX1_put_25 : decode cX1_put 25 = .ok (.aload_n 0, 1) := by decide +kernel
theorem dX1_put_26 : decode cX1_put 26 = .ok (.lconst 1, 1) := by decide +kernel
theorem dX1_put_27 : decode cX1_put 27 = .ok (.putfield 13, 3) := by decide +kernel
theorem dX1_put_30 : decode cX1_put 30 = .ok (.return_, 1) := by decide +kernel
theorem dX1_put_31 : decode cX1_put 31 = .ok (.lload_n 3, 1) := by decide +kernel
theorem dX1_put_32 : decode cX1_put 32 = .ok (.lconst 0, 1) := by decide +kernel
theorem dX1_put_33 : decode cX1_put 33 = .ok (.lcmp, 1) := by decide +kernel
theorem dX1_put_34 : decode cX1_put 34 = .ok (.ifCond .ge 9, 3) := by decide +kernel
theorem dX1_put_37 : decode cX1_put 37 = .ok (.lload 5, 2) := by decide +kernel
theorem dX1_put_39 : decode cX1_put 39 = .ok (.lneg, 1) := by decide +kernel
theorem dX1_put_40 : decode cX1_put 40 = .ok (.goto 5, 3) := by decide +kernel
theorem dX1_put_43 : decode cX1_put 43 = .ok (.lload 5, 2) := by decide +kernel
theorem dX1_put_45 : decode cX1_put 45 = .ok (.lstore 7, 2) := by decide +kernel
theorem dX1_put_47 : decode cX1_put 47 = .ok (.aload_n 0, 1) := by decide +kernel
theorem dX1_put_48 : decode cX1_put 48 = .ok (.lload_n 1, 1) := by decide +kernel
theorem dX1_put_49 : decode cX1_put 49 = .ok (.lload 7, 2) := by decide +kernel
theorem dX1_put_51 : decode cX1_put 51 = .ok (.ldiv, 1) := by decide +kernel
theorem dX1_put_52 : decode cX1_put 52 = .ok (.putfield 7, 3) := by decide +kernel
theorem dX1_put_55 : decode cX1_put 55 = .ok (.aload_n 0, 1) := by decide +kernel
theorem dX1_put_56 : decode cX1_put 56 = .ok (.lload_n 3, 1) := by decide +kernel
theorem dX1_put_57 : decode cX1_put 57 = .ok (.lload 7, 2) := by decide +kernel
theorem dX1_put_59 : decode cX1_put 59 = .ok (.ldiv, 1) := by decide +kernel
theorem dX1_put_60 : decode cX1_put 60 = .ok (.putfield 13, 3) := by decide +kernel
theorem dX1_put_63 : decode cX1_put 63 = .ok (.return_, 1) := by decide +kernel
theorem dX1_add_0 : decode cX1_add 0 = .ok (.aload_n 0, 1) := by decide +kernel
theorem dX1_add_1 : decode cX1_add 1 = .ok (.getfield 13, 3) := by decide +kernel
theorem dX1_add_4 : decode cX1_add 4 = .ok (.lload_n 3, 1) := by decide +kernel
theorem dX1_add_5 : decode cX1_add 5 = .ok (.invokestatic 16, 3) := by decide +kernel
theorem dX1_add_8 : decode cX1_add 8 = .ok (.lstore 5, 2) := by decide +kernel
theorem dX1_add_10 : decode cX1_add 10 = .ok (.lload_n 3, 1) := by decide +kernel
theorem dX1_add_11 : decode cX1_add 11 = .ok (.lconst 0, 1) := by decide +kernel
theorem dX1_add_12 : decode cX1_add 12 = .ok (.lcmp, 1) := by decide +kernel
theorem dX1_add_13 : decode cX1_add 13 = .ok (.ifCond .eq 10, 3) := by decide +kernel
theorem dX1_add_16 : decode cX1_add 16 = .ok (.lload 5, 2) := by decide +kernel
theorem dX1_add_18 : decode cX1_add 18 = .ok (.lconst 0, 1) := by decide +kernel
theorem dX1_add_19 : decode cX1_add 19 = .ok (.lcmp, 1) := by decide +kernel
theorem dX1_add_20 : decode cX1_add 20 = .ok (.ifCond .ne 4, 3) := by decide +kernel
theorem dX1_add_23 : decode cX1_add 23 = .ok (.return_, 1) := by decide +kernel
theorem dX1_add_24 : decode cX1_add 24 = .ok (.lload_n 3, 1) := by decide +kernel
theorem dX1_add_25 : decode cX1_add 25 = .ok (.lload 5, 2) := by decide +kernel
theorem dX1_add_27 : decode cX1_add 27 = .ok (.ldiv, 1) := by decide +kernel
theorem dX1_add_28 : decode cX1_add 28 = .ok (.lstore 7, 2) := by decide +kernel
theorem dX1_add_30 : decode cX1_add 30 = .ok (.aload_n 0, 1) := by decide +kernel
theorem dX1_add_31 : decode cX1_add 31 = .ok (.aload_n 0, 1) := by decide +kernel
theorem dX1_add_32 : decode cX1_add 32 = .ok (.getfield 7, 3) := by decide +kernel
theorem dX1_add_35 : decode cX1_add 35 = .ok (.lload 7, 2) := by decide +kernel
theorem dX1_add_37 : decode cX1_add 37 = .ok (.lmul, 1) := by decide +kernel
theorem dX1_add_38 : decode cX1_add 38 = .ok (.lload_n 1, 1) := by decide +kernel
theorem dX1_add_39 : decode cX1_add 39 = .ok (.aload_n 0, 1) := by decide +kernel
theorem dX1_add_40 : decode cX1_add 40 = .ok (.getfield 13, 3) := by decide +kernel
theorem dX1_add_43 : decode cX1_add 43 = .ok (.lload 5, 2) := by decide +kernel
theorem dX1_add_45 : decode cX1_add 45 = .ok (.ldiv, 1) := by decide +kernel
theorem dX1_add_46 : decode cX1_add 46 = .ok (.lmul, 1) := by decide +kernel
theorem dX1_add_47 : decode cX1_add 47 = .ok (.ladd, 1) := by decide +kernel
theorem dX1_add_48 : decode cX1_add 48 = .ok (.aload_n 0, 1) := by decide +kernel
theorem dX1_add_49 : decode cX1_add 49 = .ok (.getfield 13, 3) := by decide +kernel
theorem dX1_add_52 : decode cX1_add 52 = .ok (.lload 7, 2) := by decide +kernel
theorem dX1_add_54 : decode cX1_add 54 = .ok (.lmul, 1) := by decide +kernel
theorem dX1_add_55 : decode cX1_add 55 = .ok (.invokevirtual 20, 3) := by decide +kernel
theorem dX1_add_58 : decode cX1_add 58 = .ok (.return_, 1) := by decide +kernel
theorem dX1_part_0 : decode cX1_part 0 = .ok (.iload_n 1, 1) := by decide +kernel
theorem dX1_part_1 : decode cX1_part 1 = .ok (.ifCond .ne 10, 3) := by decide +kernel
theorem dX1_part_4 : decode cX1_part 4 = .ok (.aload_n 0, 1) := by decide +kernel
theorem dX1_part_5 : decode cX1_part 5 = .ok (.getfield 7, 3) := by decide +kernel
theorem dX1_part_8 : decode cX1_part 8 = .ok (.goto 7, 3) := by decide +kernel
theorem dX1_part_11 : decode cX1_part 11 = .ok (.aload_n 0, 1) := by decide +kernel
theorem dX1_part_12 : decode cX1_part 12 = .ok (.getfield 13, 3) := by decide +kernel
theorem dX1_part_15 : decode cX1_part 15 = .ok (.lreturn, 1) := by decide +kernel
theorem dX1_divisor_0 : decode cX1_divisor 0 = .ok (.lload_n 0, 1) := by decide +kernel
theorem dX1_divisor_1 : decode cX1_divisor 1 = .ok (.invokestatic 30, 3) := by decide +kernel
theorem dX1_divisor_4 : decode cX1_divisor 4 = .ok (.lstore 4, 2) := by decide +kernel
theorem dX1_divisor_6 : decode cX1_divisor 6 = .ok (.lload_n 2, 1) := by decide +kernel
theorem dX1_divisor_7 : decode cX1_divisor 7 = .ok (.invokestatic 30, 3) := by decide +kernel
theorem dX1_divisor_10 : decode cX1_divisor 10 = .ok (.lstore 6, 2) := by decide +kernel
theorem dX1_divisor_12 : decode cX1_divisor 12 = .ok (.iconst 0, 1) := by decide +kernel
theorem dX1_divisor_13 : decode cX1_divisor 13 = .ok (.istore 8, 2) := by decide +kernel
theorem dX1_divisor_15 : decode cX1_divisor 15 = .ok (.iload 8, 2) := by decide +kernel
theorem dX1_divisor_17 : decode cX1_divisor 17 = .ok (.sipush 200, 3) := by decide +kernel
theorem dX1_divisor_20 : decode cX1_divisor 20 = .ok (.if_icmp .ge 31, 3) := by decide +kernel
theorem dX1_divisor_23 : decode cX1_divisor 23 = .ok (.lload 6, 2) := by decide +kernel
theorem dX1_divisor_25 : decode cX1_divisor 25 = .ok (.lconst 0, 1) := by decide +kernel
theorem dX1_divisor_26 : decode cX1_divisor 26 = .ok (.lcmp, 1) := by decide +kernel
theorem dX1_divisor_27 : decode cX1_divisor 27 = .ok (.ifCond .eq 24, 3) := by decide +kernel
theorem dX1_divisor_30 : decode cX1_divisor 30 = .ok (.lload 4, 2) := by decide +kernel
theorem dX1_divisor_32 : decode cX1_divisor 32 = .ok (.lload 6, 2) := by decide +kernel
theorem dX1_divisor_34 : decode cX1_divisor 34 = .ok (.lrem, 1) := by decide +kernel
theorem dX1_divisor_35 : decode cX1_divisor 35 = .ok (.lstore 9, 2) := by decide +kernel
theorem dX1_divisor_37 : decode cX1_divisor 37 = .ok (.lload 6, 2) := by decide +kernel
theorem dX1_divisor_39 : decode cX1_divisor 39 = .ok (.lstore 4, 2) := by decide +kernel
theorem dX1_divisor_41 : decode cX1_divisor 41 = .ok (.lload 9, 2) := by decide +kernel
theorem dX1_divisor_43 : decode cX1_divisor 43 = .ok (.lstore 6, 2) := by decide +kernel
theorem dX1_divisor_45 : decode cX1_divisor 45 = .ok (.iinc 8 1, 3) := by decide +kernel
theorem dX1_divisor_48 : decode cX1_divisor 48 = .ok (.goto (-33), 3) := by decide +kernel
theorem dX1_divisor_51 : decode cX1_divisor 51 = .ok (.lload 4, 2) := by decide +kernel
theorem dX1_divisor_53 : decode cX1_divisor 53 = .ok (.lreturn, 1) := by decide +kernel
theorem dX2_init_0 : decode cX2_init 0 = .ok (.aload_n 0, 1) := by decide +kernel
theorem dX2_init_1 : decode cX2_init 1 = .ok (.invokespecial 3, 3) := by decide +kernel
theorem dX2_init_4 : decode cX2_init 4 = .ok (.aload_n 0, 1) := by decide +kernel
theorem dX2_init_5 : decode cX2_init 5 = .ok (.bipush 10, 2) := by decide +kernel
theorem dX2_init_7 : decode cX2_init 7 = .ok (.anewarray 9, 3) := by decide +kernel
theorem dX2_init_10 : decode cX2_init 10 = .ok (.putfield 11, 3) := by decide +kernel
theorem dX2_init_13 : decode cX2_init 13 = .ok (.aload_n 0, 1) := by decide +kernel
theorem dX2_init_14 : decode cX2_init 14 = .ok (.iconst 0, 1) := by decide +kernel
theorem dX2_init_15 : decode cX2_init 15 = .ok (.putfield 17, 3) := by decide +kernel
theorem dX2_init_18 : decode cX2_init 18 = .ok (.iconst 0, 1) := by decide +kernel
theorem dX2_init_19 : decode cX2_init 19 = .ok (.istore_n 1, 1) := by decide +kernel
theorem dX2_init_20 : decode cX2_init 20 = .ok (.iload_n 1, 1) := by decide +kernel
theorem dX2_init_21 : decode cX2_init 21 = .ok (.bipush 10, 2) := by decide +kernel
theorem dX2_init_23 : decode cX2_init 23 = .ok (.if_icmp .ge 22, 3) := by decide +kernel
theorem dX2_init_26 : decode cX2_init 26 = .ok (.aload_n 0, 1) := by decide +kernel
theorem dX2_init_27 : decode cX2_init 27 = .ok (.getfield 11, 3) := by decide +kernel
theorem dX2_init_30 : decode cX2_init 30 = .ok (.iload_n 1, 1) := by decide +kernel
theorem dX2_init_31 : decode cX2_init 31 = .ok (.new 9, 3) := by decide +kernel
theorem dX2_init_34 : decode cX2_init 34 = .ok (.dup, 1) := by decide +kernel
theorem dX2_init_35 : decode cX2_init 35 = .ok (.invokespecial 21, 3) := by decide +kernel
theorem dX2_init_38 : decode cX2_init 38 = .ok (.aastore, 1) := by decide +kernel
theorem dX2_init_39 : decode cX2_init 39 = .ok (.iinc 1 1, 3) := by decide +kernel
theorem dX2_init_42 : decode cX2_init 42 = .ok (.goto (-22), 3) := by decide +kernel
theorem dX2_init_45 : decode cX2_init 45 = .ok (.return_, 1) := by decide +kernel
theorem dX2_clear_0 : decode cX2_clear 0 = .ok (.aload_n 0, 1) := by decide +kernel
theorem dX2_clear_1 : decode cX2_clear 1 = .ok (.iconst 0, 1) := by decide +kernel
theorem dX2_clear_2 : decode cX2_clear 2 = .ok (.putfield 17, 3) := by decide +kernel
theorem dX2_clear_5 : decode cX2_clear 5 = .ok (.return_, 1) := by decide +kernel
theorem dX2_remember_0 : decode cX2_remember 0 = .ok (.aload_n 0, 1) := by decide +kernel
theorem dX2_remember_1 : decode cX2_remember 1 = .ok (.getfield 17, 3) := by decide +kernel
theorem dX2_remember_4 : decode cX2_remember 4 = .ok (.bipush 10, 2) := by decide +kernel
theorem dX2_remember_6 : decode cX2_remember 6 = .ok (.if_icmp .lt 40, 3) := by decide +kernel
theorem dX2_remember_9 : decode cX2_remember 9 = .ok (.iconst 1, 1) := by decide +kernel
theorem dX2_remember_10 : decode cX2_remember 10 = .ok (.istore_n 2, 1) := by decide +kernel
theorem dX2_remember_11 : decode cX2_remember 11 = .ok (.iload_n 2, 1) := by decide +kernel
theorem dX2_remember_12 : decode cX2_remember 12 = .ok (.bipush 10, 2) := by decide +kernel
theorem dX2_remember_14 : decode cX2_remember 14 = .ok (.if_icmp .ge 26, 3) := by decide +kernel
theorem dX2_remember_17 : decode cX2_remember 17 = .ok (.aload_n 0, 1) := by decide +kernel
theorem dX2_remember_18 : decode cX2_remember 18 = .ok (.getfield 11, 3) := by decide +kernel
theorem dX2_remember_21 : decode cX2_remember 21 = .ok (.iload_n 2, 1) := by decide +kernel
theorem dX2_remember_22 : decode cX2_remember 22 = .ok (.iconst 1, 1) := by decide +kernel
theorem dX2_remember_23 : decode cX2_remember 23 = .ok (.isub, 1) := by decide +kernel
theorem dX2_remember_24 : decode cX2_remember 24 = .ok (.aaload, 1) := by decide +kernel
theorem dX2_remember_25 : decode cX2_remember 25 = .ok (.aload_n 0, 1) := by decide +kernel
theorem dX2_remember_26 : decode cX2_remember 26 = .ok (.getfield 11, 3) := by decide +kernel
theorem dX2_remember_29 : decode cX2_remember 29 = .ok (.iload_n 2, 1) := by decide +kernel
theorem dX2_remember_30 : decode cX2_remember 30 = .ok (.aaload, 1) := by decide +kernel
theorem dX2_remember_31 : decode cX2_remember 31 = .ok (.invokevirtual 22, 3) := by decide +kernel
theorem dX2_remember_34 : decode cX2_remember 34 = .ok (.iinc 2 1, 3) := by decide +kernel
theorem dX2_remember_37 : decode cX2_remember 37 = .ok (.goto (-26), 3) := by decide +kernel
theorem dX2_remember_40 : decode cX2_remember 40 = .ok (.aload_n 0, 1) := by decide +kernel
theorem dX2_remember_41 : decode cX2_remember 41 = .ok (.bipush 9, 2) := by decide +kernel
theorem dX2_remember_43 : decode cX2_remember 43 = .ok (.putfield 17, 3) := by decide +kernel
theorem dX2_remember_46 : decode cX2_remember 46 = .ok (.aload_n 0, 1) := by decide +kernel
theorem dX2_remember_47 : decode cX2_remember 47 = .ok (.getfield 11, 3) := by decide +kernel
theorem dX2_remember_50 : decode cX2_remember 50 = .ok (.aload_n 0, 1) := by decide +kernel
theorem dX2_remember_51 : decode cX2_remember 51 = .ok (.getfield 17, 3) := by decide +kernel
theorem dX2_remember_54 : decode cX2_remember 54 = .ok (.aaload, 1) := by decide +kernel
theorem dX2_remember_55 : decode cX2_remember 55 = .ok (.aload_n 1, 1) := by decide +kernel
theorem dX2_remember_56 : decode cX2_remember 56 = .ok (.invokevirtual 22, 3) := by decide +kernel
theorem dX2_remember_59 : decode cX2_remember 59 = .ok (.aload_n 0, 1) := by decide +kernel
theorem dX2_remember_60 : decode cX2_remember 60 = .ok (.dup, 1) := by decide +kernel
theorem dX2_remember_61 : decode cX2_remember 61 = .ok (.getfield 17, 3) := by decide +kernel
theorem dX2_remember_64 : decode cX2_remember 64 = .ok (.iconst 1, 1) := by decide +kernel
theorem dX2_remember_65 : decode cX2_remember 65 = .ok (.iadd, 1) := by decide +kernel
theorem dX2_remember_66 : decode cX2_remember 66 = .ok (.putfield 17, 3) := by decide +kernel
theorem dX2_remember_69 : decode cX2_remember 69 = .ok (.return_, 1) := by decide +kernel
theorem dX3_init_0 : decode cX3_init 0 = .ok (.aload_n 0, 1) := by decide +kernel
theorem dX3_init_1 : decode cX3_init 1 = .ok (.invokespecial 3, 3) := by decide +kernel
theorem dX3_init_4 : decode cX3_init 4 = .ok (.aload_n 0, 1) := by decide +kernel
theorem dX3_init_5 : decode cX3_init 5 = .ok (.iconst 5, 1) := by decide +kernel
theorem dX3_init_6 : decode cX3_init 6 = .ok (.newarray .int, 2) := by decide +kernel
theorem dX3_init_8 : decode cX3_init 8 = .ok (.putfield 9, 3) := by decide +kernel
theorem dX3_init_11 : decode cX3_init 11 = .ok (.aload_n 0, 1) := by decide +kernel
theorem dX3_init_12 : decode cX3_init 12 = .ok (.iconst 5, 1) := by decide +kernel
theorem dX3_init_13 : decode cX3_init 13 = .ok (.newarray .int, 2) := by decide +kernel
theorem dX3_init_15 : decode cX3_init 15 = .ok (.putfield 15, 3) := by decide +kernel
theorem dX3_init_18 : decode cX3_init 18 = .ok (.aload_n 0, 1) := by decide +kernel
theorem dX3_init_19 : decode cX3_init 19 = .ok (.iconst 5, 1) := by decide +kernel
theorem dX3_init_20 : decode cX3_init 20 = .ok (.newarray .int, 2) := by decide +kernel
theorem dX3_init_22 : decode cX3_init 22 = .ok (.putfield 18, 3) := by decide +kernel
theorem dX3_init_25 : decode cX3_init 25 = .ok (.aload_n 0, 1) := by decide +kernel
theorem dX3_init_26 : decode cX3_init 26 = .ok (.iconst 0, 1) := by decide +kernel
theorem dX3_init_27 : decode cX3_init 27 = .ok (.putfield 21, 3) := by decide +kernel
theorem dX3_init_30 : decode cX3_init 30 = .ok (.aload_n 0, 1) := by decide +kernel
theorem dX3_init_31 : decode cX3_init 31 = .ok (.iconst 0, 1) := by decide +kernel
theorem dX3_init_32 : decode cX3_init 32 = .ok (.putfield 25, 3) := by decide +kernel
theorem dX3_init_35 : decode cX3_init 35 = .ok (.aload_n 0, 1) := by decide +kernel
theorem dX3_init_36 : decode cX3_init 36 = .ok (.iconst 0, 1) := by decide +kernel
theorem dX3_init_37 : decode cX3_init 37 = .ok (.putfield 28, 3) := by decide +kernel
theorem dX3_init_40 : decode cX3_init 40 = .ok (.return_, 1) := by decide +kernel
theorem dX3_size_0 : decode cX3_size 0 = .ok (.aload_n 0, 1) := by decide +kernel
theorem dX3_size_1 : decode cX3_size 1 = .ok (.getfield 21, 3) := by decide +kernel
theorem dX3_size_4 : decode cX3_size 4 = .ok (.ireturn, 1) := by decide +kernel
theorem dX3_isFull_0 : decode cX3_isFull 0 = .ok (.aload_n 0, 1) := by decide +kernel
theorem dX3_isFull_1 : decode cX3_isFull 1 = .ok (.getfield 21, 3) := by decide +kernel
theorem dX3_isFull_4 : decode cX3_isFull 4 = .ok (.iconst 5, 1) := by decide +kernel
theorem dX3_isFull_5 : decode cX3_isFull 5 = .ok (.if_icmp .lt 7, 3) := by decide +kernel
theorem dX3_isFull_8 : decode cX3_isFull 8 = .ok (.iconst 1, 1) := by decide +kernel
theorem dX3_isFull_9 : decode cX3_isFull 9 = .ok (.goto 4, 3) := by decide +kernel
theorem dX3_isFull_12 : decode cX3_isFull 12 = .ok (.iconst 0, 1) := by decide +kernel
theorem dX3_isFull_13 : decode cX3_isFull 13 = .ok (.ireturn, 1) := by decide +kernel
theorem dX3_has_0 : decode cX3_has 0 = .ok (.iload_n 1, 1) := by decide +kernel
theorem dX3_has_1 : decode cX3_has 1 = .ok (.ifCond .lt 15, 3) := by decide +kernel
theorem dX3_has_4 : decode cX3_has 4 = .ok (.iload_n 1, 1) := by decide +kernel
theorem dX3_has_5 : decode cX3_has 5 = .ok (.aload_n 0, 1) := by decide +kernel
theorem dX3_has_6 : decode cX3_has 6 = .ok (.getfield 21, 3) := by decide +kernel
theorem dX3_has_9 : decode cX3_has 9 = .ok (.if_icmp .ge 7, 3) := by decide +kernel
theorem dX3_has_12 : decode cX3_has 12 = .ok (.iconst 1, 1) := by decide +kernel
theorem dX3_has_13 : decode cX3_has 13 = .ok (.goto 4, 3) := by decide +kernel
theorem dX3_has_16 : decode cX3_has 16 = .ok (.iconst 0, 1) := by decide +kernel
theorem dX3_has_17 : decode cX3_has 17 = .ok (.ireturn, 1) := by decide +kernel
theorem dX3_xOf_0 : decode cX3_xOf 0 = .ok (.iload_n 1, 1) := by decide +kernel
theorem dX3_xOf_1 : decode cX3_xOf 1 = .ok (.ifCond .lt 17, 3) := by decide +kernel
theorem dX3_xOf_4 : decode cX3_xOf 4 = .ok (.iload_n 1, 1) := by decide +kernel
theorem dX3_xOf_5 : decode cX3_xOf 5 = .ok (.iconst 5, 1) := by decide +kernel
theorem dX3_xOf_6 : decode cX3_xOf 6 = .ok (.if_icmp .ge 12, 3) := by decide +kernel
theorem dX3_xOf_9 : decode cX3_xOf 9 = .ok (.aload_n 0, 1) := by decide +kernel
theorem dX3_xOf_10 : decode cX3_xOf 10 = .ok (.getfield 9, 3) := by decide +kernel
theorem dX3_xOf_13 : decode cX3_xOf 13 = .ok (.iload_n 1, 1) := by decide +kernel
theorem dX3_xOf_14 : decode cX3_xOf 14 = .ok (.iaload, 1) := by decide +kernel
theorem dX3_xOf_15 : decode cX3_xOf 15 = .ok (.goto 4, 3) := by decide +kernel
theorem dX3_xOf_18 : decode cX3_xOf 18 = .ok (.iconst 0, 1) := by decide +kernel
theorem dX3_xOf_19 : decode cX3_xOf 19 = .ok (.ireturn, 1) := by decide +kernel
theorem dX3_yOf_0 : decode cX3_yOf 0 = .ok (.iload_n 1, 1) := by decide +kernel
theorem dX3_yOf_1 : decode cX3_yOf 1 = .ok (.ifCond .lt 17, 3) := by decide +kernel
theorem dX3_yOf_4 : decode cX3_yOf 4 = .ok (.iload_n 1, 1) := by decide +kernel
theorem dX3_yOf_5 : decode cX3_yOf 5 = .ok (.iconst 5, 1) := by decide +kernel
theorem dX3_yOf_6 : decode cX3_yOf 6 = .ok (.if_icmp .ge 12, 3) := by decide +kernel
theorem dX3_yOf_9 : decode cX3_yOf 9 = .ok (.aload_n 0, 1) := by decide +kernel
theorem dX3_yOf_10 : decode cX3_yOf 10 = .ok (.getfield 15, 3) := by decide +kernel
theorem dX3_yOf_13 : decode cX3_yOf 13 = .ok (.iload_n 1, 1) := by decide +kernel
theorem dX3_yOf_14 : decode cX3_yOf 14 = .ok (.iaload, 1) := by decide +kernel
theorem dX3_yOf_15 : decode cX3_yOf 15 = .ok (.goto 4, 3) := by decide +kernel
theorem dX3_yOf_18 : decode cX3_yOf 18 = .ok (.iconst 0, 1) := by decide +kernel
theorem dX3_yOf_19 : decode cX3_yOf 19 = .ok (.ireturn, 1) := by decide +kernel
theorem dX3_wOf_0 : decode cX3_wOf 0 = .ok (.iload_n 1, 1) := by decide +kernel
theorem dX3_wOf_1 : decode cX3_wOf 1 = .ok (.ifCond .lt 17, 3) := by decide +kernel
theorem dX3_wOf_4 : decode cX3_wOf 4 = .ok (.iload_n 1, 1) := by decide +kernel
theorem dX3_wOf_5 : decode cX3_wOf 5 = .ok (.iconst 5, 1) := by decide +kernel
theorem dX3_wOf_6 : decode cX3_wOf 6 = .ok (.if_icmp .ge 12, 3) := by decide +kernel
theorem dX3_wOf_9 : decode cX3_wOf 9 = .ok (.aload_n 0, 1) := by decide +kernel
theorem dX3_wOf_10 : decode cX3_wOf 10 = .ok (.getfield 18, 3) := by decide +kernel
theorem dX3_wOf_13 : decode cX3_wOf 13 = .ok (.iload_n 1, 1) := by decide +kernel
theorem dX3_wOf_14 : decode cX3_wOf 14 = .ok (.iaload, 1) := by decide +kernel
theorem dX3_wOf_15 : decode cX3_wOf 15 = .ok (.goto 4, 3) := by decide +kernel
theorem dX3_wOf_18 : decode cX3_wOf 18 = .ok (.iconst 0, 1) := by decide +kernel
theorem dX3_wOf_19 : decode cX3_wOf 19 = .ok (.ireturn, 1) := by decide +kernel
theorem dX3_putX_0 : decode cX3_putX 0 = .ok (.iload_n 1, 1) := by decide +kernel
theorem dX3_putX_1 : decode cX3_putX 1 = .ok (.ifCond .lt 15, 3) := by decide +kernel
theorem dX3_putX_4 : decode cX3_putX 4 = .ok (.iload_n 1, 1) := by decide +kernel
theorem dX3_putX_5 : decode cX3_putX 5 = .ok (.iconst 5, 1) := by decide +kernel
theorem dX3_putX_6 : decode cX3_putX 6 = .ok (.if_icmp .ge 10, 3) := by decide +kernel
theorem dX3_putX_9 : decode cX3_putX 9 = .ok (.aload_n 0, 1) := by decide +kernel
theorem dX3_putX_10 : decode cX3_putX 10 = .ok (.getfield 9, 3) := by decide +kernel
theorem dX3_putX_13 : decode cX3_putX 13 = .ok (.iload_n 1, 1) := by decide +kernel
theorem dX3_putX_14 : decode cX3_putX 14 = .ok (.iload_n 2, 1) := by decide +kernel
theorem dX3_putX_15 : decode cX3_putX 15 = .ok (.iastore, 1) := by decide +kernel
theorem dX3_putX_16 : decode cX3_putX 16 = .ok (.return_, 1) := by decide +kernel
theorem dX3_putY_0 : decode cX3_putY 0 = .ok (.iload_n 1, 1) := by decide +kernel
theorem dX3_putY_1 : decode cX3_putY 1 = .ok (.ifCond .lt 15, 3) := by decide +kernel
theorem dX3_putY_4 : decode cX3_putY 4 = .ok (.iload_n 1, 1) := by decide +kernel
theorem dX3_putY_5 : decode cX3_putY 5 = .ok (.iconst 5, 1) := by decide +kernel
theorem dX3_putY_6 : decode cX3_putY 6 = .ok (.if_icmp .ge 10, 3) := by decide +kernel
theorem dX3_putY_9 : decode cX3_putY 9 = .ok (.aload_n 0, 1) := by decide +kernel
theorem dX3_putY_10 : decode cX3_putY 10 = .ok (.getfield 15, 3) := by decide +kernel
theorem dX3_putY_13 : decode cX3_putY 13 = .ok (.iload_n 1, 1) := by decide +kernel
theorem dX3_putY_14 : decode cX3_putY 14 = .ok (.iload_n 2, 1) := by decide +kernel
theorem dX3_putY_15 : decode cX3_putY 15 = .ok (.iastore, 1) := by decide +kernel
theorem dX3_putY_16 : decode cX3_putY 16 = .ok (.return_, 1) := by decide +kernel
theorem dX3_putW_0 : decode cX3_putW 0 = .ok (.iload_n 1, 1) := by decide +kernel
theorem dX3_putW_1 : decode cX3_putW 1 = .ok (.ifCond .lt 15, 3) := by decide +kernel
theorem dX3_putW_4 : decode cX3_putW 4 = .ok (.iload_n 1, 1) := by decide +kernel
theorem dX3_putW_5 : decode cX3_putW 5 = .ok (.iconst 5, 1) := by decide +kernel
theorem dX3_putW_6 : decode cX3_putW 6 = .ok (.if_icmp .ge 10, 3) := by decide +kernel
theorem dX3_putW_9 : decode cX3_putW 9 = .ok (.aload_n 0, 1) := by decide +kernel
theorem dX3_putW_10 : decode cX3_putW 10 = .ok (.getfield 18, 3) := by decide +kernel
theorem dX3_putW_13 : decode cX3_putW 13 = .ok (.iload_n 1, 1) := by decide +kernel
theorem dX3_putW_14 : decode cX3_putW 14 = .ok (.iload_n 2, 1) := by decide +kernel
theorem dX3_putW_15 : decode cX3_putW 15 = .ok (.iastore, 1) := by decide +kernel
theorem dX3_putW_16 : decode cX3_putW 16 = .ok (.return_, 1) := by decide +kernel
theorem dX3_clear_0 : decode cX3_clear 0 = .ok (.aload_n 0, 1) := by decide +kernel
theorem dX3_clear_1 : decode cX3_clear 1 = .ok (.iconst 0, 1) := by decide +kernel
theorem dX3_clear_2 : decode cX3_clear 2 = .ok (.putfield 21, 3) := by decide +kernel
theorem dX3_clear_5 : decode cX3_clear 5 = .ok (.aload_n 0, 1) := by decide +kernel
theorem dX3_clear_6 : decode cX3_clear 6 = .ok (.iconst 0, 1) := by decide +kernel
theorem dX3_clear_7 : decode cX3_clear 7 = .ok (.putfield 25, 3) := by decide +kernel
theorem dX3_clear_10 : decode cX3_clear 10 = .ok (.aload_n 0, 1) := by decide +kernel
theorem dX3_clear_11 : decode cX3_clear 11 = .ok (.iconst 0, 1) := by decide +kernel
theorem dX3_clear_12 : decode cX3_clear 12 = .ok (.putfield 28, 3) := by decide +kernel
theorem dX3_clear_15 : decode cX3_clear 15 = .ok (.return_, 1) := by decide +kernel
theorem dX3_copyFrom_0 : decode cX3_copyFrom 0 = .ok (.iconst 0, 1) := by decide +kernel
theorem dX3_copyFrom_1 : decode cX3_copyFrom 1 = .ok (.istore_n 2, 1) := by decide +kernel
theorem dX3_copyFrom_2 : decode cX3_copyFrom 2 = .ok (.iload_n 2, 1) := by decide +kernel
theorem dX3_copyFrom_3 : decode cX3_copyFrom 3 = .ok (.iconst 5, 1) := by decide +kernel
theorem dX3_copyFrom_4 : decode cX3_copyFrom 4 = .ok (.if_icmp .ge 45, 3) := by decide +kernel
theorem dX3_copyFrom_7 : decode cX3_copyFrom 7 = .ok (.aload_n 0, 1) := by decide +kernel
theorem dX3_copyFrom_8 : decode cX3_copyFrom 8 = .ok (.getfield 9, 3) := by decide +kernel
theorem dX3_copyFrom_11 : decode cX3_copyFrom 11 = .ok (.iload_n 2, 1) := by decide +kernel
theorem dX3_copyFrom_12 : decode cX3_copyFrom 12 = .ok (.aload_n 1, 1) := by decide +kernel
theorem dX3_copyFrom_13 : decode cX3_copyFrom 13 = .ok (.getfield 9, 3) := by decide +kernel
theorem dX3_copyFrom_16 : decode cX3_copyFrom 16 = .ok (.iload_n 2, 1) := by decide +kernel
theorem dX3_copyFrom_17 : decode cX3_copyFrom 17 = .ok (.iaload, 1) := by decide +kernel
theorem dX3_copyFrom_18 : decode cX3_copyFrom 18 = .ok (.iastore, 1) := by decide +kernel
theorem dX3_copyFrom_19 : decode cX3_copyFrom 19 = .ok (.aload_n 0, 1) := by decide +kernel
theorem dX3_copyFrom_20 : decode cX3_copyFrom 20 = .ok (.getfield 15, 3) := by decide +kernel
theorem dX3_copyFrom_23 : decode cX3_copyFrom 23 = .ok (.iload_n 2, 1) := by decide +kernel
theorem dX3_copyFrom_24 : decode cX3_copyFrom 24 = .ok (.aload_n 1, 1) := by decide +kernel
theorem dX3_copyFrom_25 : decode cX3_copyFrom 25 = .ok (.getfield 15, 3) := by decide +kernel
theorem dX3_copyFrom_28 : decode cX3_copyFrom 28 = .ok (.iload_n 2, 1) := by decide +kernel
theorem dX3_copyFrom_29 : decode cX3_copyFrom 29 = .ok (.iaload, 1) := by decide +kernel
theorem dX3_copyFrom_30 : decode cX3_copyFrom 30 = .ok (.iastore, 1) := by decide +kernel
theorem dX3_copyFrom_31 : decode cX3_copyFrom 31 = .ok (.aload_n 0, 1) := by decide +kernel
theorem dX3_copyFrom_32 : decode cX3_copyFrom 32 = .ok (.getfield 18, 3) := by decide +kernel
theorem dX3_copyFrom_35 : decode cX3_copyFrom 35 = .ok (.iload_n 2, 1) := by decide +kernel
theorem dX3_copyFrom_36 : decode cX3_copyFrom 36 = .ok (.aload_n 1, 1) := by decide +kernel
theorem dX3_copyFrom_37 : decode cX3_copyFrom 37 = .ok (.getfield 18, 3) := by decide +kernel
theorem dX3_copyFrom_40 : decode cX3_copyFrom 40 = .ok (.iload_n 2, 1) := by decide +kernel
theorem dX3_copyFrom_41 : decode cX3_copyFrom 41 = .ok (.iaload, 1) := by decide +kernel
theorem dX3_copyFrom_42 : decode cX3_copyFrom 42 = .ok (.iastore, 1) := by decide +kernel
theorem dX3_copyFrom_43 : decode cX3_copyFrom 43 = .ok (.iinc 2 1, 3) := by decide +kernel
theorem dX3_copyFrom_46 : decode cX3_copyFrom 46 = .ok (.goto (-44), 3) := by decide +kernel
theorem dX3_copyFrom_49 : decode cX3_copyFrom 49 = .ok (.aload_n 0, 1) := by decide +kernel
theorem dX3_copyFrom_50 : decode cX3_copyFrom 50 = .ok (.aload_n 1, 1) := by decide +kernel
theorem dX3_copyFrom_51 : decode cX3_copyFrom 51 = .ok (.getfield 21, 3) := by decide +kernel
theorem dX3_copyFrom_54 : decode cX3_copyFrom 54 = .ok (.putfield 21, 3) := by decide +kernel
theorem dX3_copyFrom_57 : decode cX3_copyFrom 57 = .ok (.aload_n 0, 1) := by decide +kernel
theorem dX3_copyFrom_58 : decode cX3_copyFrom 58 = .ok (.aload_n 1, 1) := by decide +kernel
theorem dX3_copyFrom_59 : decode cX3_copyFrom 59 = .ok (.getfield 25, 3) := by decide +kernel
theorem dX3_copyFrom_62 : decode cX3_copyFrom 62 = .ok (.putfield 25, 3) := by decide +kernel
theorem dX3_copyFrom_65 : decode cX3_copyFrom 65 = .ok (.aload_n 0, 1) := by decide +kernel
theorem dX3_copyFrom_66 : decode cX3_copyFrom 66 = .ok (.aload_n 1, 1) := by decide +kernel
theorem dX3_copyFrom_67 : decode cX3_copyFrom 67 = .ok (.getfield 28, 3) := by decide +kernel
theorem dX3_copyFrom_70 : decode cX3_copyFrom 70 = .ok (.putfield 28, 3) := by decide +kernel
theorem dX3_copyFrom_73 : decode cX3_copyFrom 73 = .ok (.return_, 1) := by decide +kernel
theorem dX3_append_0 : decode cX3_append 0 = .ok (.aload_n 0, 1) := by decide +kernel
theorem dX3_append_1 : decode cX3_append 1 = .ok (.invokevirtual 31, 3) := by decide +kernel
theorem dX3_append_4 : decode cX3_append 4 = .ok (.ifCond .eq 4, 3) := by decide +kernel
theorem dX3_append_7 : decode cX3_append 7 = .ok (.return_, 1) := by decide +kernel
theorem dX3_append_8 : decode cX3_append 8 = .ok (.aload_n 0, 1) := by decide +kernel
theorem dX3_append_9 : decode cX3_append 9 = .ok (.dup, 1) := by decide +kernel
theorem dX3_append_10 : decode cX3_append 10 = .ok (.getfield 21, 3) := by decide +kernel
theorem dX3_append_13 : decode cX3_append 13 = .ok (.iconst 1, 1) := by decide +kernel
theorem dX3_append_14 : decode cX3_append 14 = .ok (.iadd, 1) := by decide +kernel
theorem dX3_append_15 : decode cX3_append 15 = .ok (.putfield 21, 3) := by decide +kernel
theorem dX3_append_18 : decode cX3_append 18 = .ok (.aload_n 0, 1) := by decide +kernel
theorem dX3_append_19 : decode cX3_append 19 = .ok (.aload_n 0, 1) := by decide +kernel
theorem dX3_append_20 : decode cX3_append 20 = .ok (.getfield 21, 3) := by decide +kernel
theorem dX3_append_23 : decode cX3_append 23 = .ok (.iconst 1, 1) := by decide +kernel
theorem dX3_append_24 : decode cX3_append 24 = .ok (.isub, 1) := by decide +kernel
theorem dX3_append_25 : decode cX3_append 25 = .ok (.iload_n 1, 1) := by decide +kernel
theorem dX3_append_26 : decode cX3_append 26 = .ok (.invokevirtual 35, 3) := by decide +kernel
theorem dX3_append_29 : decode cX3_append 29 = .ok (.aload_n 0, 1) := by decide +kernel
theorem dX3_append_30 : decode cX3_append 30 = .ok (.aload_n 0, 1) := by decide +kernel
theorem dX3_append_31 : decode cX3_append 31 = .ok (.getfield 21, 3) := by decide +kernel
theorem dX3_append_34 : decode cX3_append 34 = .ok (.iconst 1, 1) := by decide +kernel
theorem dX3_append_35 : decode cX3_append 35 = .ok (.isub, 1) := by decide +kernel
theorem dX3_append_36 : decode cX3_append 36 = .ok (.iload_n 2, 1) := by decide +kernel
theorem dX3_append_37 : decode cX3_append 37 = .ok (.invokevirtual 39, 3) := by decide +kernel
theorem dX3_append_40 : decode cX3_append 40 = .ok (.aload_n 0, 1) := by decide +kernel
theorem dX3_append_41 : decode cX3_append 41 = .ok (.aload_n 0, 1) := by decide +kernel
theorem dX3_append_42 : decode cX3_append 42 = .ok (.getfield 21, 3) := by decide +kernel
theorem dX3_append_45 : decode cX3_append 45 = .ok (.iconst 1, 1) := by decide +kernel
theorem dX3_append_46 : decode cX3_append 46 = .ok (.isub, 1) := by decide +kernel
theorem dX3_append_47 : decode cX3_append 47 = .ok (.iload_n 3, 1) := by decide +kernel
theorem dX3_append_48 : decode cX3_append 48 = .ok (.invokevirtual 42, 3) := by decide +kernel
theorem dX3_append_51 : decode cX3_append 51 = .ok (.return_, 1) := by decide +kernel
theorem dX3_find_0 : decode cX3_find 0 = .ok (.iconst 0, 1) := by decide +kernel
theorem dX3_find_1 : decode cX3_find 1 = .ok (.istore_n 2, 1) := by decide +kernel
theorem dX3_find_2 : decode cX3_find 2 = .ok (.iload_n 2, 1) := by decide +kernel
theorem dX3_find_3 : decode cX3_find 3 = .ok (.aload_n 0, 1) := by decide +kernel
theorem dX3_find_4 : decode cX3_find 4 = .ok (.getfield 21, 3) := by decide +kernel
theorem dX3_find_7 : decode cX3_find 7 = .ok (.if_icmp .ge 20, 3) := by decide +kernel
theorem dX3_find_10 : decode cX3_find 10 = .ok (.aload_n 0, 1) := by decide +kernel
theorem dX3_find_11 : decode cX3_find 11 = .ok (.iload_n 2, 1) := by decide +kernel
theorem dX3_find_12 : decode cX3_find 12 = .ok (.invokevirtual 49, 3) := by decide +kernel
theorem dX3_find_15 : decode cX3_find 15 = .ok (.iload_n 1, 1) := by decide +kernel
theorem dX3_find_16 : decode cX3_find 16 = .ok (.if_icmp .ne 5, 3) := by decide +kernel
theorem dX3_find_19 : decode cX3_find 19 = .ok (.iload_n 2, 1) := by decide +kernel
theorem dX3_find_20 : decode cX3_find 20 = .ok (.ireturn, 1) := by decide +kernel
theorem dX3_find_21 : decode cX3_find 21 = .ok (.iinc 2 1, 3) := by decide +kernel
theorem dX3_find_24 : decode cX3_find 24 = .ok (.goto (-22), 3) := by decide +kernel
theorem dX3_find_27 : decode cX3_find 27 = .ok (.iconst (-1), 1) := by decide +kernel
theorem dX3_find_28 : decode cX3_find 28 = .ok (.ireturn, 1) := by decide +kernel
theorem dX3_placeOf_0 : decode cX3_placeOf 0 = .ok (.iconst 0, 1) := by decide +kernel
theorem dX3_placeOf_1 : decode cX3_placeOf 1 = .ok (.istore_n 2, 1) := by decide +kernel
theorem dX3_placeOf_2 : decode cX3_placeOf 2 = .ok (.iconst 0, 1) := by decide +kernel
theorem dX3_placeOf_3 : decode cX3_placeOf 3 = .ok (.istore_n 3, 1) := by decide +kernel
theorem dX3_placeOf_4 : decode cX3_placeOf 4 = .ok (.iload_n 3, 1) := by decide +kernel
theorem dX3_placeOf_5 : decode cX3_placeOf 5 = .ok (.aload_n 0, 1) := by decide +kernel
theorem dX3_placeOf_6 : decode cX3_placeOf 6 = .ok (.getfield 21, 3) := by decide +kernel
theorem dX3_placeOf_9 : decode cX3_placeOf 9 = .ok (.if_icmp .ge 25, 3) := by decide +kernel
theorem dX3_placeOf_12 : decode cX3_placeOf 12 = .ok (.aload_n 0, 1) := by decide +kernel
theorem dX3_placeOf_13 : decode cX3_placeOf 13 = .ok (.iload_n 3, 1) := by decide +kernel
theorem dX3_placeOf_14 : decode cX3_placeOf 14 = .ok (.invokevirtual 49, 3) := by decide +kernel
theorem dX3_placeOf_17 : decode cX3_placeOf 17 = .ok (.aload_n 0, 1) := by decide +kernel
theorem dX3_placeOf_18 : decode cX3_placeOf 18 = .ok (.iload_n 1, 1) := by decide +kernel
theorem dX3_placeOf_19 : decode cX3_placeOf 19 = .ok (.invokevirtual 49, 3) := by decide +kernel
theorem dX3_placeOf_22 : decode cX3_placeOf 22 = .ok (.if_icmp .ge 6, 3) := by decide +kernel
theorem dX3_placeOf_25 : decode cX3_placeOf 25 = .ok (.iinc 2 1, 3) := by decide +kernel
theorem dX3_placeOf_28 : decode cX3_placeOf 28 = .ok (.iinc 3 1, 3) := by decide +kernel
theorem dX3_placeOf_31 : decode cX3_placeOf 31 = .ok (.goto (-27), 3) := by decide +kernel
theorem dX3_placeOf_34 : decode cX3_placeOf 34 = .ok (.iload_n 2, 1) := by decide +kernel
theorem dX3_placeOf_35 : decode cX3_placeOf 35 = .ok (.ireturn, 1) := by decide +kernel
theorem dX3_putDivided_0 : decode cX3_putDivided 0 = .ok (.aload_n 3, 1) := by decide +kernel
theorem dX3_putDivided_1 : decode cX3_putDivided 1 = .ok (.lconst 0, 1) := by decide +kernel
theorem dX3_putDivided_2 : decode cX3_putDivided 2 = .ok (.lconst 1, 1) := by decide +kernel
theorem dX3_putDivided_3 : decode cX3_putDivided 3 = .ok (.invokevirtual 62, 3) := by decide +kernel
theorem dX3_putDivided_6 : decode cX3_putDivided 6 = .ok (.iload_n 1, 1) := by decide +kernel
theorem dX3_putDivided_7 : decode cX3_putDivided 7 = .ok (.istore 4, 2) := by decide +kernel
theorem dX3_putDivided_9 : decode cX3_putDivided 9 = .ok (.iload 4, 2) := by decide +kernel
theorem dX3_putDivided_11 : decode cX3_putDivided 11 = .ok (.iload_n 2, 1) := by decide +kernel
theorem dX3_putDivided_12 : decode cX3_putDivided 12 = .ok (.if_icmp .gt 66, 3) := by decide +kernel
theorem dX3_putDivided_15 : decode cX3_putDivided 15 = .ok (.lconst 1, 1) := by decide +kernel
theorem dX3_putDivided_16 : decode cX3_putDivided 16 = .ok (.lstore 5, 2) := by decide +kernel
theorem dX3_putDivided_18 : decode cX3_putDivided 18 = .ok (.iload_n 1, 1) := by decide +kernel
theorem dX3_putDivided_19 : decode cX3_putDivided 19 = .ok (.istore 7, 2) := by decide +kernel
theorem dX3_putDivided_21 : decode cX3_putDivided 21 = .ok (.iload 7, 2) := by decide +kernel
theorem dX3_putDivided_23 : decode cX3_putDivided 23 = .ok (.iload_n 2, 1) := by decide +kernel
theorem dX3_putDivided_24 : decode cX3_putDivided 24 = .ok (.if_icmp .gt 35, 3) := by decide +kernel
theorem dX3_putDivided_27 : decode cX3_putDivided 27 = .ok (.iload 7, 2) := by decide +kernel
theorem dX3_putDivided_29 : decode cX3_putDivided 29 = .ok (.iload 4, 2) := by decide +kernel
theorem dX3_putDivided_31 : decode cX3_putDivided 31 = .ok (.if_icmp .eq 22, 3) := by decide +kernel
theorem dX3_putDivided_34 : decode cX3_putDivided 34 = .ok (.lload 5, 2) := by decide +kernel
theorem dX3_putDivided_36 : decode cX3_putDivided 36 = .ok (.aload_n 0, 1) := by decide +kernel
theorem dX3_putDivided_37 : decode cX3_putDivided 37 = .ok (.iload 4, 2) := by decide +kernel
theorem dX3_putDivided_39 : decode cX3_putDivided 39 = .ok (.invokevirtual 49, 3) := by decide +kernel
theorem dX3_putDivided_42 : decode cX3_putDivided 42 = .ok (.aload_n 0, 1) := by decide +kernel
theorem dX3_putDivided_43 : decode cX3_putDivided 43 = .ok (.iload 7, 2) := by decide +kernel
theorem dX3_putDivided_45 : decode cX3_putDivided 45 = .ok (.invokevirtual 49, 3) := by decide +kernel
theorem dX3_putDivided_48 : decode cX3_putDivided 48 = .ok (.isub, 1) := by decide +kernel
theorem dX3_putDivided_49 : decode cX3_putDivided 49 = .ok (.i2l, 1) := by decide +kernel
theorem dX3_putDivided_50 : decode cX3_putDivided 50 = .ok (.lmul, 1) := by decide +kernel
theorem dX3_putDivided_51 : decode cX3_putDivided 51 = .ok (.lstore 5, 2) := by decide +kernel
theorem dX3_putDivided_53 : decode cX3_putDivided 53 = .ok (.iinc 7 1, 3) := by decide +kernel
theorem dX3_putDivided_56 : decode cX3_putDivided 56 = .ok (.goto (-35), 3) := by decide +kernel
theorem dX3_putDivided_59 : decode cX3_putDivided 59 = .ok (.aload_n 3, 1) := by decide +kernel
theorem dX3_putDivided_60 : decode cX3_putDivided 60 = .ok (.aload_n 0, 1) := by decide +kernel
theorem dX3_putDivided_61 : decode cX3_putDivided 61 = .ok (.iload 4, 2) := by decide +kernel
theorem dX3_putDivided_63 : decode cX3_putDivided 63 = .ok (.invokevirtual 53, 3) := by decide +kernel
theorem dX3_putDivided_66 : decode cX3_putDivided 66 = .ok (.i2l, 1) := by decide +kernel
theorem dX3_putDivided_67 : decode cX3_putDivided 67 = .ok (.lload 5, 2) := by decide +kernel
theorem dX3_putDivided_69 : decode cX3_putDivided 69 = .ok (.invokevirtual 68, 3) := by decide +kernel
theorem dX3_putDivided_72 : decode cX3_putDivided 72 = .ok (.iinc 4 1, 3) := by decide +kernel
theorem dX3_putDivided_75 : decode cX3_putDivided 75 = .ok (.goto (-66), 3) := by decide +kernel
theorem dX3_putDivided_78 : decode cX3_putDivided 78 = .ok (.return_, 1) := by decide +kernel
theorem dX4_init_0 : decode cX4_init 0 = .ok (.aload_n 0, 1) := by decide +kernel
theorem dX4_init_1 : decode cX4_init 1 = .ok (.invokespecial 3, 3) := by decide +kernel
theorem dX4_init_4 : decode cX4_init 4 = .ok (.aload_n 0, 1) := by decide +kernel
theorem dX4_init_5 : decode cX4_init 5 = .ok (.sipush 320, 3) := by decide +kernel
theorem dX4_init_8 : decode cX4_init 8 = .ok (.newarray .char, 2) := by decide +kernel
theorem dX4_init_10 : decode cX4_init 10 = .ok (.putfield 9, 3) := by decide +kernel
theorem dX4_init_13 : decode cX4_init 13 = .ok (.aload_n 0, 1) := by decide +kernel
theorem dX4_init_14 : decode cX4_init 14 = .ok (.iconst 0, 1) := by decide +kernel
theorem dX4_init_15 : decode cX4_init 15 = .ok (.putfield 15, 3) := by decide +kernel
theorem dX4_init_18 : decode cX4_init 18 = .ok (.return_, 1) := by decide +kernel
theorem dX5_init_0 : decode cX5_init 0 = .ok (.aload_n 0, 1) := by decide +kernel
theorem dX5_init_1 : decode cX5_init 1 = .ok (.invokespecial 3, 3) := by decide +kernel
theorem dX5_init_4 : decode cX5_init 4 = .ok (.aload_n 0, 1) := by decide +kernel
theorem dX5_init_5 : decode cX5_init 5 = .ok (.sipush 400, 3) := by decide +kernel
theorem dX5_init_8 : decode cX5_init 8 = .ok (.newarray .int, 2) := by decide +kernel
theorem dX5_init_10 : decode cX5_init 10 = .ok (.putfield 9, 3) := by decide +kernel
theorem dX5_init_13 : decode cX5_init 13 = .ok (.aload_n 0, 1) := by decide +kernel
theorem dX5_init_14 : decode cX5_init 14 = .ok (.iconst 0, 1) := by decide +kernel
theorem dX5_init_15 : decode cX5_init 15 = .ok (.putfield 15, 3) := by decide +kernel
theorem dX5_init_18 : decode cX5_init 18 = .ok (.aload_n 0, 1) := by decide +kernel
theorem dX5_init_19 : decode cX5_init 19 = .ok (.iconst 0, 1) := by decide +kernel
theorem dX5_init_20 : decode cX5_init 20 = .ok (.putfield 19, 3) := by decide +kernel
theorem dX5_init_23 : decode cX5_init 23 = .ok (.aload_n 0, 1) := by decide +kernel
theorem dX5_init_24 : decode cX5_init 24 = .ok (.iconst 5, 1) := by decide +kernel
theorem dX5_init_25 : decode cX5_init 25 = .ok (.putfield 22, 3) := by decide +kernel
theorem dX5_init_28 : decode cX5_init 28 = .ok (.aload_n 0, 1) := by decide +kernel
theorem dX5_init_29 : decode cX5_init 29 = .ok (.iconst 0, 1) := by decide +kernel
theorem dX5_init_30 : decode cX5_init 30 = .ok (.putfield 25, 3) := by decide +kernel
theorem dX5_init_33 : decode cX5_init 33 = .ok (.aload_n 0, 1) := by decide +kernel
theorem dX5_init_34 : decode cX5_init 34 = .ok (.iconst 0, 1) := by decide +kernel
theorem dX5_init_35 : decode cX5_init 35 = .ok (.putfield 28, 3) := by decide +kernel
theorem dX5_init_38 : decode cX5_init 38 = .ok (.aload_n 0, 1) := by decide +kernel
theorem dX5_init_39 : decode cX5_init 39 = .ok (.iconst 0, 1) := by decide +kernel
theorem dX5_init_40 : decode cX5_init 40 = .ok (.putfield 31, 3) := by decide +kernel
theorem dX5_init_43 : decode cX5_init 43 = .ok (.aload_n 0, 1) := by decide +kernel
theorem dX5_init_44 : decode cX5_init 44 = .ok (.iconst (-1), 1) := by decide +kernel
theorem dX5_init_45 : decode cX5_init 45 = .ok (.putfield 34, 3) := by decide +kernel
theorem dX5_init_48 : decode cX5_init 48 = .ok (.return_, 1) := by decide +kernel
theorem dX5_filled_0 : decode cX5_filled 0 = .ok (.aload_n 0, 1) := by decide +kernel
theorem dX5_filled_1 : decode cX5_filled 1 = .ok (.getfield 15, 3) := by decide +kernel
theorem dX5_filled_4 : decode cX5_filled 4 = .ok (.ireturn, 1) := by decide +kernel
theorem dX5_hasRoomFor_0 : decode cX5_hasRoomFor 0 = .ok (.aload_n 0, 1) := by decide +kernel
theorem dX5_hasRoomFor_1 : decode cX5_hasRoomFor 1 = .ok (.getfield 15, 3) := by decide +kernel
theorem dX5_hasRoomFor_4 : decode cX5_hasRoomFor 4 = .ok (.iload_n 1, 1) := by decide +kernel
theorem dX5_hasRoomFor_5 : decode cX5_hasRoomFor 5 = .ok (.iadd, 1) := by decide +kernel
theorem dX5_hasRoomFor_6 : decode cX5_hasRoomFor 6 = .ok (.sipush 400, 3) := by decide +kernel
theorem dX5_hasRoomFor_9 : decode cX5_hasRoomFor 9 = .ok (.if_icmp .gt 7, 3) := by decide +kernel
theorem dX5_hasRoomFor_12 : decode cX5_hasRoomFor 12 = .ok (.iconst 1, 1) := by decide +kernel
theorem dX5_hasRoomFor_13 : decode cX5_hasRoomFor 13 = .ok (.goto 4, 3) := by decide +kernel
theorem dX5_hasRoomFor_16 : decode cX5_hasRoomFor 16 = .ok (.iconst 0, 1) := by decide +kernel
theorem dX5_hasRoomFor_17 : decode cX5_hasRoomFor 17 = .ok (.ireturn, 1) := by decide +kernel
theorem dX5_append_0 : decode cX5_append 0 = .ok (.bipush 24, 2) := by decide +kernel
theorem dX5_append_2 : decode cX5_append 2 = .ok (.istore_n 2, 1) := by decide +kernel
theorem dX5_append_3 : decode cX5_append 3 = .ok (.iload_n 2, 1) := by decide +kernel
theorem dX5_append_4 : decode cX5_append 4 = .ok (.ifCond .lt 45, 3) := by decide +kernel
theorem dX5_append_7 : decode cX5_append 7 = .ok (.aload_n 0, 1) := by decide +kernel
theorem dX5_append_8 : decode cX5_append 8 = .ok (.getfield 15, 3) := by decide +kernel
theorem dX5_append_11 : decode cX5_append 11 = .ok (.sipush 400, 3) := by decide +kernel
theorem dX5_append_14 : decode cX5_append 14 = .ok (.if_icmp .ge 35, 3) := by decide +kernel
theorem dX5_append_17 : decode cX5_append 17 = .ok (.aload_n 0, 1) := by decide +kernel
theorem dX5_append_18 : decode cX5_append 18 = .ok (.getfield 9, 3) := by decide +kernel
theorem dX5_append_21 : decode cX5_append 21 = .ok (.aload_n 0, 1) := by decide +kernel
theorem dX5_append_22 : decode cX5_append 22 = .ok (.getfield 15, 3) := by decide +kernel
theorem dX5_append_25 : decode cX5_append 25 = .ok (.iload_n 1, 1) := by decide +kernel
theorem dX5_append_26 : decode cX5_append 26 = .ok (.iload_n 2, 1) := by decide +kernel
theorem dX5_append_27 : decode cX5_append 27 = .ok (.iushr, 1) := by decide +kernel
theorem dX5_append_28 : decode cX5_append 28 = .ok (.sipush 255, 3) := by decide +kernel
theorem dX5_append_31 : decode cX5_append 31 = .ok (.iand, 1) := by decide +kernel
theorem dX5_append_32 : decode cX5_append 32 = .ok (.iastore, 1) := by decide +kernel
theorem dX5_append_33 : decode cX5_append 33 = .ok (.aload_n 0, 1) := by decide +kernel
theorem dX5_append_34 : decode cX5_append 34 = .ok (.dup, 1) := by decide +kernel
theorem dX5_append_35 : decode cX5_append 35 = .ok (.getfield 15, 3) := by decide +kernel
theorem dX5_append_38 : decode cX5_append 38 = .ok (.iconst 1, 1) := by decide +kernel
theorem dX5_append_39 : decode cX5_append 39 = .ok (.iadd, 1) := by decide +kernel
theorem dX5_append_40 : decode cX5_append 40 = .ok (.putfield 15, 3) := by decide +kernel
theorem dX5_append_43 : decode cX5_append 43 = .ok (.iinc 2 (-8), 3) := by decide +kernel
theorem dX5_append_46 : decode cX5_append 46 = .ok (.goto (-43), 3) := by decide +kernel
theorem dX5_append_49 : decode cX5_append 49 = .ok (.return_, 1) := by decide +kernel
theorem dX5_clear_0 : decode cX5_clear 0 = .ok (.aload_n 0, 1) := by decide +kernel
theorem dX5_clear_1 : decode cX5_clear 1 = .ok (.iconst 0, 1) := by decide +kernel
theorem dX5_clear_2 : decode cX5_clear 2 = .ok (.putfield 15, 3) := by decide +kernel
theorem dX5_clear_5 : decode cX5_clear 5 = .ok (.return_, 1) := by decide +kernel
theorem dX5_faultKind_0 : decode cX5_faultKind 0 = .ok (.aload_n 0, 1) := by decide +kernel
theorem dX5_faultKind_1 : decode cX5_faultKind 1 = .ok (.getfield 31, 3) := by decide +kernel
theorem dX5_faultKind_4 : decode cX5_faultKind 4 = .ok (.ireturn, 1) := by decide +kernel
theorem dX5_read_0 : decode cX5_read 0 = .ok (.aload_n 0, 1) := by decide +kernel
theorem dX5_read_1 : decode cX5_read 1 = .ok (.iload_n 1, 1) := by decide +kernel
theorem dX5_read_2 : decode cX5_read 2 = .ok (.putfield 19, 3) := by decide +kernel
theorem dX5_read_5 : decode cX5_read 5 = .ok (.aload_n 0, 1) := by decide +kernel
theorem dX5_read_6 : decode cX5_read 6 = .ok (.iconst 0, 1) := by decide +kernel
theorem dX5_read_7 : decode cX5_read 7 = .ok (.putfield 28, 3) := by decide +kernel
theorem dX5_read_10 : decode cX5_read 10 = .ok (.aload_n 0, 1) := by decide +kernel
theorem dX5_read_11 : decode cX5_read 11 = .ok (.iconst 0, 1) := by decide +kernel
theorem dX5_read_12 : decode cX5_read 12 = .ok (.putfield 31, 3) := by decide +kernel
theorem dX5_read_15 : decode cX5_read 15 = .ok (.aload_n 0, 1) := by decide +kernel
theorem dX5_read_16 : decode cX5_read 16 = .ok (.iconst (-1), 1) := by decide +kernel
theorem dX5_read_17 : decode cX5_read 17 = .ok (.putfield 34, 3) := by decide +kernel
theorem dX5_read_20 : decode cX5_read 20 = .ok (.aload_n 2, 1) := by decide +kernel
theorem dX5_read_21 : decode cX5_read 21 = .ok (.invokevirtual 37, 3) := by decide +kernel
theorem dX5_read_24 : decode cX5_read 24 = .ok (.iconst 1, 1) := by decide +kernel
theorem dX5_read_25 : decode cX5_read 25 = .ok (.istore_n 3, 1) := by decide +kernel
theorem dX5_read_26 : decode cX5_read 26 = .ok (.iconst 0, 1) := by decide +kernel
theorem dX5_read_27 : decode cX5_read 27 = .ok (.istore 4, 2) := by decide +kernel
theorem dX5_read_29 : decode cX5_read 29 = .ok (.iload 4, 2) := by decide +kernel
theorem dX5_read_31 : decode cX5_read 31 = .ok (.sipush 400, 3) := by decide +kernel
theorem dX5_read_34 : decode cX5_read 34 = .ok (.if_icmp .gt 39, 3) := by decide +kernel
theorem dX5_read_37 : decode cX5_read 37 = .ok (.iload_n 3, 1) := by decide +kernel
theorem dX5_read_38 : decode cX5_read 38 = .ok (.ifCond .eq 35, 3) := by decide +kernel
theorem dX5_read_41 : decode cX5_read 41 = .ok (.aload_n 0, 1) := by decide +kernel
theorem dX5_read_42 : decode cX5_read 42 = .ok (.invokevirtual 42, 3) := by decide +kernel
theorem dX5_read_45 : decode cX5_read 45 = .ok (.aload_n 0, 1) := by decide +kernel
theorem dX5_read_46 : decode cX5_read 46 = .ok (.getfield 22, 3) := by decide +kernel
theorem dX5_read_49 : decode cX5_read 49 = .ok (.iconst 5, 1) := by decide +kernel
theorem dX5_read_50 : decode cX5_read 50 = .ok (.if_icmp .eq 15, 3) := by decide +kernel
theorem dX5_read_53 : decode cX5_read 53 = .ok (.aload_n 0, 1) := by decide +kernel
theorem dX5_read_54 : decode cX5_read 54 = .ok (.aload_n 2, 1) := by decide +kernel
theorem dX5_read_55 : decode cX5_read 55 = .ok (.invokevirtual 45, 3) := by decide +kernel
theorem dX5_read_58 : decode cX5_read 58 = .ok (.ifCond .eq 7, 3) := by decide +kernel
theorem dX5_read_61 : decode cX5_read 61 = .ok (.iconst 1, 1) := by decide +kernel
theorem dX5_read_62 : decode cX5_read 62 = .ok (.goto 4, 3) := by decide +kernel
theorem dX5_read_65 : decode cX5_read 65 = .ok (.iconst 0, 1) := by decide +kernel
theorem dX5_read_66 : decode cX5_read 66 = .ok (.istore_n 3, 1) := by decide +kernel
theorem dX5_read_67 : decode cX5_read 67 = .ok (.iinc 4 1, 3) := by decide +kernel
theorem dX5_read_70 : decode cX5_read 70 = .ok (.goto (-41), 3) := by decide +kernel
theorem dX5_read_73 : decode cX5_read 73 = .ok (.aload_n 0, 1) := by decide +kernel
theorem dX5_read_74 : decode cX5_read 74 = .ok (.getfield 31, 3) := by decide +kernel
theorem dX5_read_77 : decode cX5_read 77 = .ok (.ifCond .ne 7, 3) := by decide +kernel
theorem dX5_read_80 : decode cX5_read 80 = .ok (.iconst 1, 1) := by decide +kernel
theorem dX5_read_81 : decode cX5_read 81 = .ok (.goto 4, 3) := by decide +kernel
theorem dX5_read_84 : decode cX5_read 84 = .ok (.iconst 0, 1) := by decide +kernel
theorem dX5_read_85 : decode cX5_read 85 = .ok (.ireturn, 1) := by decide +kernel
theorem dX5_readStatement_0 : decode cX5_readStatement 0 = .ok (.aload_n 0, 1) := by decide +kernel
theorem dX5_readStatement_1 : decode cX5_readStatement 1 = .ok (.ldc 49, 2) := by decide +kernel
theorem dX5_readStatement_3 : decode cX5_readStatement 3 = .ok (.invokevirtual 51, 3) := by decide +kernel
theorem dX5_readStatement_6 : decode cX5_readStatement 6 = .ok (.ifCond .eq 9, 3) := by decide +kernel
theorem dX5_readStatement_9 : decode cX5_readStatement 9 = .ok (.aload_n 0, 1) := by decide +kernel
theorem dX5_readStatement_10 : decode cX5_readStatement 10 = .ok (.aload_n 1, 1) := by decide +kernel
theorem dX5_readStatement_11 : decode cX5_readStatement 11 = .ok (.invokevirtual 55, 3) := by decide +kernel
theorem dX5_readStatement_14 : decode cX5_readStatement 14 = .ok (.ireturn, 1) := by decide +kernel
theorem dX5_readStatement_15 : decode cX5_readStatement 15 = .ok (.aload_n 0, 1) := by decide +kernel
theorem dX5_readStatement_16 : decode cX5_readStatement 16 = .ok (.ldc 58, 2) := by decide +kernel
theorem dX5_readStatement_18 : decode cX5_readStatement 18 = .ok (.invokevirtual 51, 3) := by decide +kernel
theorem dX5_readStatement_21 : decode cX5_readStatement 21 = .ok (.ifCond .eq 11, 3) := by decide +kernel
theorem dX5_readStatement_24 : decode cX5_readStatement 24 = .ok (.aload_n 1, 1) := by decide +kernel
theorem dX5_readStatement_25 : decode cX5_readStatement 25 = .ok (.iconst 0, 1) := by decide +kernel
theorem dX5_readStatement_26 : decode cX5_readStatement 26 = .ok (.putfield 60, 3) := by decide +kernel
theorem dX5_readStatement_29 : decode cX5_readStatement 29 = .ok (.goto 56, 3) := by decide +kernel
theorem dX5_readStatement_32 : decode cX5_readStatement 32 = .ok (.aload_n 0, 1) := by decide +kernel
theorem dX5_readStatement_33 : decode cX5_readStatement 33 = .ok (.ldc 63, 2) := by decide +kernel
theorem dX5_readStatement_35 : decode cX5_readStatement 35 = .ok (.invokevirtual 51, 3) := by decide +kernel
theorem dX5_readStatement_38 : decode cX5_readStatement 38 = .ok (.ifCond .eq 11, 3) := by decide +kernel
theorem dX5_readStatement_41 : decode cX5_readStatement 41 = .ok (.aload_n 1, 1) := by decide +kernel
theorem dX5_readStatement_42 : decode cX5_readStatement 42 = .ok (.iconst 2, 1) := by decide +kernel
theorem dX5_readStatement_43 : decode cX5_readStatement 43 = .ok (.putfield 60, 3) := by decide +kernel
theorem dX5_readStatement_46 : decode cX5_readStatement 46 = .ok (.goto 39, 3) := by decide +kernel
theorem dX5_readStatement_49 : decode cX5_readStatement 49 = .ok (.aload_n 0, 1) := by decide +kernel
theorem dX5_readStatement_50 : decode cX5_readStatement 50 = .ok (.ldc 65, 2) := by decide +kernel
theorem dX5_readStatement_52 : decode cX5_readStatement 52 = .ok (.invokevirtual 51, 3) := by decide +kernel
theorem dX5_readStatement_55 : decode cX5_readStatement 55 = .ok (.ifCond .eq 24, 3) := by decide +kernel
theorem dX5_readStatement_58 : decode cX5_readStatement 58 = .ok (.aload_n 1, 1) := by decide +kernel
theorem dX5_readStatement_59 : decode cX5_readStatement 59 = .ok (.iconst 1, 1) := by decide +kernel
theorem dX5_readStatement_60 : decode cX5_readStatement 60 = .ok (.putfield 60, 3) := by decide +kernel
theorem dX5_readStatement_63 : decode cX5_readStatement 63 = .ok (.aload_n 0, 1) := by decide +kernel
theorem dX5_readStatement_64 : decode cX5_readStatement 64 = .ok (.invokevirtual 42, 3) := by decide +kernel
theorem dX5_readStatement_67 : decode cX5_readStatement 67 = .ok (.aload_n 1, 1) := by decide +kernel
theorem dX5_readStatement_68 : decode cX5_readStatement 68 = .ok (.aload_n 0, 1) := by decide +kernel
theorem dX5_readStatement_69 : decode cX5_readStatement 69 = .ok (.iconst 4, 1) := by decide +kernel
theorem dX5_readStatement_70 : decode cX5_readStatement 70 = .ok (.invokevirtual 67, 3) := by decide +kernel
theorem dX5_readStatement_73 : decode cX5_readStatement 73 = .ok (.putfield 71, 3) := by decide +kernel
theorem dX5_readStatement_76 : decode cX5_readStatement 76 = .ok (.goto 9, 3) := by decide +kernel
theorem dX5_readStatement_79 : decode cX5_readStatement 79 = .ok (.aload_n 0, 1) := by decide +kernel
theorem dX5_readStatement_80 : decode cX5_readStatement 80 = .ok (.iconst 2, 1) := by decide +kernel
theorem dX5_readStatement_81 : decode cX5_readStatement 81 = .ok (.invokevirtual 74, 3) := by decide +kernel
theorem dX5_readStatement_84 : decode cX5_readStatement 84 = .ok (.ireturn, 1) := by decide +kernel
theorem dX5_readStatement_85 : decode cX5_readStatement 85 = .ok (.aload_n 0, 1) := by decide +kernel
theorem dX5_readStatement_86 : decode cX5_readStatement 86 = .ok (.getfield 31, 3) := by decide +kernel
theorem dX5_readStatement_89 : decode cX5_readStatement 89 = .ok (.ifCond .ne 14, 3) := by decide +kernel
theorem dX5_readStatement_92 : decode cX5_readStatement 92 = .ok (.aload_n 0, 1) := by decide +kernel
theorem dX5_readStatement_93 : decode cX5_readStatement 93 = .ok (.invokevirtual 78, 3) := by decide +kernel
theorem dX5_readStatement_96 : decode cX5_readStatement 96 = .ok (.ifCond .eq 7, 3) := by decide +kernel
theorem dX5_readStatement_99 : decode cX5_readStatement 99 = .ok (.iconst 1, 1) := by decide +kernel
theorem dX5_readStatement_100 : decode cX5_readStatement 100 = .ok (.goto 4, 3) := by decide +kernel
theorem dX5_readStatement_103 : decode cX5_readStatement 103 = .ok (.iconst 0, 1) := by decide +kernel
theorem dX5_readStatement_104 : decode cX5_readStatement 104 = .ok (.ireturn, 1) := by decide +kernel
theorem dX5_readPoint_0 : decode cX5_readPoint 0 = .ok (.aload_n 1, 1) := by decide +kernel
theorem dX5_readPoint_1 : decode cX5_readPoint 1 = .ok (.invokevirtual 82, 3) := by decide +kernel
theorem dX5_readPoint_4 : decode cX5_readPoint 4 = .ok (.ifCond .eq 9, 3) := by decide +kernel
theorem dX5_readPoint_7 : decode cX5_readPoint 7 = .ok (.aload_n 0, 1) := by decide +kernel
theorem dX5_readPoint_8 : decode cX5_readPoint 8 = .ok (.iconst 5, 1) := by decide +kernel
theorem dX5_readPoint_9 : decode cX5_readPoint 9 = .ok (.invokevirtual 74, 3) := by decide +kernel
theorem dX5_readPoint_12 : decode cX5_readPoint 12 = .ok (.ireturn, 1) := by decide +kernel
theorem dX5_readPoint_13 : decode cX5_readPoint 13 = .ok (.aload_n 0, 1) := by decide +kernel
theorem dX5_readPoint_14 : decode cX5_readPoint 14 = .ok (.bipush 9, 2) := by decide +kernel
theorem dX5_readPoint_16 : decode cX5_readPoint 16 = .ok (.invokevirtual 85, 3) := by decide +kernel
theorem dX5_readPoint_19 : decode cX5_readPoint 19 = .ok (.istore_n 2, 1) := by decide +kernel
theorem dX5_readPoint_20 : decode cX5_readPoint 20 = .ok (.aload_n 0, 1) := by decide +kernel
theorem dX5_readPoint_21 : decode cX5_readPoint 21 = .ok (.getfield 31, 3) := by decide +kernel
theorem dX5_readPoint_24 : decode cX5_readPoint 24 = .ok (.ifCond .ne 18, 3) := by decide +kernel
theorem dX5_readPoint_27 : decode cX5_readPoint 27 = .ok (.aload_n 1, 1) := by decide +kernel
theorem dX5_readPoint_28 : decode cX5_readPoint 28 = .ok (.iload_n 2, 1) := by decide +kernel
theorem dX5_readPoint_29 : decode cX5_readPoint 29 = .ok (.invokevirtual 88, 3) := by decide +kernel
theorem dX5_readPoint_32 : decode cX5_readPoint 32 = .ok (.iconst (-1), 1) := by decide +kernel
theorem dX5_readPoint_33 : decode cX5_readPoint 33 = .ok (.if_icmp .eq 9, 3) := by decide +kernel
theorem dX5_readPoint_36 : decode cX5_readPoint 36 = .ok (.aload_n 0, 1) := by decide +kernel
theorem dX5_readPoint_37 : decode cX5_readPoint 37 = .ok (.iconst 4, 1) := by decide +kernel
theorem dX5_readPoint_38 : decode cX5_readPoint 38 = .ok (.invokevirtual 74, 3) := by decide +kernel
theorem dX5_readPoint_41 : decode cX5_readPoint 41 = .ok (.ireturn, 1) := by decide +kernel
theorem dX5_readPoint_42 : decode cX5_readPoint 42 = .ok (.aload_n 0, 1) := by decide +kernel
theorem dX5_readPoint_43 : decode cX5_readPoint 43 = .ok (.getfield 31, 3) := by decide +kernel
theorem dX5_readPoint_46 : decode cX5_readPoint 46 = .ok (.ifCond .ne 12, 3) := by decide +kernel
theorem dX5_readPoint_49 : decode cX5_readPoint 49 = .ok (.aload_n 0, 1) := by decide +kernel
theorem dX5_readPoint_50 : decode cX5_readPoint 50 = .ok (.bipush 20, 2) := by decide +kernel
theorem dX5_readPoint_52 : decode cX5_readPoint 52 = .ok (.invokevirtual 85, 3) := by decide +kernel
theorem dX5_readPoint_55 : decode cX5_readPoint 55 = .ok (.goto 4, 3) := by decide +kernel
theorem dX5_readPoint_58 : decode cX5_readPoint 58 = .ok (.iconst 0, 1) := by decide +kernel
theorem dX5_readPoint_59 : decode cX5_readPoint 59 = .ok (.istore_n 3, 1) := by decide +kernel
theorem dX5_readPoint_60 : decode cX5_readPoint 60 = .ok (.aload_n 0, 1) := by decide +kernel
theorem dX5_readPoint_61 : decode cX5_readPoint 61 = .ok (.getfield 31, 3) := by decide +kernel
theorem dX5_readPoint_64 : decode cX5_readPoint 64 = .ok (.ifCond .eq 5, 3) := by decide +kernel
theorem dX5_readPoint_67 : decode cX5_readPoint 67 = .ok (.iconst 0, 1) := by decide +kernel
theorem dX5_readPoint_68 : decode cX5_readPoint 68 = .ok (.ireturn, 1) := by decide +kernel
theorem dX5_readPoint_69 : decode cX5_readPoint 69 = .ok (.iconst 1, 1) := by decide +kernel
theorem dX5_readPoint_70 : decode cX5_readPoint 70 = .ok (.istore 4, 2) := by decide +kernel
theorem dX5_readPoint_72 : decode cX5_readPoint 72 = .ok (.aload_n 0, 1) := by decide +kernel
theorem dX5_readPoint_73 : decode cX5_readPoint 73 = .ok (.invokevirtual 42, 3) := by decide +kernel
theorem dX5_readPoint_76 : decode cX5_readPoint 76 = .ok (.aload_n 0, 1) := by decide +kernel
theorem dX5_readPoint_77 : decode cX5_readPoint 77 = .ok (.ldc 91, 2) := by decide +kernel
theorem dX5_readPoint_79 : decode cX5_readPoint 79 = .ok (.invokevirtual 51, 3) := by decide +kernel
theorem dX5_readPoint_82 : decode cX5_readPoint 82 = .ok (.ifCond .eq 24, 3) := by decide +kernel
theorem dX5_readPoint_85 : decode cX5_readPoint 85 = .ok (.aload_n 0, 1) := by decide +kernel
theorem dX5_readPoint_86 : decode cX5_readPoint 86 = .ok (.bipush 9, 2) := by decide +kernel
theorem dX5_readPoint_88 : decode cX5_readPoint 88 = .ok (.invokevirtual 85, 3) := by decide +kernel
theorem dX5_readPoint_91 : decode cX5_readPoint 91 = .ok (.istore 4, 2) := by decide +kernel
theorem dX5_readPoint_93 : decode cX5_readPoint 93 = .ok (.aload_n 0, 1) := by decide +kernel
theorem dX5_readPoint_94 : decode cX5_readPoint 94 = .ok (.getfield 31, 3) := by decide +kernel
theorem dX5_readPoint_97 : decode cX5_readPoint 97 = .ok (.ifCond .eq 5, 3) := by decide +kernel
theorem dX5_readPoint_100 : decode cX5_readPoint 100 = .ok (.iconst 0, 1) := by decide +kernel
theorem dX5_readPoint_101 : decode cX5_readPoint 101 = .ok (.ireturn, 1) := by decide +kernel
theorem dX5_readPoint_102 : decode cX5_readPoint 102 = .ok (.aload_n 0, 1) := by decide +kernel
theorem dX5_readPoint_103 : decode cX5_readPoint 103 = .ok (.invokevirtual 42, 3) := by decide +kernel
theorem dX5_readPoint_106 : decode cX5_readPoint 106 = .ok (.aload_n 1, 1) := by decide +kernel
theorem dX5_readPoint_107 : decode cX5_readPoint 107 = .ok (.iload_n 2, 1) := by decide +kernel
theorem dX5_readPoint_108 : decode cX5_readPoint 108 = .ok (.iload_n 3, 1) := by decide +kernel
theorem dX5_readPoint_109 : decode cX5_readPoint 109 = .ok (.iload 4, 2) := by decide +kernel
theorem dX5_readPoint_111 : decode cX5_readPoint 111 = .ok (.invokevirtual 93, 3) := by decide +kernel
theorem dX5_readPoint_114 : decode cX5_readPoint 114 = .ok (.aload_n 0, 1) := by decide +kernel
theorem dX5_readPoint_115 : decode cX5_readPoint 115 = .ok (.getfield 22, 3) := by decide +kernel
theorem dX5_readPoint_118 : decode cX5_readPoint 118 = .ok (.iconst 4, 1) := by decide +kernel
theorem dX5_readPoint_119 : decode cX5_readPoint 119 = .ok (.if_icmp .eq 11, 3) := by decide +kernel
theorem dX5_readPoint_122 : decode cX5_readPoint 122 = .ok (.aload_n 0, 1) := by decide +kernel
theorem dX5_readPoint_123 : decode cX5_readPoint 123 = .ok (.iconst 2, 1) := by decide +kernel
theorem dX5_readPoint_124 : decode cX5_readPoint 124 = .ok (.invokevirtual 74, 3) := by decide +kernel
theorem dX5_readPoint_127 : decode cX5_readPoint 127 = .ok (.ifCond .eq 7, 3) := by decide +kernel
theorem dX5_readPoint_130 : decode cX5_readPoint 130 = .ok (.iconst 1, 1) := by decide +kernel
theorem dX5_readPoint_131 : decode cX5_readPoint 131 = .ok (.goto 4, 3) := by decide +kernel
theorem dX5_readPoint_134 : decode cX5_readPoint 134 = .ok (.iconst 0, 1) := by decide +kernel
theorem dX5_readPoint_135 : decode cX5_readPoint 135 = .ok (.ireturn, 1) := by decide +kernel
theorem dX5_readSemicolon_0 : decode cX5_readSemicolon 0 = .ok (.aload_n 0, 1) := by decide +kernel
theorem dX5_readSemicolon_1 : decode cX5_readSemicolon 1 = .ok (.invokevirtual 42, 3) := by decide +kernel
theorem dX5_readSemicolon_4 : decode cX5_readSemicolon 4 = .ok (.aload_n 0, 1) := by decide +kernel
theorem dX5_readSemicolon_5 : decode cX5_readSemicolon 5 = .ok (.getfield 22, 3) := by decide +kernel
theorem dX5_readSemicolon_8 : decode cX5_readSemicolon 8 = .ok (.iconst 4, 1) := by decide +kernel
theorem dX5_readSemicolon_9 : decode cX5_readSemicolon 9 = .ok (.if_icmp .eq 11, 3) := by decide +kernel
theorem dX5_readSemicolon_12 : decode cX5_readSemicolon 12 = .ok (.aload_n 0, 1) := by decide +kernel
theorem dX5_readSemicolon_13 : decode cX5_readSemicolon 13 = .ok (.iconst 2, 1) := by decide +kernel
theorem dX5_readSemicolon_14 : decode cX5_readSemicolon 14 = .ok (.invokevirtual 74, 3) := by decide +kernel
theorem dX5_readSemicolon_17 : decode cX5_readSemicolon 17 = .ok (.ifCond .eq 7, 3) := by decide +kernel
theorem dX5_readSemicolon_20 : decode cX5_readSemicolon 20 = .ok (.iconst 1, 1) := by decide +kernel
theorem dX5_readSemicolon_21 : decode cX5_readSemicolon 21 = .ok (.goto 4, 3) := by decide +kernel
theorem dX5_readSemicolon_24 : decode cX5_readSemicolon 24 = .ok (.iconst 0, 1) := by decide +kernel
theorem dX5_readSemicolon_25 : decode cX5_readSemicolon 25 = .ok (.ireturn, 1) := by decide +kernel
theorem dX5_readSigned_0 : decode cX5_readSigned 0 = .ok (.aload_n 0, 1) := by decide +kernel
theorem dX5_readSigned_1 : decode cX5_readSigned 1 = .ok (.invokevirtual 42, 3) := by decide +kernel
theorem dX5_readSigned_4 : decode cX5_readSigned 4 = .ok (.aload_n 0, 1) := by decide +kernel
theorem dX5_readSigned_5 : decode cX5_readSigned 5 = .ok (.getfield 22, 3) := by decide +kernel
theorem dX5_readSigned_8 : decode cX5_readSigned 8 = .ok (.iconst 3, 1) := by decide +kernel
theorem dX5_readSigned_9 : decode cX5_readSigned 9 = .ok (.if_icmp .eq 9, 3) := by decide +kernel
theorem dX5_readSigned_12 : decode cX5_readSigned 12 = .ok (.aload_n 0, 1) := by decide +kernel
theorem dX5_readSigned_13 : decode cX5_readSigned 13 = .ok (.iload_n 1, 1) := by decide +kernel
theorem dX5_readSigned_14 : decode cX5_readSigned 14 = .ok (.invokevirtual 67, 3) := by decide +kernel
theorem dX5_readSigned_17 : decode cX5_readSigned 17 = .ok (.ireturn, 1) := by decide +kernel
theorem dX5_readSigned_18 : decode cX5_readSigned 18 = .ok (.aload_n 0, 1) := by decide +kernel
theorem dX5_readSigned_19 : decode cX5_readSigned 19 = .ok (.invokevirtual 42, 3) := by decide +kernel
theorem dX5_readSigned_22 : decode cX5_readSigned 22 = .ok (.aload_n 0, 1) := by decide +kernel
theorem dX5_readSigned_23 : decode cX5_readSigned 23 = .ok (.iload_n 1, 1) := by decide +kernel
theorem dX5_readSigned_24 : decode cX5_readSigned 24 = .ok (.invokevirtual 67, 3) := by decide +kernel
theorem dX5_readSigned_27 : decode cX5_readSigned 27 = .ok (.ineg, 1) := by decide +kernel
theorem dX5_readSigned_28 : decode cX5_readSigned 28 = .ok (.ireturn, 1) := by decide +kernel
theorem dX5_readDigits_0 : decode cX5_readDigits 0 = .ok (.aload_n 0, 1) := by decide +kernel
theorem dX5_readDigits_1 : decode cX5_readDigits 1 = .ok (.getfield 22, 3) := by decide +kernel
theorem dX5_readDigits_4 : decode cX5_readDigits 4 = .ok (.iconst 2, 1) := by decide +kernel
theorem dX5_readDigits_5 : decode cX5_readDigits 5 = .ok (.if_icmp .eq 11, 3) := by decide +kernel
theorem dX5_readDigits_8 : decode cX5_readDigits 8 = .ok (.aload_n 0, 1) := by decide +kernel
theorem dX5_readDigits_9 : decode cX5_readDigits 9 = .ok (.iconst 2, 1) := by decide +kernel
theorem dX5_readDigits_10 : decode cX5_readDigits 10 = .ok (.invokevirtual 74, 3) := by decide +kernel
theorem dX5_readDigits_13 : decode cX5_readDigits 13 = .ok (.pop, 1) := by decide +kernel
theorem dX5_readDigits_14 : decode cX5_readDigits 14 = .ok (.iconst 0, 1) := by decide +kernel
theorem dX5_readDigits_15 : decode cX5_readDigits 15 = .ok (.ireturn, 1) := by decide +kernel
theorem dX5_readDigits_16 : decode cX5_readDigits 16 = .ok (.iconst 0, 1) := by decide +kernel
theorem dX5_readDigits_17 : decode cX5_readDigits 17 = .ok (.istore_n 2, 1) := by decide +kernel
theorem dX5_readDigits_18 : decode cX5_readDigits 18 = .ok (.aload_n 0, 1) := by decide +kernel
theorem dX5_readDigits_19 : decode cX5_readDigits 19 = .ok (.getfield 25, 3) := by decide +kernel
theorem dX5_readDigits_22 : decode cX5_readDigits 22 = .ok (.istore_n 3, 1) := by decide +kernel
theorem dX5_readDigits_23 : decode cX5_readDigits 23 = .ok (.iload_n 3, 1) := by decide +kernel
theorem dX5_readDigits_24 : decode cX5_readDigits 24 = .ok (.aload_n 0, 1) := by decide +kernel
theorem dX5_readDigits_25 : decode cX5_readDigits 25 = .ok (.getfield 28, 3) := by decide +kernel
theorem dX5_readDigits_28 : decode cX5_readDigits 28 = .ok (.if_icmp .ge 23, 3) := by decide +kernel
theorem dX5_readDigits_31 : decode cX5_readDigits 31 = .ok (.iload_n 2, 1) := by decide +kernel
theorem dX5_readDigits_32 : decode cX5_readDigits 32 = .ok (.bipush 10, 2) := by decide +kernel
theorem dX5_readDigits_34 : decode cX5_readDigits 34 = .ok (.imul, 1) := by decide +kernel
theorem dX5_readDigits_35 : decode cX5_readDigits 35 = .ok (.aload_n 0, 1) := by decide +kernel
theorem dX5_readDigits_36 : decode cX5_readDigits 36 = .ok (.iload_n 3, 1) := by decide +kernel
theorem dX5_readDigits_37 : decode cX5_readDigits 37 = .ok (.invokevirtual 97, 3) := by decide +kernel
theorem dX5_readDigits_40 : decode cX5_readDigits 40 = .ok (.iadd, 1) := by decide +kernel
theorem dX5_readDigits_41 : decode cX5_readDigits 41 = .ok (.bipush 48, 2) := by decide +kernel
theorem dX5_readDigits_43 : decode cX5_readDigits 43 = .ok (.isub, 1) := by decide +kernel
theorem dX5_readDigits_44 : decode cX5_readDigits 44 = .ok (.istore_n 2, 1) := by decide +kernel
theorem dX5_readDigits_45 : decode cX5_readDigits 45 = .ok (.iinc 3 1, 3) := by decide +kernel
theorem dX5_readDigits_48 : decode cX5_readDigits 48 = .ok (.goto (-25), 3) := by decide +kernel
theorem dX5_readDigits_51 : decode cX5_readDigits 51 = .ok (.iload_n 2, 1) := by decide +kernel
theorem dX5_readDigits_52 : decode cX5_readDigits 52 = .ok (.iload_n 1, 1) := by decide +kernel
theorem dX5_readDigits_53 : decode cX5_readDigits 53 = .ok (.if_icmp .le 11, 3) := by decide +kernel
theorem dX5_readDigits_56 : decode cX5_readDigits 56 = .ok (.aload_n 0, 1) := by decide +kernel
theorem dX5_readDigits_57 : decode cX5_readDigits 57 = .ok (.iconst 3, 1) := by decide +kernel
theorem dX5_readDigits_58 : decode cX5_readDigits 58 = .ok (.invokevirtual 74, 3) := by decide +kernel
theorem dX5_readDigits_61 : decode cX5_readDigits 61 = .ok (.pop, 1) := by decide +kernel
theorem dX5_readDigits_62 : decode cX5_readDigits 62 = .ok (.iconst 0, 1) := by decide +kernel
theorem dX5_readDigits_63 : decode cX5_readDigits 63 = .ok (.ireturn, 1) := by decide +kernel
theorem dX5_readDigits_64 : decode cX5_readDigits 64 = .ok (.iload_n 2, 1) := by decide +kernel
theorem dX5_readDigits_65 : decode cX5_readDigits 65 = .ok (.ireturn, 1) := by decide +kernel
theorem dX5_fail_0 : decode cX5_fail 0 = .ok (.aload_n 0, 1) := by decide +kernel
theorem dX5_fail_1 : decode cX5_fail 1 = .ok (.aload_n 0, 1) := by decide +kernel
theorem dX5_fail_2 : decode cX5_fail 2 = .ok (.getfield 22, 3) := by decide +kernel
theorem dX5_fail_5 : decode cX5_fail 5 = .ok (.ifCond .ne 7, 3) := by decide +kernel
theorem dX5_fail_8 : decode cX5_fail 8 = .ok (.iconst 1, 1) := by decide +kernel
theorem dX5_fail_9 : decode cX5_fail 9 = .ok (.goto 4, 3) := by decide +kernel
theorem dX5_fail_12 : decode cX5_fail 12 = .ok (.iload_n 1, 1) := by decide +kernel
theorem dX5_fail_13 : decode cX5_fail 13 = .ok (.putfield 31, 3) := by decide +kernel
theorem dX5_fail_16 : decode cX5_fail 16 = .ok (.aload_n 0, 1) := by decide +kernel
theorem dX5_fail_17 : decode cX5_fail 17 = .ok (.aload_n 0, 1) := by decide +kernel
theorem dX5_fail_18 : decode cX5_fail 18 = .ok (.getfield 25, 3) := by decide +kernel
theorem dX5_fail_21 : decode cX5_fail 21 = .ok (.putfield 34, 3) := by decide +kernel
theorem dX5_fail_24 : decode cX5_fail 24 = .ok (.iconst 0, 1) := by decide +kernel
theorem dX5_fail_25 : decode cX5_fail 25 = .ok (.ireturn, 1) := by decide +kernel
theorem dX5_isWord_0 : decode cX5_isWord 0 = .ok (.aload_n 0, 1) := by decide +kernel
theorem dX5_isWord_1 : decode cX5_isWord 1 = .ok (.getfield 22, 3) := by decide +kernel
theorem dX5_isWord_4 : decode cX5_isWord 4 = .ok (.iconst 1, 1) := by decide +kernel
theorem dX5_isWord_5 : decode cX5_isWord 5 = .ok (.if_icmp .ne 19, 3) := by decide +kernel
theorem dX5_isWord_8 : decode cX5_isWord 8 = .ok (.aload_n 0, 1) := by decide +kernel
theorem dX5_isWord_9 : decode cX5_isWord 9 = .ok (.getfield 28, 3) := by decide +kernel
theorem dX5_isWord_12 : decode cX5_isWord 12 = .ok (.aload_n 0, 1) := by decide +kernel
theorem dX5_isWord_13 : decode cX5_isWord 13 = .ok (.getfield 25, 3) := by decide +kernel
theorem dX5_isWord_16 : decode cX5_isWord 16 = .ok (.isub, 1) := by decide +kernel
theorem dX5_isWord_17 : decode cX5_isWord 17 = .ok (.aload_n 1, 1) := by decide +kernel
theorem dX5_isWord_18 : decode cX5_isWord 18 = .ok (.invokevirtual 100, 3) := by decide +kernel
theorem dX5_isWord_21 : decode cX5_isWord 21 = .ok (.if_icmp .eq 5, 3) := by decide +kernel
theorem dX5_isWord_24 : decode cX5_isWord 24 = .ok (.iconst 0, 1) := by decide +kernel
theorem dX5_isWord_25 : decode cX5_isWord 25 = .ok (.ireturn, 1) := by decide +kernel
theorem dX5_isWord_26 : decode cX5_isWord 26 = .ok (.iconst 0, 1) := by decide +kernel
theorem dX5_isWord_27 : decode cX5_isWord 27 = .ok (.istore_n 2, 1) := by decide +kernel
theorem dX5_isWord_28 : decode cX5_isWord 28 = .ok (.iload_n 2, 1) := by decide +kernel
theorem dX5_isWord_29 : decode cX5_isWord 29 = .ok (.aload_n 1, 1) := by decide +kernel
theorem dX5_isWord_30 : decode cX5_isWord 30 = .ok (.invokevirtual 100, 3) := by decide +kernel
theorem dX5_isWord_33 : decode cX5_isWord 33 = .ok (.if_icmp .ge 29, 3) := by decide +kernel
theorem dX5_isWord_36 : decode cX5_isWord 36 = .ok (.aload_n 0, 1) := by decide +kernel
theorem dX5_isWord_37 : decode cX5_isWord 37 = .ok (.aload_n 0, 1) := by decide +kernel
theorem dX5_isWord_38 : decode cX5_isWord 38 = .ok (.getfield 25, 3) := by decide +kernel
theorem dX5_isWord_41 : decode cX5_isWord 41 = .ok (.iload_n 2, 1) := by decide +kernel
theorem dX5_isWord_42 : decode cX5_isWord 42 = .ok (.iadd, 1) := by decide +kernel
theorem dX5_isWord_43 : decode cX5_isWord 43 = .ok (.invokevirtual 97, 3) := by decide +kernel
theorem dX5_isWord_46 : decode cX5_isWord 46 = .ok (.aload_n 1, 1) := by decide +kernel
theorem dX5_isWord_47 : decode cX5_isWord 47 = .ok (.iload_n 2, 1) := by decide +kernel
theorem dX5_isWord_48 : decode cX5_isWord 48 = .ok (.invokevirtual 105, 3) := by decide +kernel
theorem dX5_isWord_51 : decode cX5_isWord 51 = .ok (.if_icmp .eq 5, 3) := by decide +kernel
theorem dX5_isWord_54 : decode cX5_isWord 54 = .ok (.iconst 0, 1) := by decide +kernel
theorem dX5_isWord_55 : decode cX5_isWord 55 = .ok (.ireturn, 1) := by decide +kernel
theorem dX5_isWord_56 : decode cX5_isWord 56 = .ok (.iinc 2 1, 3) := by decide +kernel
theorem dX5_isWord_59 : decode cX5_isWord 59 = .ok (.goto (-31), 3) := by decide +kernel
theorem dX5_isWord_62 : decode cX5_isWord 62 = .ok (.iconst 1, 1) := by decide +kernel
theorem dX5_isWord_63 : decode cX5_isWord 63 = .ok (.ireturn, 1) := by decide +kernel
theorem dX5_step_0 : decode cX5_step 0 = .ok (.aload_n 0, 1) := by decide +kernel
theorem dX5_step_1 : decode cX5_step 1 = .ok (.aload_n 0, 1) := by decide +kernel
theorem dX5_step_2 : decode cX5_step 2 = .ok (.getfield 28, 3) := by decide +kernel
theorem dX5_step_5 : decode cX5_step 5 = .ok (.putfield 25, 3) := by decide +kernel
theorem dX5_step_8 : decode cX5_step 8 = .ok (.aload_n 0, 1) := by decide +kernel
theorem dX5_step_9 : decode cX5_step 9 = .ok (.getfield 28, 3) := by decide +kernel
theorem dX5_step_12 : decode cX5_step 12 = .ok (.istore_n 1, 1) := by decide +kernel
theorem dX5_step_13 : decode cX5_step 13 = .ok (.iload_n 1, 1) := by decide +kernel
theorem dX5_step_14 : decode cX5_step 14 = .ok (.aload_n 0, 1) := by decide +kernel
theorem dX5_step_15 : decode cX5_step 15 = .ok (.getfield 19, 3) := by decide +kernel
theorem dX5_step_18 : decode cX5_step 18 = .ok (.if_icmp .ge 36, 3) := by decide +kernel
theorem dX5_step_21 : decode cX5_step 21 = .ok (.aload_n 0, 1) := by decide +kernel
theorem dX5_step_22 : decode cX5_step 22 = .ok (.iload_n 1, 1) := by decide +kernel
theorem dX5_step_23 : decode cX5_step 23 = .ok (.invokevirtual 97, 3) := by decide +kernel
theorem dX5_step_26 : decode cX5_step 26 = .ok (.bipush 32, 2) := by decide +kernel
theorem dX5_step_28 : decode cX5_step 28 = .ok (.if_icmp .eq 13, 3) := by decide +kernel
theorem dX5_step_31 : decode cX5_step 31 = .ok (.aload_n 0, 1) := by decide +kernel
theorem dX5_step_32 : decode cX5_step 32 = .ok (.iload_n 1, 1) := by decide +kernel
theorem dX5_step_33 : decode cX5_step 33 = .ok (.invokevirtual 97, 3) := by decide +kernel
theorem dX5_step_36 : decode cX5_step 36 = .ok (.bipush 10, 2) := by decide +kernel
theorem dX5_step_38 : decode cX5_step 38 = .ok (.if_icmp .ne 16, 3) := by decide +kernel
theorem dX5_step_41 : decode cX5_step 41 = .ok (.aload_n 0, 1) := by decide +kernel
theorem dX5_step_42 : decode cX5_step 42 = .ok (.iload_n 1, 1) := by decide +kernel
theorem dX5_step_43 : decode cX5_step 43 = .ok (.iconst 1, 1) := by decide +kernel
theorem dX5_step_44 : decode cX5_step 44 = .ok (.iadd, 1) := by decide +kernel
theorem dX5_step_45 : decode cX5_step 45 = .ok (.putfield 25, 3) := by decide +kernel
theorem dX5_step_48 : decode cX5_step 48 = .ok (.iinc 1 1, 3) := by decide +kernel
theorem dX5_step_51 : decode cX5_step 51 = .ok (.goto (-38), 3) := by decide +kernel
theorem dX5_step_54 : decode cX5_step 54 = .ok (.aload_n 0, 1) := by decide +kernel
theorem dX5_step_55 : decode cX5_step 55 = .ok (.aload_n 0, 1) := by decide +kernel
theorem dX5_step_56 : decode cX5_step 56 = .ok (.getfield 25, 3) := by decide +kernel
theorem dX5_step_59 : decode cX5_step 59 = .ok (.invokevirtual 97, 3) := by decide +kernel
theorem dX5_step_62 : decode cX5_step 62 = .ok (.istore_n 1, 1) := by decide +kernel
theorem dX5_step_63 : decode cX5_step 63 = .ok (.iload_n 1, 1) := by decide +kernel
theorem dX5_step_64 : decode cX5_step 64 = .ok (.invokestatic 109, 3) := by decide +kernel
theorem dX5_step_67 : decode cX5_step 67 = .ok (.istore_n 2, 1) := by decide +kernel
theorem dX5_step_68 : decode cX5_step 68 = .ok (.iload_n 1, 1) := by decide +kernel
theorem dX5_step_69 : decode cX5_step 69 = .ok (.invokestatic 112, 3) := by decide +kernel
theorem dX5_step_72 : decode cX5_step 72 = .ok (.istore_n 3, 1) := by decide +kernel
theorem dX5_step_73 : decode cX5_step 73 = .ok (.aload_n 0, 1) := by decide +kernel
theorem dX5_step_74 : decode cX5_step 74 = .ok (.aload_n 0, 1) := by decide +kernel
theorem dX5_step_75 : decode cX5_step 75 = .ok (.getfield 25, 3) := by decide +kernel
theorem dX5_step_78 : decode cX5_step 78 = .ok (.iconst 1, 1) := by decide +kernel
theorem dX5_step_79 : decode cX5_step 79 = .ok (.iadd, 1) := by decide +kernel
theorem dX5_step_80 : decode cX5_step 80 = .ok (.putfield 28, 3) := by decide +kernel
theorem dX5_step_83 : decode cX5_step 83 = .ok (.aload_n 0, 1) := by decide +kernel
theorem dX5_step_84 : decode cX5_step 84 = .ok (.getfield 28, 3) := by decide +kernel
theorem dX5_step_87 : decode cX5_step 87 = .ok (.istore 4, 2) := by decide +kernel
theorem dX5_step_89 : decode cX5_step 89 = .ok (.iload 4, 2) := by decide +kernel
theorem dX5_step_91 : decode cX5_step 91 = .ok (.aload_n 0, 1) := by decide +kernel
theorem dX5_step_92 : decode cX5_step 92 = .ok (.getfield 19, 3) := by decide +kernel
theorem dX5_step_95 : decode cX5_step 95 = .ok (.if_icmp .ge 49, 3) := by decide +kernel
theorem dX5_step_98 : decode cX5_step 98 = .ok (.iload_n 2, 1) := by decide +kernel
theorem dX5_step_99 : decode cX5_step 99 = .ok (.ifCond .eq 15, 3) := by decide +kernel
theorem dX5_step_102 : decode cX5_step 102 = .ok (.aload_n 0, 1) := by decide +kernel
theorem dX5_step_103 : decode cX5_step 103 = .ok (.iload 4, 2) := by decide +kernel
theorem dX5_step_105 : decode cX5_step 105 = .ok (.invokevirtual 97, 3) := by decide +kernel
theorem dX5_step_108 : decode cX5_step 108 = .ok (.invokestatic 109, 3) := by decide +kernel
theorem dX5_step_111 : decode cX5_step 111 = .ok (.ifCond .ne 19, 3) := by decide +kernel
theorem dX5_step_114 : decode cX5_step 114 = .ok (.iload_n 3, 1) := by decide +kernel
theorem dX5_step_115 : decode cX5_step 115 = .ok (.ifCond .eq 29, 3) := by decide +kernel
theorem dX5_step_118 : decode cX5_step 118 = .ok (.aload_n 0, 1) := by decide +kernel
theorem dX5_step_119 : decode cX5_step 119 = .ok (.iload 4, 2) := by decide +kernel
theorem dX5_step_121 : decode cX5_step 121 = .ok (.invokevirtual 97, 3) := by decide +kernel
theorem dX5_step_124 : decode cX5_step 124 = .ok (.invokestatic 112, 3) := by decide +kernel
theorem dX5_step_127 : decode cX5_step 127 = .ok (.ifCond .eq 17, 3) := by decide +kernel
theorem dX5_step_130 : decode cX5_step 130 = .ok (.aload_n 0, 1) := by decide +kernel
theorem dX5_step_131 : decode cX5_step 131 = .ok (.iload 4, 2) := by decide +kernel
theorem dX5_step_133 : decode cX5_step 133 = .ok (.iconst 1, 1) := by decide +kernel
theorem dX5_step_134 : decode cX5_step 134 = .ok (.iadd, 1) := by decide +kernel
theorem dX5_step_135 : decode cX5_step 135 = .ok (.putfield 28, 3) := by decide +kernel
theorem dX5_step_138 : decode cX5_step 138 = .ok (.iinc 4 1, 3) := by decide +kernel
theorem dX5_step_141 : decode cX5_step 141 = .ok (.goto (-52), 3) := by decide +kernel
theorem dX5_step_144 : decode cX5_step 144 = .ok (.aload_n 0, 1) := by decide +kernel
theorem dX5_step_145 : decode cX5_step 145 = .ok (.getfield 25, 3) := by decide +kernel
theorem dX5_step_148 : decode cX5_step 148 = .ok (.aload_n 0, 1) := by decide +kernel
theorem dX5_step_149 : decode cX5_step 149 = .ok (.getfield 19, 3) := by decide +kernel
theorem dX5_step_152 : decode cX5_step 152 = .ok (.if_icmp .lt 11, 3) := by decide +kernel
theorem dX5_step_155 : decode cX5_step 155 = .ok (.aload_n 0, 1) := by decide +kernel
theorem dX5_step_156 : decode cX5_step 156 = .ok (.iconst 5, 1) := by decide +kernel
theorem dX5_step_157 : decode cX5_step 157 = .ok (.putfield 22, 3) := by decide +kernel
theorem dX5_step_160 : decode cX5_step 160 = .ok (.goto 91, 3) := by decide +kernel
theorem dX5_step_163 : decode cX5_step 163 = .ok (.iload_n 2, 1) := by decide +kernel
theorem dX5_step_164 : decode cX5_step 164 = .ok (.ifCond .eq 29, 3) := by decide +kernel
theorem dX5_step_167 : decode cX5_step 167 = .ok (.aload_n 0, 1) := by decide +kernel
theorem dX5_step_168 : decode cX5_step 168 = .ok (.aload_n 0, 1) := by decide +kernel
theorem dX5_step_169 : decode cX5_step 169 = .ok (.getfield 28, 3) := by decide +kernel
theorem dX5_step_172 : decode cX5_step 172 = .ok (.aload_n 0, 1) := by decide +kernel
theorem dX5_step_173 : decode cX5_step 173 = .ok (.getfield 25, 3) := by decide +kernel
theorem dX5_step_176 : decode cX5_step 176 = .ok (.isub, 1) := by decide +kernel
theorem dX5_step_177 : decode cX5_step 177 = .ok (.bipush 8, 2) := by decide +kernel
theorem dX5_step_179 : decode cX5_step 179 = .ok (.if_icmp .le 7, 3) := by decide +kernel
theorem dX5_step_182 : decode cX5_step 182 = .ok (.iconst 0, 1) := by decide +kernel
theorem dX5_step_183 : decode cX5_step 183 = .ok (.goto 4, 3) := by decide +kernel
theorem dX5_step_186 : decode cX5_step 186 = .ok (.iconst 1, 1) := by decide +kernel
theorem dX5_step_187 : decode cX5_step 187 = .ok (.putfield 22, 3) := by decide +kernel
theorem dX5_step_190 : decode cX5_step 190 = .ok (.goto 61, 3) := by decide +kernel
theorem dX5_step_193 : decode cX5_step 193 = .ok (.iload_n 3, 1) := by decide +kernel
theorem dX5_step_194 : decode cX5_step 194 = .ok (.ifCond .eq 28, 3) := by decide +kernel
theorem dX5_step_197 : decode cX5_step 197 = .ok (.aload_n 0, 1) := by decide +kernel
theorem dX5_step_198 : decode cX5_step 198 = .ok (.aload_n 0, 1) := by decide +kernel
theorem dX5_step_199 : decode cX5_step 199 = .ok (.getfield 28, 3) := by decide +kernel
theorem dX5_step_202 : decode cX5_step 202 = .ok (.aload_n 0, 1) := by decide +kernel
theorem dX5_step_203 : decode cX5_step 203 = .ok (.getfield 25, 3) := by decide +kernel
theorem dX5_step_206 : decode cX5_step 206 = .ok (.isub, 1) := by decide +kernel
theorem dX5_step_207 : decode cX5_step 207 = .ok (.iconst 2, 1) := by decide +kernel
theorem dX5_step_208 : decode cX5_step 208 = .ok (.if_icmp .le 7, 3) := by decide +kernel
theorem dX5_step_211 : decode cX5_step 211 = .ok (.iconst 0, 1) := by decide +kernel
theorem dX5_step_212 : decode cX5_step 212 = .ok (.goto 4, 3) := by decide +kernel
theorem dX5_step_215 : decode cX5_step 215 = .ok (.iconst 2, 1) := by decide +kernel
theorem dX5_step_216 : decode cX5_step 216 = .ok (.putfield 22, 3) := by decide +kernel
theorem dX5_step_219 : decode cX5_step 219 = .ok (.goto 32, 3) := by decide +kernel
theorem dX5_step_222 : decode cX5_step 222 = .ok (.iload_n 1, 1) := by decide +kernel
theorem dX5_step_223 : decode cX5_step 223 = .ok (.bipush 45, 2) := by decide +kernel
theorem dX5_step_225 : decode cX5_step 225 = .ok (.if_icmp .ne 11, 3) := by decide +kernel
theorem dX5_step_228 : decode cX5_step 228 = .ok (.aload_n 0, 1) := by decide +kernel
theorem dX5_step_229 : decode cX5_step 229 = .ok (.iconst 3, 1) := by decide +kernel
theorem dX5_step_230 : decode cX5_step 230 = .ok (.putfield 22, 3) := by decide +kernel
theorem dX5_step_233 : decode cX5_step 233 = .ok (.goto 18, 3) := by decide +kernel
theorem dX5_step_236 : decode cX5_step 236 = .ok (.aload_n 0, 1) := by decide +kernel
theorem dX5_step_237 : decode cX5_step 237 = .ok (.iload_n 1, 1) := by decide +kernel
theorem dX5_step_238 : decode cX5_step 238 = .ok (.bipush 59, 2) := by decide +kernel
theorem dX5_step_240 : decode cX5_step 240 = .ok (.if_icmp .ne 7, 3) := by decide +kernel
theorem dX5_step_243 : decode cX5_step 243 = .ok (.iconst 4, 1) := by decide +kernel
theorem dX5_step_244 : decode cX5_step 244 = .ok (.goto 4, 3) := by decide +kernel
theorem dX5_step_247 : decode cX5_step 247 = .ok (.iconst 0, 1) := by decide +kernel
theorem dX5_step_248 : decode cX5_step 248 = .ok (.putfield 22, 3) := by decide +kernel
theorem dX5_step_251 : decode cX5_step 251 = .ok (.return_, 1) := by decide +kernel
theorem dX5_byteAt_0 : decode cX5_byteAt 0 = .ok (.iload_n 1, 1) := by decide +kernel
theorem dX5_byteAt_1 : decode cX5_byteAt 1 = .ok (.ifCond .lt 27, 3) := by decide +kernel
theorem dX5_byteAt_4 : decode cX5_byteAt 4 = .ok (.iload_n 1, 1) := by decide +kernel
theorem dX5_byteAt_5 : decode cX5_byteAt 5 = .ok (.aload_n 0, 1) := by decide +kernel
theorem dX5_byteAt_6 : decode cX5_byteAt 6 = .ok (.getfield 19, 3) := by decide +kernel
theorem dX5_byteAt_9 : decode cX5_byteAt 9 = .ok (.if_icmp .ge 19, 3) := by decide +kernel
theorem dX5_byteAt_12 : decode cX5_byteAt 12 = .ok (.iload_n 1, 1) := by decide +kernel
theorem dX5_byteAt_13 : decode cX5_byteAt 13 = .ok (.sipush 400, 3) := by decide +kernel
theorem dX5_byteAt_16 : decode cX5_byteAt 16 = .ok (.if_icmp .ge 12, 3) := by decide +kernel
theorem dX5_byteAt_19 : decode cX5_byteAt 19 = .ok (.aload_n 0, 1) := by decide +kernel
theorem dX5_byteAt_20 : decode cX5_byteAt 20 = .ok (.getfield 9, 3) := by decide +kernel
theorem dX5_byteAt_23 : decode cX5_byteAt 23 = .ok (.iload_n 1, 1) := by decide +kernel
theorem dX5_byteAt_24 : decode cX5_byteAt 24 = .ok (.iaload, 1) := by decide +kernel
theorem dX5_byteAt_25 : decode cX5_byteAt 25 = .ok (.goto 4, 3) := by decide +kernel
theorem dX5_byteAt_28 : decode cX5_byteAt 28 = .ok (.iconst 0, 1) := by decide +kernel
theorem dX5_byteAt_29 : decode cX5_byteAt 29 = .ok (.ireturn, 1) := by decide +kernel
theorem dX5_isLetter_0 : decode cX5_isLetter 0 = .ok (.iload_n 0, 1) := by decide +kernel
theorem dX5_isLetter_1 : decode cX5_isLetter 1 = .ok (.bipush 97, 2) := by decide +kernel
theorem dX5_isLetter_3 : decode cX5_isLetter 3 = .ok (.if_icmp .lt 13, 3) := by decide +kernel
theorem dX5_isLetter_6 : decode cX5_isLetter 6 = .ok (.iload_n 0, 1) := by decide +kernel
theorem dX5_isLetter_7 : decode cX5_isLetter 7 = .ok (.bipush 122, 2) := by decide +kernel
theorem dX5_isLetter_9 : decode cX5_isLetter 9 = .ok (.if_icmp .gt 7, 3) := by decide +kernel
theorem dX5_isLetter_12 : decode cX5_isLetter 12 = .ok (.iconst 1, 1) := by decide +kernel
theorem dX5_isLetter_13 : decode cX5_isLetter 13 = .ok (.goto 4, 3) := by decide +kernel
theorem dX5_isLetter_16 : decode cX5_isLetter 16 = .ok (.iconst 0, 1) := by decide +kernel
theorem dX5_isLetter_17 : decode cX5_isLetter 17 = .ok (.ireturn, 1) := by decide +kernel
theorem dX5_isDigit_0 : decode cX5_isDigit 0 = .ok (.iload_n 0, 1) := by decide +kernel
theorem dX5_isDigit_1 : decode cX5_isDigit 1 = .ok (.bipush 48, 2) := by decide +kernel
theorem dX5_isDigit_3 : decode cX5_isDigit 3 = .ok (.if_icmp .lt 13, 3) := by decide +kernel
theorem dX5_isDigit_6 : decode cX5_isDigit 6 = .ok (.iload_n 0, 1) := by decide +kernel
theorem dX5_isDigit_7 : decode cX5_isDigit 7 = .ok (.bipush 57, 2) := by decide +kernel
theorem dX5_isDigit_9 : decode cX5_isDigit 9 = .ok (.if_icmp .gt 7, 3) := by decide +kernel
theorem dX5_isDigit_12 : decode cX5_isDigit 12 = .ok (.iconst 1, 1) := by decide +kernel
theorem dX5_isDigit_13 : decode cX5_isDigit 13 = .ok (.goto 4, 3) := by decide +kernel
theorem dX5_isDigit_16 : decode cX5_isDigit 16 = .ok (.iconst 0, 1) := by decide +kernel
theorem dX5_isDigit_17 : decode cX5_isDigit 17 = .ok (.ireturn, 1) := by decide +kernel
