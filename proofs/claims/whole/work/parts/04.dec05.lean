theorem dX0_init_0 : decode cX0_init 0 = .ok (.aload_n 0, 1) := by decide +kernel
theorem dX0_init_1 : decode cX0_init 1 = .ok (.invokespecial 3, 3) := by decide +kernel
theorem dX0_init_4 : decode cX0_init 4 = .ok (.aload_n 0, 1) := by decide +kernel
theorem dX0_init_5 : decode cX0_init 5 = .ok (.new 9, 3) := by decide +kernel
theorem dX0_init_8 : decode cX0_init 8 = .ok (.dup, 1) := by decide +kernel
theorem dX0_init_9 : decode cX0_init 9 = .ok (.invokespecial 11, 3) := by decide +kernel
theorem dX0_init_12 : decode cX0_init 12 = .ok (.putfield 12, 3) := by decide +kernel
theorem dX0_init_15 : decode cX0_init 15 = .ok (.aload_n 0, 1) := by decide +kernel
theorem dX0_init_16 : decode cX0_init 16 = .ok (.iconst 5, 1) := by decide +kernel
theorem dX0_init_17 : decode cX0_init 17 = .ok (.newarray .int, 2) := by decide +kernel
theorem dX0_init_19 : decode cX0_init 19 = .ok (.putfield 18, 3) := by decide +kernel
theorem dX0_init_22 : decode cX0_init 22 = .ok (.aload_n 0, 1) := by decide +kernel
theorem dX0_init_23 : decode cX0_init 23 = .ok (.iconst 5, 1) := by decide +kernel
theorem dX0_init_24 : decode cX0_init 24 = .ok (.newarray .int, 2) := by decide +kernel
theorem dX0_init_26 : decode cX0_init 26 = .ok (.putfield 22, 3) := by decide +kernel
theorem dX0_init_29 : decode cX0_init 29 = .ok (.aload_n 0, 1) := by decide +kernel
theorem dX0_init_30 : decode cX0_init 30 = .ok (.iconst 5, 1) := by decide +kernel
theorem dX0_init_31 : decode cX0_init 31 = .ok (.newarray .long, 2) := by decide +kernel
theorem dX0_init_33 : decode cX0_init 33 = .ok (.putfield 25, 3) := by decide +kernel
theorem dX0_init_36 : decode cX0_init 36 = .ok (.aload_n 0, 1) := by decide +kernel
theorem dX0_init_37 : decode cX0_init 37 = .ok (.iconst 5, 1) := by decide +kernel
theorem dX0_init_38 : decode cX0_init 38 = .ok (.newarray .long, 2) := by decide +kernel
theorem dX0_init_40 : decode cX0_init 40 = .ok (.putfield 29, 3) := by decide +kernel
theorem dX0_init_43 : decode cX0_init 43 = .ok (.aload_n 0, 1) := by decide +kernel
theorem dX0_init_44 : decode cX0_init 44 = .ok (.iconst 5, 1) := by decide +kernel
theorem dX0_init_45 : decode cX0_init 45 = .ok (.newarray .long, 2) := by decide +kernel
theorem dX0_init_47 : decode cX0_init 47 = .ok (.putfield 32, 3) := by decide +kernel
theorem dX0_init_50 : decode cX0_init 50 = .ok (.aload_n 0, 1) := by decide +kernel
theorem dX0_init_51 : decode cX0_init 51 = .ok (.iconst 5, 1) := by decide +kernel
theorem dX0_init_52 : decode cX0_init 52 = .ok (.newarray .long, 2) := by decide +kernel
theorem dX0_init_54 : decode cX0_init 54 = .ok (.putfield 35, 3) := by decide +kernel
theorem dX0_init_57 : decode cX0_init 57 = .ok (.return_, 1) := by decide +kernel
theorem dX0_reckon_0 : decode cX0_reckon 0 = .ok (.aload_n 0, 1) := by decide +kernel
theorem dX0_reckon_1 : decode cX0_reckon 1 = .ok (.invokevirtual 38, 3) := by decide +kernel
theorem dX0_reckon_4 : decode cX0_reckon 4 = .ok (.aload_n 0, 1) := by decide +kernel
theorem dX0_reckon_5 : decode cX0_reckon 5 = .ok (.invokevirtual 41, 3) := by decide +kernel
theorem dX0_reckon_8 : decode cX0_reckon 8 = .ok (.aload_n 0, 1) := by decide +kernel
theorem dX0_reckon_9 : decode cX0_reckon 9 = .ok (.invokevirtual 44, 3) := by decide +kernel
theorem dX0_reckon_12 : decode cX0_reckon 12 = .ok (.return_, 1) := by decide +kernel
theorem dX0_sort_0 : decode cX0_sort 0 = .ok (.iconst 0, 1) := by decide +kernel
theorem dX0_sort_1 : decode cX0_sort 1 = .ok (.istore_n 1, 1) := by decide +kernel
theorem dX0_sort_2 : decode cX0_sort 2 = .ok (.iload_n 1, 1) := by decide +kernel
theorem dX0_sort_3 : decode cX0_sort 3 = .ok (.aload_n 0, 1) := by decide +kernel
theorem dX0_sort_4 : decode cX0_sort 4 = .ok (.getfield 12, 3) := by decide +kernel
theorem dX0_sort_7 : decode cX0_sort 7 = .ok (.invokevirtual 47, 3) := by decide +kernel
theorem dX0_sort_10 : decode cX0_sort 10 = .ok (.if_icmp .ge 44, 3) := by decide +kernel
theorem dX0_sort_13 : decode cX0_sort 13 = .ok (.aload_n 0, 1) := by decide +kernel
theorem dX0_sort_14 : decode cX0_sort 14 = .ok (.getfield 12, 3) := by decide +kernel
theorem dX0_sort_17 : decode cX0_sort 17 = .ok (.iload_n 1, 1) := by decide +kernel
theorem dX0_sort_18 : decode cX0_sort 18 = .ok (.invokevirtual 51, 3) := by decide +kernel
theorem dX0_sort_21 : decode cX0_sort 21 = .ok (.istore_n 2, 1) := by decide +kernel
theorem dX0_sort_22 : decode cX0_sort 22 = .ok (.iload_n 2, 1) := by decide +kernel
theorem dX0_sort_23 : decode cX0_sort 23 = .ok (.iconst 5, 1) := by decide +kernel
theorem dX0_sort_24 : decode cX0_sort 24 = .ok (.if_icmp .ge 24, 3) := by decide +kernel
theorem dX0_sort_27 : decode cX0_sort 27 = .ok (.aload_n 0, 1) := by decide +kernel
theorem dX0_sort_28 : decode cX0_sort 28 = .ok (.getfield 18, 3) := by decide +kernel
theorem dX0_sort_31 : decode cX0_sort 31 = .ok (.iload_n 2, 1) := by decide +kernel
theorem dX0_sort_32 : decode cX0_sort 32 = .ok (.iload_n 1, 1) := by decide +kernel
theorem dX0_sort_33 : decode cX0_sort 33 = .ok (.iastore, 1) := by decide +kernel
theorem dX0_sort_34 : decode cX0_sort 34 = .ok (.aload_n 0, 1) := by decide +kernel
theorem dX0_sort_35 : decode cX0_sort 35 = .ok (.getfield 22, 3) := by decide +kernel
theorem dX0_sort_38 : decode cX0_sort 38 = .ok (.iload_n 2, 1) := by decide +kernel
theorem dX0_sort_39 : decode cX0_sort 39 = .ok (.aload_n 0, 1) := by decide +kernel
theorem dX0_sort_40 : decode cX0_sort 40 = .ok (.getfield 12, 3) := by decide +kernel
theorem dX0_sort_43 : decode cX0_sort 43 = .ok (.iload_n 1, 1) := by decide +kernel
theorem dX0_sort_44 : decode cX0_sort 44 = .ok (.invokevirtual 55, 3) := by decide +kernel
theorem dX0_sort_47 : decode cX0_sort 47 = .ok (.iastore, 1) := by decide +kernel
theorem dX0_sort_48 : decode cX0_sort 48 = .ok (.iinc 1 1, 3) := by decide +kernel
theorem dX0_sort_51 : decode cX0_sort 51 = .ok (.goto (-49), 3) := by decide +kernel
theorem dX0_sort_54 : decode cX0_sort 54 = .ok (.return_, 1) := by decide +kernel
theorem dX0_reckonWeights_0 : decode cX0_reckonWeights 0 = .ok (.aload_n 0, 1) := by decide +kernel
theorem dX0_reckonWeights_1 : decode cX0_reckonWeights 1 = .ok (.invokevirtual 58, 3) := by decide +kernel
theorem dX0_reckonWeights_4 : decode cX0_reckonWeights 4 = .ok (.lstore_n 1, 1) := by decide +kernel
theorem dX0_reckonWeights_5 : decode cX0_reckonWeights 5 = .ok (.lconst 0, 1) := by decide +kernel
theorem dX0_reckonWeights_6 : decode cX0_reckonWeights 6 = .ok (.lstore_n 3, 1) := by decide +kernel
theorem dX0_reckonWeights_7 : decode cX0_reckonWeights 7 = .ok (.iconst 0, 1) := by decide +kernel
theorem dX0_reckonWeights_8 : decode cX0_reckonWeights 8 = .ok (.istore 5, 2) := by decide +kernel
theorem dX0_reckonWeights_10 : decode cX0_reckonWeights 10 = .ok (.iload 5, 2) := by decide +kernel
theorem dX0_reckonWeights_12 : decode cX0_reckonWeights 12 = .ok (.aload_n 0, 1) := by decide +kernel
theorem dX0_reckonWeights_13 : decode cX0_reckonWeights 13 = .ok (.getfield 12, 3) := by decide +kernel
theorem dX0_reckonWeights_16 : decode cX0_reckonWeights 16 = .ok (.invokevirtual 47, 3) := by decide +kernel
theorem dX0_reckonWeights_19 : decode cX0_reckonWeights 19 = .ok (.if_icmp .ge 65, 3) := by decide +kernel
theorem dX0_reckonWeights_22 : decode cX0_reckonWeights 22 = .ok (.iload 5, 2) := by decide +kernel
theorem dX0_reckonWeights_24 : decode cX0_reckonWeights 24 = .ok (.iconst 5, 1) := by decide +kernel
theorem dX0_reckonWeights_25 : decode cX0_reckonWeights 25 = .ok (.if_icmp .ge 59, 3) := by decide +kernel
theorem dX0_reckonWeights_28 : decode cX0_reckonWeights 28 = .ok (.aload_n 0, 1) := by decide +kernel
theorem dX0_reckonWeights_29 : decode cX0_reckonWeights 29 = .ok (.getfield 25, 3) := by decide +kernel
theorem dX0_reckonWeights_32 : decode cX0_reckonWeights 32 = .ok (.iload 5, 2) := by decide +kernel
theorem dX0_reckonWeights_34 : decode cX0_reckonWeights 34 = .ok (.aload_n 0, 1) := by decide +kernel
theorem dX0_reckonWeights_35 : decode cX0_reckonWeights 35 = .ok (.getfield 12, 3) := by decide +kernel
theorem dX0_reckonWeights_38 : decode cX0_reckonWeights 38 = .ok (.getfield 62, 3) := by decide +kernel
theorem dX0_reckonWeights_41 : decode cX0_reckonWeights 41 = .ok (.iconst 2, 1) := by decide +kernel
theorem dX0_reckonWeights_42 : decode cX0_reckonWeights 42 = .ok (.if_icmp .ne 16, 3) := by decide +kernel
theorem dX0_reckonWeights_45 : decode cX0_reckonWeights 45 = .ok (.aload_n 0, 1) := by decide +kernel
theorem dX0_reckonWeights_46 : decode cX0_reckonWeights 46 = .ok (.getfield 12, 3) := by decide +kernel
theorem dX0_reckonWeights_49 : decode cX0_reckonWeights 49 = .ok (.iload 5, 2) := by decide +kernel
theorem dX0_reckonWeights_51 : decode cX0_reckonWeights 51 = .ok (.invokevirtual 66, 3) := by decide +kernel
theorem dX0_reckonWeights_54 : decode cX0_reckonWeights 54 = .ok (.i2l, 1) := by decide +kernel
theorem dX0_reckonWeights_55 : decode cX0_reckonWeights 55 = .ok (.goto 10, 3) := by decide +kernel
theorem dX0_reckonWeights_58 : decode cX0_reckonWeights 58 = .ok (.aload_n 0, 1) := by decide +kernel
theorem dX0_reckonWeights_59 : decode cX0_reckonWeights 59 = .ok (.iload 5, 2) := by decide +kernel
theorem dX0_reckonWeights_61 : decode cX0_reckonWeights 61 = .ok (.lload_n 1, 1) := by decide +kernel
theorem dX0_reckonWeights_62 : decode cX0_reckonWeights 62 = .ok (.invokevirtual 69, 3) := by decide +kernel
theorem dX0_reckonWeights_65 : decode cX0_reckonWeights 65 = .ok (.lastore, 1) := by decide +kernel
theorem dX0_reckonWeights_66 : decode cX0_reckonWeights 66 = .ok (.lload_n 3, 1) := by decide +kernel
theorem dX0_reckonWeights_67 : decode cX0_reckonWeights 67 = .ok (.aload_n 0, 1) := by decide +kernel
theorem dX0_reckonWeights_68 : decode cX0_reckonWeights 68 = .ok (.getfield 25, 3) := by decide +kernel
theorem dX0_reckonWeights_71 : decode cX0_reckonWeights 71 = .ok (.iload 5, 2) := by decide +kernel
theorem dX0_reckonWeights_73 : decode cX0_reckonWeights 73 = .ok (.laload, 1) := by decide +kernel
theorem dX0_reckonWeights_74 : decode cX0_reckonWeights 74 = .ok (.invokestatic 73, 3) := by decide +kernel
theorem dX0_reckonWeights_77 : decode cX0_reckonWeights 77 = .ok (.lstore_n 3, 1) := by decide +kernel
theorem dX0_reckonWeights_78 : decode cX0_reckonWeights 78 = .ok (.iinc 5 1, 3) := by decide +kernel
theorem dX0_reckonWeights_81 : decode cX0_reckonWeights 81 = .ok (.goto (-71), 3) := by decide +kernel
theorem dX0_reckonWeights_84 : decode cX0_reckonWeights 84 = .ok (.iconst 0, 1) := by decide +kernel
theorem dX0_reckonWeights_85 : decode cX0_reckonWeights 85 = .ok (.istore 5, 2) := by decide +kernel
theorem dX0_reckonWeights_87 : decode cX0_reckonWeights 87 = .ok (.iload 5, 2) := by decide +kernel
theorem dX0_reckonWeights_89 : decode cX0_reckonWeights 89 = .ok (.aload_n 0, 1) := by decide +kernel
theorem dX0_reckonWeights_90 : decode cX0_reckonWeights 90 = .ok (.getfield 12, 3) := by decide +kernel
theorem dX0_reckonWeights_93 : decode cX0_reckonWeights 93 = .ok (.invokevirtual 47, 3) := by decide +kernel
theorem dX0_reckonWeights_96 : decode cX0_reckonWeights 96 = .ok (.if_icmp .ge 37, 3) := by decide +kernel
theorem dX0_reckonWeights_99 : decode cX0_reckonWeights 99 = .ok (.iload 5, 2) := by decide +kernel
theorem dX0_reckonWeights_101 : decode cX0_reckonWeights 101 = .ok (.iconst 5, 1) := by decide +kernel
theorem dX0_reckonWeights_102 : decode cX0_reckonWeights 102 = .ok (.if_icmp .ge 31, 3) := by decide +kernel
theorem dX0_reckonWeights_105 : decode cX0_reckonWeights 105 = .ok (.lload_n 3, 1) := by decide +kernel
theorem dX0_reckonWeights_106 : decode cX0_reckonWeights 106 = .ok (.lconst 1, 1) := by decide +kernel
theorem dX0_reckonWeights_107 : decode cX0_reckonWeights 107 = .ok (.lcmp, 1) := by decide +kernel
theorem dX0_reckonWeights_108 : decode cX0_reckonWeights 108 = .ok (.ifCond .le 25, 3) := by decide +kernel
theorem dX0_reckonWeights_111 : decode cX0_reckonWeights 111 = .ok (.aload_n 0, 1) := by decide +kernel
theorem dX0_reckonWeights_112 : decode cX0_reckonWeights 112 = .ok (.getfield 25, 3) := by decide +kernel
theorem dX0_reckonWeights_115 : decode cX0_reckonWeights 115 = .ok (.iload 5, 2) := by decide +kernel
theorem dX0_reckonWeights_117 : decode cX0_reckonWeights 117 = .ok (.aload_n 0, 1) := by decide +kernel
theorem dX0_reckonWeights_118 : decode cX0_reckonWeights 118 = .ok (.getfield 25, 3) := by decide +kernel
theorem dX0_reckonWeights_121 : decode cX0_reckonWeights 121 = .ok (.iload 5, 2) := by decide +kernel
theorem dX0_reckonWeights_123 : decode cX0_reckonWeights 123 = .ok (.laload, 1) := by decide +kernel
theorem dX0_reckonWeights_124 : decode cX0_reckonWeights 124 = .ok (.lload_n 3, 1) := by decide +kernel
theorem dX0_reckonWeights_125 : decode cX0_reckonWeights 125 = .ok (.ldiv, 1) := by decide +kernel
theorem dX0_reckonWeights_126 : decode cX0_reckonWeights 126 = .ok (.lastore, 1) := by decide +kernel
theorem dX0_reckonWeights_127 : decode cX0_reckonWeights 127 = .ok (.iinc 5 1, 3) := by decide +kernel
theorem dX0_reckonWeights_130 : decode cX0_reckonWeights 130 = .ok (.goto (-43), 3) := by decide +kernel
theorem dX0_reckonWeights_133 : decode cX0_reckonWeights 133 = .ok (.return_, 1) := by decide +kernel
theorem dX0_pairProduct_0 : decode cX0_pairProduct 0 = .ok (.lconst 1, 1) := by decide +kernel
theorem dX0_pairProduct_1 : decode cX0_pairProduct 1 = .ok (.lstore_n 1, 1) := by decide +kernel
theorem dX0_pairProduct_2 : decode cX0_pairProduct 2 = .ok (.iconst 1, 1) := by decide +kernel
theorem dX0_pairProduct_3 : decode cX0_pairProduct 3 = .ok (.istore_n 3, 1) := by decide +kernel
theorem dX0_pairProduct_4 : decode cX0_pairProduct 4 = .ok (.iload_n 3, 1) := by decide +kernel
theorem dX0_pairProduct_5 : decode cX0_pairProduct 5 = .ok (.aload_n 0, 1) := by decide +kernel
theorem dX0_pairProduct_6 : decode cX0_pairProduct 6 = .ok (.getfield 12, 3) := by decide +kernel
theorem dX0_pairProduct_9 : decode cX0_pairProduct 9 = .ok (.invokevirtual 47, 3) := by decide +kernel
theorem dX0_pairProduct_12 : decode cX0_pairProduct 12 = .ok (.if_icmp .ge 47, 3) := by decide +kernel
theorem dX0_pairProduct_15 : decode cX0_pairProduct 15 = .ok (.iload_n 3, 1) := by decide +kernel
theorem dX0_pairProduct_16 : decode cX0_pairProduct 16 = .ok (.iconst 5, 1) := by decide +kernel
theorem dX0_pairProduct_17 : decode cX0_pairProduct 17 = .ok (.if_icmp .ge 42, 3) := by decide +kernel
theorem dX0_pairProduct_20 : decode cX0_pairProduct 20 = .ok (.iconst 0, 1) := by decide +kernel
theorem dX0_pairProduct_21 : decode cX0_pairProduct 21 = .ok (.istore 4, 2) := by decide +kernel
theorem dX0_pairProduct_23 : decode cX0_pairProduct 23 = .ok (.iload 4, 2) := by decide +kernel
theorem dX0_pairProduct_25 : decode cX0_pairProduct 25 = .ok (.iload_n 3, 1) := by decide +kernel
theorem dX0_pairProduct_26 : decode cX0_pairProduct 26 = .ok (.if_icmp .ge 27, 3) := by decide +kernel
theorem dX0_pairProduct_29 : decode cX0_pairProduct 29 = .ok (.lload_n 1, 1) := by decide +kernel
theorem dX0_pairProduct_30 : decode cX0_pairProduct 30 = .ok (.aload_n 0, 1) := by decide +kernel
theorem dX0_pairProduct_31 : decode cX0_pairProduct 31 = .ok (.getfield 22, 3) := by decide +kernel
theorem dX0_pairProduct_34 : decode cX0_pairProduct 34 = .ok (.iload_n 3, 1) := by decide +kernel
theorem dX0_pairProduct_35 : decode cX0_pairProduct 35 = .ok (.iaload, 1) := by decide +kernel
theorem dX0_pairProduct_36 : decode cX0_pairProduct 36 = .ok (.aload_n 0, 1) := by decide +kernel
theorem dX0_pairProduct_37 : decode cX0_pairProduct 37 = .ok (.getfield 22, 3) := by decide +kernel
theorem dX0_pairProduct_40 : decode cX0_pairProduct 40 = .ok (.iload 4, 2) := by decide +kernel
theorem dX0_pairProduct_42 : decode cX0_pairProduct 42 = .ok (.iaload, 1) := by decide +kernel
theorem dX0_pairProduct_43 : decode cX0_pairProduct 43 = .ok (.isub, 1) := by decide +kernel
theorem dX0_pairProduct_44 : decode cX0_pairProduct 44 = .ok (.i2l, 1) := by decide +kernel
theorem dX0_pairProduct_45 : decode cX0_pairProduct 45 = .ok (.lmul, 1) := by decide +kernel
theorem dX0_pairProduct_46 : decode cX0_pairProduct 46 = .ok (.lstore_n 1, 1) := by decide +kernel
theorem dX0_pairProduct_47 : decode cX0_pairProduct 47 = .ok (.iinc 4 1, 3) := by decide +kernel
theorem dX0_pairProduct_50 : decode cX0_pairProduct 50 = .ok (.goto (-27), 3) := by decide +kernel
theorem dX0_pairProduct_53 : decode cX0_pairProduct 53 = .ok (.iinc 3 1, 3) := by decide +kernel
theorem dX0_pairProduct_56 : decode cX0_pairProduct 56 = .ok (.goto (-52), 3) := by decide +kernel
theorem dX0_pairProduct_59 : decode cX0_pairProduct 59 = .ok (.lload_n 1, 1) := by decide +kernel
theorem dX0_pairProduct_60 : decode cX0_pairProduct 60 = .ok (.lreturn, 1) := by decide +kernel
theorem dX0_scaledWeight_0 : decode cX0_scaledWeight 0 = .ok (.aload_n 0, 1) := by decide +kernel
theorem dX0_scaledWeight_1 : decode cX0_scaledWeight 1 = .ok (.getfield 12, 3) := by decide +kernel
theorem dX0_scaledWeight_4 : decode cX0_scaledWeight 4 = .ok (.invokevirtual 47, 3) := by decide +kernel
theorem dX0_scaledWeight_7 : decode cX0_scaledWeight 7 = .ok (.iconst 1, 1) := by decide +kernel
theorem dX0_scaledWeight_8 : decode cX0_scaledWeight 8 = .ok (.isub, 1) := by decide +kernel
theorem dX0_scaledWeight_9 : decode cX0_scaledWeight 9 = .ok (.istore 4, 2) := by decide +kernel
theorem dX0_scaledWeight_11 : decode cX0_scaledWeight 11 = .ok (.aload_n 0, 1) := by decide +kernel
theorem dX0_scaledWeight_12 : decode cX0_scaledWeight 12 = .ok (.getfield 12, 3) := by decide +kernel
theorem dX0_scaledWeight_15 : decode cX0_scaledWeight 15 = .ok (.getfield 62, 3) := by decide +kernel
theorem dX0_scaledWeight_18 : decode cX0_scaledWeight 18 = .ok (.ifCond .ne 8, 3) := by decide +kernel
theorem dX0_scaledWeight_21 : decode cX0_scaledWeight 21 = .ok (.iload 4, 2) := by decide +kernel
theorem dX0_scaledWeight_23 : decode cX0_scaledWeight 23 = .ok (.goto 15, 3) := by decide +kernel
theorem dX0_scaledWeight_26 : decode cX0_scaledWeight 26 = .ok (.aload_n 0, 1) := by decide +kernel
theorem dX0_scaledWeight_27 : decode cX0_scaledWeight 27 = .ok (.getfield 12, 3) := by decide +kernel
theorem dX0_scaledWeight_30 : decode cX0_scaledWeight 30 = .ok (.getfield 79, 3) := by decide +kernel
theorem dX0_scaledWeight_33 : decode cX0_scaledWeight 33 = .ok (.iload 4, 2) := by decide +kernel
theorem dX0_scaledWeight_35 : decode cX0_scaledWeight 35 = .ok (.invokestatic 82, 3) := by decide +kernel
theorem dX0_scaledWeight_38 : decode cX0_scaledWeight 38 = .ok (.istore 5, 2) := by decide +kernel
theorem dX0_scaledWeight_40 : decode cX0_scaledWeight 40 = .ok (.aload_n 0, 1) := by decide +kernel
theorem dX0_scaledWeight_41 : decode cX0_scaledWeight 41 = .ok (.getfield 12, 3) := by decide +kernel
theorem dX0_scaledWeight_44 : decode cX0_scaledWeight 44 = .ok (.iload_n 1, 1) := by decide +kernel
theorem dX0_scaledWeight_45 : decode cX0_scaledWeight 45 = .ok (.invokevirtual 51, 3) := by decide +kernel
theorem dX0_scaledWeight_48 : decode cX0_scaledWeight 48 = .ok (.istore 6, 2) := by decide +kernel
theorem dX0_scaledWeight_50 : decode cX0_scaledWeight 50 = .ok (.iload 6, 2) := by decide +kernel
theorem dX0_scaledWeight_52 : decode cX0_scaledWeight 52 = .ok (.iload 4, 2) := by decide +kernel
theorem dX0_scaledWeight_54 : decode cX0_scaledWeight 54 = .ok (.iload 5, 2) := by decide +kernel
theorem dX0_scaledWeight_56 : decode cX0_scaledWeight 56 = .ok (.isub, 1) := by decide +kernel
theorem dX0_scaledWeight_57 : decode cX0_scaledWeight 57 = .ok (.invokestatic 82, 3) := by decide +kernel
theorem dX0_scaledWeight_60 : decode cX0_scaledWeight 60 = .ok (.istore 7, 2) := by decide +kernel
theorem dX0_scaledWeight_62 : decode cX0_scaledWeight 62 = .ok (.lconst 0, 1) := by decide +kernel
theorem dX0_scaledWeight_63 : decode cX0_scaledWeight 63 = .ok (.lstore 8, 2) := by decide +kernel
theorem dX0_scaledWeight_65 : decode cX0_scaledWeight 65 = .ok (.iconst 0, 1) := by decide +kernel
theorem dX0_scaledWeight_66 : decode cX0_scaledWeight 66 = .ok (.iload 6, 2) := by decide +kernel
theorem dX0_scaledWeight_68 : decode cX0_scaledWeight 68 = .ok (.iload 5, 2) := by decide +kernel
theorem dX0_scaledWeight_70 : decode cX0_scaledWeight 70 = .ok (.isub, 1) := by decide +kernel
theorem dX0_scaledWeight_71 : decode cX0_scaledWeight 71 = .ok (.invokestatic 88, 3) := by decide +kernel
theorem dX0_scaledWeight_74 : decode cX0_scaledWeight 74 = .ok (.istore 10, 2) := by decide +kernel
theorem dX0_scaledWeight_76 : decode cX0_scaledWeight 76 = .ok (.iload 10, 2) := by decide +kernel
theorem dX0_scaledWeight_78 : decode cX0_scaledWeight 78 = .ok (.iload 7, 2) := by decide +kernel
theorem dX0_scaledWeight_80 : decode cX0_scaledWeight 80 = .ok (.if_icmp .gt 99, 3) := by decide +kernel
theorem dX0_scaledWeight_83 : decode cX0_scaledWeight 83 = .ok (.lconst 1, 1) := by decide +kernel
theorem dX0_scaledWeight_84 : decode cX0_scaledWeight 84 = .ok (.lstore 11, 2) := by decide +kernel
theorem dX0_scaledWeight_86 : decode cX0_scaledWeight 86 = .ok (.iload 10, 2) := by decide +kernel
theorem dX0_scaledWeight_88 : decode cX0_scaledWeight 88 = .ok (.istore 13, 2) := by decide +kernel
theorem dX0_scaledWeight_90 : decode cX0_scaledWeight 90 = .ok (.iload 13, 2) := by decide +kernel
theorem dX0_scaledWeight_92 : decode cX0_scaledWeight 92 = .ok (.iload 10, 2) := by decide +kernel
theorem dX0_scaledWeight_94 : decode cX0_scaledWeight 94 = .ok (.iload 5, 2) := by decide +kernel
theorem dX0_scaledWeight_96 : decode cX0_scaledWeight 96 = .ok (.iadd, 1) := by decide +kernel
theorem dX0_scaledWeight_97 : decode cX0_scaledWeight 97 = .ok (.if_icmp .gt 48, 3) := by decide +kernel
theorem dX0_scaledWeight_100 : decode cX0_scaledWeight 100 = .ok (.iload 13, 2) := by decide +kernel
theorem dX0_scaledWeight_102 : decode cX0_scaledWeight 102 = .ok (.iconst 5, 1) := by decide +kernel
theorem dX0_scaledWeight_103 : decode cX0_scaledWeight 103 = .ok (.if_icmp .ge 42, 3) := by decide +kernel
theorem dX0_scaledWeight_106 : decode cX0_scaledWeight 106 = .ok (.lload 11, 2) := by decide +kernel
theorem dX0_scaledWeight_108 : decode cX0_scaledWeight 108 = .ok (.iload 13, 2) := by decide +kernel
theorem dX0_scaledWeight_110 : decode cX0_scaledWeight 110 = .ok (.iload 6, 2) := by decide +kernel
theorem dX0_scaledWeight_112 : decode cX0_scaledWeight 112 = .ok (.if_icmp .ne 7, 3) := by decide +kernel
theorem dX0_scaledWeight_115 : decode cX0_scaledWeight 115 = .ok (.lconst 1, 1) := by decide +kernel
theorem dX0_scaledWeight_116 : decode cX0_scaledWeight 116 = .ok (.goto 20, 3) := by decide +kernel
theorem dX0_scaledWeight_119 : decode cX0_scaledWeight 119 = .ok (.aload_n 0, 1) := by decide +kernel
theorem dX0_scaledWeight_120 : decode cX0_scaledWeight 120 = .ok (.getfield 12, 3) := by decide +kernel
theorem dX0_scaledWeight_123 : decode cX0_scaledWeight 123 = .ok (.iload_n 1, 1) := by decide +kernel
theorem dX0_scaledWeight_124 : decode cX0_scaledWeight 124 = .ok (.invokevirtual 55, 3) := by decide +kernel
theorem dX0_scaledWeight_127 : decode cX0_scaledWeight 127 = .ok (.aload_n 0, 1) := by decide +kernel
theorem dX0_scaledWeight_128 : decode cX0_scaledWeight 128 = .ok (.getfield 22, 3) := by decide +kernel
theorem dX0_scaledWeight_131 : decode cX0_scaledWeight 131 = .ok (.iload 13, 2) := by decide +kernel
theorem dX0_scaledWeight_133 : decode cX0_scaledWeight 133 = .ok (.iaload, 1) := by decide +kernel
theorem dX0_scaledWeight_134 : decode cX0_scaledWeight 134 = .ok (.isub, 1) := by decide +kernel
theorem dX0_scaledWeight_135 : decode cX0_scaledWeight 135 = .ok (.i2l, 1) := by decide +kernel
theorem dX0_scaledWeight_136 : decode cX0_scaledWeight 136 = .ok (.lmul, 1) := by decide +kernel
theorem dX0_scaledWeight_137 : decode cX0_scaledWeight 137 = .ok (.lstore 11, 2) := by decide +kernel
theorem dX0_scaledWeight_139 : decode cX0_scaledWeight 139 = .ok (.iinc 13 1, 3) := by decide +kernel
theorem dX0_scaledWeight_142 : decode cX0_scaledWeight 142 = .ok (.goto (-52), 3) := by decide +kernel
theorem dX0_scaledWeight_145 : decode cX0_scaledWeight 145 = .ok (.lload 11, 2) := by decide +kernel
theorem dX0_scaledWeight_147 : decode cX0_scaledWeight 147 = .ok (.lconst 0, 1) := by decide +kernel
theorem dX0_scaledWeight_148 : decode cX0_scaledWeight 148 = .ok (.lcmp, 1) := by decide +kernel
theorem dX0_scaledWeight_149 : decode cX0_scaledWeight 149 = .ok (.ifCond .eq 24, 3) := by decide +kernel
theorem dX0_scaledWeight_152 : decode cX0_scaledWeight 152 = .ok (.lload 8, 2) := by decide +kernel
theorem dX0_scaledWeight_154 : decode cX0_scaledWeight 154 = .ok (.iload 10, 2) := by decide +kernel
theorem dX0_scaledWeight_156 : decode cX0_scaledWeight 156 = .ok (.iconst 2, 1) := by decide +kernel
theorem dX0_scaledWeight_157 : decode cX0_scaledWeight 157 = .ok (.irem, 1) := by decide +kernel
theorem dX0_scaledWeight_158 : decode cX0_scaledWeight 158 = .ok (.ifCond .ne 7, 3) := by decide +kernel
theorem dX0_scaledWeight_161 : decode cX0_scaledWeight 161 = .ok (.lload_n 2, 1) := by decide +kernel
theorem dX0_scaledWeight_162 : decode cX0_scaledWeight 162 = .ok (.goto 5, 3) := by decide +kernel
theorem dX0_scaledWeight_165 : decode cX0_scaledWeight 165 = .ok (.lload_n 2, 1) := by decide +kernel
theorem dX0_scaledWeight_166 : decode cX0_scaledWeight 166 = .ok (.lneg, 1) := by decide +kernel
theorem dX0_scaledWeight_167 : decode cX0_scaledWeight 167 = .ok (.lload 11, 2) := by decide +kernel
theorem dX0_scaledWeight_169 : decode cX0_scaledWeight 169 = .ok (.ldiv, 1) := by decide +kernel
theorem dX0_scaledWeight_170 : decode cX0_scaledWeight 170 = .ok (.ladd, 1) := by decide +kernel
theorem dX0_scaledWeight_171 : decode cX0_scaledWeight 171 = .ok (.lstore 8, 2) := by decide +kernel
theorem dX0_scaledWeight_173 : decode cX0_scaledWeight 173 = .ok (.iinc 10 1, 3) := by decide +kernel
theorem dX0_scaledWeight_176 : decode cX0_scaledWeight 176 = .ok (.goto (-100), 3) := by decide +kernel
theorem dX0_scaledWeight_179 : decode cX0_scaledWeight 179 = .ok (.lload 8, 2) := by decide +kernel
theorem dX0_scaledWeight_181 : decode cX0_scaledWeight 181 = .ok (.lreturn, 1) := by decide +kernel
theorem dX0_reckonPolynomials_0 : decode cX0_reckonPolynomials 0 = .ok (.iconst 0, 1) := by decide +kernel
theorem dX0_reckonPolynomials_1 : decode cX0_reckonPolynomials 1 = .ok (.istore_n 1, 1) := by decide +kernel
theorem dX0_reckonPolynomials_2 : decode cX0_reckonPolynomials 2 = .ok (.iload_n 1, 1) := by decide +kernel
theorem dX0_reckonPolynomials_3 : decode cX0_reckonPolynomials 3 = .ok (.iconst 5, 1) := by decide +kernel
theorem dX0_reckonPolynomials_4 : decode cX0_reckonPolynomials 4 = .ok (.if_icmp .ge 23, 3) := by decide +kernel
theorem dX0_reckonPolynomials_7 : decode cX0_reckonPolynomials 7 = .ok (.aload_n 0, 1) := by decide +kernel
theorem dX0_reckonPolynomials_8 : decode cX0_reckonPolynomials 8 = .ok (.getfield 29, 3) := by decide +kernel
theorem dX0_reckonPolynomials_11 : decode cX0_reckonPolynomials 11 = .ok (.iload_n 1, 1) := by decide +kernel
theorem dX0_reckonPolynomials_12 : decode cX0_reckonPolynomials 12 = .ok (.lconst 0, 1) := by decide +kernel
theorem dX0_reckonPolynomials_13 : decode cX0_reckonPolynomials 13 = .ok (.lastore, 1) := by decide +kernel
theorem dX0_reckonPolynomials_14 : decode cX0_reckonPolynomials 14 = .ok (.aload_n 0, 1) := by decide +kernel
theorem dX0_reckonPolynomials_15 : decode cX0_reckonPolynomials 15 = .ok (.getfield 32, 3) := by decide +kernel
theorem dX0_reckonPolynomials_18 : decode cX0_reckonPolynomials 18 = .ok (.iload_n 1, 1) := by decide +kernel
theorem dX0_reckonPolynomials_19 : decode cX0_reckonPolynomials 19 = .ok (.lconst 0, 1) := by decide +kernel
theorem dX0_reckonPolynomials_20 : decode cX0_reckonPolynomials 20 = .ok (.lastore, 1) := by decide +kernel
theorem dX0_reckonPolynomials_21 : decode cX0_reckonPolynomials 21 = .ok (.iinc 1 1, 3) := by decide +kernel
theorem dX0_reckonPolynomials_24 : decode cX0_reckonPolynomials 24 = .ok (.goto (-22), 3) := by decide +kernel
theorem dX0_reckonPolynomials_27 : decode cX0_reckonPolynomials 27 = .ok (.iconst 0, 1) := by decide +kernel
theorem dX0_reckonPolynomials_28 : decode cX0_reckonPolynomials 28 = .ok (.istore_n 1, 1) := by decide +kernel
theorem dX0_reckonPolynomials_29 : decode cX0_reckonPolynomials 29 = .ok (.iload_n 1, 1) := by decide +kernel
theorem dX0_reckonPolynomials_30 : decode cX0_reckonPolynomials 30 = .ok (.aload_n 0, 1) := by decide +kernel
theorem dX0_reckonPolynomials_31 : decode cX0_reckonPolynomials 31 = .ok (.getfield 12, 3) := by decide +kernel
theorem dX0_reckonPolynomials_34 : decode cX0_reckonPolynomials 34 = .ok (.invokevirtual 47, 3) := by decide +kernel
theorem dX0_reckonPolynomials_37 : decode cX0_reckonPolynomials 37 = .ok (.if_icmp .ge 70, 3) := by decide +kernel
theorem dX0_reckonPolynomials_40 : decode cX0_reckonPolynomials 40 = .ok (.aload_n 0, 1) := by decide +kernel
theorem dX0_reckonPolynomials_41 : decode cX0_reckonPolynomials 41 = .ok (.iload_n 1, 1) := by decide +kernel
theorem dX0_reckonPolynomials_42 : decode cX0_reckonPolynomials 42 = .ok (.invokevirtual 91, 3) := by decide +kernel
theorem dX0_reckonPolynomials_45 : decode cX0_reckonPolynomials 45 = .ok (.iconst 0, 1) := by decide +kernel
theorem dX0_reckonPolynomials_46 : decode cX0_reckonPolynomials 46 = .ok (.istore_n 2, 1) := by decide +kernel
theorem dX0_reckonPolynomials_47 : decode cX0_reckonPolynomials 47 = .ok (.iload_n 2, 1) := by decide +kernel
theorem dX0_reckonPolynomials_48 : decode cX0_reckonPolynomials 48 = .ok (.iconst 5, 1) := by decide +kernel
theorem dX0_reckonPolynomials_49 : decode cX0_reckonPolynomials 49 = .ok (.if_icmp .ge 52, 3) := by decide +kernel
theorem dX0_reckonPolynomials_52 : decode cX0_reckonPolynomials 52 = .ok (.aload_n 0, 1) := by decide +kernel
theorem dX0_reckonPolynomials_53 : decode cX0_reckonPolynomials 53 = .ok (.iload_n 1, 1) := by decide +kernel
theorem dX0_reckonPolynomials_54 : decode cX0_reckonPolynomials 54 = .ok (.invokevirtual 95, 3) := by decide +kernel
theorem dX0_reckonPolynomials_57 : decode cX0_reckonPolynomials 57 = .ok (.aload_n 0, 1) := by decide +kernel
theorem dX0_reckonPolynomials_58 : decode cX0_reckonPolynomials 58 = .ok (.getfield 35, 3) := by decide +kernel
theorem dX0_reckonPolynomials_61 : decode cX0_reckonPolynomials 61 = .ok (.iload_n 2, 1) := by decide +kernel
theorem dX0_reckonPolynomials_62 : decode cX0_reckonPolynomials 62 = .ok (.laload, 1) := by decide +kernel
theorem dX0_reckonPolynomials_63 : decode cX0_reckonPolynomials 63 = .ok (.lmul, 1) := by decide +kernel
theorem dX0_reckonPolynomials_64 : decode cX0_reckonPolynomials 64 = .ok (.lstore_n 3, 1) := by decide +kernel
theorem dX0_reckonPolynomials_65 : decode cX0_reckonPolynomials 65 = .ok (.aload_n 0, 1) := by decide +kernel
theorem dX0_reckonPolynomials_66 : decode cX0_reckonPolynomials 66 = .ok (.getfield 29, 3) := by decide +kernel
theorem dX0_reckonPolynomials_69 : decode cX0_reckonPolynomials 69 = .ok (.iload_n 2, 1) := by decide +kernel
theorem dX0_reckonPolynomials_70 : decode cX0_reckonPolynomials 70 = .ok (.dup2, 1) := by decide +kernel
theorem dX0_reckonPolynomials_71 : decode cX0_reckonPolynomials 71 = .ok (.laload, 1) := by decide +kernel
theorem dX0_reckonPolynomials_72 : decode cX0_reckonPolynomials 72 = .ok (.lload_n 3, 1) := by decide +kernel
theorem dX0_reckonPolynomials_73 : decode cX0_reckonPolynomials 73 = .ok (.aload_n 0, 1) := by decide +kernel
theorem dX0_reckonPolynomials_74 : decode cX0_reckonPolynomials 74 = .ok (.getfield 12, 3) := by decide +kernel
theorem dX0_reckonPolynomials_77 : decode cX0_reckonPolynomials 77 = .ok (.iload_n 1, 1) := by decide +kernel
theorem dX0_reckonPolynomials_78 : decode cX0_reckonPolynomials 78 = .ok (.invokevirtual 99, 3) := by decide +kernel
theorem dX0_reckonPolynomials_81 : decode cX0_reckonPolynomials 81 = .ok (.i2l, 1) := by decide +kernel
theorem dX0_reckonPolynomials_82 : decode cX0_reckonPolynomials 82 = .ok (.lmul, 1) := by decide +kernel
theorem dX0_reckonPolynomials_83 : decode cX0_reckonPolynomials 83 = .ok (.ladd, 1) := by decide +kernel
theorem dX0_reckonPolynomials_84 : decode cX0_reckonPolynomials 84 = .ok (.lastore, 1) := by decide +kernel
theorem dX0_reckonPolynomials_85 : decode cX0_reckonPolynomials 85 = .ok (.aload_n 0, 1) := by decide +kernel
theorem dX0_reckonPolynomials_86 : decode cX0_reckonPolynomials 86 = .ok (.getfield 32, 3) := by decide +kernel
theorem dX0_reckonPolynomials_89 : decode cX0_reckonPolynomials 89 = .ok (.iload_n 2, 1) := by decide +kernel
theorem dX0_reckonPolynomials_90 : decode cX0_reckonPolynomials 90 = .ok (.dup2, 1) := by decide +kernel
theorem dX0_reckonPolynomials_91 : decode cX0_reckonPolynomials 91 = .ok (.laload, 1) := by decide +kernel
theorem dX0_reckonPolynomials_92 : decode cX0_reckonPolynomials 92 = .ok (.lload_n 3, 1) := by decide +kernel
theorem dX0_reckonPolynomials_93 : decode cX0_reckonPolynomials 93 = .ok (.ladd, 1) := by decide +kernel
theorem dX0_reckonPolynomials_94 : decode cX0_reckonPolynomials 94 = .ok (.lastore, 1) := by decide +kernel
theorem dX0_reckonPolynomials_95 : decode cX0_reckonPolynomials 95 = .ok (.iinc 2 1, 3) := by decide +kernel
theorem dX0_reckonPolynomials_98 : decode cX0_reckonPolynomials 98 = .ok (.goto (-51), 3) := by decide +kernel
theorem dX0_reckonPolynomials_101 : decode cX0_reckonPolynomials 101 = .ok (.iinc 1 1, 3) := by decide +kernel
theorem dX0_reckonPolynomials_104 : decode cX0_reckonPolynomials 104 = .ok (.goto (-75), 3) := by decide +kernel
theorem dX0_reckonPolynomials_107 : decode cX0_reckonPolynomials 107 = .ok (.return_, 1) := by decide +kernel
theorem dX0_reckonProduct_0 : decode cX0_reckonProduct 0 = .ok (.iconst 0, 1) := by decide +kernel
theorem dX0_reckonProduct_1 : decode cX0_reckonProduct 1 = .ok (.istore_n 2, 1) := by decide +kernel
theorem dX0_reckonProduct_2 : decode cX0_reckonProduct 2 = .ok (.iload_n 2, 1) := by decide +kernel
theorem dX0_reckonProduct_3 : decode cX0_reckonProduct 3 = .ok (.iconst 5, 1) := by decide +kernel
theorem dX0_reckonProduct_4 : decode cX0_reckonProduct 4 = .ok (.if_icmp .ge 24, 3) := by decide +kernel
theorem dX0_reckonProduct_7 : decode cX0_reckonProduct 7 = .ok (.aload_n 0, 1) := by decide +kernel
theorem dX0_reckonProduct_8 : decode cX0_reckonProduct 8 = .ok (.getfield 35, 3) := by decide +kernel
theorem dX0_reckonProduct_11 : decode cX0_reckonProduct 11 = .ok (.iload_n 2, 1) := by decide +kernel
theorem dX0_reckonProduct_12 : decode cX0_reckonProduct 12 = .ok (.iload_n 2, 1) := by decide +kernel
theorem dX0_reckonProduct_13 : decode cX0_reckonProduct 13 = .ok (.ifCond .ne 7, 3) := by decide +kernel
theorem dX0_reckonProduct_16 : decode cX0_reckonProduct 16 = .ok (.lconst 1, 1) := by decide +kernel
theorem dX0_reckonProduct_17 : decode cX0_reckonProduct 17 = .ok (.goto 4, 3) := by decide +kernel
theorem dX0_reckonProduct_20 : decode cX0_reckonProduct 20 = .ok (.lconst 0, 1) := by decide +kernel
theorem dX0_reckonProduct_21 : decode cX0_reckonProduct 21 = .ok (.lastore, 1) := by decide +kernel
theorem dX0_reckonProduct_22 : decode cX0_reckonProduct 22 = .ok (.iinc 2 1, 3) := by decide +kernel
theorem dX0_reckonProduct_25 : decode cX0_reckonProduct 25 = .ok (.goto (-23), 3) := by decide +kernel
theorem dX0_reckonProduct_28 : decode cX0_reckonProduct 28 = .ok (.iconst 0, 1) := by decide +kernel
theorem dX0_reckonProduct_29 : decode cX0_reckonProduct 29 = .ok (.istore_n 2, 1) := by decide +kernel
theorem dX0_reckonProduct_30 : decode cX0_reckonProduct 30 = .ok (.iload_n 2, 1) := by decide +kernel
theorem dX0_reckonProduct_31 : decode cX0_reckonProduct 31 = .ok (.aload_n 0, 1) := by decide +kernel
theorem dX0_reckonProduct_32 : decode cX0_reckonProduct 32 = .ok (.getfield 12, 3) := by decide +kernel
theorem dX0_reckonProduct_35 : decode cX0_reckonProduct 35 = .ok (.invokevirtual 47, 3) := by decide +kernel
theorem dX0_reckonProduct_38 : decode cX0_reckonProduct 38 = .ok (.if_icmp .ge 69, 3) := by decide +kernel
theorem dX0_reckonProduct_41 : decode cX0_reckonProduct 41 = .ok (.iload_n 2, 1) := by decide +kernel
theorem dX0_reckonProduct_42 : decode cX0_reckonProduct 42 = .ok (.iload_n 1, 1) := by decide +kernel
theorem dX0_reckonProduct_43 : decode cX0_reckonProduct 43 = .ok (.if_icmp .eq 58, 3) := by decide +kernel
theorem dX0_reckonProduct_46 : decode cX0_reckonProduct 46 = .ok (.iconst 4, 1) := by decide +kernel
theorem dX0_reckonProduct_47 : decode cX0_reckonProduct 47 = .ok (.istore_n 3, 1) := by decide +kernel
theorem dX0_reckonProduct_48 : decode cX0_reckonProduct 48 = .ok (.iload_n 3, 1) := by decide +kernel
theorem dX0_reckonProduct_49 : decode cX0_reckonProduct 49 = .ok (.ifCond .lt 52, 3) := by decide +kernel
theorem dX0_reckonProduct_52 : decode cX0_reckonProduct 52 = .ok (.iload_n 3, 1) := by decide +kernel
theorem dX0_reckonProduct_53 : decode cX0_reckonProduct 53 = .ok (.ifCond .le 14, 3) := by decide +kernel
theorem dX0_reckonProduct_56 : decode cX0_reckonProduct 56 = .ok (.aload_n 0, 1) := by decide +kernel
theorem dX0_reckonProduct_57 : decode cX0_reckonProduct 57 = .ok (.getfield 35, 3) := by decide +kernel
theorem dX0_reckonProduct_60 : decode cX0_reckonProduct 60 = .ok (.iload_n 3, 1) := by decide +kernel
theorem dX0_reckonProduct_61 : decode cX0_reckonProduct 61 = .ok (.iconst 1, 1) := by decide +kernel
theorem dX0_reckonProduct_62 : decode cX0_reckonProduct 62 = .ok (.isub, 1) := by decide +kernel
theorem dX0_reckonProduct_63 : decode cX0_reckonProduct 63 = .ok (.laload, 1) := by decide +kernel
theorem dX0_reckonProduct_64 : decode cX0_reckonProduct 64 = .ok (.goto 4, 3) := by decide +kernel
theorem dX0_reckonProduct_67 : decode cX0_reckonProduct 67 = .ok (.lconst 0, 1) := by decide +kernel
theorem dX0_reckonProduct_68 : decode cX0_reckonProduct 68 = .ok (.lstore 4, 2) := by decide +kernel
theorem dX0_reckonProduct_70 : decode cX0_reckonProduct 70 = .ok (.aload_n 0, 1) := by decide +kernel
theorem dX0_reckonProduct_71 : decode cX0_reckonProduct 71 = .ok (.getfield 35, 3) := by decide +kernel
theorem dX0_reckonProduct_74 : decode cX0_reckonProduct 74 = .ok (.iload_n 3, 1) := by decide +kernel
theorem dX0_reckonProduct_75 : decode cX0_reckonProduct 75 = .ok (.lload 4, 2) := by decide +kernel
theorem dX0_reckonProduct_77 : decode cX0_reckonProduct 77 = .ok (.aload_n 0, 1) := by decide +kernel
theorem dX0_reckonProduct_78 : decode cX0_reckonProduct 78 = .ok (.getfield 12, 3) := by decide +kernel
theorem dX0_reckonProduct_81 : decode cX0_reckonProduct 81 = .ok (.iload_n 2, 1) := by decide +kernel
theorem dX0_reckonProduct_82 : decode cX0_reckonProduct 82 = .ok (.invokevirtual 55, 3) := by decide +kernel
theorem dX0_reckonProduct_85 : decode cX0_reckonProduct 85 = .ok (.i2l, 1) := by decide +kernel
theorem dX0_reckonProduct_86 : decode cX0_reckonProduct 86 = .ok (.aload_n 0, 1) := by decide +kernel
theorem dX0_reckonProduct_87 : decode cX0_reckonProduct 87 = .ok (.getfield 35, 3) := by decide +kernel
theorem dX0_reckonProduct_90 : decode cX0_reckonProduct 90 = .ok (.iload_n 3, 1) := by decide +kernel
theorem dX0_reckonProduct_91 : decode cX0_reckonProduct 91 = .ok (.laload, 1) := by decide +kernel
theorem dX0_reckonProduct_92 : decode cX0_reckonProduct 92 = .ok (.lmul, 1) := by decide +kernel
theorem dX0_reckonProduct_93 : decode cX0_reckonProduct 93 = .ok (.lsub, 1) := by decide +kernel
theorem dX0_reckonProduct_94 : decode cX0_reckonProduct 94 = .ok (.lastore, 1) := by decide +kernel
theorem dX0_reckonProduct_95 : decode cX0_reckonProduct 95 = .ok (.iinc 3 (-1), 3) := by decide +kernel
theorem dX0_reckonProduct_98 : decode cX0_reckonProduct 98 = .ok (.goto (-50), 3) := by decide +kernel
theorem dX0_reckonProduct_101 : decode cX0_reckonProduct 101 = .ok (.iinc 2 1, 3) := by decide +kernel
theorem dX0_reckonProduct_104 : decode cX0_reckonProduct 104 = .ok (.goto (-74), 3) := by decide +kernel
theorem dX0_reckonProduct_107 : decode cX0_reckonProduct 107 = .ok (.return_, 1) := by decide +kernel
theorem dX0_weightOf_0 : decode cX0_weightOf 0 = .ok (.iload_n 1, 1) := by decide +kernel
theorem dX0_weightOf_1 : decode cX0_weightOf 1 = .ok (.ifCond .lt 28, 3) := by decide +kernel
theorem dX0_weightOf_4 : decode cX0_weightOf 4 = .ok (.iload_n 1, 1) := by decide +kernel
theorem dX0_weightOf_5 : decode cX0_weightOf 5 = .ok (.aload_n 0, 1) := by decide +kernel
theorem dX0_weightOf_6 : decode cX0_weightOf 6 = .ok (.getfield 12, 3) := by decide +kernel
theorem dX0_weightOf_9 : decode cX0_weightOf 9 = .ok (.invokevirtual 47, 3) := by decide +kernel
theorem dX0_weightOf_12 : decode cX0_weightOf 12 = .ok (.if_icmp .ge 17, 3) := by decide +kernel
theorem dX0_weightOf_15 : decode cX0_weightOf 15 = .ok (.iload_n 1, 1) := by decide +kernel
theorem dX0_weightOf_16 : decode cX0_weightOf 16 = .ok (.iconst 5, 1) := by decide +kernel
theorem dX0_weightOf_17 : decode cX0_weightOf 17 = .ok (.if_icmp .ge 12, 3) := by decide +kernel
theorem dX0_weightOf_20 : decode cX0_weightOf 20 = .ok (.aload_n 0, 1) := by decide +kernel
theorem dX0_weightOf_21 : decode cX0_weightOf 21 = .ok (.getfield 25, 3) := by decide +kernel
theorem dX0_weightOf_24 : decode cX0_weightOf 24 = .ok (.iload_n 1, 1) := by decide +kernel
theorem dX0_weightOf_25 : decode cX0_weightOf 25 = .ok (.laload, 1) := by decide +kernel
theorem dX0_weightOf_26 : decode cX0_weightOf 26 = .ok (.goto 4, 3) := by decide +kernel
theorem dX0_weightOf_29 : decode cX0_weightOf 29 = .ok (.lconst 0, 1) := by decide +kernel
theorem dX0_weightOf_30 : decode cX0_weightOf 30 = .ok (.lreturn, 1) := by decide +kernel
theorem dX0_alternates_0 : decode cX0_alternates 0 = .ok (.lconst 0, 1) := by decide +kernel
theorem dX0_alternates_1 : decode cX0_alternates 1 = .ok (.lstore_n 1, 1) := by decide +kernel
theorem dX0_alternates_2 : decode cX0_alternates 2 = .ok (.iconst 0, 1) := by decide +kernel
theorem dX0_alternates_3 : decode cX0_alternates 3 = .ok (.istore_n 3, 1) := by decide +kernel
theorem dX0_alternates_4 : decode cX0_alternates 4 = .ok (.iload_n 3, 1) := by decide +kernel
theorem dX0_alternates_5 : decode cX0_alternates 5 = .ok (.aload_n 0, 1) := by decide +kernel
theorem dX0_alternates_6 : decode cX0_alternates 6 = .ok (.getfield 12, 3) := by decide +kernel
theorem dX0_alternates_9 : decode cX0_alternates 9 = .ok (.invokevirtual 47, 3) := by decide +kernel
theorem dX0_alternates_12 : decode cX0_alternates 12 = .ok (.if_icmp .ge 68, 3) := by decide +kernel
theorem dX0_alternates_15 : decode cX0_alternates 15 = .ok (.iload_n 3, 1) := by decide +kernel
theorem dX0_alternates_16 : decode cX0_alternates 16 = .ok (.iconst 5, 1) := by decide +kernel
theorem dX0_alternates_17 : decode cX0_alternates 17 = .ok (.if_icmp .ge 63, 3) := by decide +kernel
theorem dX0_alternates_20 : decode cX0_alternates 20 = .ok (.aload_n 0, 1) := by decide +kernel
theorem dX0_alternates_21 : decode cX0_alternates 21 = .ok (.aload_n 0, 1) := by decide +kernel
theorem dX0_alternates_22 : decode cX0_alternates 22 = .ok (.getfield 18, 3) := by decide +kernel
theorem dX0_alternates_25 : decode cX0_alternates 25 = .ok (.iload_n 3, 1) := by decide +kernel
theorem dX0_alternates_26 : decode cX0_alternates 26 = .ok (.iaload, 1) := by decide +kernel
theorem dX0_alternates_27 : decode cX0_alternates 27 = .ok (.invokevirtual 95, 3) := by decide +kernel
theorem dX0_alternates_30 : decode cX0_alternates 30 = .ok (.lstore 4, 2) := by decide +kernel
theorem dX0_alternates_32 : decode cX0_alternates 32 = .ok (.lload 4, 2) := by decide +kernel
theorem dX0_alternates_34 : decode cX0_alternates 34 = .ok (.lconst 0, 1) := by decide +kernel
theorem dX0_alternates_35 : decode cX0_alternates 35 = .ok (.lcmp, 1) := by decide +kernel
theorem dX0_alternates_36 : decode cX0_alternates 36 = .ok (.ifCond .eq 33, 3) := by decide +kernel
theorem dX0_alternates_39 : decode cX0_alternates 39 = .ok (.iload_n 3, 1) := by decide +kernel
theorem dX0_alternates_40 : decode cX0_alternates 40 = .ok (.ifCond .le 31, 3) := by decide +kernel
theorem dX0_alternates_43 : decode cX0_alternates 43 = .ok (.lload 4, 2) := by decide +kernel
theorem dX0_alternates_45 : decode cX0_alternates 45 = .ok (.lconst 0, 1) := by decide +kernel
theorem dX0_alternates_46 : decode cX0_alternates 46 = .ok (.lcmp, 1) := by decide +kernel
theorem dX0_alternates_47 : decode cX0_alternates 47 = .ok (.ifCond .le 7, 3) := by decide +kernel
theorem dX0_alternates_50 : decode cX0_alternates 50 = .ok (.iconst 1, 1) := by decide +kernel
theorem dX0_alternates_51 : decode cX0_alternates 51 = .ok (.goto 4, 3) := by decide +kernel
theorem dX0_alternates_54 : decode cX0_alternates 54 = .ok (.iconst 0, 1) := by decide +kernel
theorem dX0_alternates_55 : decode cX0_alternates 55 = .ok (.lload_n 1, 1) := by decide +kernel
theorem dX0_alternates_56 : decode cX0_alternates 56 = .ok (.lconst 0, 1) := by decide +kernel
theorem dX0_alternates_57 : decode cX0_alternates 57 = .ok (.lcmp, 1) := by decide +kernel
theorem dX0_alternates_58 : decode cX0_alternates 58 = .ok (.ifCond .le 7, 3) := by decide +kernel
theorem dX0_alternates_61 : decode cX0_alternates 61 = .ok (.iconst 1, 1) := by decide +kernel
theorem dX0_alternates_62 : decode cX0_alternates 62 = .ok (.goto 4, 3) := by decide +kernel
theorem dX0_alternates_65 : decode cX0_alternates 65 = .ok (.iconst 0, 1) := by decide +kernel
theorem dX0_alternates_66 : decode cX0_alternates 66 = .ok (.if_icmp .ne 5, 3) := by decide +kernel
theorem dX0_alternates_69 : decode cX0_alternates 69 = .ok (.iconst 0, 1) := by decide +kernel
theorem dX0_alternates_70 : decode cX0_alternates 70 = .ok (.ireturn, 1) := by decide +kernel
theorem dX0_alternates_71 : decode cX0_alternates 71 = .ok (.lload 4, 2) := by decide +kernel
theorem dX0_alternates_73 : decode cX0_alternates 73 = .ok (.lstore_n 1, 1) := by decide +kernel
theorem dX0_alternates_74 : decode cX0_alternates 74 = .ok (.iinc 3 1, 3) := by decide +kernel
theorem dX0_alternates_77 : decode cX0_alternates 77 = .ok (.goto (-73), 3) := by decide +kernel
theorem dX0_alternates_80 : decode cX0_alternates 80 = .ok (.iconst 1, 1) := by decide +kernel
theorem dX0_alternates_81 : decode cX0_alternates 81 = .ok (.ireturn, 1) := by decide +kernel
theorem dX0_factor_0 : decode cX0_factor 0 = .ok (.iload_n 2, 1) := by decide +kernel
theorem dX0_factor_1 : decode cX0_factor 1 = .ok (.ifCond .lt 8, 3) := by decide +kernel
theorem dX0_factor_4 : decode cX0_factor 4 = .ok (.iload_n 2, 1) := by decide +kernel
theorem dX0_factor_5 : decode cX0_factor 5 = .ok (.iconst 5, 1) := by decide +kernel
theorem dX0_factor_6 : decode cX0_factor 6 = .ok (.if_icmp .lt 5, 3) := by decide +kernel
theorem dX0_factor_9 : decode cX0_factor 9 = .ok (.lconst 0, 1) := by decide +kernel
theorem dX0_factor_10 : decode cX0_factor 10 = .ok (.lreturn, 1) := by decide +kernel
theorem dX0_factor_11 : decode cX0_factor 11 = .ok (.iload_n 1, 1) := by decide +kernel
theorem dX0_factor_12 : decode cX0_factor 12 = .ok (.ifCond .eq 12, 3) := by decide +kernel
theorem dX0_factor_15 : decode cX0_factor 15 = .ok (.aload_n 0, 1) := by decide +kernel
theorem dX0_factor_16 : decode cX0_factor 16 = .ok (.getfield 32, 3) := by decide +kernel
theorem dX0_factor_19 : decode cX0_factor 19 = .ok (.iload_n 2, 1) := by decide +kernel
theorem dX0_factor_20 : decode cX0_factor 20 = .ok (.laload, 1) := by decide +kernel
theorem dX0_factor_21 : decode cX0_factor 21 = .ok (.goto 9, 3) := by decide +kernel
theorem dX0_factor_24 : decode cX0_factor 24 = .ok (.aload_n 0, 1) := by decide +kernel
theorem dX0_factor_25 : decode cX0_factor 25 = .ok (.getfield 29, 3) := by decide +kernel
theorem dX0_factor_28 : decode cX0_factor 28 = .ok (.iload_n 2, 1) := by decide +kernel
theorem dX0_factor_29 : decode cX0_factor 29 = .ok (.laload, 1) := by decide +kernel
theorem dX0_factor_30 : decode cX0_factor 30 = .ok (.lreturn, 1) := by decide +kernel
theorem dX0_at_0 : decode cX0_at 0 = .ok (.lconst 0, 1) := by decide +kernel
theorem dX0_at_1 : decode cX0_at 1 = .ok (.lstore_n 3, 1) := by decide +kernel
theorem dX0_at_2 : decode cX0_at 2 = .ok (.iconst 4, 1) := by decide +kernel
theorem dX0_at_3 : decode cX0_at 3 = .ok (.istore 5, 2) := by decide +kernel
theorem dX0_at_5 : decode cX0_at 5 = .ok (.iload 5, 2) := by decide +kernel
theorem dX0_at_7 : decode cX0_at 7 = .ok (.ifCond .lt 22, 3) := by decide +kernel
theorem dX0_at_10 : decode cX0_at 10 = .ok (.lload_n 3, 1) := by decide +kernel
theorem dX0_at_11 : decode cX0_at 11 = .ok (.iload_n 2, 1) := by decide +kernel
theorem dX0_at_12 : decode cX0_at 12 = .ok (.i2l, 1) := by decide +kernel
theorem dX0_at_13 : decode cX0_at 13 = .ok (.lmul, 1) := by decide +kernel
theorem dX0_at_14 : decode cX0_at 14 = .ok (.aload_n 0, 1) := by decide +kernel
theorem dX0_at_15 : decode cX0_at 15 = .ok (.iload_n 1, 1) := by decide +kernel
theorem dX0_at_16 : decode cX0_at 16 = .ok (.iload 5, 2) := by decide +kernel
theorem dX0_at_18 : decode cX0_at 18 = .ok (.invokevirtual 102, 3) := by decide +kernel
theorem dX0_at_21 : decode cX0_at 21 = .ok (.ladd, 1) := by decide +kernel
theorem dX0_at_22 : decode cX0_at 22 = .ok (.lstore_n 3, 1) := by decide +kernel
theorem dX0_at_23 : decode cX0_at 23 = .ok (.iinc 5 (-1), 3) := by decide +kernel
theorem dX0_at_26 : decode cX0_at 26 = .ok (.goto (-21), 3) := by decide +kernel
theorem dX0_at_29 : decode cX0_at 29 = .ok (.lload_n 3, 1) := by decide +kernel
theorem dX0_at_30 : decode cX0_at 30 = .ok (.lreturn, 1) := by decide +kernel
theorem dX0_derivativeAt_0 : decode cX0_derivativeAt 0 = .ok (.lconst 0, 1) := by decide +kernel
theorem dX0_derivativeAt_1 : decode cX0_derivativeAt 1 = .ok (.lstore_n 3, 1) := by decide +kernel
theorem dX0_derivativeAt_2 : decode cX0_derivativeAt 2 = .ok (.iconst 4, 1) := by decide +kernel
theorem dX0_derivativeAt_3 : decode cX0_derivativeAt 3 = .ok (.istore 5, 2) := by decide +kernel
theorem dX0_derivativeAt_5 : decode cX0_derivativeAt 5 = .ok (.iload 5, 2) := by decide +kernel
theorem dX0_derivativeAt_7 : decode cX0_derivativeAt 7 = .ok (.ifCond .le 26, 3) := by decide +kernel
theorem dX0_derivativeAt_10 : decode cX0_derivativeAt 10 = .ok (.lload_n 3, 1) := by decide +kernel
theorem dX0_derivativeAt_11 : decode cX0_derivativeAt 11 = .ok (.iload_n 2, 1) := by decide +kernel
theorem dX0_derivativeAt_12 : decode cX0_derivativeAt 12 = .ok (.i2l, 1) := by decide +kernel
theorem dX0_derivativeAt_13 : decode cX0_derivativeAt 13 = .ok (.lmul, 1) := by decide +kernel
theorem dX0_derivativeAt_14 : decode cX0_derivativeAt 14 = .ok (.iload 5, 2) := by decide +kernel
theorem dX0_derivativeAt_16 : decode cX0_derivativeAt 16 = .ok (.i2l, 1) := by decide +kernel
theorem dX0_derivativeAt_17 : decode cX0_derivativeAt 17 = .ok (.aload_n 0, 1) := by decide +kernel
theorem dX0_derivativeAt_18 : decode cX0_derivativeAt 18 = .ok (.iload_n 1, 1) := by decide +kernel
theorem dX0_derivativeAt_19 : decode cX0_derivativeAt 19 = .ok (.iload 5, 2) := by decide +kernel
theorem dX0_derivativeAt_21 : decode cX0_derivativeAt 21 = .ok (.invokevirtual 102, 3) := by decide +kernel
theorem dX0_derivativeAt_24 : decode cX0_derivativeAt 24 = .ok (.lmul, 1) := by decide +kernel
theorem dX0_derivativeAt_25 : decode cX0_derivativeAt 25 = .ok (.ladd, 1) := by decide +kernel
theorem dX0_derivativeAt_26 : decode cX0_derivativeAt 26 = .ok (.lstore_n 3, 1) := by decide +kernel
theorem dX0_derivativeAt_27 : decode cX0_derivativeAt 27 = .ok (.iinc 5 (-1), 3) := by decide +kernel
theorem dX0_derivativeAt_30 : decode cX0_derivativeAt 30 = .ok (.goto (-25), 3) := by decide +kernel
theorem dX0_derivativeAt_33 : decode cX0_derivativeAt 33 = .ok (.lload_n 3, 1) := by decide +kernel
theorem dX0_derivativeAt_34 : decode cX0_derivativeAt 34 = .ok (.lreturn, 1) := by decide +kernel
theorem dX0_kindOf_0 : decode cX0_kindOf 0 = .ok (.aload_n 0, 1) := by decide +kernel
theorem dX0_kindOf_1 : decode cX0_kindOf 1 = .ok (.iconst 1, 1) := by decide +kernel
theorem dX0_kindOf_2 : decode cX0_kindOf 2 = .ok (.iload_n 1, 1) := by decide +kernel
theorem dX0_kindOf_3 : decode cX0_kindOf 3 = .ok (.invokevirtual 106, 3) := by decide +kernel
theorem dX0_kindOf_6 : decode cX0_kindOf 6 = .ok (.lconst 0, 1) := by decide +kernel
theorem dX0_kindOf_7 : decode cX0_kindOf 7 = .ok (.lcmp, 1) := by decide +kernel
theorem dX0_kindOf_8 : decode cX0_kindOf 8 = .ok (.ifCond .eq 5, 3) := by decide +kernel
theorem dX0_kindOf_11 : decode cX0_kindOf 11 = .ok (.iconst 0, 1) := by decide +kernel
theorem dX0_kindOf_12 : decode cX0_kindOf 12 = .ok (.ireturn, 1) := by decide +kernel
theorem dX0_kindOf_13 : decode cX0_kindOf 13 = .ok (.aload_n 0, 1) := by decide +kernel
theorem dX0_kindOf_14 : decode cX0_kindOf 14 = .ok (.iconst 0, 1) := by decide +kernel
theorem dX0_kindOf_15 : decode cX0_kindOf 15 = .ok (.iload_n 1, 1) := by decide +kernel
theorem dX0_kindOf_16 : decode cX0_kindOf 16 = .ok (.invokevirtual 106, 3) := by decide +kernel
theorem dX0_kindOf_19 : decode cX0_kindOf 19 = .ok (.lconst 0, 1) := by decide +kernel
theorem dX0_kindOf_20 : decode cX0_kindOf 20 = .ok (.lcmp, 1) := by decide +kernel
theorem dX0_kindOf_21 : decode cX0_kindOf 21 = .ok (.ifCond .eq 5, 3) := by decide +kernel
theorem dX0_kindOf_24 : decode cX0_kindOf 24 = .ok (.iconst 2, 1) := by decide +kernel
theorem dX0_kindOf_25 : decode cX0_kindOf 25 = .ok (.ireturn, 1) := by decide +kernel
theorem dX0_kindOf_26 : decode cX0_kindOf 26 = .ok (.aload_n 0, 1) := by decide +kernel
theorem dX0_kindOf_27 : decode cX0_kindOf 27 = .ok (.iconst 1, 1) := by decide +kernel
theorem dX0_kindOf_28 : decode cX0_kindOf 28 = .ok (.iload_n 1, 1) := by decide +kernel
theorem dX0_kindOf_29 : decode cX0_kindOf 29 = .ok (.invokevirtual 109, 3) := by decide +kernel
theorem dX0_kindOf_32 : decode cX0_kindOf 32 = .ok (.lconst 0, 1) := by decide +kernel
theorem dX0_kindOf_33 : decode cX0_kindOf 33 = .ok (.lcmp, 1) := by decide +kernel
theorem dX0_kindOf_34 : decode cX0_kindOf 34 = .ok (.ifCond .eq 7, 3) := by decide +kernel
theorem dX0_kindOf_37 : decode cX0_kindOf 37 = .ok (.iconst 1, 1) := by decide +kernel
theorem dX0_kindOf_38 : decode cX0_kindOf 38 = .ok (.goto 4, 3) := by decide +kernel
theorem dX0_kindOf_41 : decode cX0_kindOf 41 = .ok (.iconst 3, 1) := by decide +kernel
theorem dX0_kindOf_42 : decode cX0_kindOf 42 = .ok (.ireturn, 1) := by decide +kernel
theorem dX0_putValue_0 : decode cX0_putValue 0 = .ok (.aload_n 0, 1) := by decide +kernel
theorem dX0_putValue_1 : decode cX0_putValue 1 = .ok (.iload_n 1, 1) := by decide +kernel
theorem dX0_putValue_2 : decode cX0_putValue 2 = .ok (.invokevirtual 112, 3) := by decide +kernel
theorem dX0_putValue_5 : decode cX0_putValue 5 = .ok (.istore_n 3, 1) := by decide +kernel
theorem dX0_putValue_6 : decode cX0_putValue 6 = .ok (.iload_n 3, 1) := by decide +kernel
theorem dX0_putValue_7 : decode cX0_putValue 7 = .ok (.ifCond .ne 22, 3) := by decide +kernel
theorem dX0_putValue_10 : decode cX0_putValue 10 = .ok (.aload_n 2, 1) := by decide +kernel
theorem dX0_putValue_11 : decode cX0_putValue 11 = .ok (.aload_n 0, 1) := by decide +kernel
theorem dX0_putValue_12 : decode cX0_putValue 12 = .ok (.iconst 0, 1) := by decide +kernel
theorem dX0_putValue_13 : decode cX0_putValue 13 = .ok (.iload_n 1, 1) := by decide +kernel
theorem dX0_putValue_14 : decode cX0_putValue 14 = .ok (.invokevirtual 106, 3) := by decide +kernel
theorem dX0_putValue_17 : decode cX0_putValue 17 = .ok (.aload_n 0, 1) := by decide +kernel
theorem dX0_putValue_18 : decode cX0_putValue 18 = .ok (.iconst 1, 1) := by decide +kernel
theorem dX0_putValue_19 : decode cX0_putValue 19 = .ok (.iload_n 1, 1) := by decide +kernel
theorem dX0_putValue_20 : decode cX0_putValue 20 = .ok (.invokevirtual 106, 3) := by decide +kernel
theorem dX0_putValue_23 : decode cX0_putValue 23 = .ok (.invokevirtual 115, 3) := by decide +kernel
theorem dX0_putValue_26 : decode cX0_putValue 26 = .ok (.goto 24, 3) := by decide +kernel
theorem dX0_putValue_29 : decode cX0_putValue 29 = .ok (.iload_n 3, 1) := by decide +kernel
theorem dX0_putValue_30 : decode cX0_putValue 30 = .ok (.iconst 1, 1) := by decide +kernel
theorem dX0_putValue_31 : decode cX0_putValue 31 = .ok (.if_icmp .ne 19, 3) := by decide +kernel
theorem dX0_putValue_34 : decode cX0_putValue 34 = .ok (.aload_n 2, 1) := by decide +kernel
theorem dX0_putValue_35 : decode cX0_putValue 35 = .ok (.aload_n 0, 1) := by decide +kernel
theorem dX0_putValue_36 : decode cX0_putValue 36 = .ok (.iconst 0, 1) := by decide +kernel
theorem dX0_putValue_37 : decode cX0_putValue 37 = .ok (.iload_n 1, 1) := by decide +kernel
theorem dX0_putValue_38 : decode cX0_putValue 38 = .ok (.invokevirtual 109, 3) := by decide +kernel
theorem dX0_putValue_41 : decode cX0_putValue 41 = .ok (.aload_n 0, 1) := by decide +kernel
theorem dX0_putValue_42 : decode cX0_putValue 42 = .ok (.iconst 1, 1) := by decide +kernel
theorem dX0_putValue_43 : decode cX0_putValue 43 = .ok (.iload_n 1, 1) := by decide +kernel
theorem dX0_putValue_44 : decode cX0_putValue 44 = .ok (.invokevirtual 109, 3) := by decide +kernel
theorem dX0_putValue_47 : decode cX0_putValue 47 = .ok (.invokevirtual 115, 3) := by decide +kernel
theorem dX0_putValue_50 : decode cX0_putValue 50 = .ok (.iload_n 3, 1) := by decide +kernel
theorem dX0_putValue_51 : decode cX0_putValue 51 = .ok (.ifCond .eq 8, 3) := by decide +kernel
theorem dX0_putValue_54 : decode cX0_putValue 54 = .ok (.iload_n 3, 1) := by decide +kernel
theorem dX0_putValue_55 : decode cX0_putValue 55 = .ok (.iconst 1, 1) := by decide +kernel
theorem dX0_putValue_56 : decode cX0_putValue 56 = .ok (.if_icmp .ne 7, 3) := by decide +kernel
theorem dX0_putValue_59 : decode cX0_putValue 59 = .ok (.iconst 1, 1) := by decide +kernel
theorem dX0_putValue_60 : decode cX0_putValue 60 = .ok (.goto 4, 3) := by decide +kernel
theorem dX0_putValue_63 : decode cX0_putValue 63 = .ok (.iconst 0, 1) := by decide +kernel
theorem dX0_putValue_64 : decode cX0_putValue 64 = .ok (.ireturn, 1) := by decide +kernel
theorem dX0_hidesPoleBehind_0 : decode cX0_hidesPoleBehind 0 = .ok (.aload_n 0, 1) := by decide +kernel
theorem dX0_hidesPoleBehind_1 : decode cX0_hidesPoleBehind 1 = .ok (.iconst 1, 1) := by decide +kernel
theorem dX0_hidesPoleBehind_2 : decode cX0_hidesPoleBehind 2 = .ok (.iload_n 1, 1) := by decide +kernel
theorem dX0_hidesPoleBehind_3 : decode cX0_hidesPoleBehind 3 = .ok (.invokevirtual 106, 3) := by decide +kernel
theorem dX0_hidesPoleBehind_6 : decode cX0_hidesPoleBehind 6 = .ok (.lstore_n 2, 1) := by decide +kernel
theorem dX0_hidesPoleBehind_7 : decode cX0_hidesPoleBehind 7 = .ok (.aload_n 0, 1) := by decide +kernel
theorem dX0_hidesPoleBehind_8 : decode cX0_hidesPoleBehind 8 = .ok (.iconst 1, 1) := by decide +kernel
theorem dX0_hidesPoleBehind_9 : decode cX0_hidesPoleBehind 9 = .ok (.iload_n 1, 1) := by decide +kernel
theorem dX0_hidesPoleBehind_10 : decode cX0_hidesPoleBehind 10 = .ok (.iconst 1, 1) := by decide +kernel
theorem dX0_hidesPoleBehind_11 : decode cX0_hidesPoleBehind 11 = .ok (.iadd, 1) := by decide +kernel
theorem dX0_hidesPoleBehind_12 : decode cX0_hidesPoleBehind 12 = .ok (.invokevirtual 106, 3) := by decide +kernel
theorem dX0_hidesPoleBehind_15 : decode cX0_hidesPoleBehind 15 = .ok (.lstore 4, 2) := by decide +kernel
theorem dX0_hidesPoleBehind_17 : decode cX0_hidesPoleBehind 17 = .ok (.lload_n 2, 1) := by decide +kernel
theorem dX0_hidesPoleBehind_18 : decode cX0_hidesPoleBehind 18 = .ok (.lconst 0, 1) := by decide +kernel
theorem dX0_hidesPoleBehind_19 : decode cX0_hidesPoleBehind 19 = .ok (.lcmp, 1) := by decide +kernel
theorem dX0_hidesPoleBehind_20 : decode cX0_hidesPoleBehind 20 = .ok (.ifCond .eq 40, 3) := by decide +kernel
theorem dX0_hidesPoleBehind_23 : decode cX0_hidesPoleBehind 23 = .ok (.lload 4, 2) := by decide +kernel
theorem dX0_hidesPoleBehind_25 : decode cX0_hidesPoleBehind 25 = .ok (.lconst 0, 1) := by decide +kernel
theorem dX0_hidesPoleBehind_26 : decode cX0_hidesPoleBehind 26 = .ok (.lcmp, 1) := by decide +kernel
theorem dX0_hidesPoleBehind_27 : decode cX0_hidesPoleBehind 27 = .ok (.ifCond .eq 33, 3) := by decide +kernel
theorem dX0_hidesPoleBehind_30 : decode cX0_hidesPoleBehind 30 = .ok (.lload_n 2, 1) := by decide +kernel
theorem dX0_hidesPoleBehind_31 : decode cX0_hidesPoleBehind 31 = .ok (.lconst 0, 1) := by decide +kernel
theorem dX0_hidesPoleBehind_32 : decode cX0_hidesPoleBehind 32 = .ok (.lcmp, 1) := by decide +kernel
theorem dX0_hidesPoleBehind_33 : decode cX0_hidesPoleBehind 33 = .ok (.ifCond .le 7, 3) := by decide +kernel
theorem dX0_hidesPoleBehind_36 : decode cX0_hidesPoleBehind 36 = .ok (.iconst 1, 1) := by decide +kernel
theorem dX0_hidesPoleBehind_37 : decode cX0_hidesPoleBehind 37 = .ok (.goto 4, 3) := by decide +kernel
theorem dX0_hidesPoleBehind_40 : decode cX0_hidesPoleBehind 40 = .ok (.iconst 0, 1) := by decide +kernel
theorem dX0_hidesPoleBehind_41 : decode cX0_hidesPoleBehind 41 = .ok (.lload 4, 2) := by decide +kernel
theorem dX0_hidesPoleBehind_43 : decode cX0_hidesPoleBehind 43 = .ok (.lconst 0, 1) := by decide +kernel
theorem dX0_hidesPoleBehind_44 : decode cX0_hidesPoleBehind 44 = .ok (.lcmp, 1) := by decide +kernel
theorem dX0_hidesPoleBehind_45 : decode cX0_hidesPoleBehind 45 = .ok (.ifCond .le 7, 3) := by decide +kernel
theorem dX0_hidesPoleBehind_48 : decode cX0_hidesPoleBehind 48 = .ok (.iconst 1, 1) := by decide +kernel
theorem dX0_hidesPoleBehind_49 : decode cX0_hidesPoleBehind 49 = .ok (.goto 4, 3) := by decide +kernel
theorem dX0_hidesPoleBehind_52 : decode cX0_hidesPoleBehind 52 = .ok (.iconst 0, 1) := by decide +kernel
theorem dX0_hidesPoleBehind_53 : decode cX0_hidesPoleBehind 53 = .ok (.if_icmp .eq 7, 3) := by decide +kernel
theorem dX0_hidesPoleBehind_56 : decode cX0_hidesPoleBehind 56 = .ok (.iconst 1, 1) := by decide +kernel
theorem dX0_hidesPoleBehind_57 : decode cX0_hidesPoleBehind 57 = .ok (.goto 4, 3) := by decide +kernel
theorem dX0_hidesPoleBehind_60 : decode cX0_hidesPoleBehind 60 = .ok (.iconst 0, 1) := by decide +kernel
theorem dX0_hidesPoleBehind_61 : decode cX0_hidesPoleBehind 61 = .ok (.ireturn, 1) := by decide +kernel
theorem dX0_putRow_0 : decode cX0_putRow 0 = .ok (.aload_n 3, 1) := by decide +kernel
theorem dX0_putRow_1 : decode cX0_putRow 1 = .ok (.lconst 0, 1) := by decide +kernel
theorem dX0_putRow_2 : decode cX0_putRow 2 = .ok (.lconst 1, 1) := by decide +kernel
theorem dX0_putRow_3 : decode cX0_putRow 3 = .ok (.invokevirtual 115, 3) := by decide +kernel
theorem dX0_putRow_6 : decode cX0_putRow 6 = .ok (.iload_n 2, 1) := by decide +kernel
theorem dX0_putRow_7 : decode cX0_putRow 7 = .ok (.iload_n 1, 1) := by decide +kernel
theorem dX0_putRow_8 : decode cX0_putRow 8 = .ok (.if_icmp .eq 12, 3) := by decide +kernel
theorem dX0_putRow_11 : decode cX0_putRow 11 = .ok (.aload_n 0, 1) := by decide +kernel
theorem dX0_putRow_12 : decode cX0_putRow 12 = .ok (.iload_n 1, 1) := by decide +kernel
theorem dX0_putRow_13 : decode cX0_putRow 13 = .ok (.iload_n 2, 1) := by decide +kernel
theorem dX0_putRow_14 : decode cX0_putRow 14 = .ok (.iconst 1, 1) := by decide +kernel
theorem dX0_putRow_15 : decode cX0_putRow 15 = .ok (.aload_n 3, 1) := by decide +kernel
theorem dX0_putRow_16 : decode cX0_putRow 16 = .ok (.invokevirtual 119, 3) := by decide +kernel
theorem dX0_putRow_19 : decode cX0_putRow 19 = .ok (.return_, 1) := by decide +kernel
theorem dX0_putRow_20 : decode cX0_putRow 20 = .ok (.iconst 0, 1) := by decide +kernel
theorem dX0_putRow_21 : decode cX0_putRow 21 = .ok (.istore 4, 2) := by decide +kernel
theorem dX0_putRow_23 : decode cX0_putRow 23 = .ok (.iload 4, 2) := by decide +kernel
theorem dX0_putRow_25 : decode cX0_putRow 25 = .ok (.aload_n 0, 1) := by decide +kernel
theorem dX0_putRow_26 : decode cX0_putRow 26 = .ok (.getfield 12, 3) := by decide +kernel
theorem dX0_putRow_29 : decode cX0_putRow 29 = .ok (.invokevirtual 47, 3) := by decide +kernel
theorem dX0_putRow_32 : decode cX0_putRow 32 = .ok (.if_icmp .ge 24, 3) := by decide +kernel
theorem dX0_putRow_35 : decode cX0_putRow 35 = .ok (.iload 4, 2) := by decide +kernel
theorem dX0_putRow_37 : decode cX0_putRow 37 = .ok (.iload_n 1, 1) := by decide +kernel
theorem dX0_putRow_38 : decode cX0_putRow 38 = .ok (.if_icmp .eq 12, 3) := by decide +kernel
theorem dX0_putRow_41 : decode cX0_putRow 41 = .ok (.aload_n 0, 1) := by decide +kernel
theorem dX0_putRow_42 : decode cX0_putRow 42 = .ok (.iload_n 1, 1) := by decide +kernel
theorem dX0_putRow_43 : decode cX0_putRow 43 = .ok (.iload 4, 2) := by decide +kernel
theorem dX0_putRow_45 : decode cX0_putRow 45 = .ok (.iconst (-1), 1) := by decide +kernel
theorem dX0_putRow_46 : decode cX0_putRow 46 = .ok (.aload_n 3, 1) := by decide +kernel
theorem dX0_putRow_47 : decode cX0_putRow 47 = .ok (.invokevirtual 119, 3) := by decide +kernel
theorem dX0_putRow_50 : decode cX0_putRow 50 = .ok (.iinc 4 1, 3) := by decide +kernel
theorem dX0_putRow_53 : decode cX0_putRow 53 = .ok (.goto (-30), 3) := by decide +kernel
theorem dX0_putRow_56 : decode cX0_putRow 56 = .ok (.return_, 1) := by decide +kernel
theorem dX0_putSlope_0 : decode cX0_putSlope 0 = .ok (.aload_n 2, 1) := by decide +kernel
theorem dX0_putSlope_1 : decode cX0_putSlope 1 = .ok (.lconst 0, 1) := by decide +kernel
theorem dX0_putSlope_2 : decode cX0_putSlope 2 = .ok (.lconst 1, 1) := by decide +kernel
theorem dX0_putSlope_3 : decode cX0_putSlope 3 = .ok (.invokevirtual 115, 3) := by decide +kernel
theorem dX0_putSlope_6 : decode cX0_putSlope 6 = .ok (.iconst 0, 1) := by decide +kernel
theorem dX0_putSlope_7 : decode cX0_putSlope 7 = .ok (.istore_n 3, 1) := by decide +kernel
theorem dX0_putSlope_8 : decode cX0_putSlope 8 = .ok (.iload_n 3, 1) := by decide +kernel
theorem dX0_putSlope_9 : decode cX0_putSlope 9 = .ok (.aload_n 0, 1) := by decide +kernel
theorem dX0_putSlope_10 : decode cX0_putSlope 10 = .ok (.getfield 12, 3) := by decide +kernel
theorem dX0_putSlope_13 : decode cX0_putSlope 13 = .ok (.invokevirtual 47, 3) := by decide +kernel
theorem dX0_putSlope_16 : decode cX0_putSlope 16 = .ok (.if_icmp .ge 38, 3) := by decide +kernel
theorem dX0_putSlope_19 : decode cX0_putSlope 19 = .ok (.iload_n 3, 1) := by decide +kernel
theorem dX0_putSlope_20 : decode cX0_putSlope 20 = .ok (.iload_n 1, 1) := by decide +kernel
theorem dX0_putSlope_21 : decode cX0_putSlope 21 = .ok (.if_icmp .eq 27, 3) := by decide +kernel
theorem dX0_putSlope_24 : decode cX0_putSlope 24 = .ok (.aload_n 0, 1) := by decide +kernel
theorem dX0_putSlope_25 : decode cX0_putSlope 25 = .ok (.iload_n 1, 1) := by decide +kernel
theorem dX0_putSlope_26 : decode cX0_putSlope 26 = .ok (.iload_n 3, 1) := by decide +kernel
theorem dX0_putSlope_27 : decode cX0_putSlope 27 = .ok (.aload_n 0, 1) := by decide +kernel
theorem dX0_putSlope_28 : decode cX0_putSlope 28 = .ok (.getfield 12, 3) := by decide +kernel
theorem dX0_putSlope_31 : decode cX0_putSlope 31 = .ok (.iload_n 3, 1) := by decide +kernel
theorem dX0_putSlope_32 : decode cX0_putSlope 32 = .ok (.invokevirtual 99, 3) := by decide +kernel
theorem dX0_putSlope_35 : decode cX0_putSlope 35 = .ok (.aload_n 0, 1) := by decide +kernel
theorem dX0_putSlope_36 : decode cX0_putSlope 36 = .ok (.getfield 12, 3) := by decide +kernel
theorem dX0_putSlope_39 : decode cX0_putSlope 39 = .ok (.iload_n 1, 1) := by decide +kernel
theorem dX0_putSlope_40 : decode cX0_putSlope 40 = .ok (.invokevirtual 99, 3) := by decide +kernel
theorem dX0_putSlope_43 : decode cX0_putSlope 43 = .ok (.isub, 1) := by decide +kernel
theorem dX0_putSlope_44 : decode cX0_putSlope 44 = .ok (.aload_n 2, 1) := by decide +kernel
theorem dX0_putSlope_45 : decode cX0_putSlope 45 = .ok (.invokevirtual 119, 3) := by decide +kernel
theorem dX0_putSlope_48 : decode cX0_putSlope 48 = .ok (.iinc 3 1, 3) := by decide +kernel
theorem dX0_putSlope_51 : decode cX0_putSlope 51 = .ok (.goto (-43), 3) := by decide +kernel
theorem dX0_putSlope_54 : decode cX0_putSlope 54 = .ok (.return_, 1) := by decide +kernel
theorem dX0_addToRow_0 : decode cX0_addToRow 0 = .ok (.aload_n 0, 1) := by decide +kernel
theorem dX0_addToRow_1 : decode cX0_addToRow 1 = .ok (.getfield 12, 3) := by decide +kernel
theorem dX0_addToRow_4 : decode cX0_addToRow 4 = .ok (.iload_n 1, 1) := by decide +kernel
theorem dX0_addToRow_5 : decode cX0_addToRow 5 = .ok (.invokevirtual 55, 3) := by decide +kernel
theorem dX0_addToRow_8 : decode cX0_addToRow 8 = .ok (.aload_n 0, 1) := by decide +kernel
theorem dX0_addToRow_9 : decode cX0_addToRow 9 = .ok (.getfield 12, 3) := by decide +kernel
theorem dX0_addToRow_12 : decode cX0_addToRow 12 = .ok (.iload_n 2, 1) := by decide +kernel
theorem dX0_addToRow_13 : decode cX0_addToRow 13 = .ok (.invokevirtual 55, 3) := by decide +kernel
theorem dX0_addToRow_16 : decode cX0_addToRow 16 = .ok (.isub, 1) := by decide +kernel
theorem dX0_addToRow_17 : decode cX0_addToRow 17 = .ok (.i2l, 1) := by decide +kernel
theorem dX0_addToRow_18 : decode cX0_addToRow 18 = .ok (.lstore 5, 2) := by decide +kernel
theorem dX0_addToRow_20 : decode cX0_addToRow 20 = .ok (.aload 4, 2) := by decide +kernel
theorem dX0_addToRow_22 : decode cX0_addToRow 22 = .ok (.aload_n 0, 1) := by decide +kernel
theorem dX0_addToRow_23 : decode cX0_addToRow 23 = .ok (.iload_n 2, 1) := by decide +kernel
theorem dX0_addToRow_24 : decode cX0_addToRow 24 = .ok (.invokevirtual 95, 3) := by decide +kernel
theorem dX0_addToRow_27 : decode cX0_addToRow 27 = .ok (.iload_n 3, 1) := by decide +kernel
theorem dX0_addToRow_28 : decode cX0_addToRow 28 = .ok (.i2l, 1) := by decide +kernel
theorem dX0_addToRow_29 : decode cX0_addToRow 29 = .ok (.lmul, 1) := by decide +kernel
theorem dX0_addToRow_30 : decode cX0_addToRow 30 = .ok (.aload_n 0, 1) := by decide +kernel
theorem dX0_addToRow_31 : decode cX0_addToRow 31 = .ok (.iload_n 1, 1) := by decide +kernel
theorem dX0_addToRow_32 : decode cX0_addToRow 32 = .ok (.invokevirtual 95, 3) := by decide +kernel
theorem dX0_addToRow_35 : decode cX0_addToRow 35 = .ok (.lload 5, 2) := by decide +kernel
theorem dX0_addToRow_37 : decode cX0_addToRow 37 = .ok (.lmul, 1) := by decide +kernel
theorem dX0_addToRow_38 : decode cX0_addToRow 38 = .ok (.invokevirtual 123, 3) := by decide +kernel
theorem dX0_addToRow_41 : decode cX0_addToRow 41 = .ok (.return_, 1) := by decide +kernel
theorem dX1_init_0 : decode cX1_init 0 = .ok (.aload_n 0, 1) := by decide +kernel
theorem dX1_init_1 : decode cX1_init 1 = .ok (.invokespecial 1, 3) := by decide +kernel
theorem dX1_init_4 : decode cX1_init 4 = .ok (.aload_n 0, 1) := by decide +kernel
theorem dX1_init_5 : decode cX1_init 5 = .ok (.lconst 0, 1) := by decide +kernel
theorem dX1_init_6 : decode cX1_init 6 = .ok (.putfield 7, 3) := by decide +kernel
theorem dX1_init_9 : decode cX1_init 9 = .ok (.aload_n 0, 1) := by decide +kernel
theorem dX1_init_10 : decode cX1_init 10 = .ok (.lconst 1, 1) := by decide +kernel
theorem dX1_init_11 : decode cX1_init 11 = .ok (.putfield 13, 3) := by decide +kernel
theorem dX1_init_14 : decode cX1_init 14 = .ok (.return_, 1) := by decide +kernel
theorem dX1_put_0 : decode cX1_put 0 = .ok (.lload_n 1, 1) := by decide +kernel
theorem dX1_put_1 : decode cX1_put 1 = .ok (.lload_n 3, 1) := by decide +kernel
theorem dX1_put_2 : decode cX1_put 2 = .ok (.invokestatic 16, 3) := by decide +kernel
theorem dX1_put_5 : decode cX1_put 5 = .ok (.lstore 5, 2) := by decide +kernel
theorem dX1_put_7 : decode cX1_put 7 = .ok (.lload_n 3, 1) := by decide +kernel
theorem dX1_put_8 : decode cX1_put 8 = .ok (.lconst 0, 1) := by decide +kernel
theorem dX1_put_9 : decode cX1_put 9 = .ok (.lcmp, 1) := by decide +kernel
theorem dX1_put_10 : decode cX1_put 10 = .ok (.ifCond .eq 10, 3) := by decide +kernel
theorem dX1_put_13 : decode cX1_put 13 = .ok (.lload 5, 2) := by decide +kernel
theorem dX1_put_15 : decode cX1_put 15 = .ok (.lconst 0, 1) := by decide +kernel
theorem dX1_put_16 : decode cX1_put 16 = .ok (.lcmp, 1) := by decide +kernel
theorem dX1_put_17 : decode cX1_put 17 = .ok (.ifCond .ne 14, 3) := by decide +kernel
theorem dX1_put_20 : decode cX1_put 20 = .ok (.aload_n 0, 1) := by decide +kernel
theorem dX1_put_21 : decode cX1_put 21 = .ok (.lconst 0, 1) := by decide +kernel
theorem dX1_put_22 : decode cX1_put 22 = .ok (.putfield 7, 3) := by decide +kernel
theorem dX1_put_25 : decode cX1_put 25 = .ok (.aload_n 0, 1) := by decide +kernel
theorem dX1_put_26 : decode cX1_put 26 = .ok (.lconst 1, 1) := by decide +kernel
theorem dX1_put_27 : decode cX1_put 27 = .ok (.putfield 13, 3) := by decide +kernel
theorem dX1_put_30 : decode cX1_put 30 = .ok (.return_, 1) := by decide +kernel
theorem dX1_put_31 : decode cX1_put 31 = .ok (.lload_n 3, 1) := by decide +kernel
theorem dX1_put_32 : decode cX1_put 32 = .ok (.lconst 0, 1) := by decide +kernel
theorem dX1_put_33 : decode cX1_put 33 = .ok (.lcmp, 1) := by decide +kernel
theorem dX1_put_34 : decode cX1_put 34 = .ok (.ifCond .ge 9, 3) := by decide +kernel
theorem dX1_put_37 : decode cX1_put 37 = .ok (.lload 5, 2) := by decide +kernel
theorem dX1_put_39 : decode cX1_put 39 = .ok (.lneg, 1) := by decide +kernel
theorem dX1_put_40 : decode cX1_put 40 = .ok (.goto 5, 3) := by decide +kernel
theorem dX1_put_43 : decode cX1_put 43 = .ok (.lload 5, 2) := by decide +kernel
theorem dX1_put_45 : decode cX1_put 45 = .ok (.lstore 7, 2) := by decide +kernel
theorem dX1_put_47 : decode cX1_put 47 = .ok (.aload_n 0, 1) := by decide +kernel
theorem dX1_put_48 : decode cX1_put 48 = .ok (.lload_n 1, 1) := by decide +kernel
theorem dX1_put_49 : decode cX1_put 49 = .ok (.lload 7, 2) := by decide +kernel
theorem dX1_put_51 : decode cX1_put 51 = .ok (.ldiv, 1) := by decide +kernel
theorem dX1_put_52 : decode cX1_put 52 = .ok (.putfield 7, 3) := by decide +kernel
theorem dX1_put_55 : decode cX1_put 55 = .ok (.aload_n 0, 1) := by decide +kernel
theorem dX1_put_56 : decode cX1_put 56 = .ok (.lload_n 3, 1) := by decide +kernel
theorem dX1_put_57 : decode cX1_put 57 = .ok (.lload 7, 2) := by decide +kernel
theorem dX1_put_59 : decode cX1_put 59 = .ok (.ldiv, 1) := by decide +kernel
theorem dX1_put_60 : decode cX1_put 60 = .ok (.putfield 13, 3) := by decide +kernel
theorem dX1_put_63 : decode cX1_put 63 = .ok (.return_, 1) := by decide +kernel
theorem dX1_add_0 : decode cX1_add 0 = .ok (.aload_n 0, 1) := by decide +kernel
theorem dX1_add_1 : decode cX1_add 1 = .ok (.getfield 13, 3) := by decide +kernel
theorem dX1_add_4 : decode cX1_add 4 = .ok (.lload_n 3, 1) := by decide +kernel
theorem dX1_add_5 : decode cX1_add 5 = .ok (.invokestatic 16, 3) := by decide +kernel
theorem dX1_add_8 : decode cX1_add 8 = .ok (.lstore 5, 2) := by decide +kernel
theorem dX1_add_10 : decode cX1_add 10 = .ok (.lload_n 3, 1) := by decide +kernel
theorem dX1_add_11 : decode cX1_add 11 = .ok (.lconst 0, 1) := by decide +kernel
theorem dX1_add_12 : decode cX1_add 12 = .ok (.lcmp, 1) := by decide +kernel
theorem dX1_add_13 : decode cX1_add 13 = .ok (.ifCond .eq 10, 3) := by decide +kernel
theorem dX1_add_16 : decode cX1_add 16 = .ok (.lload 5, 2) := by decide +kernel
theorem dX1_add_18 : decode cX1_add 18 = .ok (.lconst 0, 1) := by decide +kernel
theorem dX1_add_19 : decode cX1_add 19 = .ok (.lcmp, 1) := by decide +kernel
theorem dX1_add_20 : decode cX1_add 20 = .ok (.ifCond .ne 4, 3) := by decide +kernel
theorem dX1_add_23 : decode cX1_add 23 = .ok (.return_, 1) := by decide +kernel
theorem dX1_add_24 : decode cX1_add 24 = .ok (.lload_n 3, 1) := by decide +kernel
theorem dX1_add_25 : decode cX1_add 25 = .ok (.lload 5, 2) := by decide +kernel
theorem dX1_add_27 : decode cX1_add 27 = .ok (.ldiv, 1) := by decide +kernel
theorem dX1_add_28 : decode cX1_add 28 = .ok (.lstore 7, 2) := by decide +kernel
theorem dX1_add_30 : decode cX1_add 30 = .ok (.aload_n 0, 1) := by decide +kernel
theorem dX1_add_31 : decode cX1_add 31 = .ok (.aload_n 0, 1) := by decide +kernel
theorem dX1_add_32 : decode cX1_add 32 = .ok (.getfield 7, 3) := by decide +kernel
theorem dX1_add_35 : decode cX1_add 35 = .ok (.lload 7, 2) := by decide +kernel
theorem dX1_add_37 : decode cX1_add 37 = .ok (.lmul, 1) := by decide +kernel
theorem dX1_add_38 : decode cX1_add 38 = .ok (.lload_n 1, 1) := by decide +kernel
theorem dX1_add_39 : decode cX1_add 39 = .ok (.aload_n 0, 1) := by decide +kernel
theorem dX1_add_40 : decode cX1_add 40 = .ok (.getfield 13, 3) := by decide +kernel
theorem dX1_add_43 : decode cX1_add 43 = .ok (.lload 5, 2) := by decide +kernel
theorem dX1_add_45 : decode cX1_add 45 = .ok (.ldiv, 1) := by decide +kernel
theorem dX1_add_46 : decode cX1_add 46 = .ok (.lmul, 1) := by decide +kernel
theorem dX1_add_47 : decode cX1_add 47 = .ok (.ladd, 1) := by decide +kernel
theorem dX1_add_48 : decode cX1_add 48 = .ok (.aload_n 0, 1) := by decide +kernel
theorem dX1_add_49 : decode cX1_add 49 = .ok (.getfield 13, 3) := by decide +kernel
theorem dX1_add_52 : decode cX1_add 52 = .ok (.lload 7, 2) := by decide +kernel
theorem dX1_add_54 : decode cX1_add 54 = .ok (.lmul, 1) := by decide +kernel
theorem dX1_add_55 : decode cX1_add 55 = .ok (.invokevirtual 20, 3) := by decide +kernel
theorem dX1_add_58 : decode cX1_add 58 = .ok (.return_, 1) := by decide +kernel
theorem dX1_copyFrom_0 : decode cX1_copyFrom 0 = .ok (.aload_n 0, 1) := by decide +kernel
theorem dX1_copyFrom_1 : decode cX1_copyFrom 1 = .ok (.aload_n 1, 1) := by decide +kernel
theorem dX1_copyFrom_2 : decode cX1_copyFrom 2 = .ok (.getfield 7, 3) := by decide +kernel
theorem dX1_copyFrom_5 : decode cX1_copyFrom 5 = .ok (.putfield 7, 3) := by decide +kernel
theorem dX1_copyFrom_8 : decode cX1_copyFrom 8 = .ok (.aload_n 0, 1) := by decide +kernel
theorem dX1_copyFrom_9 : decode cX1_copyFrom 9 = .ok (.aload_n 1, 1) := by decide +kernel
theorem dX1_copyFrom_10 : decode cX1_copyFrom 10 = .ok (.getfield 13, 3) := by decide +kernel
theorem dX1_copyFrom_13 : decode cX1_copyFrom 13 = .ok (.putfield 13, 3) := by decide +kernel
theorem dX1_copyFrom_16 : decode cX1_copyFrom 16 = .ok (.return_, 1) := by decide +kernel
theorem dX1_part_0 : decode cX1_part 0 = .ok (.iload_n 1, 1) := by decide +kernel
theorem dX1_part_1 : decode cX1_part 1 = .ok (.ifCond .ne 10, 3) := by decide +kernel
theorem dX1_part_4 : decode cX1_part 4 = .ok (.aload_n 0, 1) := by decide +kernel
theorem dX1_part_5 : decode cX1_part 5 = .ok (.getfield 7, 3) := by decide +kernel
theorem dX1_part_8 : decode cX1_part 8 = .ok (.goto 7, 3) := by decide +kernel
theorem dX1_part_11 : decode cX1_part 11 = .ok (.aload_n 0, 1) := by decide +kernel
theorem dX1_part_12 : decode cX1_part 12 = .ok (.getfield 13, 3) := by decide +kernel
theorem dX1_part_15 : decode cX1_part 15 = .ok (.lreturn, 1) := by decide +kernel
theorem dX1_compareWith_0 : decode cX1_compareWith 0 = .ok (.aload_n 0, 1) := by decide +kernel
theorem dX1_compareWith_1 : decode cX1_compareWith 1 = .ok (.getfield 7, 3) := by decide +kernel
theorem dX1_compareWith_4 : decode cX1_compareWith 4 = .ok (.aload_n 1, 1) := by decide +kernel
theorem dX1_compareWith_5 : decode cX1_compareWith 5 = .ok (.getfield 13, 3) := by decide +kernel
theorem dX1_compareWith_8 : decode cX1_compareWith 8 = .ok (.lmul, 1) := by decide +kernel
theorem dX1_compareWith_9 : decode cX1_compareWith 9 = .ok (.aload_n 1, 1) := by decide +kernel
theorem dX1_compareWith_10 : decode cX1_compareWith 10 = .ok (.getfield 7, 3) := by decide +kernel
theorem dX1_compareWith_13 : decode cX1_compareWith 13 = .ok (.aload_n 0, 1) := by decide +kernel
theorem dX1_compareWith_14 : decode cX1_compareWith 14 = .ok (.getfield 13, 3) := by decide +kernel
theorem dX1_compareWith_17 : decode cX1_compareWith 17 = .ok (.lmul, 1) := by decide +kernel
theorem dX1_compareWith_18 : decode cX1_compareWith 18 = .ok (.invokestatic 24, 3) := by decide +kernel
theorem dX1_compareWith_21 : decode cX1_compareWith 21 = .ok (.ireturn, 1) := by decide +kernel
theorem dX1_divisor_0 : decode cX1_divisor 0 = .ok (.lload_n 0, 1) := by decide +kernel
theorem dX1_divisor_1 : decode cX1_divisor 1 = .ok (.invokestatic 30, 3) := by decide +kernel
theorem dX1_divisor_4 : decode cX1_divisor 4 = .ok (.lstore 4, 2) := by decide +kernel
theorem dX1_divisor_6 : decode cX1_divisor 6 = .ok (.lload_n 2, 1) := by decide +kernel
theorem dX1_divisor_7 : decode cX1_divisor 7 = .ok (.invokestatic 30, 3) := by decide +kernel
theorem dX1_divisor_10 : decode cX1_divisor 10 = .ok (.lstore 6, 2) := by decide +kernel
theorem dX1_divisor_12 : decode cX1_divisor 12 = .ok (.iconst 0, 1) := by decide +kernel
theorem dX1_divisor_13 : decode cX1_divisor 13 = .ok (.istore 8, 2) := by decide +kernel
theorem dX1_divisor_15 : decode cX1_divisor 15 = .ok (.iload 8, 2) := by decide +kernel
theorem dX1_divisor_17 : decode cX1_divisor 17 = .ok (.sipush 200, 3) := by decide +kernel
theorem dX1_divisor_20 : decode cX1_divisor 20 = .ok (.if_icmp .ge 31, 3) := by decide +kernel
theorem dX1_divisor_23 : decode cX1_divisor 23 = .ok (.lload 6, 2) := by decide +kernel
theorem dX1_divisor_25 : decode cX1_divisor 25 = .ok (.lconst 0, 1) := by decide +kernel
theorem dX1_divisor_26 : decode cX1_divisor 26 = .ok (.lcmp, 1) := by decide +kernel
theorem dX1_divisor_27 : decode cX1_divisor 27 = .ok (.ifCond .eq 24, 3) := by decide +kernel
theorem dX1_divisor_30 : decode cX1_divisor 30 = .ok (.lload 4, 2) := by decide +kernel
theorem dX1_divisor_32 : decode cX1_divisor 32 = .ok (.lload 6, 2) := by decide +kernel
theorem dX1_divisor_34 : decode cX1_divisor 34 = .ok (.lrem, 1) := by decide +kernel
theorem dX1_divisor_35 : decode cX1_divisor 35 = .ok (.lstore 9, 2) := by decide +kernel
theorem dX1_divisor_37 : decode cX1_divisor 37 = .ok (.lload 6, 2) := by decide +kernel
theorem dX1_divisor_39 : decode cX1_divisor 39 = .ok (.lstore 4, 2) := by decide +kernel
theorem dX1_divisor_41 : decode cX1_divisor 41 = .ok (.lload 9, 2) := by decide +kernel
theorem dX1_divisor_43 : decode cX1_divisor 43 = .ok (.lstore 6, 2) := by decide +kernel
theorem dX1_divisor_45 : decode cX1_divisor 45 = .ok (.iinc 8 1, 3) := by decide +kernel
theorem dX1_divisor_48 : decode cX1_divisor 48 = .ok (.goto (-33), 3) := by decide +kernel
theorem dX1_divisor_51 : decode cX1_divisor 51 = .ok (.lload 4, 2) := by decide +kernel
theorem dX1_divisor_53 : decode cX1_divisor 53 = .ok (.lreturn, 1) := by decide +kernel
theorem dX2_init_0 : decode cX2_init 0 = .ok (.aload_n 0, 1) := by decide +kernel
theorem dX2_init_1 : decode cX2_init 1 = .ok (.invokespecial 3, 3) := by decide +kernel
theorem dX2_init_4 : decode cX2_init 4 = .ok (.aload_n 0, 1) := by decide +kernel
theorem dX2_init_5 : decode cX2_init 5 = .ok (.bipush 10, 2) := by decide +kernel
theorem dX2_init_7 : decode cX2_init 7 = .ok (.anewarray 9, 3) := by decide +kernel
theorem dX2_init_10 : decode cX2_init 10 = .ok (.putfield 11, 3) := by decide +kernel
theorem dX2_init_13 : decode cX2_init 13 = .ok (.aload_n 0, 1) := by decide +kernel
theorem dX2_init_14 : decode cX2_init 14 = .ok (.iconst 0, 1) := by decide +kernel
theorem dX2_init_15 : decode cX2_init 15 = .ok (.putfield 17, 3) := by decide +kernel
theorem dX2_init_18 : decode cX2_init 18 = .ok (.iconst 0, 1) := by decide +kernel
theorem dX2_init_19 : decode cX2_init 19 = .ok (.istore_n 1, 1) := by decide +kernel
theorem dX2_init_20 : decode cX2_init 20 = .ok (.iload_n 1, 1) := by decide +kernel
theorem dX2_init_21 : decode cX2_init 21 = .ok (.bipush 10, 2) := by decide +kernel
theorem dX2_init_23 : decode cX2_init 23 = .ok (.if_icmp .ge 22, 3) := by decide +kernel
theorem dX2_init_26 : decode cX2_init 26 = .ok (.aload_n 0, 1) := by decide +kernel
theorem dX2_init_27 : decode cX2_init 27 = .ok (.getfield 11, 3) := by decide +kernel
theorem dX2_init_30 : decode cX2_init 30 = .ok (.iload_n 1, 1) := by decide +kernel
theorem dX2_init_31 : decode cX2_init 31 = .ok (.new 9, 3) := by decide +kernel
theorem dX2_init_34 : decode cX2_init 34 = .ok (.dup, 1) := by decide +kernel
theorem dX2_init_35 : decode cX2_init 35 = .ok (.invokespecial 21, 3) := by decide +kernel
theorem dX2_init_38 : decode cX2_init 38 = .ok (.aastore, 1) := by decide +kernel
theorem dX2_init_39 : decode cX2_init 39 = .ok (.iinc 1 1, 3) := by decide +kernel
theorem dX2_init_42 : decode cX2_init 42 = .ok (.goto (-22), 3) := by decide +kernel
theorem dX2_init_45 : decode cX2_init 45 = .ok (.return_, 1) := by decide +kernel
theorem dX2_size_0 : decode cX2_size 0 = .ok (.aload_n 0, 1) := by decide +kernel
theorem dX2_size_1 : decode cX2_size 1 = .ok (.getfield 17, 3) := by decide +kernel
theorem dX2_size_4 : decode cX2_size 4 = .ok (.ireturn, 1) := by decide +kernel
theorem dX2_clear_0 : decode cX2_clear 0 = .ok (.aload_n 0, 1) := by decide +kernel
theorem dX2_clear_1 : decode cX2_clear 1 = .ok (.iconst 0, 1) := by decide +kernel
theorem dX2_clear_2 : decode cX2_clear 2 = .ok (.putfield 17, 3) := by decide +kernel
theorem dX2_clear_5 : decode cX2_clear 5 = .ok (.return_, 1) := by decide +kernel
theorem dX2_remember_0 : decode cX2_remember 0 = .ok (.aload_n 0, 1) := by decide +kernel
theorem dX2_remember_1 : decode cX2_remember 1 = .ok (.getfield 17, 3) := by decide +kernel
theorem dX2_remember_4 : decode cX2_remember 4 = .ok (.bipush 10, 2) := by decide +kernel
theorem dX2_remember_6 : decode cX2_remember 6 = .ok (.if_icmp .lt 40, 3) := by decide +kernel
theorem dX2_remember_9 : decode cX2_remember 9 = .ok (.iconst 1, 1) := by decide +kernel
theorem dX2_remember_10 : decode cX2_remember 10 = .ok (.istore_n 2, 1) := by decide +kernel
theorem dX2_remember_11 : decode cX2_remember 11 = .ok (.iload_n 2, 1) := by decide +kernel
theorem dX2_remember_12 : decode cX2_remember 12 = .ok (.bipush 10, 2) := by decide +kernel
theorem dX2_remember_14 : decode cX2_remember 14 = .ok (.if_icmp .ge 26, 3) := by decide +kernel
theorem dX2_remember_17 : decode cX2_remember 17 = .ok (.aload_n 0, 1) := by decide +kernel
theorem dX2_remember_18 : decode cX2_remember 18 = .ok (.getfield 11, 3) := by decide +kernel
theorem dX2_remember_21 : decode cX2_remember 21 = .ok (.iload_n 2, 1) := by decide +kernel
theorem dX2_remember_22 : decode cX2_remember 22 = .ok (.iconst 1, 1) := by decide +kernel
theorem dX2_remember_23 : decode cX2_remember 23 = .ok (.isub, 1) := by decide +kernel
theorem dX2_remember_24 : decode cX2_remember 24 = .ok (.aaload, 1) := by decide +kernel
theorem dX2_remember_25 : decode cX2_remember 25 = .ok (.aload_n 0, 1) := by decide +kernel
theorem dX2_remember_26 : decode cX2_remember 26 = .ok (.getfield 11, 3) := by decide +kernel
theorem dX2_remember_29 : decode cX2_remember 29 = .ok (.iload_n 2, 1) := by decide +kernel
theorem dX2_remember_30 : decode cX2_remember 30 = .ok (.aaload, 1) := by decide +kernel
theorem dX2_remember_31 : decode cX2_remember 31 = .ok (.invokevirtual 22, 3) := by decide +kernel
theorem dX2_remember_34 : decode cX2_remember 34 = .ok (.iinc 2 1, 3) := by decide +kernel
theorem dX2_remember_37 : decode cX2_remember 37 = .ok (.goto (-26), 3) := by decide +kernel
theorem dX2_remember_40 : decode cX2_remember 40 = .ok (.aload_n 0, 1) := by decide +kernel
theorem dX2_remember_41 : decode cX2_remember 41 = .ok (.bipush 9, 2) := by decide +kernel
theorem dX2_remember_43 : decode cX2_remember 43 = .ok (.putfield 17, 3) := by decide +kernel
theorem dX2_remember_46 : decode cX2_remember 46 = .ok (.aload_n 0, 1) := by decide +kernel
theorem dX2_remember_47 : decode cX2_remember 47 = .ok (.getfield 11, 3) := by decide +kernel
theorem dX2_remember_50 : decode cX2_remember 50 = .ok (.aload_n 0, 1) := by decide +kernel
theorem dX2_remember_51 : decode cX2_remember 51 = .ok (.getfield 17, 3) := by decide +kernel
theorem dX2_remember_54 : decode cX2_remember 54 = .ok (.aaload, 1) := by decide +kernel
theorem dX2_remember_55 : decode cX2_remember 55 = .ok (.aload_n 1, 1) := by decide +kernel
theorem dX2_remember_56 : decode cX2_remember 56 = .ok (.invokevirtual 22, 3) := by decide +kernel
theorem dX2_remember_59 : decode cX2_remember 59 = .ok (.aload_n 0, 1) := by decide +kernel
theorem dX2_remember_60 : decode cX2_remember 60 = .ok (.dup, 1) := by decide +kernel
theorem dX2_remember_61 : decode cX2_remember 61 = .ok (.getfield 17, 3) := by decide +kernel
theorem dX2_remember_64 : decode cX2_remember 64 = .ok (.iconst 1, 1) := by decide +kernel
theorem dX2_remember_65 : decode cX2_remember 65 = .ok (.iadd, 1) := by decide +kernel
theorem dX2_remember_66 : decode cX2_remember 66 = .ok (.putfield 17, 3) := by decide +kernel
theorem dX2_remember_69 : decode cX2_remember 69 = .ok (.return_, 1) := by decide +kernel
theorem dX2_recall_0 : decode cX2_recall 0 = .ok (.aload_n 0, 1) := by decide +kernel
theorem dX2_recall_1 : decode cX2_recall 1 = .ok (.getfield 17, 3) := by decide +kernel
theorem dX2_recall_4 : decode cX2_recall 4 = .ok (.ifCond .le 12, 3) := by decide +kernel
theorem dX2_recall_7 : decode cX2_recall 7 = .ok (.aload_n 0, 1) := by decide +kernel
theorem dX2_recall_8 : decode cX2_recall 8 = .ok (.getfield 17, 3) := by decide +kernel
theorem dX2_recall_11 : decode cX2_recall 11 = .ok (.bipush 10, 2) := by decide +kernel
theorem dX2_recall_13 : decode cX2_recall 13 = .ok (.if_icmp .le 5, 3) := by decide +kernel
theorem dX2_recall_16 : decode cX2_recall 16 = .ok (.iconst 0, 1) := by decide +kernel
theorem dX2_recall_17 : decode cX2_recall 17 = .ok (.ireturn, 1) := by decide +kernel
theorem dX2_recall_18 : decode cX2_recall 18 = .ok (.aload_n 0, 1) := by decide +kernel
theorem dX2_recall_19 : decode cX2_recall 19 = .ok (.dup, 1) := by decide +kernel
theorem dX2_recall_20 : decode cX2_recall 20 = .ok (.getfield 17, 3) := by decide +kernel
theorem dX2_recall_23 : decode cX2_recall 23 = .ok (.iconst 1, 1) := by decide +kernel
theorem dX2_recall_24 : decode cX2_recall 24 = .ok (.isub, 1) := by decide +kernel
theorem dX2_recall_25 : decode cX2_recall 25 = .ok (.putfield 17, 3) := by decide +kernel
theorem dX2_recall_28 : decode cX2_recall 28 = .ok (.aload_n 1, 1) := by decide +kernel
theorem dX2_recall_29 : decode cX2_recall 29 = .ok (.aload_n 0, 1) := by decide +kernel
theorem dX2_recall_30 : decode cX2_recall 30 = .ok (.getfield 11, 3) := by decide +kernel
theorem dX2_recall_33 : decode cX2_recall 33 = .ok (.aload_n 0, 1) := by decide +kernel
theorem dX2_recall_34 : decode cX2_recall 34 = .ok (.getfield 17, 3) := by decide +kernel
theorem dX2_recall_37 : decode cX2_recall 37 = .ok (.aaload, 1) := by decide +kernel
theorem dX2_recall_38 : decode cX2_recall 38 = .ok (.invokevirtual 22, 3) := by decide +kernel
theorem dX2_recall_41 : decode cX2_recall 41 = .ok (.iconst 1, 1) := by decide +kernel
theorem dX2_recall_42 : decode cX2_recall 42 = .ok (.ireturn, 1) := by decide +kernel
theorem dX3_init_0 : decode cX3_init 0 = .ok (.aload_n 0, 1) := by decide +kernel
theorem dX3_init_1 : decode cX3_init 1 = .ok (.invokespecial 3, 3) := by decide +kernel
theorem dX3_init_4 : decode cX3_init 4 = .ok (.aload_n 0, 1) := by decide +kernel
theorem dX3_init_5 : decode cX3_init 5 = .ok (.iconst 5, 1) := by decide +kernel
theorem dX3_init_6 : decode cX3_init 6 = .ok (.newarray .int, 2) := by decide +kernel
theorem dX3_init_8 : decode cX3_init 8 = .ok (.putfield 9, 3) := by decide +kernel
theorem dX3_init_11 : decode cX3_init 11 = .ok (.aload_n 0, 1) := by decide +kernel
theorem dX3_init_12 : decode cX3_init 12 = .ok (.iconst 5, 1) := by decide +kernel
theorem dX3_init_13 : decode cX3_init 13 = .ok (.newarray .int, 2) := by decide +kernel
theorem dX3_init_15 : decode cX3_init 15 = .ok (.putfield 15, 3) := by decide +kernel
theorem dX3_init_18 : decode cX3_init 18 = .ok (.aload_n 0, 1) := by decide +kernel
theorem dX3_init_19 : decode cX3_init 19 = .ok (.iconst 5, 1) := by decide +kernel
theorem dX3_init_20 : decode cX3_init 20 = .ok (.newarray .int, 2) := by decide +kernel
theorem dX3_init_22 : decode cX3_init 22 = .ok (.putfield 18, 3) := by decide +kernel
theorem dX3_init_25 : decode cX3_init 25 = .ok (.aload_n 0, 1) := by decide +kernel
theorem dX3_init_26 : decode cX3_init 26 = .ok (.iconst 0, 1) := by decide +kernel
theorem dX3_init_27 : decode cX3_init 27 = .ok (.putfield 21, 3) := by decide +kernel
theorem dX3_init_30 : decode cX3_init 30 = .ok (.aload_n 0, 1) := by decide +kernel
theorem dX3_init_31 : decode cX3_init 31 = .ok (.iconst 0, 1) := by decide +kernel
theorem dX3_init_32 : decode cX3_init 32 = .ok (.putfield 25, 3) := by decide +kernel
theorem dX3_init_35 : decode cX3_init 35 = .ok (.aload_n 0, 1) := by decide +kernel
theorem dX3_init_36 : decode cX3_init 36 = .ok (.iconst 0, 1) := by decide +kernel
theorem dX3_init_37 : decode cX3_init 37 = .ok (.putfield 28, 3) := by decide +kernel
theorem dX3_init_40 : decode cX3_init 40 = .ok (.return_, 1) := by decide +kernel
theorem dX3_size_0 : decode cX3_size 0 = .ok (.aload_n 0, 1) := by decide +kernel
theorem dX3_size_1 : decode cX3_size 1 = .ok (.getfield 21, 3) := by decide +kernel
theorem dX3_size_4 : decode cX3_size 4 = .ok (.ireturn, 1) := by decide +kernel
theorem dX3_isFull_0 : decode cX3_isFull 0 = .ok (.aload_n 0, 1) := by decide +kernel
theorem dX3_isFull_1 : decode cX3_isFull 1 = .ok (.getfield 21, 3) := by decide +kernel
theorem dX3_isFull_4 : decode cX3_isFull 4 = .ok (.iconst 5, 1) := by decide +kernel
theorem dX3_isFull_5 : decode cX3_isFull 5 = .ok (.if_icmp .lt 7, 3) := by decide +kernel
theorem dX3_isFull_8 : decode cX3_isFull 8 = .ok (.iconst 1, 1) := by decide +kernel
theorem dX3_isFull_9 : decode cX3_isFull 9 = .ok (.goto 4, 3) := by decide +kernel
theorem dX3_isFull_12 : decode cX3_isFull 12 = .ok (.iconst 0, 1) := by decide +kernel
theorem dX3_isFull_13 : decode cX3_isFull 13 = .ok (.ireturn, 1) := by decide +kernel
theorem dX3_has_0 : decode cX3_has 0 = .ok (.iload_n 1, 1) := by decide +kernel
theorem dX3_has_1 : decode cX3_has 1 = .ok (.ifCond .lt 15, 3) := by decide +kernel
theorem dX3_has_4 : decode cX3_has 4 = .ok (.iload_n 1, 1) := by decide +kernel
theorem dX3_has_5 : decode cX3_has 5 = .ok (.aload_n 0, 1) := by decide +kernel
theorem dX3_has_6 : decode cX3_has 6 = .ok (.getfield 21, 3) := by decide +kernel
theorem dX3_has_9 : decode cX3_has 9 = .ok (.if_icmp .ge 7, 3) := by decide +kernel
theorem dX3_has_12 : decode cX3_has 12 = .ok (.iconst 1, 1) := by decide +kernel
theorem dX3_has_13 : decode cX3_has 13 = .ok (.goto 4, 3) := by decide +kernel
theorem dX3_has_16 : decode cX3_has 16 = .ok (.iconst 0, 1) := by decide +kernel
theorem dX3_has_17 : decode cX3_has 17 = .ok (.ireturn, 1) := by decide +kernel
theorem dX3_xOf_0 : decode cX3_xOf 0 = .ok (.iload_n 1, 1) := by decide +kernel
theorem dX3_xOf_1 : decode cX3_xOf 1 = .ok (.ifCond .lt 17, 3) := by decide +kernel
theorem dX3_xOf_4 : decode cX3_xOf 4 = .ok (.iload_n 1, 1) := by decide +kernel
theorem dX3_xOf_5 : decode cX3_xOf 5 = .ok (.iconst 5, 1) := by decide +kernel
theorem dX3_xOf_6 : decode cX3_xOf 6 = .ok (.if_icmp .ge 12, 3) := by decide +kernel
theorem dX3_xOf_9 : decode cX3_xOf 9 = .ok (.aload_n 0, 1) := by decide +kernel
theorem dX3_xOf_10 : decode cX3_xOf 10 = .ok (.getfield 9, 3) := by decide +kernel
theorem dX3_xOf_13 : decode cX3_xOf 13 = .ok (.iload_n 1, 1) := by decide +kernel
theorem dX3_xOf_14 : decode cX3_xOf 14 = .ok (.iaload, 1) := by decide +kernel
theorem dX3_xOf_15 : decode cX3_xOf 15 = .ok (.goto 4, 3) := by decide +kernel
theorem dX3_xOf_18 : decode cX3_xOf 18 = .ok (.iconst 0, 1) := by decide +kernel
theorem dX3_xOf_19 : decode cX3_xOf 19 = .ok (.ireturn, 1) := by decide +kernel
theorem dX3_yOf_0 : decode cX3_yOf 0 = .ok (.iload_n 1, 1) := by decide +kernel
theorem dX3_yOf_1 : decode cX3_yOf 1 = .ok (.ifCond .lt 17, 3) := by decide +kernel
theorem dX3_yOf_4 : decode cX3_yOf 4 = .ok (.iload_n 1, 1) := by decide +kernel
theorem dX3_yOf_5 : decode cX3_yOf 5 = .ok (.iconst 5, 1) := by decide +kernel
theorem dX3_yOf_6 : decode cX3_yOf 6 = .ok (.if_icmp .ge 12, 3) := by decide +kernel
theorem dX3_yOf_9 : decode cX3_yOf 9 = .ok (.aload_n 0, 1) := by decide +kernel
theorem dX3_yOf_10 : decode cX3_yOf 10 = .ok (.getfield 15, 3) := by decide +kernel
theorem dX3_yOf_13 : decode cX3_yOf 13 = .ok (.iload_n 1, 1) := by decide +kernel
theorem dX3_yOf_14 : decode cX3_yOf 14 = .ok (.iaload, 1) := by decide +kernel
theorem dX3_yOf_15 : decode cX3_yOf 15 = .ok (.goto 4, 3) := by decide +kernel
theorem dX3_yOf_18 : decode cX3_yOf 18 = .ok (.iconst 0, 1) := by decide +kernel
theorem dX3_yOf_19 : decode cX3_yOf 19 = .ok (.ireturn, 1) := by decide +kernel
theorem dX3_wOf_0 : decode cX3_wOf 0 = .ok (.iload_n 1, 1) := by decide +kernel
theorem dX3_wOf_1 : decode cX3_wOf 1 = .ok (.ifCond .lt 17, 3) := by decide +kernel
theorem dX3_wOf_4 : decode cX3_wOf 4 = .ok (.iload_n 1, 1) := by decide +kernel
theorem dX3_wOf_5 : decode cX3_wOf 5 = .ok (.iconst 5, 1) := by decide +kernel
theorem dX3_wOf_6 : decode cX3_wOf 6 = .ok (.if_icmp .ge 12, 3) := by decide +kernel
theorem dX3_wOf_9 : decode cX3_wOf 9 = .ok (.aload_n 0, 1) := by decide +kernel
theorem dX3_wOf_10 : decode cX3_wOf 10 = .ok (.getfield 18, 3) := by decide +kernel
theorem dX3_wOf_13 : decode cX3_wOf 13 = .ok (.iload_n 1, 1) := by decide +kernel
theorem dX3_wOf_14 : decode cX3_wOf 14 = .ok (.iaload, 1) := by decide +kernel
theorem dX3_wOf_15 : decode cX3_wOf 15 = .ok (.goto 4, 3) := by decide +kernel
theorem dX3_wOf_18 : decode cX3_wOf 18 = .ok (.iconst 0, 1) := by decide +kernel
theorem dX3_wOf_19 : decode cX3_wOf 19 = .ok (.ireturn, 1) := by decide +kernel
theorem dX3_putX_0 : decode cX3_putX 0 = .ok (.iload_n 1, 1) := by decide +kernel
theorem dX3_putX_1 : decode cX3_putX 1 = .ok (.ifCond .lt 15, 3) := by decide +kernel
theorem dX3_putX_4 : decode cX3_putX 4 = .ok (.iload_n 1, 1) := by decide +kernel
theorem dX3_putX_5 : decode cX3_putX 5 = .ok (.iconst 5, 1) := by decide +kernel
theorem dX3_putX_6 : decode cX3_putX 6 = .ok (.if_icmp .ge 10, 3) := by decide +kernel
theorem dX3_putX_9 : decode cX3_putX 9 = .ok (.aload_n 0, 1) := by decide +kernel
theorem dX3_putX_10 : decode cX3_putX 10 = .ok (.getfield 9, 3) := by decide +kernel
theorem dX3_putX_13 : decode cX3_putX 13 = .ok (.iload_n 1, 1) := by decide +kernel
theorem dX3_putX_14 : decode cX3_putX 14 = .ok (.iload_n 2, 1) := by decide +kernel
theorem dX3_putX_15 : decode cX3_putX 15 = .ok (.iastore, 1) := by decide +kernel
theorem dX3_putX_16 : decode cX3_putX 16 = .ok (.return_, 1) := by decide +kernel
theorem dX3_putY_0 : decode cX3_putY 0 = .ok (.iload_n 1, 1) := by decide +kernel
theorem dX3_putY_1 : decode cX3_putY 1 = .ok (.ifCond .lt 15, 3) := by decide +kernel
theorem dX3_putY_4 : decode cX3_putY 4 = .ok (.iload_n 1, 1) := by decide +kernel
theorem dX3_putY_5 : decode cX3_putY 5 = .ok (.iconst 5, 1) := by decide +kernel
theorem dX3_putY_6 : decode cX3_putY 6 = .ok (.if_icmp .ge 10, 3) := by decide +kernel
theorem dX3_putY_9 : decode cX3_putY 9 = .ok (.aload_n 0, 1) := by decide +kernel
theorem dX3_putY_10 : decode cX3_putY 10 = .ok (.getfield 15, 3) := by decide +kernel
theorem dX3_putY_13 : decode cX3_putY 13 = .ok (.iload_n 1, 1) := by decide +kernel
theorem dX3_putY_14 : decode cX3_putY 14 = .ok (.iload_n 2, 1) := by decide +kernel
theorem dX3_putY_15 : decode cX3_putY 15 = .ok (.iastore, 1) := by decide +kernel
theorem dX3_putY_16 : decode cX3_putY 16 = .ok (.return_, 1) := by decide +kernel
theorem dX3_putW_0 : decode cX3_putW 0 = .ok (.iload_n 1, 1) := by decide +kernel
theorem dX3_putW_1 : decode cX3_putW 1 = .ok (.ifCond .lt 15, 3) := by decide +kernel
theorem dX3_putW_4 : decode cX3_putW 4 = .ok (.iload_n 1, 1) := by decide +kernel
theorem dX3_putW_5 : decode cX3_putW 5 = .ok (.iconst 5, 1) := by decide +kernel
theorem dX3_putW_6 : decode cX3_putW 6 = .ok (.if_icmp .ge 10, 3) := by decide +kernel
theorem dX3_putW_9 : decode cX3_putW 9 = .ok (.aload_n 0, 1) := by decide +kernel
theorem dX3_putW_10 : decode cX3_putW 10 = .ok (.getfield 18, 3) := by decide +kernel
theorem dX3_putW_13 : decode cX3_putW 13 = .ok (.iload_n 1, 1) := by decide +kernel
theorem dX3_putW_14 : decode cX3_putW 14 = .ok (.iload_n 2, 1) := by decide +kernel
theorem dX3_putW_15 : decode cX3_putW 15 = .ok (.iastore, 1) := by decide +kernel
theorem dX3_putW_16 : decode cX3_putW 16 = .ok (.return_, 1) := by decide +kernel
theorem dX3_clear_0 : decode cX3_clear 0 = .ok (.aload_n 0, 1) := by decide +kernel
theorem dX3_clear_1 : decode cX3_clear 1 = .ok (.iconst 0, 1) := by decide +kernel
theorem dX3_clear_2 : decode cX3_clear 2 = .ok (.putfield 21, 3) := by decide +kernel
theorem dX3_clear_5 : decode cX3_clear 5 = .ok (.aload_n 0, 1) := by decide +kernel
theorem dX3_clear_6 : decode cX3_clear 6 = .ok (.iconst 0, 1) := by decide +kernel
theorem dX3_clear_7 : decode cX3_clear 7 = .ok (.putfield 25, 3) := by decide +kernel
theorem dX3_clear_10 : decode cX3_clear 10 = .ok (.aload_n 0, 1) := by decide +kernel
theorem dX3_clear_11 : decode cX3_clear 11 = .ok (.iconst 0, 1) := by decide +kernel
theorem dX3_clear_12 : decode cX3_clear 12 = .ok (.putfield 28, 3) := by decide +kernel
theorem dX3_clear_15 : decode cX3_clear 15 = .ok (.return_, 1) := by decide +kernel
theorem dX3_copyFrom_0 : decode cX3_copyFrom 0 = .ok (.iconst 0, 1) := by decide +kernel
theorem dX3_copyFrom_1 : decode cX3_copyFrom 1 = .ok (.istore_n 2, 1) := by decide +kernel
theorem dX3_copyFrom_2 : decode cX3_copyFrom 2 = .ok (.iload_n 2, 1) := by decide +kernel
theorem dX3_copyFrom_3 : decode cX3_copyFrom 3 = .ok (.iconst 5, 1) := by decide +kernel
theorem dX3_copyFrom_4 : decode cX3_copyFrom 4 = .ok (.if_icmp .ge 45, 3) := by decide +kernel
theorem dX3_copyFrom_7 : decode cX3_copyFrom 7 = .ok (.aload_n 0, 1) := by decide +kernel
theorem dX3_copyFrom_8 : decode cX3_copyFrom 8 = .ok (.getfield 9, 3) := by decide +kernel
theorem dX3_copyFrom_11 : decode cX3_copyFrom 11 = .ok (.iload_n 2, 1) := by decide +kernel
theorem dX3_copyFrom_12 : decode cX3_copyFrom 12 = .ok (.aload_n 1, 1) := by decide +kernel
theorem dX3_copyFrom_13 : decode cX3_copyFrom 13 = .ok (.getfield 9, 3) := by decide +kernel
theorem dX3_copyFrom_16 : decode cX3_copyFrom 16 = .ok (.iload_n 2, 1) := by decide +kernel
theorem dX3_copyFrom_17 : decode cX3_copyFrom 17 = .ok (.iaload, 1) := by decide +kernel
theorem dX3_copyFrom_18 : decode cX3_copyFrom 18 = .ok (.iastore, 1) := by decide +kernel
theorem dX3_copyFrom_19 : decode cX3_copyFrom 19 = .ok (.aload_n 0, 1) := by decide +kernel
theorem dX3_copyFrom_20 : decode cX3_copyFrom 20 = .ok (.getfield 15, 3) := by decide +kernel
theorem dX3_copyFrom_23 : decode cX3_copyFrom 23 = .ok (.iload_n 2, 1) := by decide +kernel
theorem dX3_copyFrom_24 : decode cX3_copyFrom 24 = .ok (.aload_n 1, 1) := by decide +kernel
theorem dX3_copyFrom_25 : decode cX3_copyFrom 25 = .ok (.getfield 15, 3) := by decide +kernel
theorem dX3_copyFrom_28 : decode cX3_copyFrom 28 = .ok (.iload_n 2, 1) := by decide +kernel
theorem dX3_copyFrom_29 : decode cX3_copyFrom 29 = .ok (.iaload, 1) := by decide +kernel
theorem dX3_copyFrom_30 : decode cX3_copyFrom 30 = .ok (.iastore, 1) := by decide +kernel
theorem dX3_copyFrom_31 : decode cX3_copyFrom 31 = .ok (.aload_n 0, 1) := by decide +kernel
theorem dX3_copyFrom_32 : decode cX3_copyFrom 32 = .ok (.getfield 18, 3) := by decide +kernel
theorem dX3_copyFrom_35 : decode cX3_copyFrom 35 = .ok (.iload_n 2, 1) := by decide +kernel
theorem dX3_copyFrom_36 : decode cX3_copyFrom 36 = .ok (.aload_n 1, 1) := by decide +kernel
theorem dX3_copyFrom_37 : decode cX3_copyFrom 37 = .ok (.getfield 18, 3) := by decide +kernel
theorem dX3_copyFrom_40 : decode cX3_copyFrom 40 = .ok (.iload_n 2, 1) := by decide +kernel
theorem dX3_copyFrom_41 : decode cX3_copyFrom 41 = .ok (.iaload, 1) := by decide +kernel
theorem dX3_copyFrom_42 : decode cX3_copyFrom 42 = .ok (.iastore, 1) := by decide +kernel
theorem dX3_copyFrom_43 : decode cX3_copyFrom 43 = .ok (.iinc 2 1, 3) := by decide +kernel
theorem dX3_copyFrom_46 : decode cX3_copyFrom 46 = .ok (.goto (-44), 3) := by decide +kernel
theorem dX3_copyFrom_49 : decode cX3_copyFrom 49 = .ok (.aload_n 0, 1) := by decide +kernel
theorem dX3_copyFrom_50 : decode cX3_copyFrom 50 = .ok (.aload_n 1, 1) := by decide +kernel
theorem dX3_copyFrom_51 : decode cX3_copyFrom 51 = .ok (.getfield 21, 3) := by decide +kernel
theorem dX3_copyFrom_54 : decode cX3_copyFrom 54 = .ok (.putfield 21, 3) := by decide +kernel
theorem dX3_copyFrom_57 : decode cX3_copyFrom 57 = .ok (.aload_n 0, 1) := by decide +kernel
theorem dX3_copyFrom_58 : decode cX3_copyFrom 58 = .ok (.aload_n 1, 1) := by decide +kernel
theorem dX3_copyFrom_59 : decode cX3_copyFrom 59 = .ok (.getfield 25, 3) := by decide +kernel
theorem dX3_copyFrom_62 : decode cX3_copyFrom 62 = .ok (.putfield 25, 3) := by decide +kernel
theorem dX3_copyFrom_65 : decode cX3_copyFrom 65 = .ok (.aload_n 0, 1) := by decide +kernel
theorem dX3_copyFrom_66 : decode cX3_copyFrom 66 = .ok (.aload_n 1, 1) := by decide +kernel
theorem dX3_copyFrom_67 : decode cX3_copyFrom 67 = .ok (.getfield 28, 3) := by decide +kernel
theorem dX3_copyFrom_70 : decode cX3_copyFrom 70 = .ok (.putfield 28, 3) := by decide +kernel
theorem dX3_copyFrom_73 : decode cX3_copyFrom 73 = .ok (.return_, 1) := by decide +kernel
theorem dX3_append_0 : decode cX3_append 0 = .ok (.aload_n 0, 1) := by decide +kernel
theorem dX3_append_1 : decode cX3_append 1 = .ok (.invokevirtual 31, 3) := by decide +kernel
theorem dX3_append_4 : decode cX3_append 4 = .ok (.ifCond .eq 4, 3) := by decide +kernel
theorem dX3_append_7 : decode cX3_append 7 = .ok (.return_, 1) := by decide +kernel
theorem dX3_append_8 : decode cX3_append 8 = .ok (.aload_n 0, 1) := by decide +kernel
theorem dX3_append_9 : decode cX3_append 9 = .ok (.dup, 1) := by decide +kernel
theorem dX3_append_10 : decode cX3_append 10 = .ok (.getfield 21, 3) := by decide +kernel
theorem dX3_append_13 : decode cX3_append 13 = .ok (.iconst 1, 1) := by decide +kernel
theorem dX3_append_14 : decode cX3_append 14 = .ok (.iadd, 1) := by decide +kernel
theorem dX3_append_15 : decode cX3_append 15 = .ok (.putfield 21, 3) := by decide +kernel
theorem dX3_append_18 : decode cX3_append 18 = .ok (.aload_n 0, 1) := by decide +kernel
theorem dX3_append_19 : decode cX3_append 19 = .ok (.aload_n 0, 1) := by decide +kernel
theorem dX3_append_20 : decode cX3_append 20 = .ok (.getfield 21, 3) := by decide +kernel
theorem dX3_append_23 : decode cX3_append 23 = .ok (.iconst 1, 1) := by decide +kernel
theorem dX3_append_24 : decode cX3_append 24 = .ok (.isub, 1) := by decide +kernel
theorem dX3_append_25 : decode cX3_append 25 = .ok (.iload_n 1, 1) := by decide +kernel
theorem dX3_append_26 : decode cX3_append 26 = .ok (.invokevirtual 35, 3) := by decide +kernel
theorem dX3_append_29 : decode cX3_append 29 = .ok (.aload_n 0, 1) := by decide +kernel
theorem dX3_append_30 : decode cX3_append 30 = .ok (.aload_n 0, 1) := by decide +kernel
theorem dX3_append_31 : decode cX3_append 31 = .ok (.getfield 21, 3) := by decide +kernel
theorem dX3_append_34 : decode cX3_append 34 = .ok (.iconst 1, 1) := by decide +kernel
theorem dX3_append_35 : decode cX3_append 35 = .ok (.isub, 1) := by decide +kernel
theorem dX3_append_36 : decode cX3_append 36 = .ok (.iload_n 2, 1) := by decide +kernel
theorem dX3_append_37 : decode cX3_append 37 = .ok (.invokevirtual 39, 3) := by decide +kernel
theorem dX3_append_40 : decode cX3_append 40 = .ok (.aload_n 0, 1) := by decide +kernel
theorem dX3_append_41 : decode cX3_append 41 = .ok (.aload_n 0, 1) := by decide +kernel
theorem dX3_append_42 : decode cX3_append 42 = .ok (.getfield 21, 3) := by decide +kernel
theorem dX3_append_45 : decode cX3_append 45 = .ok (.iconst 1, 1) := by decide +kernel
theorem dX3_append_46 : decode cX3_append 46 = .ok (.isub, 1) := by decide +kernel
theorem dX3_append_47 : decode cX3_append 47 = .ok (.iload_n 3, 1) := by decide +kernel
theorem dX3_append_48 : decode cX3_append 48 = .ok (.invokevirtual 42, 3) := by decide +kernel
theorem dX3_append_51 : decode cX3_append 51 = .ok (.return_, 1) := by decide +kernel
theorem dX3_drop_0 : decode cX3_drop 0 = .ok (.aload_n 0, 1) := by decide +kernel
theorem dX3_drop_1 : decode cX3_drop 1 = .ok (.iload_n 1, 1) := by decide +kernel
theorem dX3_drop_2 : decode cX3_drop 2 = .ok (.invokevirtual 45, 3) := by decide +kernel
theorem dX3_drop_5 : decode cX3_drop 5 = .ok (.ifCond .ne 4, 3) := by decide +kernel
theorem dX3_drop_8 : decode cX3_drop 8 = .ok (.return_, 1) := by decide +kernel
theorem dX3_drop_9 : decode cX3_drop 9 = .ok (.iload_n 1, 1) := by decide +kernel
theorem dX3_drop_10 : decode cX3_drop 10 = .ok (.istore_n 2, 1) := by decide +kernel
theorem dX3_drop_11 : decode cX3_drop 11 = .ok (.iload_n 2, 1) := by decide +kernel
theorem dX3_drop_12 : decode cX3_drop 12 = .ok (.aload_n 0, 1) := by decide +kernel
theorem dX3_drop_13 : decode cX3_drop 13 = .ok (.getfield 21, 3) := by decide +kernel
theorem dX3_drop_16 : decode cX3_drop 16 = .ok (.iconst 1, 1) := by decide +kernel
theorem dX3_drop_17 : decode cX3_drop 17 = .ok (.isub, 1) := by decide +kernel
theorem dX3_drop_18 : decode cX3_drop 18 = .ok (.if_icmp .ge 45, 3) := by decide +kernel
theorem dX3_drop_21 : decode cX3_drop 21 = .ok (.aload_n 0, 1) := by decide +kernel
theorem dX3_drop_22 : decode cX3_drop 22 = .ok (.iload_n 2, 1) := by decide +kernel
theorem dX3_drop_23 : decode cX3_drop 23 = .ok (.aload_n 0, 1) := by decide +kernel
theorem dX3_drop_24 : decode cX3_drop 24 = .ok (.iload_n 2, 1) := by decide +kernel
theorem dX3_drop_25 : decode cX3_drop 25 = .ok (.iconst 1, 1) := by decide +kernel
theorem dX3_drop_26 : decode cX3_drop 26 = .ok (.iadd, 1) := by decide +kernel
theorem dX3_drop_27 : decode cX3_drop 27 = .ok (.invokevirtual 49, 3) := by decide +kernel
theorem dX3_drop_30 : decode cX3_drop 30 = .ok (.invokevirtual 35, 3) := by decide +kernel
theorem dX3_drop_33 : decode cX3_drop 33 = .ok (.aload_n 0, 1) := by decide +kernel
theorem dX3_drop_34 : decode cX3_drop 34 = .ok (.iload_n 2, 1) := by decide +kernel
theorem dX3_drop_35 : decode cX3_drop 35 = .ok (.aload_n 0, 1) := by decide +kernel
theorem dX3_drop_36 : decode cX3_drop 36 = .ok (.iload_n 2, 1) := by decide +kernel
theorem dX3_drop_37 : decode cX3_drop 37 = .ok (.iconst 1, 1) := by decide +kernel
theorem dX3_drop_38 : decode cX3_drop 38 = .ok (.iadd, 1) := by decide +kernel
theorem dX3_drop_39 : decode cX3_drop 39 = .ok (.invokevirtual 53, 3) := by decide +kernel
theorem dX3_drop_42 : decode cX3_drop 42 = .ok (.invokevirtual 39, 3) := by decide +kernel
theorem dX3_drop_45 : decode cX3_drop 45 = .ok (.aload_n 0, 1) := by decide +kernel
theorem dX3_drop_46 : decode cX3_drop 46 = .ok (.iload_n 2, 1) := by decide +kernel
theorem dX3_drop_47 : decode cX3_drop 47 = .ok (.aload_n 0, 1) := by decide +kernel
theorem dX3_drop_48 : decode cX3_drop 48 = .ok (.iload_n 2, 1) := by decide +kernel
theorem dX3_drop_49 : decode cX3_drop 49 = .ok (.iconst 1, 1) := by decide +kernel
theorem dX3_drop_50 : decode cX3_drop 50 = .ok (.iadd, 1) := by decide +kernel
theorem dX3_drop_51 : decode cX3_drop 51 = .ok (.invokevirtual 56, 3) := by decide +kernel
theorem dX3_drop_54 : decode cX3_drop 54 = .ok (.invokevirtual 42, 3) := by decide +kernel
theorem dX3_drop_57 : decode cX3_drop 57 = .ok (.iinc 2 1, 3) := by decide +kernel
theorem dX3_drop_60 : decode cX3_drop 60 = .ok (.goto (-49), 3) := by decide +kernel
theorem dX3_drop_63 : decode cX3_drop 63 = .ok (.aload_n 0, 1) := by decide +kernel
theorem dX3_drop_64 : decode cX3_drop 64 = .ok (.dup, 1) := by decide +kernel
theorem dX3_drop_65 : decode cX3_drop 65 = .ok (.getfield 21, 3) := by decide +kernel
theorem dX3_drop_68 : decode cX3_drop 68 = .ok (.iconst 1, 1) := by decide +kernel
theorem dX3_drop_69 : decode cX3_drop 69 = .ok (.isub, 1) := by decide +kernel
theorem dX3_drop_70 : decode cX3_drop 70 = .ok (.putfield 21, 3) := by decide +kernel
theorem dX3_drop_73 : decode cX3_drop 73 = .ok (.return_, 1) := by decide +kernel
theorem dX3_find_0 : decode cX3_find 0 = .ok (.iconst 0, 1) := by decide +kernel
theorem dX3_find_1 : decode cX3_find 1 = .ok (.istore_n 2, 1) := by decide +kernel
theorem dX3_find_2 : decode cX3_find 2 = .ok (.iload_n 2, 1) := by decide +kernel
theorem dX3_find_3 : decode cX3_find 3 = .ok (.aload_n 0, 1) := by decide +kernel
theorem dX3_find_4 : decode cX3_find 4 = .ok (.getfield 21, 3) := by decide +kernel
theorem dX3_find_7 : decode cX3_find 7 = .ok (.if_icmp .ge 20, 3) := by decide +kernel
theorem dX3_find_10 : decode cX3_find 10 = .ok (.aload_n 0, 1) := by decide +kernel
theorem dX3_find_11 : decode cX3_find 11 = .ok (.iload_n 2, 1) := by decide +kernel
theorem dX3_find_12 : decode cX3_find 12 = .ok (.invokevirtual 49, 3) := by decide +kernel
theorem dX3_find_15 : decode cX3_find 15 = .ok (.iload_n 1, 1) := by decide +kernel
theorem dX3_find_16 : decode cX3_find 16 = .ok (.if_icmp .ne 5, 3) := by decide +kernel
theorem dX3_find_19 : decode cX3_find 19 = .ok (.iload_n 2, 1) := by decide +kernel
theorem dX3_find_20 : decode cX3_find 20 = .ok (.ireturn, 1) := by decide +kernel
theorem dX3_find_21 : decode cX3_find 21 = .ok (.iinc 2 1, 3) := by decide +kernel
theorem dX3_find_24 : decode cX3_find 24 = .ok (.goto (-22), 3) := by decide +kernel
theorem dX3_find_27 : decode cX3_find 27 = .ok (.iconst (-1), 1) := by decide +kernel
theorem dX3_find_28 : decode cX3_find 28 = .ok (.ireturn, 1) := by decide +kernel
theorem dX3_isFreeFor_0 : decode cX3_isFreeFor 0 = .ok (.aload_n 0, 1) := by decide +kernel
theorem dX3_isFreeFor_1 : decode cX3_isFreeFor 1 = .ok (.iload_n 2, 1) := by decide +kernel
theorem dX3_isFreeFor_2 : decode cX3_isFreeFor 2 = .ok (.invokevirtual 59, 3) := by decide +kernel
theorem dX3_isFreeFor_5 : decode cX3_isFreeFor 5 = .ok (.istore_n 3, 1) := by decide +kernel
theorem dX3_isFreeFor_6 : decode cX3_isFreeFor 6 = .ok (.iload_n 3, 1) := by decide +kernel
theorem dX3_isFreeFor_7 : decode cX3_isFreeFor 7 = .ok (.iconst (-1), 1) := by decide +kernel
theorem dX3_isFreeFor_8 : decode cX3_isFreeFor 8 = .ok (.if_icmp .eq 8, 3) := by decide +kernel
theorem dX3_isFreeFor_11 : decode cX3_isFreeFor 11 = .ok (.iload_n 3, 1) := by decide +kernel
theorem dX3_isFreeFor_12 : decode cX3_isFreeFor 12 = .ok (.iload_n 1, 1) := by decide +kernel
theorem dX3_isFreeFor_13 : decode cX3_isFreeFor 13 = .ok (.if_icmp .ne 7, 3) := by decide +kernel
theorem dX3_isFreeFor_16 : decode cX3_isFreeFor 16 = .ok (.iconst 1, 1) := by decide +kernel
theorem dX3_isFreeFor_17 : decode cX3_isFreeFor 17 = .ok (.goto 4, 3) := by decide +kernel
theorem dX3_isFreeFor_20 : decode cX3_isFreeFor 20 = .ok (.iconst 0, 1) := by decide +kernel
theorem dX3_isFreeFor_21 : decode cX3_isFreeFor 21 = .ok (.ireturn, 1) := by decide +kernel
theorem dX3_allowsShift_0 : decode cX3_allowsShift 0 = .ok (.iconst 0, 1) := by decide +kernel
theorem dX3_allowsShift_1 : decode cX3_allowsShift 1 = .ok (.istore_n 2, 1) := by decide +kernel
theorem dX3_allowsShift_2 : decode cX3_allowsShift 2 = .ok (.iload_n 2, 1) := by decide +kernel
theorem dX3_allowsShift_3 : decode cX3_allowsShift 3 = .ok (.aload_n 0, 1) := by decide +kernel
theorem dX3_allowsShift_4 : decode cX3_allowsShift 4 = .ok (.getfield 21, 3) := by decide +kernel
theorem dX3_allowsShift_7 : decode cX3_allowsShift 7 = .ok (.if_icmp .ge 35, 3) := by decide +kernel
theorem dX3_allowsShift_10 : decode cX3_allowsShift 10 = .ok (.aload_n 0, 1) := by decide +kernel
theorem dX3_allowsShift_11 : decode cX3_allowsShift 11 = .ok (.iload_n 2, 1) := by decide +kernel
theorem dX3_allowsShift_12 : decode cX3_allowsShift 12 = .ok (.invokevirtual 49, 3) := by decide +kernel
theorem dX3_allowsShift_15 : decode cX3_allowsShift 15 = .ok (.iload_n 1, 1) := by decide +kernel
theorem dX3_allowsShift_16 : decode cX3_allowsShift 16 = .ok (.iadd, 1) := by decide +kernel
theorem dX3_allowsShift_17 : decode cX3_allowsShift 17 = .ok (.bipush (-9), 2) := by decide +kernel
theorem dX3_allowsShift_19 : decode cX3_allowsShift 19 = .ok (.if_icmp .lt 15, 3) := by decide +kernel
theorem dX3_allowsShift_22 : decode cX3_allowsShift 22 = .ok (.aload_n 0, 1) := by decide +kernel
theorem dX3_allowsShift_23 : decode cX3_allowsShift 23 = .ok (.iload_n 2, 1) := by decide +kernel
theorem dX3_allowsShift_24 : decode cX3_allowsShift 24 = .ok (.invokevirtual 49, 3) := by decide +kernel
theorem dX3_allowsShift_27 : decode cX3_allowsShift 27 = .ok (.iload_n 1, 1) := by decide +kernel
theorem dX3_allowsShift_28 : decode cX3_allowsShift 28 = .ok (.iadd, 1) := by decide +kernel
theorem dX3_allowsShift_29 : decode cX3_allowsShift 29 = .ok (.bipush 9, 2) := by decide +kernel
theorem dX3_allowsShift_31 : decode cX3_allowsShift 31 = .ok (.if_icmp .le 5, 3) := by decide +kernel
theorem dX3_allowsShift_34 : decode cX3_allowsShift 34 = .ok (.iconst 0, 1) := by decide +kernel
theorem dX3_allowsShift_35 : decode cX3_allowsShift 35 = .ok (.ireturn, 1) := by decide +kernel
theorem dX3_allowsShift_36 : decode cX3_allowsShift 36 = .ok (.iinc 2 1, 3) := by decide +kernel
theorem dX3_allowsShift_39 : decode cX3_allowsShift 39 = .ok (.goto (-37), 3) := by decide +kernel
theorem dX3_allowsShift_42 : decode cX3_allowsShift 42 = .ok (.iconst 1, 1) := by decide +kernel
theorem dX3_allowsShift_43 : decode cX3_allowsShift 43 = .ok (.ireturn, 1) := by decide +kernel
theorem dX3_placeOf_0 : decode cX3_placeOf 0 = .ok (.iconst 0, 1) := by decide +kernel
theorem dX3_placeOf_1 : decode cX3_placeOf 1 = .ok (.istore_n 2, 1) := by decide +kernel
theorem dX3_placeOf_2 : decode cX3_placeOf 2 = .ok (.iconst 0, 1) := by decide +kernel
theorem dX3_placeOf_3 : decode cX3_placeOf 3 = .ok (.istore_n 3, 1) := by decide +kernel
theorem dX3_placeOf_4 : decode cX3_placeOf 4 = .ok (.iload_n 3, 1) := by decide +kernel
theorem dX3_placeOf_5 : decode cX3_placeOf 5 = .ok (.aload_n 0, 1) := by decide +kernel
theorem dX3_placeOf_6 : decode cX3_placeOf 6 = .ok (.getfield 21, 3) := by decide +kernel
theorem dX3_placeOf_9 : decode cX3_placeOf 9 = .ok (.if_icmp .ge 25, 3) := by decide +kernel
theorem dX3_placeOf_12 : decode cX3_placeOf 12 = .ok (.aload_n 0, 1) := by decide +kernel
theorem dX3_placeOf_13 : decode cX3_placeOf 13 = .ok (.iload_n 3, 1) := by decide +kernel
theorem dX3_placeOf_14 : decode cX3_placeOf 14 = .ok (.invokevirtual 49, 3) := by decide +kernel
theorem dX3_placeOf_17 : decode cX3_placeOf 17 = .ok (.aload_n 0, 1) := by decide +kernel
theorem dX3_placeOf_18 : decode cX3_placeOf 18 = .ok (.iload_n 1, 1) := by decide +kernel
theorem dX3_placeOf_19 : decode cX3_placeOf 19 = .ok (.invokevirtual 49, 3) := by decide +kernel
theorem dX3_placeOf_22 : decode cX3_placeOf 22 = .ok (.if_icmp .ge 6, 3) := by decide +kernel
theorem dX3_placeOf_25 : decode cX3_placeOf 25 = .ok (.iinc 2 1, 3) := by decide +kernel
theorem dX3_placeOf_28 : decode cX3_placeOf 28 = .ok (.iinc 3 1, 3) := by decide +kernel
theorem dX3_placeOf_31 : decode cX3_placeOf 31 = .ok (.goto (-27), 3) := by decide +kernel
theorem dX3_placeOf_34 : decode cX3_placeOf 34 = .ok (.iload_n 2, 1) := by decide +kernel
theorem dX3_placeOf_35 : decode cX3_placeOf 35 = .ok (.ireturn, 1) := by decide +kernel
theorem dX3_putDivided_0 : decode cX3_putDivided 0 = .ok (.aload_n 3, 1) := by decide +kernel
theorem dX3_putDivided_1 : decode cX3_putDivided 1 = .ok (.lconst 0, 1) := by decide +kernel
theorem dX3_putDivided_2 : decode cX3_putDivided 2 = .ok (.lconst 1, 1) := by decide +kernel
theorem dX3_putDivided_3 : decode cX3_putDivided 3 = .ok (.invokevirtual 62, 3) := by decide +kernel
theorem dX3_putDivided_6 : decode cX3_putDivided 6 = .ok (.iload_n 1, 1) := by decide +kernel
theorem dX3_putDivided_7 : decode cX3_putDivided 7 = .ok (.istore 4, 2) := by decide +kernel
theorem dX3_putDivided_9 : decode cX3_putDivided 9 = .ok (.iload 4, 2) := by decide +kernel
theorem dX3_putDivided_11 : decode cX3_putDivided 11 = .ok (.iload_n 2, 1) := by decide +kernel
theorem dX3_putDivided_12 : decode cX3_putDivided 12 = .ok (.if_icmp .gt 66, 3) := by decide +kernel
theorem dX3_putDivided_15 : decode cX3_putDivided 15 = .ok (.lconst 1, 1) := by decide +kernel
theorem dX3_putDivided_16 : decode cX3_putDivided 16 = .ok (.lstore 5, 2) := by decide +kernel
theorem dX3_putDivided_18 : decode cX3_putDivided 18 = .ok (.iload_n 1, 1) := by decide +kernel
theorem dX3_putDivided_19 : decode cX3_putDivided 19 = .ok (.istore 7, 2) := by decide +kernel
theorem dX3_putDivided_21 : decode cX3_putDivided 21 = .ok (.iload 7, 2) := by decide +kernel
theorem dX3_putDivided_23 : decode cX3_putDivided 23 = .ok (.iload_n 2, 1) := by decide +kernel
theorem dX3_putDivided_24 : decode cX3_putDivided 24 = .ok (.if_icmp .gt 35, 3) := by decide +kernel
theorem dX3_putDivided_27 : decode cX3_putDivided 27 = .ok (.iload 7, 2) := by decide +kernel
theorem dX3_putDivided_29 : decode cX3_putDivided 29 = .ok (.iload 4, 2) := by decide +kernel
theorem dX3_putDivided_31 : decode cX3_putDivided 31 = .ok (.if_icmp .eq 22, 3) := by decide +kernel
theorem dX3_putDivided_34 : decode cX3_putDivided 34 = .ok (.lload 5, 2) := by decide +kernel
theorem dX3_putDivided_36 : decode cX3_putDivided 36 = .ok (.aload_n 0, 1) := by decide +kernel
theorem dX3_putDivided_37 : decode cX3_putDivided 37 = .ok (.iload 4, 2) := by decide +kernel
theorem dX3_putDivided_39 : decode cX3_putDivided 39 = .ok (.invokevirtual 49, 3) := by decide +kernel
theorem dX3_putDivided_42 : decode cX3_putDivided 42 = .ok (.aload_n 0, 1) := by decide +kernel
theorem dX3_putDivided_43 : decode cX3_putDivided 43 = .ok (.iload 7, 2) := by decide +kernel
theorem dX3_putDivided_45 : decode cX3_putDivided 45 = .ok (.invokevirtual 49, 3) := by decide +kernel
theorem dX3_putDivided_48 : decode cX3_putDivided 48 = .ok (.isub, 1) := by decide +kernel
theorem dX3_putDivided_49 : decode cX3_putDivided 49 = .ok (.i2l, 1) := by decide +kernel
theorem dX3_putDivided_50 : decode cX3_putDivided 50 = .ok (.lmul, 1) := by decide +kernel
theorem dX3_putDivided_51 : decode cX3_putDivided 51 = .ok (.lstore 5, 2) := by decide +kernel
theorem dX3_putDivided_53 : decode cX3_putDivided 53 = .ok (.iinc 7 1, 3) := by decide +kernel
theorem dX3_putDivided_56 : decode cX3_putDivided 56 = .ok (.goto (-35), 3) := by decide +kernel
theorem dX3_putDivided_59 : decode cX3_putDivided 59 = .ok (.aload_n 3, 1) := by decide +kernel
theorem dX3_putDivided_60 : decode cX3_putDivided 60 = .ok (.aload_n 0, 1) := by decide +kernel
theorem dX3_putDivided_61 : decode cX3_putDivided 61 = .ok (.iload 4, 2) := by decide +kernel
theorem dX3_putDivided_63 : decode cX3_putDivided 63 = .ok (.invokevirtual 53, 3) := by decide +kernel
theorem dX3_putDivided_66 : decode cX3_putDivided 66 = .ok (.i2l, 1) := by decide +kernel
theorem dX3_putDivided_67 : decode cX3_putDivided 67 = .ok (.lload 5, 2) := by decide +kernel
theorem dX3_putDivided_69 : decode cX3_putDivided 69 = .ok (.invokevirtual 68, 3) := by decide +kernel
theorem dX3_putDivided_72 : decode cX3_putDivided 72 = .ok (.iinc 4 1, 3) := by decide +kernel
theorem dX3_putDivided_75 : decode cX3_putDivided 75 = .ok (.goto (-66), 3) := by decide +kernel
theorem dX3_putDivided_78 : decode cX3_putDivided 78 = .ok (.return_, 1) := by decide +kernel
theorem dX4_init_0 : decode cX4_init 0 = .ok (.aload_n 0, 1) := by decide +kernel
theorem dX4_init_1 : decode cX4_init 1 = .ok (.invokespecial 3, 3) := by decide +kernel
theorem dX4_init_4 : decode cX4_init 4 = .ok (.aload_n 0, 1) := by decide +kernel
theorem dX4_init_5 : decode cX4_init 5 = .ok (.sipush 320, 3) := by decide +kernel
theorem dX4_init_8 : decode cX4_init 8 = .ok (.newarray .char, 2) := by decide +kernel
theorem dX4_init_10 : decode cX4_init 10 = .ok (.putfield 9, 3) := by decide +kernel
theorem dX4_init_13 : decode cX4_init 13 = .ok (.aload_n 0, 1) := by decide +kernel
theorem dX4_init_14 : decode cX4_init 14 = .ok (.iconst 0, 1) := by decide +kernel
theorem dX4_init_15 : decode cX4_init 15 = .ok (.putfield 15, 3) := by decide +kernel
theorem dX4_init_18 : decode cX4_init 18 = .ok (.return_, 1) := by decide +kernel
theorem dX4_size_0 : decode cX4_size 0 = .ok (.aload_n 0, 1) := by decide +kernel
theorem dX4_size_1 : decode cX4_size 1 = .ok (.getfield 15, 3) := by decide +kernel
theorem dX4_size_4 : decode cX4_size 4 = .ok (.ireturn, 1) := by decide +kernel
theorem dX4_clear_0 : decode cX4_clear 0 = .ok (.aload_n 0, 1) := by decide +kernel
theorem dX4_clear_1 : decode cX4_clear 1 = .ok (.iconst 0, 1) := by decide +kernel
theorem dX4_clear_2 : decode cX4_clear 2 = .ok (.putfield 15, 3) := by decide +kernel
theorem dX4_clear_5 : decode cX4_clear 5 = .ok (.return_, 1) := by decide +kernel
theorem dX4_signAt_0 : decode cX4_signAt 0 = .ok (.iload_n 1, 1) := by decide +kernel
theorem dX4_signAt_1 : decode cX4_signAt 1 = .ok (.ifCond .lt 27, 3) := by decide +kernel
theorem dX4_signAt_4 : decode cX4_signAt 4 = .ok (.iload_n 1, 1) := by decide +kernel
theorem dX4_signAt_5 : decode cX4_signAt 5 = .ok (.aload_n 0, 1) := by decide +kernel
theorem dX4_signAt_6 : decode cX4_signAt 6 = .ok (.getfield 15, 3) := by decide +kernel
theorem dX4_signAt_9 : decode cX4_signAt 9 = .ok (.if_icmp .ge 19, 3) := by decide +kernel
theorem dX4_signAt_12 : decode cX4_signAt 12 = .ok (.iload_n 1, 1) := by decide +kernel
theorem dX4_signAt_13 : decode cX4_signAt 13 = .ok (.sipush 320, 3) := by decide +kernel
theorem dX4_signAt_16 : decode cX4_signAt 16 = .ok (.if_icmp .ge 12, 3) := by decide +kernel
theorem dX4_signAt_19 : decode cX4_signAt 19 = .ok (.aload_n 0, 1) := by decide +kernel
theorem dX4_signAt_20 : decode cX4_signAt 20 = .ok (.getfield 9, 3) := by decide +kernel
theorem dX4_signAt_23 : decode cX4_signAt 23 = .ok (.iload_n 1, 1) := by decide +kernel
theorem dX4_signAt_24 : decode cX4_signAt 24 = .ok (.caload, 1) := by decide +kernel
theorem dX4_signAt_25 : decode cX4_signAt 25 = .ok (.goto 5, 3) := by decide +kernel
theorem dX4_signAt_28 : decode cX4_signAt 28 = .ok (.bipush 32, 2) := by decide +kernel
theorem dX4_signAt_30 : decode cX4_signAt 30 = .ok (.ireturn, 1) := by decide +kernel
theorem dX4_put_0 : decode cX4_put 0 = .ok (.aload_n 0, 1) := by decide +kernel
theorem dX4_put_1 : decode cX4_put 1 = .ok (.getfield 15, 3) := by decide +kernel
theorem dX4_put_4 : decode cX4_put 4 = .ok (.sipush 320, 3) := by decide +kernel
theorem dX4_put_7 : decode cX4_put 7 = .ok (.if_icmp .ge 23, 3) := by decide +kernel
theorem dX4_put_10 : decode cX4_put 10 = .ok (.aload_n 0, 1) := by decide +kernel
theorem dX4_put_11 : decode cX4_put 11 = .ok (.getfield 9, 3) := by decide +kernel
theorem dX4_put_14 : decode cX4_put 14 = .ok (.aload_n 0, 1) := by decide +kernel
theorem dX4_put_15 : decode cX4_put 15 = .ok (.getfield 15, 3) := by decide +kernel
theorem dX4_put_18 : decode cX4_put 18 = .ok (.iload_n 1, 1) := by decide +kernel
theorem dX4_put_19 : decode cX4_put 19 = .ok (.castore, 1) := by decide +kernel
theorem dX4_put_20 : decode cX4_put 20 = .ok (.aload_n 0, 1) := by decide +kernel
theorem dX4_put_21 : decode cX4_put 21 = .ok (.dup, 1) := by decide +kernel
theorem dX4_put_22 : decode cX4_put 22 = .ok (.getfield 15, 3) := by decide +kernel
theorem dX4_put_25 : decode cX4_put 25 = .ok (.iconst 1, 1) := by decide +kernel
theorem dX4_put_26 : decode cX4_put 26 = .ok (.iadd, 1) := by decide +kernel
theorem dX4_put_27 : decode cX4_put 27 = .ok (.putfield 15, 3) := by decide +kernel
theorem dX4_put_30 : decode cX4_put 30 = .ok (.return_, 1) := by decide +kernel
theorem dX4_putTerm_0 : decode cX4_putTerm 0 = .ok (.lload_n 1, 1) := by decide +kernel
theorem dX4_putTerm_1 : decode cX4_putTerm 1 = .ok (.lconst 0, 1) := by decide +kernel
theorem dX4_putTerm_2 : decode cX4_putTerm 2 = .ok (.lcmp, 1) := by decide +kernel
theorem dX4_putTerm_3 : decode cX4_putTerm 3 = .ok (.ifCond .ne 4, 3) := by decide +kernel
theorem dX4_putTerm_6 : decode cX4_putTerm 6 = .ok (.return_, 1) := by decide +kernel
theorem dX4_putTerm_7 : decode cX4_putTerm 7 = .ok (.lload_n 1, 1) := by decide +kernel
theorem dX4_putTerm_8 : decode cX4_putTerm 8 = .ok (.lconst 0, 1) := by decide +kernel
theorem dX4_putTerm_9 : decode cX4_putTerm 9 = .ok (.lcmp, 1) := by decide +kernel
theorem dX4_putTerm_10 : decode cX4_putTerm 10 = .ok (.ifCond .ge 12, 3) := by decide +kernel
theorem dX4_putTerm_13 : decode cX4_putTerm 13 = .ok (.aload_n 0, 1) := by decide +kernel
theorem dX4_putTerm_14 : decode cX4_putTerm 14 = .ok (.bipush 45, 2) := by decide +kernel
theorem dX4_putTerm_16 : decode cX4_putTerm 16 = .ok (.invokevirtual 19, 3) := by decide +kernel
theorem dX4_putTerm_19 : decode cX4_putTerm 19 = .ok (.goto 16, 3) := by decide +kernel
theorem dX4_putTerm_22 : decode cX4_putTerm 22 = .ok (.aload_n 0, 1) := by decide +kernel
theorem dX4_putTerm_23 : decode cX4_putTerm 23 = .ok (.getfield 15, 3) := by decide +kernel
theorem dX4_putTerm_26 : decode cX4_putTerm 26 = .ok (.ifCond .le 9, 3) := by decide +kernel
theorem dX4_putTerm_29 : decode cX4_putTerm 29 = .ok (.aload_n 0, 1) := by decide +kernel
theorem dX4_putTerm_30 : decode cX4_putTerm 30 = .ok (.bipush 43, 2) := by decide +kernel
theorem dX4_putTerm_32 : decode cX4_putTerm 32 = .ok (.invokevirtual 19, 3) := by decide +kernel
theorem dX4_putTerm_35 : decode cX4_putTerm 35 = .ok (.lload_n 1, 1) := by decide +kernel
theorem dX4_putTerm_36 : decode cX4_putTerm 36 = .ok (.invokestatic 23, 3) := by decide +kernel
theorem dX4_putTerm_39 : decode cX4_putTerm 39 = .ok (.lstore 4, 2) := by decide +kernel
theorem dX4_putTerm_41 : decode cX4_putTerm 41 = .ok (.lload 4, 2) := by decide +kernel
theorem dX4_putTerm_43 : decode cX4_putTerm 43 = .ok (.lconst 1, 1) := by decide +kernel
theorem dX4_putTerm_44 : decode cX4_putTerm 44 = .ok (.lcmp, 1) := by decide +kernel
theorem dX4_putTerm_45 : decode cX4_putTerm 45 = .ok (.ifCond .ne 7, 3) := by decide +kernel
theorem dX4_putTerm_48 : decode cX4_putTerm 48 = .ok (.iload_n 3, 1) := by decide +kernel
theorem dX4_putTerm_49 : decode cX4_putTerm 49 = .ok (.ifCond .ne 9, 3) := by decide +kernel
theorem dX4_putTerm_52 : decode cX4_putTerm 52 = .ok (.aload_n 0, 1) := by decide +kernel
theorem dX4_putTerm_53 : decode cX4_putTerm 53 = .ok (.lload 4, 2) := by decide +kernel
theorem dX4_putTerm_55 : decode cX4_putTerm 55 = .ok (.invokevirtual 29, 3) := by decide +kernel
theorem dX4_putTerm_58 : decode cX4_putTerm 58 = .ok (.iload_n 3, 1) := by decide +kernel
theorem dX4_putTerm_59 : decode cX4_putTerm 59 = .ok (.ifCond .le 9, 3) := by decide +kernel
theorem dX4_putTerm_62 : decode cX4_putTerm 62 = .ok (.aload_n 0, 1) := by decide +kernel
theorem dX4_putTerm_63 : decode cX4_putTerm 63 = .ok (.bipush 120, 2) := by decide +kernel
theorem dX4_putTerm_65 : decode cX4_putTerm 65 = .ok (.invokevirtual 19, 3) := by decide +kernel
theorem dX4_putTerm_68 : decode cX4_putTerm 68 = .ok (.iload_n 3, 1) := by decide +kernel
theorem dX4_putTerm_69 : decode cX4_putTerm 69 = .ok (.iconst 1, 1) := by decide +kernel
theorem dX4_putTerm_70 : decode cX4_putTerm 70 = .ok (.if_icmp .le 15, 3) := by decide +kernel
theorem dX4_putTerm_73 : decode cX4_putTerm 73 = .ok (.aload_n 0, 1) := by decide +kernel
theorem dX4_putTerm_74 : decode cX4_putTerm 74 = .ok (.bipush 94, 2) := by decide +kernel
theorem dX4_putTerm_76 : decode cX4_putTerm 76 = .ok (.invokevirtual 19, 3) := by decide +kernel
theorem dX4_putTerm_79 : decode cX4_putTerm 79 = .ok (.aload_n 0, 1) := by decide +kernel
theorem dX4_putTerm_80 : decode cX4_putTerm 80 = .ok (.iload_n 3, 1) := by decide +kernel
theorem dX4_putTerm_81 : decode cX4_putTerm 81 = .ok (.i2l, 1) := by decide +kernel
theorem dX4_putTerm_82 : decode cX4_putTerm 82 = .ok (.invokevirtual 29, 3) := by decide +kernel
theorem dX4_putTerm_85 : decode cX4_putTerm 85 = .ok (.return_, 1) := by decide +kernel
theorem dX4_putFraction_0 : decode cX4_putFraction 0 = .ok (.aload_n 1, 1) := by decide +kernel
theorem dX4_putFraction_1 : decode cX4_putFraction 1 = .ok (.iconst 0, 1) := by decide +kernel
theorem dX4_putFraction_2 : decode cX4_putFraction 2 = .ok (.invokevirtual 33, 3) := by decide +kernel
theorem dX4_putFraction_5 : decode cX4_putFraction 5 = .ok (.lconst 0, 1) := by decide +kernel
theorem dX4_putFraction_6 : decode cX4_putFraction 6 = .ok (.lcmp, 1) := by decide +kernel
theorem dX4_putFraction_7 : decode cX4_putFraction 7 = .ok (.ifCond .ge 9, 3) := by decide +kernel
theorem dX4_putFraction_10 : decode cX4_putFraction 10 = .ok (.aload_n 0, 1) := by decide +kernel
theorem dX4_putFraction_11 : decode cX4_putFraction 11 = .ok (.bipush 45, 2) := by decide +kernel
theorem dX4_putFraction_13 : decode cX4_putFraction 13 = .ok (.invokevirtual 19, 3) := by decide +kernel
theorem dX4_putFraction_16 : decode cX4_putFraction 16 = .ok (.aload_n 0, 1) := by decide +kernel
theorem dX4_putFraction_17 : decode cX4_putFraction 17 = .ok (.aload_n 1, 1) := by decide +kernel
theorem dX4_putFraction_18 : decode cX4_putFraction 18 = .ok (.iconst 0, 1) := by decide +kernel
theorem dX4_putFraction_19 : decode cX4_putFraction 19 = .ok (.invokevirtual 33, 3) := by decide +kernel
theorem dX4_putFraction_22 : decode cX4_putFraction 22 = .ok (.invokestatic 23, 3) := by decide +kernel
theorem dX4_putFraction_25 : decode cX4_putFraction 25 = .ok (.invokevirtual 29, 3) := by decide +kernel
theorem dX4_putFraction_28 : decode cX4_putFraction 28 = .ok (.aload_n 1, 1) := by decide +kernel
theorem dX4_putFraction_29 : decode cX4_putFraction 29 = .ok (.iconst 1, 1) := by decide +kernel
theorem dX4_putFraction_30 : decode cX4_putFraction 30 = .ok (.invokevirtual 33, 3) := by decide +kernel
theorem dX4_putFraction_33 : decode cX4_putFraction 33 = .ok (.lconst 1, 1) := by decide +kernel
theorem dX4_putFraction_34 : decode cX4_putFraction 34 = .ok (.lcmp, 1) := by decide +kernel
theorem dX4_putFraction_35 : decode cX4_putFraction 35 = .ok (.ifCond .eq 18, 3) := by decide +kernel
theorem dX4_putFraction_38 : decode cX4_putFraction 38 = .ok (.aload_n 0, 1) := by decide +kernel
theorem dX4_putFraction_39 : decode cX4_putFraction 39 = .ok (.bipush 47, 2) := by decide +kernel
theorem dX4_putFraction_41 : decode cX4_putFraction 41 = .ok (.invokevirtual 19, 3) := by decide +kernel
theorem dX4_putFraction_44 : decode cX4_putFraction 44 = .ok (.aload_n 0, 1) := by decide +kernel
theorem dX4_putFraction_45 : decode cX4_putFraction 45 = .ok (.aload_n 1, 1) := by decide +kernel
theorem dX4_putFraction_46 : decode cX4_putFraction 46 = .ok (.iconst 1, 1) := by decide +kernel
theorem dX4_putFraction_47 : decode cX4_putFraction 47 = .ok (.invokevirtual 33, 3) := by decide +kernel
theorem dX4_putFraction_50 : decode cX4_putFraction 50 = .ok (.invokevirtual 29, 3) := by decide +kernel
theorem dX4_putFraction_53 : decode cX4_putFraction 53 = .ok (.return_, 1) := by decide +kernel
theorem dX4_putDigits_0 : decode cX4_putDigits 0 = .ok (.lconst 1, 1) := by decide +kernel
theorem dX4_putDigits_1 : decode cX4_putDigits 1 = .ok (.lstore_n 3, 1) := by decide +kernel
theorem dX4_putDigits_2 : decode cX4_putDigits 2 = .ok (.iconst 0, 1) := by decide +kernel
theorem dX4_putDigits_3 : decode cX4_putDigits 3 = .ok (.istore 5, 2) := by decide +kernel
theorem dX4_putDigits_5 : decode cX4_putDigits 5 = .ok (.iload 5, 2) := by decide +kernel
theorem dX4_putDigits_7 : decode cX4_putDigits 7 = .ok (.bipush 18, 2) := by decide +kernel
theorem dX4_putDigits_9 : decode cX4_putDigits 9 = .ok (.if_icmp .ge 25, 3) := by decide +kernel
theorem dX4_putDigits_12 : decode cX4_putDigits 12 = .ok (.lload_n 3, 1) := by decide +kernel
theorem dX4_putDigits_13 : decode cX4_putDigits 13 = .ok (.lload_n 1, 1) := by decide +kernel
theorem dX4_putDigits_14 : decode cX4_putDigits 14 = .ok (.ldc2_w 39, 3) := by decide +kernel
theorem dX4_putDigits_17 : decode cX4_putDigits 17 = .ok (.ldiv, 1) := by decide +kernel
theorem dX4_putDigits_18 : decode cX4_putDigits 18 = .ok (.lcmp, 1) := by decide +kernel
theorem dX4_putDigits_19 : decode cX4_putDigits 19 = .ok (.ifCond .gt 15, 3) := by decide +kernel
theorem dX4_putDigits_22 : decode cX4_putDigits 22 = .ok (.lload_n 3, 1) := by decide +kernel
theorem dX4_putDigits_23 : decode cX4_putDigits 23 = .ok (.ldc2_w 39, 3) := by decide +kernel
theorem dX4_putDigits_26 : decode cX4_putDigits 26 = .ok (.lmul, 1) := by decide +kernel
theorem dX4_putDigits_27 : decode cX4_putDigits 27 = .ok (.lstore_n 3, 1) := by decide +kernel
theorem dX4_putDigits_28 : decode cX4_putDigits 28 = .ok (.iinc 5 1, 3) := by decide +kernel
theorem dX4_putDigits_31 : decode cX4_putDigits 31 = .ok (.goto (-26), 3) := by decide +kernel
theorem dX4_putDigits_34 : decode cX4_putDigits 34 = .ok (.iconst 0, 1) := by decide +kernel
theorem dX4_putDigits_35 : decode cX4_putDigits 35 = .ok (.istore 5, 2) := by decide +kernel
theorem dX4_putDigits_37 : decode cX4_putDigits 37 = .ok (.iload 5, 2) := by decide +kernel
theorem dX4_putDigits_39 : decode cX4_putDigits 39 = .ok (.bipush 19, 2) := by decide +kernel
theorem dX4_putDigits_41 : decode cX4_putDigits 41 = .ok (.if_icmp .ge 38, 3) := by decide +kernel
theorem dX4_putDigits_44 : decode cX4_putDigits 44 = .ok (.lload_n 3, 1) := by decide +kernel
theorem dX4_putDigits_45 : decode cX4_putDigits 45 = .ok (.lconst 0, 1) := by decide +kernel
theorem dX4_putDigits_46 : decode cX4_putDigits 46 = .ok (.lcmp, 1) := by decide +kernel
theorem dX4_putDigits_47 : decode cX4_putDigits 47 = .ok (.ifCond .le 32, 3) := by decide +kernel
theorem dX4_putDigits_50 : decode cX4_putDigits 50 = .ok (.aload_n 0, 1) := by decide +kernel
theorem dX4_putDigits_51 : decode cX4_putDigits 51 = .ok (.ldc2_w 41, 3) := by decide +kernel
theorem dX4_putDigits_54 : decode cX4_putDigits 54 = .ok (.lload_n 1, 1) := by decide +kernel
theorem dX4_putDigits_55 : decode cX4_putDigits 55 = .ok (.lload_n 3, 1) := by decide +kernel
theorem dX4_putDigits_56 : decode cX4_putDigits 56 = .ok (.ldiv, 1) := by decide +kernel
theorem dX4_putDigits_57 : decode cX4_putDigits 57 = .ok (.ldc2_w 39, 3) := by decide +kernel
theorem dX4_putDigits_60 : decode cX4_putDigits 60 = .ok (.lrem, 1) := by decide +kernel
theorem dX4_putDigits_61 : decode cX4_putDigits 61 = .ok (.ladd, 1) := by decide +kernel
theorem dX4_putDigits_62 : decode cX4_putDigits 62 = .ok (.l2i, 1) := by decide +kernel
theorem dX4_putDigits_63 : decode cX4_putDigits 63 = .ok (.i2c, 1) := by decide +kernel
theorem dX4_putDigits_64 : decode cX4_putDigits 64 = .ok (.invokevirtual 19, 3) := by decide +kernel
theorem dX4_putDigits_67 : decode cX4_putDigits 67 = .ok (.lload_n 3, 1) := by decide +kernel
theorem dX4_putDigits_68 : decode cX4_putDigits 68 = .ok (.ldc2_w 39, 3) := by decide +kernel
theorem dX4_putDigits_71 : decode cX4_putDigits 71 = .ok (.ldiv, 1) := by decide +kernel
theorem dX4_putDigits_72 : decode cX4_putDigits 72 = .ok (.lstore_n 3, 1) := by decide +kernel
theorem dX4_putDigits_73 : decode cX4_putDigits 73 = .ok (.iinc 5 1, 3) := by decide +kernel
theorem dX4_putDigits_76 : decode cX4_putDigits 76 = .ok (.goto (-39), 3) := by decide +kernel
theorem dX4_putDigits_79 : decode cX4_putDigits 79 = .ok (.return_, 1) := by decide +kernel
theorem dX5_init_0 : decode cX5_init 0 = .ok (.aload_n 0, 1) := by decide +kernel
theorem dX5_init_1 : decode cX5_init 1 = .ok (.invokespecial 3, 3) := by decide +kernel
theorem dX5_init_4 : decode cX5_init 4 = .ok (.aload_n 0, 1) := by decide +kernel
theorem dX5_init_5 : decode cX5_init 5 = .ok (.sipush 400, 3) := by decide +kernel
theorem dX5_init_8 : decode cX5_init 8 = .ok (.newarray .int, 2) := by decide +kernel
theorem dX5_init_10 : decode cX5_init 10 = .ok (.putfield 9, 3) := by decide +kernel
theorem dX5_init_13 : decode cX5_init 13 = .ok (.aload_n 0, 1) := by decide +kernel
theorem dX5_init_14 : decode cX5_init 14 = .ok (.iconst 0, 1) := by decide +kernel
theorem dX5_init_15 : decode cX5_init 15 = .ok (.putfield 15, 3) := by decide +kernel
theorem dX5_init_18 : decode cX5_init 18 = .ok (.aload_n 0, 1) := by decide +kernel
theorem dX5_init_19 : decode cX5_init 19 = .ok (.iconst 0, 1) := by decide +kernel
theorem dX5_init_20 : decode cX5_init 20 = .ok (.putfield 19, 3) := by decide +kernel
theorem dX5_init_23 : decode cX5_init 23 = .ok (.aload_n 0, 1) := by decide +kernel
theorem dX5_init_24 : decode cX5_init 24 = .ok (.iconst 5, 1) := by decide +kernel
theorem dX5_init_25 : decode cX5_init 25 = .ok (.putfield 22, 3) := by decide +kernel
theorem dX5_init_28 : decode cX5_init 28 = .ok (.aload_n 0, 1) := by decide +kernel
theorem dX5_init_29 : decode cX5_init 29 = .ok (.iconst 0, 1) := by decide +kernel
theorem dX5_init_30 : decode cX5_init 30 = .ok (.putfield 25, 3) := by decide +kernel
theorem dX5_init_33 : decode cX5_init 33 = .ok (.aload_n 0, 1) := by decide +kernel
theorem dX5_init_34 : decode cX5_init 34 = .ok (.iconst 0, 1) := by decide +kernel
theorem dX5_init_35 : decode cX5_init 35 = .ok (.putfield 28, 3) := by decide +kernel
theorem dX5_init_38 : decode cX5_init 38 = .ok (.aload_n 0, 1) := by decide +kernel
theorem dX5_init_39 : decode cX5_init 39 = .ok (.iconst 0, 1) := by decide +kernel
theorem dX5_init_40 : decode cX5_init 40 = .ok (.putfield 31, 3) := by decide +kernel
theorem dX5_init_43 : decode cX5_init 43 = .ok (.aload_n 0, 1) := by decide +kernel
theorem dX5_init_44 : decode cX5_init 44 = .ok (.iconst (-1), 1) := by decide +kernel
theorem dX5_init_45 : decode cX5_init 45 = .ok (.putfield 34, 3) := by decide +kernel
theorem dX5_init_48 : decode cX5_init 48 = .ok (.return_, 1) := by decide +kernel
theorem dX5_filled_0 : decode cX5_filled 0 = .ok (.aload_n 0, 1) := by decide +kernel
theorem dX5_filled_1 : decode cX5_filled 1 = .ok (.getfield 15, 3) := by decide +kernel
theorem dX5_filled_4 : decode cX5_filled 4 = .ok (.ireturn, 1) := by decide +kernel
theorem dX5_hasRoomFor_0 : decode cX5_hasRoomFor 0 = .ok (.aload_n 0, 1) := by decide +kernel
theorem dX5_hasRoomFor_1 : decode cX5_hasRoomFor 1 = .ok (.getfield 15, 3) := by decide +kernel
theorem dX5_hasRoomFor_4 : decode cX5_hasRoomFor 4 = .ok (.iload_n 1, 1) := by decide +kernel
theorem dX5_hasRoomFor_5 : decode cX5_hasRoomFor 5 = .ok (.iadd, 1) := by decide +kernel
theorem dX5_hasRoomFor_6 : decode cX5_hasRoomFor 6 = .ok (.sipush 400, 3) := by decide +kernel
theorem dX5_hasRoomFor_9 : decode cX5_hasRoomFor 9 = .ok (.if_icmp .gt 7, 3) := by decide +kernel
theorem dX5_hasRoomFor_12 : decode cX5_hasRoomFor 12 = .ok (.iconst 1, 1) := by decide +kernel
theorem dX5_hasRoomFor_13 : decode cX5_hasRoomFor 13 = .ok (.goto 4, 3) := by decide +kernel
theorem dX5_hasRoomFor_16 : decode cX5_hasRoomFor 16 = .ok (.iconst 0, 1) := by decide +kernel
theorem dX5_hasRoomFor_17 : decode cX5_hasRoomFor 17 = .ok (.ireturn, 1) := by decide +kernel
theorem dX5_append_0 : decode cX5_append 0 = .ok (.bipush 24, 2) := by decide +kernel
theorem dX5_append_2 : decode cX5_append 2 = .ok (.istore_n 2, 1) := by decide +kernel
theorem dX5_append_3 : decode cX5_append 3 = .ok (.iload_n 2, 1) := by decide +kernel
theorem dX5_append_4 : decode cX5_append 4 = .ok (.ifCond .lt 45, 3) := by decide +kernel
theorem dX5_append_7 : decode cX5_append 7 = .ok (.aload_n 0, 1) := by decide +kernel
theorem dX5_append_8 : decode cX5_append 8 = .ok (.getfield 15, 3) := by decide +kernel
theorem dX5_append_11 : decode cX5_append 11 = .ok (.sipush 400, 3) := by decide +kernel
theorem dX5_append_14 : decode cX5_append 14 = .ok (.if_icmp .ge 35, 3) := by decide +kernel
theorem dX5_append_17 : decode cX5_append 17 = .ok (.aload_n 0, 1) := by decide +kernel
theorem dX5_append_18 : decode cX5_append 18 = .ok (.getfield 9, 3) := by decide +kernel
theorem dX5_append_21 : decode cX5_append 21 = .ok (.aload_n 0, 1) := by decide +kernel
theorem dX5_append_22 : decode cX5_append 22 = .ok (.getfield 15, 3) := by decide +kernel
theorem dX5_append_25 : decode cX5_append 25 = .ok (.iload_n 1, 1) := by decide +kernel
theorem dX5_append_26 : decode cX5_append 26 = .ok (.iload_n 2, 1) := by decide +kernel
theorem dX5_append_27 : decode cX5_append 27 = .ok (.iushr, 1) := by decide +kernel
theorem dX5_append_28 : decode cX5_append 28 = .ok (.sipush 255, 3) := by decide +kernel
theorem dX5_append_31 : decode cX5_append 31 = .ok (.iand, 1) := by decide +kernel
theorem dX5_append_32 : decode cX5_append 32 = .ok (.iastore, 1) := by decide +kernel
theorem dX5_append_33 : decode cX5_append 33 = .ok (.aload_n 0, 1) := by decide +kernel
theorem dX5_append_34 : decode cX5_append 34 = .ok (.dup, 1) := by decide +kernel
theorem dX5_append_35 : decode cX5_append 35 = .ok (.getfield 15, 3) := by decide +kernel
theorem dX5_append_38 : decode cX5_append 38 = .ok (.iconst 1, 1) := by decide +kernel
theorem dX5_append_39 : decode cX5_append 39 = .ok (.iadd, 1) := by decide +kernel
theorem dX5_append_40 : decode cX5_append 40 = .ok (.putfield 15, 3) := by decide +kernel
theorem dX5_append_43 : decode cX5_append 43 = .ok (.iinc 2 (-8), 3) := by decide +kernel
theorem dX5_append_46 : decode cX5_append 46 = .ok (.goto (-43), 3) := by decide +kernel
theorem dX5_append_49 : decode cX5_append 49 = .ok (.return_, 1) := by decide +kernel
theorem dX5_clear_0 : decode cX5_clear 0 = .ok (.aload_n 0, 1) := by decide +kernel
theorem dX5_clear_1 : decode cX5_clear 1 = .ok (.iconst 0, 1) := by decide +kernel
theorem dX5_clear_2 : decode cX5_clear 2 = .ok (.putfield 15, 3) := by decide +kernel
theorem dX5_clear_5 : decode cX5_clear 5 = .ok (.return_, 1) := by decide +kernel
theorem dX5_faultKind_0 : decode cX5_faultKind 0 = .ok (.aload_n 0, 1) := by decide +kernel
theorem dX5_faultKind_1 : decode cX5_faultKind 1 = .ok (.getfield 31, 3) := by decide +kernel
theorem dX5_faultKind_4 : decode cX5_faultKind 4 = .ok (.ireturn, 1) := by decide +kernel
theorem dX5_faultPosition_0 : decode cX5_faultPosition 0 = .ok (.aload_n 0, 1) := by decide +kernel
theorem dX5_faultPosition_1 : decode cX5_faultPosition 1 = .ok (.getfield 34, 3) := by decide +kernel
theorem dX5_faultPosition_4 : decode cX5_faultPosition 4 = .ok (.ireturn, 1) := by decide +kernel
theorem dX5_read_0 : decode cX5_read 0 = .ok (.aload_n 0, 1) := by decide +kernel
theorem dX5_read_1 : decode cX5_read 1 = .ok (.iload_n 1, 1) := by decide +kernel
theorem dX5_read_2 : decode cX5_read 2 = .ok (.putfield 19, 3) := by decide +kernel
theorem dX5_read_5 : decode cX5_read 5 = .ok (.aload_n 0, 1) := by decide +kernel
theorem dX5_read_6 : decode cX5_read 6 = .ok (.iconst 0, 1) := by decide +kernel
theorem dX5_read_7 : decode cX5_read 7 = .ok (.putfield 28, 3) := by decide +kernel
theorem dX5_read_10 : decode cX5_read 10 = .ok (.aload_n 0, 1) := by decide +kernel
theorem dX5_read_11 : decode cX5_read 11 = .ok (.iconst 0, 1) := by decide +kernel
theorem dX5_read_12 : decode cX5_read 12 = .ok (.putfield 31, 3) := by decide +kernel
theorem dX5_read_15 : decode cX5_read 15 = .ok (.aload_n 0, 1) := by decide +kernel
theorem dX5_read_16 : decode cX5_read 16 = .ok (.iconst (-1), 1) := by decide +kernel
theorem dX5_read_17 : decode cX5_read 17 = .ok (.putfield 34, 3) := by decide +kernel
theorem dX5_read_20 : decode cX5_read 20 = .ok (.aload_n 2, 1) := by decide +kernel
theorem dX5_read_21 : decode cX5_read 21 = .ok (.invokevirtual 37, 3) := by decide +kernel
theorem dX5_read_24 : decode cX5_read 24 = .ok (.iconst 1, 1) := by decide +kernel
theorem dX5_read_25 : decode cX5_read 25 = .ok (.istore_n 3, 1) := by decide +kernel
theorem dX5_read_26 : decode cX5_read 26 = .ok (.iconst 0, 1) := by decide +kernel
theorem dX5_read_27 : decode cX5_read 27 = .ok (.istore 4, 2) := by decide +kernel
theorem dX5_read_29 : decode cX5_read 29 = .ok (.iload 4, 2) := by decide +kernel
theorem dX5_read_31 : decode cX5_read 31 = .ok (.sipush 400, 3) := by decide +kernel
theorem dX5_read_34 : decode cX5_read 34 = .ok (.if_icmp .gt 39, 3) := by decide +kernel
theorem dX5_read_37 : decode cX5_read 37 = .ok (.iload_n 3, 1) := by decide +kernel
theorem dX5_read_38 : decode cX5_read 38 = .ok (.ifCond .eq 35, 3) := by decide +kernel
theorem dX5_read_41 : decode cX5_read 41 = .ok (.aload_n 0, 1) := by decide +kernel
theorem dX5_read_42 : decode cX5_read 42 = .ok (.invokevirtual 42, 3) := by decide +kernel
theorem dX5_read_45 : decode cX5_read 45 = .ok (.aload_n 0, 1) := by decide +kernel
theorem dX5_read_46 : decode cX5_read 46 = .ok (.getfield 22, 3) := by decide +kernel
theorem dX5_read_49 : decode cX5_read 49 = .ok (.iconst 5, 1) := by decide +kernel
theorem dX5_read_50 : decode cX5_read 50 = .ok (.if_icmp .eq 15, 3) := by decide +kernel
theorem dX5_read_53 : decode cX5_read 53 = .ok (.aload_n 0, 1) := by decide +kernel
theorem dX5_read_54 : decode cX5_read 54 = .ok (.aload_n 2, 1) := by decide +kernel
theorem dX5_read_55 : decode cX5_read 55 = .ok (.invokevirtual 45, 3) := by decide +kernel
theorem dX5_read_58 : decode cX5_read 58 = .ok (.ifCond .eq 7, 3) := by decide +kernel
theorem dX5_read_61 : decode cX5_read 61 = .ok (.iconst 1, 1) := by decide +kernel
theorem dX5_read_62 : decode cX5_read 62 = .ok (.goto 4, 3) := by decide +kernel
theorem dX5_read_65 : decode cX5_read 65 = .ok (.iconst 0, 1) := by decide +kernel
theorem dX5_read_66 : decode cX5_read 66 = .ok (.istore_n 3, 1) := by decide +kernel
theorem dX5_read_67 : decode cX5_read 67 = .ok (.iinc 4 1, 3) := by decide +kernel
theorem dX5_read_70 : decode cX5_read 70 = .ok (.goto (-41), 3) := by decide +kernel
theorem dX5_read_73 : decode cX5_read 73 = .ok (.aload_n 0, 1) := by decide +kernel
theorem dX5_read_74 : decode cX5_read 74 = .ok (.getfield 31, 3) := by decide +kernel
theorem dX5_read_77 : decode cX5_read 77 = .ok (.ifCond .ne 7, 3) := by decide +kernel
theorem dX5_read_80 : decode cX5_read 80 = .ok (.iconst 1, 1) := by decide +kernel
theorem dX5_read_81 : decode cX5_read 81 = .ok (.goto 4, 3) := by decide +kernel
theorem dX5_read_84 : decode cX5_read 84 = .ok (.iconst 0, 1) := by decide +kernel
theorem dX5_read_85 : decode cX5_read 85 = .ok (.ireturn, 1) := by decide +kernel
theorem dX5_readStatement_0 : decode cX5_readStatement 0 = .ok (.aload_n 0, 1) := by decide +kernel
theorem dX5_readStatement_1 : decode cX5_readStatement 1 = .ok (.ldc 49, 2) := by decide +kernel
theorem dX5_readStatement_3 : decode cX5_readStatement 3 = .ok (.invokevirtual 51, 3) := by decide +kernel
theorem dX5_readStatement_6 : decode cX5_readStatement 6 = .ok (.ifCond .eq 9, 3) := by decide +kernel
theorem dX5_readStatement_9 : decode cX5_readStatement 9 = .ok (.aload_n 0, 1) := by decide +kernel
theorem dX5_readStatement_10 : decode cX5_readStatement 10 = .ok (.aload_n 1, 1) := by decide +kernel
theorem dX5_readStatement_11 : decode cX5_readStatement 11 = .ok (.invokevirtual 55, 3) := by decide +kernel
theorem dX5_readStatement_14 : decode cX5_readStatement 14 = .ok (.ireturn, 1) := by decide +kernel
theorem dX5_readStatement_15 : decode cX5_readStatement 15 = .ok (.aload_n 0, 1) := by decide +kernel
theorem dX5_readStatement_16 : decode cX5_readStatement 16 = .ok (.ldc 58, 2) := by decide +kernel
theorem dX5_readStatement_18 : decode cX5_readStatement 18 = .ok (.invokevirtual 51, 3) := by decide +kernel
theorem dX5_readStatement_21 : decode cX5_readStatement 21 = .ok (.ifCond .eq 11, 3) := by decide +kernel
theorem dX5_readStatement_24 : decode cX5_readStatement 24 = .ok (.aload_n 1, 1) := by decide +kernel
theorem dX5_readStatement_25 : decode cX5_readStatement 25 = .ok (.iconst 0, 1) := by decide +kernel
theorem dX5_readStatement_26 : decode cX5_readStatement 26 = .ok (.putfield 60, 3) := by decide +kernel
theorem dX5_readStatement_29 : decode cX5_readStatement 29 = .ok (.goto 56, 3) := by decide +kernel
theorem dX5_readStatement_32 : decode cX5_readStatement 32 = .ok (.aload_n 0, 1) := by decide +kernel
theorem dX5_readStatement_33 : decode cX5_readStatement 33 = .ok (.ldc 63, 2) := by decide +kernel
theorem dX5_readStatement_35 : decode cX5_readStatement 35 = .ok (.invokevirtual 51, 3) := by decide +kernel
theorem dX5_readStatement_38 : decode cX5_readStatement 38 = .ok (.ifCond .eq 11, 3) := by decide +kernel
theorem dX5_readStatement_41 : decode cX5_readStatement 41 = .ok (.aload_n 1, 1) := by decide +kernel
theorem dX5_readStatement_42 : decode cX5_readStatement 42 = .ok (.iconst 2, 1) := by decide +kernel
theorem dX5_readStatement_43 : decode cX5_readStatement 43 = .ok (.putfield 60, 3) := by decide +kernel
theorem dX5_readStatement_46 : decode cX5_readStatement 46 = .ok (.goto 39, 3) := by decide +kernel
theorem dX5_readStatement_49 : decode cX5_readStatement 49 = .ok (.aload_n 0, 1) := by decide +kernel
theorem dX5_readStatement_50 : decode cX5_readStatement 50 = .ok (.ldc 65, 2) := by decide +kernel
theorem dX5_readStatement_52 : decode cX5_readStatement 52 = .ok (.invokevirtual 51, 3) := by decide +kernel
theorem dX5_readStatement_55 : decode cX5_readStatement 55 = .ok (.ifCond .eq 24, 3) := by decide +kernel
theorem dX5_readStatement_58 : decode cX5_readStatement 58 = .ok (.aload_n 1, 1) := by decide +kernel
theorem dX5_readStatement_59 : decode cX5_readStatement 59 = .ok (.iconst 1, 1) := by decide +kernel
theorem dX5_readStatement_60 : decode cX5_readStatement 60 = .ok (.putfield 60, 3) := by decide +kernel
theorem dX5_readStatement_63 : decode cX5_readStatement 63 = .ok (.aload_n 0, 1) := by decide +kernel
theorem dX5_readStatement_64 : decode cX5_readStatement 64 = .ok (.invokevirtual 42, 3) := by decide +kernel
theorem dX5_readStatement_67 : decode cX5_readStatement 67 = .ok (.aload_n 1, 1) := by decide +kernel
theorem dX5_readStatement_68 : decode cX5_readStatement 68 = .ok (.aload_n 0, 1) := by decide +kernel
theorem dX5_readStatement_69 : decode cX5_readStatement 69 = .ok (.iconst 4, 1) := by decide +kernel
theorem dX5_readStatement_70 : decode cX5_readStatement 70 = .ok (.invokevirtual 67, 3) := by decide +kernel
theorem dX5_readStatement_73 : decode cX5_readStatement 73 = .ok (.putfield 71, 3) := by decide +kernel
theorem dX5_readStatement_76 : decode cX5_readStatement 76 = .ok (.goto 9, 3) := by decide +kernel
theorem dX5_readStatement_79 : decode cX5_readStatement 79 = .ok (.aload_n 0, 1) := by decide +kernel
theorem dX5_readStatement_80 : decode cX5_readStatement 80 = .ok (.iconst 2, 1) := by decide +kernel
theorem dX5_readStatement_81 : decode cX5_readStatement 81 = .ok (.invokevirtual 74, 3) := by decide +kernel
theorem dX5_readStatement_84 : decode cX5_readStatement 84 = .ok (.ireturn, 1) := by decide +kernel
theorem dX5_readStatement_85 : decode cX5_readStatement 85 = .ok (.aload_n 0, 1) := by decide +kernel
theorem dX5_readStatement_86 : decode cX5_readStatement 86 = .ok (.getfield 31, 3) := by decide +kernel
theorem dX5_readStatement_89 : decode cX5_readStatement 89 = .ok (.ifCond .ne 14, 3) := by decide +kernel
theorem dX5_readStatement_92 : decode cX5_readStatement 92 = .ok (.aload_n 0, 1) := by decide +kernel
theorem dX5_readStatement_93 : decode cX5_readStatement 93 = .ok (.invokevirtual 78, 3) := by decide +kernel
theorem dX5_readStatement_96 : decode cX5_readStatement 96 = .ok (.ifCond .eq 7, 3) := by decide +kernel
theorem dX5_readStatement_99 : decode cX5_readStatement 99 = .ok (.iconst 1, 1) := by decide +kernel
theorem dX5_readStatement_100 : decode cX5_readStatement 100 = .ok (.goto 4, 3) := by decide +kernel
theorem dX5_readStatement_103 : decode cX5_readStatement 103 = .ok (.iconst 0, 1) := by decide +kernel
theorem dX5_readStatement_104 : decode cX5_readStatement 104 = .ok (.ireturn, 1) := by decide +kernel
theorem dX5_readPoint_0 : decode cX5_readPoint 0 = .ok (.aload_n 1, 1) := by decide +kernel
theorem dX5_readPoint_1 : decode cX5_readPoint 1 = .ok (.invokevirtual 82, 3) := by decide +kernel
theorem dX5_readPoint_4 : decode cX5_readPoint 4 = .ok (.ifCond .eq 9, 3) := by decide +kernel
theorem dX5_readPoint_7 : decode cX5_readPoint 7 = .ok (.aload_n 0, 1) := by decide +kernel
theorem dX5_readPoint_8 : decode cX5_readPoint 8 = .ok (.iconst 5, 1) := by decide +kernel
theorem dX5_readPoint_9 : decode cX5_readPoint 9 = .ok (.invokevirtual 74, 3) := by decide +kernel
theorem dX5_readPoint_12 : decode cX5_readPoint 12 = .ok (.ireturn, 1) := by decide +kernel
theorem dX5_readPoint_13 : decode cX5_readPoint 13 = .ok (.aload_n 0, 1) := by decide +kernel
theorem dX5_readPoint_14 : decode cX5_readPoint 14 = .ok (.bipush 9, 2) := by decide +kernel
theorem dX5_readPoint_16 : decode cX5_readPoint 16 = .ok (.invokevirtual 85, 3) := by decide +kernel
theorem dX5_readPoint_19 : decode cX5_readPoint 19 = .ok (.istore_n 2, 1) := by decide +kernel
theorem dX5_readPoint_20 : decode cX5_readPoint 20 = .ok (.aload_n 0, 1) := by decide +kernel
theorem dX5_readPoint_21 : decode cX5_readPoint 21 = .ok (.getfield 31, 3) := by decide +kernel
theorem dX5_readPoint_24 : decode cX5_readPoint 24 = .ok (.ifCond .ne 18, 3) := by decide +kernel
theorem dX5_readPoint_27 : decode cX5_readPoint 27 = .ok (.aload_n 1, 1) := by decide +kernel
theorem dX5_readPoint_28 : decode cX5_readPoint 28 = .ok (.iload_n 2, 1) := by decide +kernel
theorem dX5_readPoint_29 : decode cX5_readPoint 29 = .ok (.invokevirtual 88, 3) := by decide +kernel
theorem dX5_readPoint_32 : decode cX5_readPoint 32 = .ok (.iconst (-1), 1) := by decide +kernel
theorem dX5_readPoint_33 : decode cX5_readPoint 33 = .ok (.if_icmp .eq 9, 3) := by decide +kernel
theorem dX5_readPoint_36 : decode cX5_readPoint 36 = .ok (.aload_n 0, 1) := by decide +kernel
theorem dX5_readPoint_37 : decode cX5_readPoint 37 = .ok (.iconst 4, 1) := by decide +kernel
theorem dX5_readPoint_38 : decode cX5_readPoint 38 = .ok (.invokevirtual 74, 3) := by decide +kernel
theorem dX5_readPoint_41 : decode cX5_readPoint 41 = .ok (.ireturn, 1) := by decide +kernel
theorem dX5_readPoint_42 : decode cX5_readPoint 42 = .ok (.aload_n 0, 1) := by decide +kernel
theorem dX5_readPoint_43 : decode cX5_readPoint 43 = .ok (.getfield 31, 3) := by decide +kernel
theorem dX5_readPoint_46 : decode cX5_readPoint 46 = .ok (.ifCond .ne 12, 3) := by decide +kernel
theorem dX5_readPoint_49 : decode cX5_readPoint 49 = .ok (.aload_n 0, 1) := by decide +kernel
theorem dX5_readPoint_50 : decode cX5_readPoint 50 = .ok (.bipush 20, 2) := by decide +kernel
theorem dX5_readPoint_52 : decode cX5_readPoint 52 = .ok (.invokevirtual 85, 3) := by decide +kernel
theorem dX5_readPoint_55 : decode cX5_readPoint 55 = .ok (.goto 4, 3) := by decide +kernel
theorem dX5_readPoint_58 : decode cX5_readPoint 58 = .ok (.iconst 0, 1) := by decide +kernel
theorem dX5_readPoint_59 : decode cX5_readPoint 59 = .ok (.istore_n 3, 1) := by decide +kernel
theorem dX5_readPoint_60 : decode cX5_readPoint 60 = .ok (.aload_n 0, 1) := by decide +kernel
theorem dX5_readPoint_61 : decode cX5_readPoint 61 = .ok (.getfield 31, 3) := by decide +kernel
theorem dX5_readPoint_64 : decode cX5_readPoint 64 = .ok (.ifCond .eq 5, 3) := by decide +kernel
theorem dX5_readPoint_67 : decode cX5_readPoint 67 = .ok (.iconst 0, 1) := by decide +kernel
theorem dX5_readPoint_68 : decode cX5_readPoint 68 = .ok (.ireturn, 1) := by decide +kernel
theorem dX5_readPoint_69 : decode cX5_readPoint 69 = .ok (.iconst 1, 1) := by decide +kernel
theorem dX5_readPoint_70 : decode cX5_readPoint 70 = .ok (.istore 4, 2) := by decide +kernel
theorem dX5_readPoint_72 : decode cX5_readPoint 72 = .ok (.aload_n 0, 1) := by decide +kernel
theorem dX5_readPoint_73 : decode cX5_readPoint 73 = .ok (.invokevirtual 42, 3) := by decide +kernel
theorem dX5_readPoint_76 : decode cX5_readPoint 76 = .ok (.aload_n 0, 1) := by decide +kernel
theorem dX5_readPoint_77 : decode cX5_readPoint 77 = .ok (.ldc 91, 2) := by decide +kernel
theorem dX5_readPoint_79 : decode cX5_readPoint 79 = .ok (.invokevirtual 51, 3) := by decide +kernel
theorem dX5_readPoint_82 : decode cX5_readPoint 82 = .ok (.ifCond .eq 24, 3) := by decide +kernel
theorem dX5_readPoint_85 : decode cX5_readPoint 85 = .ok (.aload_n 0, 1) := by decide +kernel
theorem dX5_readPoint_86 : decode cX5_readPoint 86 = .ok (.bipush 9, 2) := by decide +kernel
theorem dX5_readPoint_88 : decode cX5_readPoint 88 = .ok (.invokevirtual 85, 3) := by decide +kernel
theorem dX5_readPoint_91 : decode cX5_readPoint 91 = .ok (.istore 4, 2) := by decide +kernel
theorem dX5_readPoint_93 : decode cX5_readPoint 93 = .ok (.aload_n 0, 1) := by decide +kernel
theorem dX5_readPoint_94 : decode cX5_readPoint 94 = .ok (.getfield 31, 3) := by decide +kernel
theorem dX5_readPoint_97 : decode cX5_readPoint 97 = .ok (.ifCond .eq 5, 3) := by decide +kernel
theorem dX5_readPoint_100 : decode cX5_readPoint 100 = .ok (.iconst 0, 1) := by decide +kernel
theorem dX5_readPoint_101 : decode cX5_readPoint 101 = .ok (.ireturn, 1) := by decide +kernel
theorem dX5_readPoint_102 : decode cX5_readPoint 102 = .ok (.aload_n 0, 1) := by decide +kernel
theorem dX5_readPoint_103 : decode cX5_readPoint 103 = .ok (.invokevirtual 42, 3) := by decide +kernel
theorem dX5_readPoint_106 : decode cX5_readPoint 106 = .ok (.aload_n 1, 1) := by decide +kernel
theorem dX5_readPoint_107 : decode cX5_readPoint 107 = .ok (.iload_n 2, 1) := by decide +kernel
theorem dX5_readPoint_108 : decode cX5_readPoint 108 = .ok (.iload_n 3, 1) := by decide +kernel
theorem dX5_readPoint_109 : decode cX5_readPoint 109 = .ok (.iload 4, 2) := by decide +kernel
theorem dX5_readPoint_111 : decode cX5_readPoint 111 = .ok (.invokevirtual 93, 3) := by decide +kernel
theorem dX5_readPoint_114 : decode cX5_readPoint 114 = .ok (.aload_n 0, 1) := by decide +kernel
theorem dX5_readPoint_115 : decode cX5_readPoint 115 = .ok (.getfield 22, 3) := by decide +kernel
theorem dX5_readPoint_118 : decode cX5_readPoint 118 = .ok (.iconst 4, 1) := by decide +kernel
theorem dX5_readPoint_119 : decode cX5_readPoint 119 = .ok (.if_icmp .eq 11, 3) := by decide +kernel
theorem dX5_readPoint_122 : decode cX5_readPoint 122 = .ok (.aload_n 0, 1) := by decide +kernel
theorem dX5_readPoint_123 : decode cX5_readPoint 123 = .ok (.iconst 2, 1) := by decide +kernel
theorem dX5_readPoint_124 : decode cX5_readPoint 124 = .ok (.invokevirtual 74, 3) := by decide +kernel
theorem dX5_readPoint_127 : decode cX5_readPoint 127 = .ok (.ifCond .eq 7, 3) := by decide +kernel
theorem dX5_readPoint_130 : decode cX5_readPoint 130 = .ok (.iconst 1, 1) := by decide +kernel
theorem dX5_readPoint_131 : decode cX5_readPoint 131 = .ok (.goto 4, 3) := by decide +kernel
theorem dX5_readPoint_134 : decode cX5_readPoint 134 = .ok (.iconst 0, 1) := by decide +kernel
theorem dX5_readPoint_135 : decode cX5_readPoint 135 = .ok (.ireturn, 1) := by decide +kernel
theorem dX5_readSemicolon_0 : decode cX5_readSemicolon 0 = .ok (.aload_n 0, 1) := by decide +kernel
theorem dX5_readSemicolon_1 : decode cX5_readSemicolon 1 = .ok (.invokevirtual 42, 3) := by decide +kernel
theorem dX5_readSemicolon_4 : decode cX5_readSemicolon 4 = .ok (.aload_n 0, 1) := by decide +kernel
theorem dX5_readSemicolon_5 : decode cX5_readSemicolon 5 = .ok (.getfield 22, 3) := by decide +kernel
theorem dX5_readSemicolon_8 : decode cX5_readSemicolon 8 = .ok (.iconst 4, 1) := by decide +kernel
theorem dX5_readSemicolon_9 : decode cX5_readSemicolon 9 = .ok (.if_icmp .eq 11, 3) := by decide +kernel
theorem dX5_readSemicolon_12 : decode cX5_readSemicolon 12 = .ok (.aload_n 0, 1) := by decide +kernel
theorem dX5_readSemicolon_13 : decode cX5_readSemicolon 13 = .ok (.iconst 2, 1) := by decide +kernel
theorem dX5_readSemicolon_14 : decode cX5_readSemicolon 14 = .ok (.invokevirtual 74, 3) := by decide +kernel
theorem dX5_readSemicolon_17 : decode cX5_readSemicolon 17 = .ok (.ifCond .eq 7, 3) := by decide +kernel
theorem dX5_readSemicolon_20 : decode cX5_readSemicolon 20 = .ok (.iconst 1, 1) := by decide +kernel
theorem dX5_readSemicolon_21 : decode cX5_readSemicolon 21 = .ok (.goto 4, 3) := by decide +kernel
theorem dX5_readSemicolon_24 : decode cX5_readSemicolon 24 = .ok (.iconst 0, 1) := by decide +kernel
theorem dX5_readSemicolon_25 : decode cX5_readSemicolon 25 = .ok (.ireturn, 1) := by decide +kernel
theorem dX5_readSigned_0 : decode cX5_readSigned 0 = .ok (.aload_n 0, 1) := by decide +kernel
theorem dX5_readSigned_1 : decode cX5_readSigned 1 = .ok (.invokevirtual 42, 3) := by decide +kernel
theorem dX5_readSigned_4 : decode cX5_readSigned 4 = .ok (.aload_n 0, 1) := by decide +kernel
theorem dX5_readSigned_5 : decode cX5_readSigned 5 = .ok (.getfield 22, 3) := by decide +kernel
theorem dX5_readSigned_8 : decode cX5_readSigned 8 = .ok (.iconst 3, 1) := by decide +kernel
theorem dX5_readSigned_9 : decode cX5_readSigned 9 = .ok (.if_icmp .eq 9, 3) := by decide +kernel
theorem dX5_readSigned_12 : decode cX5_readSigned 12 = .ok (.aload_n 0, 1) := by decide +kernel
theorem dX5_readSigned_13 : decode cX5_readSigned 13 = .ok (.iload_n 1, 1) := by decide +kernel
theorem dX5_readSigned_14 : decode cX5_readSigned 14 = .ok (.invokevirtual 67, 3) := by decide +kernel
theorem dX5_readSigned_17 : decode cX5_readSigned 17 = .ok (.ireturn, 1) := by decide +kernel
theorem dX5_readSigned_18 : decode cX5_readSigned 18 = .ok (.aload_n 0, 1) := by decide +kernel
theorem dX5_readSigned_19 : decode cX5_readSigned 19 = .ok (.invokevirtual 42, 3) := by decide +kernel
theorem dX5_readSigned_22 : decode cX5_readSigned 22 = .ok (.aload_n 0, 1) := by decide +kernel
theorem dX5_readSigned_23 : decode cX5_readSigned 23 = .ok (.iload_n 1, 1) := by decide +kernel
theorem dX5_readSigned_24 : decode cX5_readSigned 24 = .ok (.invokevirtual 67, 3) := by decide +kernel
theorem dX5_readSigned_27 : decode cX5_readSigned 27 = .ok (.ineg, 1) := by decide +kernel
theorem dX5_readSigned_28 : decode cX5_readSigned 28 = .ok (.ireturn, 1) := by decide +kernel
theorem dX5_readDigits_0 : decode cX5_readDigits 0 = .ok (.aload_n 0, 1) := by decide +kernel
theorem dX5_readDigits_1 : decode cX5_readDigits 1 = .ok (.getfield 22, 3) := by decide +kernel
theorem dX5_readDigits_4 : decode cX5_readDigits 4 = .ok (.iconst 2, 1) := by decide +kernel
theorem dX5_readDigits_5 : decode cX5_readDigits 5 = .ok (.if_icmp .eq 11, 3) := by decide +kernel
theorem dX5_readDigits_8 : decode cX5_readDigits 8 = .ok (.aload_n 0, 1) := by decide +kernel
theorem dX5_readDigits_9 : decode cX5_readDigits 9 = .ok (.iconst 2, 1) := by decide +kernel
theorem dX5_readDigits_10 : decode cX5_readDigits 10 = .ok (.invokevirtual 74, 3) := by decide +kernel
theorem dX5_readDigits_13 : decode cX5_readDigits 13 = .ok (.pop, 1) := by decide +kernel
theorem dX5_readDigits_14 : decode cX5_readDigits 14 = .ok (.iconst 0, 1) := by decide +kernel
theorem dX5_readDigits_15 : decode cX5_readDigits 15 = .ok (.ireturn, 1) := by decide +kernel
theorem dX5_readDigits_16 : decode cX5_readDigits 16 = .ok (.iconst 0, 1) := by decide +kernel
theorem dX5_readDigits_17 : decode cX5_readDigits 17 = .ok (.istore_n 2, 1) := by decide +kernel
theorem dX5_readDigits_18 : decode cX5_readDigits 18 = .ok (.aload_n 0, 1) := by decide +kernel
theorem dX5_readDigits_19 : decode cX5_readDigits 19 = .ok (.getfield 25, 3) := by decide +kernel
theorem dX5_readDigits_22 : decode cX5_readDigits 22 = .ok (.istore_n 3, 1) := by decide +kernel
theorem dX5_readDigits_23 : decode cX5_readDigits 23 = .ok (.iload_n 3, 1) := by decide +kernel
theorem dX5_readDigits_24 : decode cX5_readDigits 24 = .ok (.aload_n 0, 1) := by decide +kernel
theorem dX5_readDigits_25 : decode cX5_readDigits 25 = .ok (.getfield 28, 3) := by decide +kernel
theorem dX5_readDigits_28 : decode cX5_readDigits 28 = .ok (.if_icmp .ge 23, 3) := by decide +kernel
theorem dX5_readDigits_31 : decode cX5_readDigits 31 = .ok (.iload_n 2, 1) := by decide +kernel
theorem dX5_readDigits_32 : decode cX5_readDigits 32 = .ok (.bipush 10, 2) := by decide +kernel
theorem dX5_readDigits_34 : decode cX5_readDigits 34 = .ok (.imul, 1) := by decide +kernel
theorem dX5_readDigits_35 : decode cX5_readDigits 35 = .ok (.aload_n 0, 1) := by decide +kernel
theorem dX5_readDigits_36 : decode cX5_readDigits 36 = .ok (.iload_n 3, 1) := by decide +kernel
theorem dX5_readDigits_37 : decode cX5_readDigits 37 = .ok (.invokevirtual 97, 3) := by decide +kernel
theorem dX5_readDigits_40 : decode cX5_readDigits 40 = .ok (.iadd, 1) := by decide +kernel
theorem dX5_readDigits_41 : decode cX5_readDigits 41 = .ok (.bipush 48, 2) := by decide +kernel
theorem dX5_readDigits_43 : decode cX5_readDigits 43 = .ok (.isub, 1) := by decide +kernel
theorem dX5_readDigits_44 : decode cX5_readDigits 44 = .ok (.istore_n 2, 1) := by decide +kernel
theorem dX5_readDigits_45 : decode cX5_readDigits 45 = .ok (.iinc 3 1, 3) := by decide +kernel
theorem dX5_readDigits_48 : decode cX5_readDigits 48 = .ok (.goto (-25), 3) := by decide +kernel
theorem dX5_readDigits_51 : decode cX5_readDigits 51 = .ok (.iload_n 2, 1) := by decide +kernel
theorem dX5_readDigits_52 : decode cX5_readDigits 52 = .ok (.iload_n 1, 1) := by decide +kernel
theorem dX5_readDigits_53 : decode cX5_readDigits 53 = .ok (.if_icmp .le 11, 3) := by decide +kernel
theorem dX5_readDigits_56 : decode cX5_readDigits 56 = .ok (.aload_n 0, 1) := by decide +kernel
theorem dX5_readDigits_57 : decode cX5_readDigits 57 = .ok (.iconst 3, 1) := by decide +kernel
theorem dX5_readDigits_58 : decode cX5_readDigits 58 = .ok (.invokevirtual 74, 3) := by decide +kernel
theorem dX5_readDigits_61 : decode cX5_readDigits 61 = .ok (.pop, 1) := by decide +kernel
theorem dX5_readDigits_62 : decode cX5_readDigits 62 = .ok (.iconst 0, 1) := by decide +kernel
theorem dX5_readDigits_63 : decode cX5_readDigits 63 = .ok (.ireturn, 1) := by decide +kernel
theorem dX5_readDigits_64 : decode cX5_readDigits 64 = .ok (.iload_n 2, 1) := by decide +kernel
theorem dX5_readDigits_65 : decode cX5_readDigits 65 = .ok (.ireturn, 1) := by decide +kernel
theorem dX5_fail_0 : decode cX5_fail 0 = .ok (.aload_n 0, 1) := by decide +kernel
theorem dX5_fail_1 : decode cX5_fail 1 = .ok (.aload_n 0, 1) := by decide +kernel
theorem dX5_fail_2 : decode cX5_fail 2 = .ok (.getfield 22, 3) := by decide +kernel
theorem dX5_fail_5 : decode cX5_fail 5 = .ok (.ifCond .ne 7, 3) := by decide +kernel
theorem dX5_fail_8 : decode cX5_fail 8 = .ok (.iconst 1, 1) := by decide +kernel
theorem dX5_fail_9 : decode cX5_fail 9 = .ok (.goto 4, 3) := by decide +kernel
theorem dX5_fail_12 : decode cX5_fail 12 = .ok (.iload_n 1, 1) := by decide +kernel
theorem dX5_fail_13 : decode cX5_fail 13 = .ok (.putfield 31, 3) := by decide +kernel
theorem dX5_fail_16 : decode cX5_fail 16 = .ok (.aload_n 0, 1) := by decide +kernel
theorem dX5_fail_17 : decode cX5_fail 17 = .ok (.aload_n 0, 1) := by decide +kernel
theorem dX5_fail_18 : decode cX5_fail 18 = .ok (.getfield 25, 3) := by decide +kernel
theorem dX5_fail_21 : decode cX5_fail 21 = .ok (.putfield 34, 3) := by decide +kernel
theorem dX5_fail_24 : decode cX5_fail 24 = .ok (.iconst 0, 1) := by decide +kernel
theorem dX5_fail_25 : decode cX5_fail 25 = .ok (.ireturn, 1) := by decide +kernel
theorem dX5_isWord_0 : decode cX5_isWord 0 = .ok (.aload_n 0, 1) := by decide +kernel
theorem dX5_isWord_1 : decode cX5_isWord 1 = .ok (.getfield 22, 3) := by decide +kernel
theorem dX5_isWord_4 : decode cX5_isWord 4 = .ok (.iconst 1, 1) := by decide +kernel
theorem dX5_isWord_5 : decode cX5_isWord 5 = .ok (.if_icmp .ne 19, 3) := by decide +kernel
theorem dX5_isWord_8 : decode cX5_isWord 8 = .ok (.aload_n 0, 1) := by decide +kernel
theorem dX5_isWord_9 : decode cX5_isWord 9 = .ok (.getfield 28, 3) := by decide +kernel
theorem dX5_isWord_12 : decode cX5_isWord 12 = .ok (.aload_n 0, 1) := by decide +kernel
theorem dX5_isWord_13 : decode cX5_isWord 13 = .ok (.getfield 25, 3) := by decide +kernel
theorem dX5_isWord_16 : decode cX5_isWord 16 = .ok (.isub, 1) := by decide +kernel
theorem dX5_isWord_17 : decode cX5_isWord 17 = .ok (.aload_n 1, 1) := by decide +kernel
theorem dX5_isWord_18 : decode cX5_isWord 18 = .ok (.invokevirtual 100, 3) := by decide +kernel
theorem dX5_isWord_21 : decode cX5_isWord 21 = .ok (.if_icmp .eq 5, 3) := by decide +kernel
theorem dX5_isWord_24 : decode cX5_isWord 24 = .ok (.iconst 0, 1) := by decide +kernel
theorem dX5_isWord_25 : decode cX5_isWord 25 = .ok (.ireturn, 1) := by decide +kernel
theorem dX5_isWord_26 : decode cX5_isWord 26 = .ok (.iconst 0, 1) := by decide +kernel
theorem dX5_isWord_27 : decode cX5_isWord 27 = .ok (.istore_n 2, 1) := by decide +kernel
theorem dX5_isWord_28 : decode cX5_isWord 28 = .ok (.iload_n 2, 1) := by decide +kernel
theorem dX5_isWord_29 : decode cX5_isWord 29 = .ok (.aload_n 1, 1) := by decide +kernel
theorem dX5_isWord_30 : decode cX5_isWord 30 = .ok (.invokevirtual 100, 3) := by decide +kernel
theorem dX5_isWord_33 : decode cX5_isWord 33 = .ok (.if_icmp .ge 29, 3) := by decide +kernel
theorem dX5_isWord_36 : decode cX5_isWord 36 = .ok (.aload_n 0, 1) := by decide +kernel
theorem dX5_isWord_37 : decode cX5_isWord 37 = .ok (.aload_n 0, 1) := by decide +kernel
theorem dX5_isWord_38 : decode cX5_isWord 38 = .ok (.getfield 25, 3) := by decide +kernel
theorem dX5_isWord_41 : decode cX5_isWord 41 = .ok (.iload_n 2, 1) := by decide +kernel
theorem dX5_isWord_42 : decode cX5_isWord 42 = .ok (.iadd, 1) := by decide +kernel
theorem dX5_isWord_43 : decode cX5_isWord 43 = .ok (.invokevirtual 97, 3) := by decide +kernel
theorem dX5_isWord_46 : decode cX5_isWord 46 = .ok (.aload_n 1, 1) := by decide +kernel
theorem dX5_isWord_47 : decode cX5_isWord 47 = .ok (.iload_n 2, 1) := by decide +kernel
theorem dX5_isWord_48 : decode cX5_isWord 48 = .ok (.invokevirtual 105, 3) := by decide +kernel
theorem dX5_isWord_51 : decode cX5_isWord 51 = .ok (.if_icmp .eq 5, 3) := by decide +kernel
theorem dX5_isWord_54 : decode cX5_isWord 54 = .ok (.iconst 0, 1) := by decide +kernel
theorem dX5_isWord_55 : decode cX5_isWord 55 = .ok (.ireturn, 1) := by decide +kernel
theorem dX5_isWord_56 : decode cX5_isWord 56 = .ok (.iinc 2 1, 3) := by decide +kernel
theorem dX5_isWord_59 : decode cX5_isWord 59 = .ok (.goto (-31), 3) := by decide +kernel
theorem dX5_isWord_62 : decode cX5_isWord 62 = .ok (.iconst 1, 1) := by decide +kernel
theorem dX5_isWord_63 : decode cX5_isWord 63 = .ok (.ireturn, 1) := by decide +kernel
theorem dX5_step_0 : decode cX5_step 0 = .ok (.aload_n 0, 1) := by decide +kernel
theorem dX5_step_1 : decode cX5_step 1 = .ok (.aload_n 0, 1) := by decide +kernel
theorem dX5_step_2 : decode cX5_step 2 = .ok (.getfield 28, 3) := by decide +kernel
theorem dX5_step_5 : decode cX5_step 5 = .ok (.putfield 25, 3) := by decide +kernel
theorem dX5_step_8 : decode cX5_step 8 = .ok (.aload_n 0, 1) := by decide +kernel
theorem dX5_step_9 : decode cX5_step 9 = .ok (.getfield 28, 3) := by decide +kernel
theorem dX5_step_12 : decode cX5_step 12 = .ok (.istore_n 1, 1) := by decide +kernel
theorem dX5_step_13 : decode cX5_step 13 = .ok (.iload_n 1, 1) := by decide +kernel
theorem dX5_step_14 : decode cX5_step 14 = .ok (.aload_n 0, 1) := by decide +kernel
theorem dX5_step_15 : decode cX5_step 15 = .ok (.getfield 19, 3) := by decide +kernel
theorem dX5_step_18 : decode cX5_step 18 = .ok (.if_icmp .ge 36, 3) := by decide +kernel
theorem dX5_step_21 : decode cX5_step 21 = .ok (.aload_n 0, 1) := by decide +kernel
theorem dX5_step_22 : decode cX5_step 22 = .ok (.iload_n 1, 1) := by decide +kernel
theorem dX5_step_23 : decode cX5_step 23 = .ok (.invokevirtual 97, 3) := by decide +kernel
theorem dX5_step_26 : decode cX5_step 26 = .ok (.bipush 32, 2) := by decide +kernel
theorem dX5_step_28 : decode cX5_step 28 = .ok (.if_icmp .eq 13, 3) := by decide +kernel
theorem dX5_step_31 : decode cX5_step 31 = .ok (.aload_n 0, 1) := by decide +kernel
theorem dX5_step_32 : decode cX5_step 32 = .ok (.iload_n 1, 1) := by decide +kernel
theorem dX5_step_33 : decode cX5_step 33 = .ok (.invokevirtual 97, 3) := by decide +kernel
theorem dX5_step_36 : decode cX5_step 36 = .ok (.bipush 10, 2) := by decide +kernel
theorem dX5_step_38 : decode cX5_step 38 = .ok (.if_icmp .ne 16, 3) := by decide +kernel
theorem dX5_step_41 : decode cX5_step 41 = .ok (.aload_n 0, 1) := by decide +kernel
theorem dX5_step_42 : decode cX5_step 42 = .ok (.iload_n 1, 1) := by decide +kernel
theorem dX5_step_43 : decode cX5_step 43 = .ok (.iconst 1, 1) := by decide +kernel
theorem dX5_step_44 : decode cX5_step 44 = .ok (.iadd, 1) := by decide +kernel
theorem dX5_step_45 : decode cX5_step 45 = .ok (.putfield 25, 3) := by decide +kernel
theorem dX5_step_48 : decode cX5_step 48 = .ok (.iinc 1 1, 3) := by decide +kernel
theorem dX5_step_51 : decode cX5_step 51 = .ok (.goto (-38), 3) := by decide +kernel
theorem dX5_step_54 : decode cX5_step 54 = .ok (.aload_n 0, 1) := by decide +kernel
theorem dX5_step_55 : decode cX5_step 55 = .ok (.aload_n 0, 1) := by decide +kernel
theorem dX5_step_56 : decode cX5_step 56 = .ok (.getfield 25, 3) := by decide +kernel
theorem dX5_step_59 : decode cX5_step 59 = .ok (.invokevirtual 97, 3) := by decide +kernel
theorem dX5_step_62 : decode cX5_step 62 = .ok (.istore_n 1, 1) := by decide +kernel
theorem dX5_step_63 : decode cX5_step 63 = .ok (.iload_n 1, 1) := by decide +kernel
theorem dX5_step_64 : decode cX5_step 64 = .ok (.invokestatic 109, 3) := by decide +kernel
theorem dX5_step_67 : decode cX5_step 67 = .ok (.istore_n 2, 1) := by decide +kernel
theorem dX5_step_68 : decode cX5_step 68 = .ok (.iload_n 1, 1) := by decide +kernel
theorem dX5_step_69 : decode cX5_step 69 = .ok (.invokestatic 112, 3) := by decide +kernel
theorem dX5_step_72 : decode cX5_step 72 = .ok (.istore_n 3, 1) := by decide +kernel
theorem dX5_step_73 : decode cX5_step 73 = .ok (.aload_n 0, 1) := by decide +kernel
theorem dX5_step_74 : decode cX5_step 74 = .ok (.aload_n 0, 1) := by decide +kernel
theorem dX5_step_75 : decode cX5_step 75 = .ok (.getfield 25, 3) := by decide +kernel
theorem dX5_step_78 : decode cX5_step 78 = .ok (.iconst 1, 1) := by decide +kernel
theorem dX5_step_79 : decode cX5_step 79 = .ok (.iadd, 1) := by decide +kernel
theorem dX5_step_80 : decode cX5_step 80 = .ok (.putfield 28, 3) := by decide +kernel
theorem dX5_step_83 : decode cX5_step 83 = .ok (.aload_n 0, 1) := by decide +kernel
theorem dX5_step_84 : decode cX5_step 84 = .ok (.getfield 28, 3) := by decide +kernel
theorem dX5_step_87 : decode cX5_step 87 = .ok (.istore 4, 2) := by decide +kernel
theorem dX5_step_89 : decode cX5_step 89 = .ok (.iload 4, 2) := by decide +kernel
theorem dX5_step_91 : decode cX5_step 91 = .ok (.aload_n 0, 1) := by decide +kernel
theorem dX5_step_92 : decode cX5_step 92 = .ok (.getfield 19, 3) := by decide +kernel
theorem dX5_step_95 : decode cX5_step 95 = .ok (.if_icmp .ge 49, 3) := by decide +kernel
theorem dX5_step_98 : decode cX5_step 98 = .ok (.iload_n 2, 1) := by decide +kernel
theorem dX5_step_99 : decode cX5_step 99 = .ok (.ifCond .eq 15, 3) := by decide +kernel
theorem dX5_step_102 : decode cX5_step 102 = .ok (.aload_n 0, 1) := by decide +kernel
theorem dX5_step_103 : decode cX5_step 103 = .ok (.iload 4, 2) := by decide +kernel
theorem dX5_step_105 : decode cX5_step 105 = .ok (.invokevirtual 97, 3) := by decide +kernel
theorem dX5_step_108 : decode cX5_step 108 = .ok (.invokestatic 109, 3) := by decide +kernel
theorem dX5_step_111 : decode cX5_step 111 = .ok (.ifCond .ne 19, 3) := by decide +kernel
theorem dX5_step_114 : decode cX5_step 114 = .ok (.iload_n 3, 1) := by decide +kernel
theorem dX5_step_115 : decode cX5_step 115 = .ok (.ifCond .eq 29, 3) := by decide +kernel
theorem dX5_step_118 : decode cX5_step 118 = .ok (.aload_n 0, 1) := by decide +kernel
theorem dX5_step_119 : decode cX5_step 119 = .ok (.iload 4, 2) := by decide +kernel
theorem dX5_step_121 : decode cX5_step 121 = .ok (.invokevirtual 97, 3) := by decide +kernel
theorem dX5_step_124 : decode cX5_step 124 = .ok (.invokestatic 112, 3) := by decide +kernel
theorem dX5_step_127 : decode cX5_step 127 = .ok (.ifCond .eq 17, 3) := by decide +kernel
theorem dX5_step_130 : decode cX5_step 130 = .ok (.aload_n 0, 1) := by decide +kernel
theorem dX5_step_131 : decode cX5_step 131 = .ok (.iload 4, 2) := by decide +kernel
theorem dX5_step_133 : decode cX5_step 133 = .ok (.iconst 1, 1) := by decide +kernel
theorem dX5_step_134 : decode cX5_step 134 = .ok (.iadd, 1) := by decide +kernel
theorem dX5_step_135 : decode cX5_step 135 = .ok (.putfield 28, 3) := by decide +kernel
theorem dX5_step_138 : decode cX5_step 138 = .ok (.iinc 4 1, 3) := by decide +kernel
theorem dX5_step_141 : decode cX5_step 141 = .ok (.goto (-52), 3) := by decide +kernel
theorem dX5_step_144 : decode cX5_step 144 = .ok (.aload_n 0, 1) := by decide +kernel
theorem dX5_step_145 : decode cX5_step 145 = .ok (.getfield 25, 3) := by decide +kernel
theorem dX5_step_148 : decode cX5_step 148 = .ok (.aload_n 0, 1) := by decide +kernel
theorem dX5_step_149 : decode cX5_step 149 = .ok (.getfield 19, 3) := by decide +kernel
theorem dX5_step_152 : decode cX5_step 152 = .ok (.if_icmp .lt 11, 3) := by decide +kernel
theorem dX5_step_155 : decode cX5_step 155 = .ok (.aload_n 0, 1) := by decide +kernel
theorem dX5_step_156 : decode cX5_step 156 = .ok (.iconst 5, 1) := by decide +kernel
theorem dX5_step_157 : decode cX5_step 157 = .ok (.putfield 22, 3) := by decide +kernel
theorem dX5_step_160 : decode cX5_step 160 = .ok (.goto 91, 3) := by decide +kernel
theorem dX5_step_163 : decode cX5_step 163 = .ok (.iload_n 2, 1) := by decide +kernel
theorem dX5_step_164 : decode cX5_step 164 = .ok (.ifCond .eq 29, 3) := by decide +kernel
theorem dX5_step_167 : decode cX5_step 167 = .ok (.aload_n 0, 1) := by decide +kernel
theorem dX5_step_168 : decode cX5_step 168 = .ok (.aload_n 0, 1) := by decide +kernel
theorem dX5_step_169 : decode cX5_step 169 = .ok (.getfield 28, 3) := by decide +kernel
theorem dX5_step_172 : decode cX5_step 172 = .ok (.aload_n 0, 1) := by decide +kernel
theorem dX5_step_173 : decode cX5_step 173 = .ok (.getfield 25, 3) := by decide +kernel
theorem dX5_step_176 : decode cX5_step 176 = .ok (.isub, 1) := by decide +kernel
theorem dX5_step_177 : decode cX5_step 177 = .ok (.bipush 8, 2) := by decide +kernel
theorem dX5_step_179 : decode cX5_step 179 = .ok (.if_icmp .le 7, 3) := by decide +kernel
theorem dX5_step_182 : decode cX5_step 182 = .ok (.iconst 0, 1) := by decide +kernel
theorem dX5_step_183 : decode cX5_step 183 = .ok (.goto 4, 3) := by decide +kernel
theorem dX5_step_186 : decode cX5_step 186 = .ok (.iconst 1, 1) := by decide +kernel
theorem dX5_step_187 : decode cX5_step 187 = .ok (.putfield 22, 3) := by decide +kernel
theorem dX5_step_190 : decode cX5_step 190 = .ok (.goto 61, 3) := by decide +kernel
theorem dX5_step_193 : decode cX5_step 193 = .ok (.iload_n 3, 1) := by decide +kernel
theorem dX5_step_194 : decode cX5_step 194 = .ok (.ifCond .eq 28, 3) := by decide +kernel
theorem dX5_step_197 : decode cX5_step 197 = .ok (.aload_n 0, 1) := by decide +kernel
theorem dX5_step_198 : decode cX5_step 198 = .ok (.aload_n 0, 1) := by decide +kernel
theorem dX5_step_199 : decode cX5_step 199 = .ok (.getfield 28, 3) := by decide +kernel
theorem dX5_step_202 : decode cX5_step 202 = .ok (.aload_n 0, 1) := by decide +kernel
theorem dX5_step_203 : decode cX5_step 203 = .ok (.getfield 25, 3) := by decide +kernel
theorem dX5_step_206 : decode cX5_step 206 = .ok (.isub, 1) := by decide +kernel
theorem dX5_step_207 : decode cX5_step 207 = .ok (.iconst 2, 1) := by decide +kernel
theorem dX5_step_208 : decode cX5_step 208 = .ok (.if_icmp .le 7, 3) := by decide +kernel
theorem dX5_step_211 : decode cX5_step 211 = .ok (.iconst 0, 1) := by decide +kernel
theorem dX5_step_212 : decode cX5_step 212 = .ok (.goto 4, 3) := by decide +kernel
theorem dX5_step_215 : decode cX5_step 215 = .ok (.iconst 2, 1) := by decide +kernel
theorem dX5_step_216 : decode cX5_step 216 = .ok (.putfield 22, 3) := by decide +kernel
theorem dX5_step_219 : decode cX5_step 219 = .ok (.goto 32, 3) := by decide +kernel
theorem dX5_step_222 : decode cX5_step 222 = .ok (.iload_n 1, 1) := by decide +kernel
theorem dX5_step_223 : decode cX5_step 223 = .ok (.bipush 45, 2) := by decide +kernel
theorem dX5_step_225 : decode cX5_step 225 = .ok (.if_icmp .ne 11, 3) := by decide +kernel
theorem dX5_step_228 : decode cX5_step 228 = .ok (.aload_n 0, 1) := by decide +kernel
theorem dX5_step_229 : decode cX5_step 229 = .ok (.iconst 3, 1) := by decide +kernel
theorem dX5_step_230 : decode cX5_step 230 = .ok (.putfield 22, 3) := by decide +kernel
theorem dX5_step_233 : decode cX5_step 233 = .ok (.goto 18, 3) := by decide +kernel
theorem dX5_step_236 : decode cX5_step 236 = .ok (.aload_n 0, 1) := by decide +kernel
theorem dX5_step_237 : decode cX5_step 237 = .ok (.iload_n 1, 1) := by decide +kernel
theorem dX5_step_238 : decode cX5_step 238 = .ok (.bipush 59, 2) := by decide +kernel
theorem dX5_step_240 : decode cX5_step 240 = .ok (.if_icmp .ne 7, 3) := by decide +kernel
theorem dX5_step_243 : decode cX5_step 243 = .ok (.iconst 4, 1) := by decide +kernel
theorem dX5_step_244 : decode cX5_step 244 = .ok (.goto 4, 3) := by decide +kernel
theorem dX5_step_247 : decode cX5_step 247 = .ok (.iconst 0, 1) := by decide +kernel
theorem dX5_step_248 : decode cX5_step 248 = .ok (.putfield 22, 3) := by decide +kernel
theorem dX5_step_251 : decode cX5_step 251 = .ok (.return_, 1) := by decide +kernel
theorem dX5_byteAt_0 : decode cX5_byteAt 0 = .ok (.iload_n 1, 1) := by decide +kernel
theorem dX5_byteAt_1 : decode cX5_byteAt 1 = .ok (.ifCond .lt 27, 3) := by decide +kernel
theorem dX5_byteAt_4 : decode cX5_byteAt 4 = .ok (.iload_n 1, 1) := by decide +kernel
theorem dX5_byteAt_5 : decode cX5_byteAt 5 = .ok (.aload_n 0, 1) := by decide +kernel
theorem dX5_byteAt_6 : decode cX5_byteAt 6 = .ok (.getfield 19, 3) := by decide +kernel
theorem dX5_byteAt_9 : decode cX5_byteAt 9 = .ok (.if_icmp .ge 19, 3) := by decide +kernel
theorem dX5_byteAt_12 : decode cX5_byteAt 12 = .ok (.iload_n 1, 1) := by decide +kernel
theorem dX5_byteAt_13 : decode cX5_byteAt 13 = .ok (.sipush 400, 3) := by decide +kernel
theorem dX5_byteAt_16 : decode cX5_byteAt 16 = .ok (.if_icmp .ge 12, 3) := by decide +kernel
theorem dX5_byteAt_19 : decode cX5_byteAt 19 = .ok (.aload_n 0, 1) := by decide +kernel
theorem dX5_byteAt_20 : decode cX5_byteAt 20 = .ok (.getfield 9, 3) := by decide +kernel
theorem dX5_byteAt_23 : decode cX5_byteAt 23 = .ok (.iload_n 1, 1) := by decide +kernel
theorem dX5_byteAt_24 : decode cX5_byteAt 24 = .ok (.iaload, 1) := by decide +kernel
theorem dX5_byteAt_25 : decode cX5_byteAt 25 = .ok (.goto 4, 3) := by decide +kernel
theorem dX5_byteAt_28 : decode cX5_byteAt 28 = .ok (.iconst 0, 1) := by decide +kernel
theorem dX5_byteAt_29 : decode cX5_byteAt 29 = .ok (.ireturn, 1) := by decide +kernel
theorem dX5_isLetter_0 : decode cX5_isLetter 0 = .ok (.iload_n 0, 1) := by decide +kernel
theorem dX5_isLetter_1 : decode cX5_isLetter 1 = .ok (.bipush 97, 2) := by decide +kernel
theorem dX5_isLetter_3 : decode cX5_isLetter 3 = .ok (.if_icmp .lt 13, 3) := by decide +kernel
theorem dX5_isLetter_6 : decode cX5_isLetter 6 = .ok (.iload_n 0, 1) := by decide +kernel
theorem dX5_isLetter_7 : decode cX5_isLetter 7 = .ok (.bipush 122, 2) := by decide +kernel
theorem dX5_isLetter_9 : decode cX5_isLetter 9 = .ok (.if_icmp .gt 7, 3) := by decide +kernel
theorem dX5_isLetter_12 : decode cX5_isLetter 12 = .ok (.iconst 1, 1) := by decide +kernel
theorem dX5_isLetter_13 : decode cX5_isLetter 13 = .ok (.goto 4, 3) := by decide +kernel
theorem dX5_isLetter_16 : decode cX5_isLetter 16 = .ok (.iconst 0, 1) := by decide +kernel
theorem dX5_isLetter_17 : decode cX5_isLetter 17 = .ok (.ireturn, 1) := by decide +kernel
theorem dX5_isDigit_0 : decode cX5_isDigit 0 = .ok (.iload_n 0, 1) := by decide +kernel
theorem dX5_isDigit_1 : decode cX5_isDigit 1 = .ok (.bipush 48, 2) := by decide +kernel
theorem dX5_isDigit_3 : decode cX5_isDigit 3 = .ok (.if_icmp .lt 13, 3) := by decide +kernel
theorem dX5_isDigit_6 : decode cX5_isDigit 6 = .ok (.iload_n 0, 1) := by decide +kernel
theorem dX5_isDigit_7 : decode cX5_isDigit 7 = .ok (.bipush 57, 2) := by decide +kernel
theorem dX5_isDigit_9 : decode cX5_isDigit 9 = .ok (.if_icmp .gt 7, 3) := by decide +kernel
theorem dX5_isDigit_12 : decode cX5_isDigit 12 = .ok (.iconst 1, 1) := by decide +kernel
theorem dX5_isDigit_13 : decode cX5_isDigit 13 = .ok (.goto 4, 3) := by decide +kernel
theorem dX5_isDigit_16 : decode cX5_isDigit 16 = .ok (.iconst 0, 1) := by decide +kernel
theorem dX5_isDigit_17 : decode cX5_isDigit 17 = .ok (.ireturn, 1) := by decide +kernel
theorem dX6_init_0 : decode cX6_init 0 = .ok (.aload_n 0, 1) := by decide +kernel
theorem dX6_init_1 : decode cX6_init 1 = .ok (.invokespecial 1, 3) := by decide +kernel
theorem dX6_init_4 : decode cX6_init 4 = .ok (.aload_n 0, 1) := by decide +kernel
theorem dX6_init_5 : decode cX6_init 5 = .ok (.new 7, 3) := by decide +kernel
theorem dX6_init_8 : decode cX6_init 8 = .ok (.dup, 1) := by decide +kernel
theorem dX6_init_9 : decode cX6_init 9 = .ok (.invokespecial 9, 3) := by decide +kernel
theorem dX6_init_12 : decode cX6_init 12 = .ok (.putfield 10, 3) := by decide +kernel
theorem dX6_init_15 : decode cX6_init 15 = .ok (.aload_n 0, 1) := by decide +kernel
theorem dX6_init_16 : decode cX6_init 16 = .ok (.new 16, 3) := by decide +kernel
theorem dX6_init_19 : decode cX6_init 19 = .ok (.dup, 1) := by decide +kernel
theorem dX6_init_20 : decode cX6_init 20 = .ok (.invokespecial 18, 3) := by decide +kernel
theorem dX6_init_23 : decode cX6_init 23 = .ok (.putfield 19, 3) := by decide +kernel
theorem dX6_init_26 : decode cX6_init 26 = .ok (.aload_n 0, 1) := by decide +kernel
theorem dX6_init_27 : decode cX6_init 27 = .ok (.new 16, 3) := by decide +kernel
theorem dX6_init_30 : decode cX6_init 30 = .ok (.dup, 1) := by decide +kernel
theorem dX6_init_31 : decode cX6_init 31 = .ok (.invokespecial 18, 3) := by decide +kernel
theorem dX6_init_34 : decode cX6_init 34 = .ok (.putfield 23, 3) := by decide +kernel
theorem dX6_init_37 : decode cX6_init 37 = .ok (.aload_n 0, 1) := by decide +kernel
theorem dX6_init_38 : decode cX6_init 38 = .ok (.new 26, 3) := by decide +kernel
theorem dX6_init_41 : decode cX6_init 41 = .ok (.dup, 1) := by decide +kernel
theorem dX6_init_42 : decode cX6_init 42 = .ok (.invokespecial 28, 3) := by decide +kernel
theorem dX6_init_45 : decode cX6_init 45 = .ok (.putfield 29, 3) := by decide +kernel
theorem dX6_init_48 : decode cX6_init 48 = .ok (.aload_n 0, 1) := by decide +kernel
theorem dX6_init_49 : decode cX6_init 49 = .ok (.new 33, 3) := by decide +kernel
theorem dX6_init_52 : decode cX6_init 52 = .ok (.dup, 1) := by decide +kernel
theorem dX6_init_53 : decode cX6_init 53 = .ok (.invokespecial 35, 3) := by decide +kernel
theorem dX6_init_56 : decode cX6_init 56 = .ok (.putfield 36, 3) := by decide +kernel
theorem dX6_init_59 : decode cX6_init 59 = .ok (.aload_n 0, 1) := by decide +kernel
theorem dX6_init_60 : decode cX6_init 60 = .ok (.new 40, 3) := by decide +kernel
theorem dX6_init_63 : decode cX6_init 63 = .ok (.dup, 1) := by decide +kernel
theorem dX6_init_64 : decode cX6_init 64 = .ok (.invokespecial 42, 3) := by decide +kernel
theorem dX6_init_67 : decode cX6_init 67 = .ok (.putfield 43, 3) := by decide +kernel
theorem dX6_init_70 : decode cX6_init 70 = .ok (.aload_n 0, 1) := by decide +kernel
theorem dX6_init_71 : decode cX6_init 71 = .ok (.new 40, 3) := by decide +kernel
theorem dX6_init_74 : decode cX6_init 74 = .ok (.dup, 1) := by decide +kernel
theorem dX6_init_75 : decode cX6_init 75 = .ok (.invokespecial 42, 3) := by decide +kernel
theorem dX6_init_78 : decode cX6_init 78 = .ok (.putfield 47, 3) := by decide +kernel
theorem dX6_init_81 : decode cX6_init 81 = .ok (.return_, 1) := by decide +kernel
theorem dX6_feed_0 : decode cX6_feed 0 = .ok (.aload_n 0, 1) := by decide +kernel
theorem dX6_feed_1 : decode cX6_feed 1 = .ok (.getfield 10, 3) := by decide +kernel
theorem dX6_feed_4 : decode cX6_feed 4 = .ok (.bipush 20, 2) := by decide +kernel
theorem dX6_feed_6 : decode cX6_feed 6 = .ok (.invokevirtual 50, 3) := by decide +kernel
theorem dX6_feed_9 : decode cX6_feed 9 = .ok (.ifCond .ne 6, 3) := by decide +kernel
theorem dX6_feed_12 : decode cX6_feed 12 = .ok (.bipush (-2), 2) := by decide +kernel
theorem dX6_feed_14 : decode cX6_feed 14 = .ok (.ireturn, 1) := by decide +kernel
theorem dX6_feed_15 : decode cX6_feed 15 = .ok (.aload_n 0, 1) := by decide +kernel
theorem dX6_feed_16 : decode cX6_feed 16 = .ok (.getfield 10, 3) := by decide +kernel
theorem dX6_feed_19 : decode cX6_feed 19 = .ok (.iload_n 1, 1) := by decide +kernel
theorem dX6_feed_20 : decode cX6_feed 20 = .ok (.invokevirtual 54, 3) := by decide +kernel
theorem dX6_feed_23 : decode cX6_feed 23 = .ok (.aload_n 0, 1) := by decide +kernel
theorem dX6_feed_24 : decode cX6_feed 24 = .ok (.getfield 10, 3) := by decide +kernel
theorem dX6_feed_27 : decode cX6_feed 27 = .ok (.iload_n 2, 1) := by decide +kernel
theorem dX6_feed_28 : decode cX6_feed 28 = .ok (.invokevirtual 54, 3) := by decide +kernel
theorem dX6_feed_31 : decode cX6_feed 31 = .ok (.aload_n 0, 1) := by decide +kernel
theorem dX6_feed_32 : decode cX6_feed 32 = .ok (.getfield 10, 3) := by decide +kernel
theorem dX6_feed_35 : decode cX6_feed 35 = .ok (.iload_n 3, 1) := by decide +kernel
theorem dX6_feed_36 : decode cX6_feed 36 = .ok (.invokevirtual 54, 3) := by decide +kernel
theorem dX6_feed_39 : decode cX6_feed 39 = .ok (.aload_n 0, 1) := by decide +kernel
theorem dX6_feed_40 : decode cX6_feed 40 = .ok (.getfield 10, 3) := by decide +kernel
theorem dX6_feed_43 : decode cX6_feed 43 = .ok (.iload 4, 2) := by decide +kernel
theorem dX6_feed_45 : decode cX6_feed 45 = .ok (.invokevirtual 54, 3) := by decide +kernel
theorem dX6_feed_48 : decode cX6_feed 48 = .ok (.aload_n 0, 1) := by decide +kernel
theorem dX6_feed_49 : decode cX6_feed 49 = .ok (.getfield 10, 3) := by decide +kernel
theorem dX6_feed_52 : decode cX6_feed 52 = .ok (.iload 5, 2) := by decide +kernel
theorem dX6_feed_54 : decode cX6_feed 54 = .ok (.invokevirtual 54, 3) := by decide +kernel
theorem dX6_feed_57 : decode cX6_feed 57 = .ok (.aload_n 0, 1) := by decide +kernel
theorem dX6_feed_58 : decode cX6_feed 58 = .ok (.getfield 10, 3) := by decide +kernel
theorem dX6_feed_61 : decode cX6_feed 61 = .ok (.invokevirtual 58, 3) := by decide +kernel
theorem dX6_feed_64 : decode cX6_feed 64 = .ok (.ireturn, 1) := by decide +kernel
theorem dX6_load_0 : decode cX6_load 0 = .ok (.iload_n 1, 1) := by decide +kernel
theorem dX6_load_1 : decode cX6_load 1 = .ok (.iconst 0, 1) := by decide +kernel
theorem dX6_load_2 : decode cX6_load 2 = .ok (.aload_n 0, 1) := by decide +kernel
theorem dX6_load_3 : decode cX6_load 3 = .ok (.getfield 10, 3) := by decide +kernel
theorem dX6_load_6 : decode cX6_load 6 = .ok (.invokevirtual 58, 3) := by decide +kernel
theorem dX6_load_9 : decode cX6_load 9 = .ok (.invokestatic 62, 3) := by decide +kernel
theorem dX6_load_12 : decode cX6_load 12 = .ok (.aload_n 0, 1) := by decide +kernel
theorem dX6_load_13 : decode cX6_load 13 = .ok (.getfield 10, 3) := by decide +kernel
theorem dX6_load_16 : decode cX6_load 16 = .ok (.iload_n 1, 1) := by decide +kernel
theorem dX6_load_17 : decode cX6_load 17 = .ok (.aload_n 0, 1) := by decide +kernel
theorem dX6_load_18 : decode cX6_load 18 = .ok (.getfield 23, 3) := by decide +kernel
theorem dX6_load_21 : decode cX6_load 21 = .ok (.getfield 66, 3) := by decide +kernel
theorem dX6_load_24 : decode cX6_load 24 = .ok (.invokevirtual 70, 3) := by decide +kernel
theorem dX6_load_27 : decode cX6_load 27 = .ok (.istore_n 2, 1) := by decide +kernel
theorem dX6_load_28 : decode cX6_load 28 = .ok (.aload_n 0, 1) := by decide +kernel
theorem dX6_load_29 : decode cX6_load 29 = .ok (.getfield 10, 3) := by decide +kernel
theorem dX6_load_32 : decode cX6_load 32 = .ok (.invokevirtual 74, 3) := by decide +kernel
theorem dX6_load_35 : decode cX6_load 35 = .ok (.iload_n 2, 1) := by decide +kernel
theorem dX6_load_36 : decode cX6_load 36 = .ok (.ifCond .ne 6, 3) := by decide +kernel
theorem dX6_load_39 : decode cX6_load 39 = .ok (.bipush (-3), 2) := by decide +kernel
theorem dX6_load_41 : decode cX6_load 41 = .ok (.ireturn, 1) := by decide +kernel
theorem dX6_load_42 : decode cX6_load 42 = .ok (.aload_n 0, 1) := by decide +kernel
theorem dX6_load_43 : decode cX6_load 43 = .ok (.getfield 19, 3) := by decide +kernel
theorem dX6_load_46 : decode cX6_load 46 = .ok (.getfield 66, 3) := by decide +kernel
theorem dX6_load_49 : decode cX6_load 49 = .ok (.aload_n 0, 1) := by decide +kernel
theorem dX6_load_50 : decode cX6_load 50 = .ok (.getfield 23, 3) := by decide +kernel
theorem dX6_load_53 : decode cX6_load 53 = .ok (.getfield 66, 3) := by decide +kernel
theorem dX6_load_56 : decode cX6_load 56 = .ok (.invokevirtual 77, 3) := by decide +kernel
theorem dX6_load_59 : decode cX6_load 59 = .ok (.aload_n 0, 1) := by decide +kernel
theorem dX6_load_60 : decode cX6_load 60 = .ok (.getfield 19, 3) := by decide +kernel
theorem dX6_load_63 : decode cX6_load 63 = .ok (.invokevirtual 83, 3) := by decide +kernel
theorem dX6_load_66 : decode cX6_load 66 = .ok (.aload_n 0, 1) := by decide +kernel
theorem dX6_load_67 : decode cX6_load 67 = .ok (.getfield 29, 3) := by decide +kernel
theorem dX6_load_70 : decode cX6_load 70 = .ok (.invokevirtual 86, 3) := by decide +kernel
theorem dX6_load_73 : decode cX6_load 73 = .ok (.aload_n 0, 1) := by decide +kernel
theorem dX6_load_74 : decode cX6_load 74 = .ok (.getfield 19, 3) := by decide +kernel
theorem dX6_load_77 : decode cX6_load 77 = .ok (.getfield 66, 3) := by decide +kernel
theorem dX6_load_80 : decode cX6_load 80 = .ok (.invokevirtual 87, 3) := by decide +kernel
theorem dX6_load_83 : decode cX6_load 83 = .ok (.ireturn, 1) := by decide +kernel
theorem dX6_errorKind_0 : decode cX6_errorKind 0 = .ok (.aload_n 0, 1) := by decide +kernel
theorem dX6_errorKind_1 : decode cX6_errorKind 1 = .ok (.getfield 10, 3) := by decide +kernel
theorem dX6_errorKind_4 : decode cX6_errorKind 4 = .ok (.invokevirtual 90, 3) := by decide +kernel
theorem dX6_errorKind_7 : decode cX6_errorKind 7 = .ok (.ireturn, 1) := by decide +kernel
theorem dX6_errorPosition_0 : decode cX6_errorPosition 0 = .ok (.aload_n 0, 1) := by decide +kernel
theorem dX6_errorPosition_1 : decode cX6_errorPosition 1 = .ok (.getfield 10, 3) := by decide +kernel
theorem dX6_errorPosition_4 : decode cX6_errorPosition 4 = .ok (.invokevirtual 93, 3) := by decide +kernel
theorem dX6_errorPosition_7 : decode cX6_errorPosition 7 = .ok (.ireturn, 1) := by decide +kernel
theorem dX6_points_0 : decode cX6_points 0 = .ok (.aload_n 0, 1) := by decide +kernel
theorem dX6_points_1 : decode cX6_points 1 = .ok (.getfield 19, 3) := by decide +kernel
theorem dX6_points_4 : decode cX6_points 4 = .ok (.getfield 66, 3) := by decide +kernel
theorem dX6_points_7 : decode cX6_points 7 = .ok (.invokevirtual 87, 3) := by decide +kernel
theorem dX6_points_10 : decode cX6_points 10 = .ok (.ireturn, 1) := by decide +kernel
theorem dX6_mode_0 : decode cX6_mode 0 = .ok (.aload_n 0, 1) := by decide +kernel
theorem dX6_mode_1 : decode cX6_mode 1 = .ok (.getfield 19, 3) := by decide +kernel
theorem dX6_mode_4 : decode cX6_mode 4 = .ok (.getfield 66, 3) := by decide +kernel
theorem dX6_mode_7 : decode cX6_mode 7 = .ok (.getfield 96, 3) := by decide +kernel
theorem dX6_mode_10 : decode cX6_mode 10 = .ok (.ireturn, 1) := by decide +kernel
theorem dX6_degree_0 : decode cX6_degree 0 = .ok (.aload_n 0, 1) := by decide +kernel
theorem dX6_degree_1 : decode cX6_degree 1 = .ok (.getfield 19, 3) := by decide +kernel
theorem dX6_degree_4 : decode cX6_degree 4 = .ok (.getfield 66, 3) := by decide +kernel
theorem dX6_degree_7 : decode cX6_degree 7 = .ok (.getfield 100, 3) := by decide +kernel
theorem dX6_degree_10 : decode cX6_degree 10 = .ok (.ireturn, 1) := by decide +kernel
theorem dX6_point_0 : decode cX6_point 0 = .ok (.aload_n 0, 1) := by decide +kernel
theorem dX6_point_1 : decode cX6_point 1 = .ok (.iload_n 1, 1) := by decide +kernel
theorem dX6_point_2 : decode cX6_point 2 = .ok (.invokevirtual 103, 3) := by decide +kernel
theorem dX6_point_5 : decode cX6_point 5 = .ok (.iload_n 2, 1) := by decide +kernel
theorem dX6_point_6 : decode cX6_point 6 = .ok (.iconst 0, 1) := by decide +kernel
theorem dX6_point_7 : decode cX6_point 7 = .ok (.iconst 3, 1) := by decide +kernel
theorem dX6_point_8 : decode cX6_point 8 = .ok (.invokestatic 62, 3) := by decide +kernel
theorem dX6_point_11 : decode cX6_point 11 = .ok (.iload_n 2, 1) := by decide +kernel
theorem dX6_point_12 : decode cX6_point 12 = .ok (.tableswitch 64 0 2 #[28, 40, 52], 28) := by decide +kernel
theorem dX6_point_40 : decode cX6_point 40 = .ok (.aload_n 0, 1) := by decide +kernel
theorem dX6_point_41 : decode cX6_point 41 = .ok (.getfield 19, 3) := by decide +kernel
theorem dX6_point_44 : decode cX6_point 44 = .ok (.getfield 66, 3) := by decide +kernel
theorem dX6_point_47 : decode cX6_point 47 = .ok (.iload_n 1, 1) := by decide +kernel
theorem dX6_point_48 : decode cX6_point 48 = .ok (.invokevirtual 106, 3) := by decide +kernel
theorem dX6_point_51 : decode cX6_point 51 = .ok (.ireturn, 1) := by decide +kernel
theorem dX6_point_52 : decode cX6_point 52 = .ok (.aload_n 0, 1) := by decide +kernel
theorem dX6_point_53 : decode cX6_point 53 = .ok (.getfield 19, 3) := by decide +kernel
theorem dX6_point_56 : decode cX6_point 56 = .ok (.getfield 66, 3) := by decide +kernel
theorem dX6_point_59 : decode cX6_point 59 = .ok (.iload_n 1, 1) := by decide +kernel
theorem dX6_point_60 : decode cX6_point 60 = .ok (.invokevirtual 110, 3) := by decide +kernel
theorem dX6_point_63 : decode cX6_point 63 = .ok (.ireturn, 1) := by decide +kernel
theorem dX6_point_64 : decode cX6_point 64 = .ok (.aload_n 0, 1) := by decide +kernel
theorem dX6_point_65 : decode cX6_point 65 = .ok (.getfield 19, 3) := by decide +kernel
theorem dX6_point_68 : decode cX6_point 68 = .ok (.getfield 66, 3) := by decide +kernel
theorem dX6_point_71 : decode cX6_point 71 = .ok (.iload_n 1, 1) := by decide +kernel
theorem dX6_point_72 : decode cX6_point 72 = .ok (.invokevirtual 113, 3) := by decide +kernel
theorem dX6_point_75 : decode cX6_point 75 = .ok (.ireturn, 1) := by decide +kernel
theorem dX6_point_76 : decode cX6_point 76 = .ok (.aload_n 0, 1) := by decide +kernel
theorem dX6_point_77 : decode cX6_point 77 = .ok (.getfield 19, 3) := by decide +kernel
theorem dX6_point_80 : decode cX6_point 80 = .ok (.getfield 66, 3) := by decide +kernel
theorem dX6_point_83 : decode cX6_point 83 = .ok (.iload_n 1, 1) := by decide +kernel
theorem dX6_point_84 : decode cX6_point 84 = .ok (.invokevirtual 116, 3) := by decide +kernel
theorem dX6_point_87 : decode cX6_point 87 = .ok (.ireturn, 1) := by decide +kernel
theorem dX6_pointAt_0 : decode cX6_pointAt 0 = .ok (.iload_n 1, 1) := by decide +kernel
theorem dX6_pointAt_1 : decode cX6_pointAt 1 = .ok (.bipush 12, 2) := by decide +kernel
theorem dX6_pointAt_3 : decode cX6_pointAt 3 = .ok (.invokestatic 119, 3) := by decide +kernel
theorem dX6_pointAt_6 : decode cX6_pointAt 6 = .ok (.aload_n 0, 1) := by decide +kernel
theorem dX6_pointAt_7 : decode cX6_pointAt 7 = .ok (.getfield 19, 3) := by decide +kernel
theorem dX6_pointAt_10 : decode cX6_pointAt 10 = .ok (.getfield 66, 3) := by decide +kernel
theorem dX6_pointAt_13 : decode cX6_pointAt 13 = .ok (.iload_n 1, 1) := by decide +kernel
theorem dX6_pointAt_14 : decode cX6_pointAt 14 = .ok (.invokevirtual 123, 3) := by decide +kernel
theorem dX6_pointAt_17 : decode cX6_pointAt 17 = .ok (.istore_n 2, 1) := by decide +kernel
theorem dX6_pointAt_18 : decode cX6_pointAt 18 = .ok (.iload_n 2, 1) := by decide +kernel
theorem dX6_pointAt_19 : decode cX6_pointAt 19 = .ok (.iconst (-1), 1) := by decide +kernel
theorem dX6_pointAt_20 : decode cX6_pointAt 20 = .ok (.if_icmp .ne 13, 3) := by decide +kernel
theorem dX6_pointAt_23 : decode cX6_pointAt 23 = .ok (.new 126, 3) := by decide +kernel
theorem dX6_pointAt_26 : decode cX6_pointAt 26 = .ok (.dup, 1) := by decide +kernel
theorem dX6_pointAt_27 : decode cX6_pointAt 27 = .ok (.ldc 128, 2) := by decide +kernel
theorem dX6_pointAt_29 : decode cX6_pointAt 29 = .ok (.invokespecial 130, 3) := by decide +kernel
theorem dX6_pointAt_32 : decode cX6_pointAt 32 = .ok (.athrow, 1) := by decide +kernel
theorem dX6_pointAt_33 : decode cX6_pointAt 33 = .ok (.iload_n 2, 1) := by decide +kernel
theorem dX6_pointAt_34 : decode cX6_pointAt 34 = .ok (.ireturn, 1) := by decide +kernel
theorem dX6_weight_0 : decode cX6_weight 0 = .ok (.aload_n 0, 1) := by decide +kernel
theorem dX6_weight_1 : decode cX6_weight 1 = .ok (.iload_n 1, 1) := by decide +kernel
theorem dX6_weight_2 : decode cX6_weight 2 = .ok (.invokevirtual 103, 3) := by decide +kernel
theorem dX6_weight_5 : decode cX6_weight 5 = .ok (.aload_n 0, 1) := by decide +kernel
theorem dX6_weight_6 : decode cX6_weight 6 = .ok (.getfield 19, 3) := by decide +kernel
theorem dX6_weight_9 : decode cX6_weight 9 = .ok (.iload_n 1, 1) := by decide +kernel
theorem dX6_weight_10 : decode cX6_weight 10 = .ok (.invokevirtual 133, 3) := by decide +kernel
theorem dX6_weight_13 : decode cX6_weight 13 = .ok (.lreturn, 1) := by decide +kernel
theorem dX6_isAlternating_0 : decode cX6_isAlternating 0 = .ok (.aload_n 0, 1) := by decide +kernel
theorem dX6_isAlternating_1 : decode cX6_isAlternating 1 = .ok (.getfield 19, 3) := by decide +kernel
theorem dX6_isAlternating_4 : decode cX6_isAlternating 4 = .ok (.invokevirtual 137, 3) := by decide +kernel
theorem dX6_isAlternating_7 : decode cX6_isAlternating 7 = .ok (.ireturn, 1) := by decide +kernel
theorem dX6_weightSum_0 : decode cX6_weightSum 0 = .ok (.lconst 0, 1) := by decide +kernel
theorem dX6_weightSum_1 : decode cX6_weightSum 1 = .ok (.lstore_n 1, 1) := by decide +kernel
theorem dX6_weightSum_2 : decode cX6_weightSum 2 = .ok (.iconst 0, 1) := by decide +kernel
theorem dX6_weightSum_3 : decode cX6_weightSum 3 = .ok (.istore_n 3, 1) := by decide +kernel
theorem dX6_weightSum_4 : decode cX6_weightSum 4 = .ok (.iload_n 3, 1) := by decide +kernel
theorem dX6_weightSum_5 : decode cX6_weightSum 5 = .ok (.aload_n 0, 1) := by decide +kernel
theorem dX6_weightSum_6 : decode cX6_weightSum 6 = .ok (.getfield 19, 3) := by decide +kernel
theorem dX6_weightSum_9 : decode cX6_weightSum 9 = .ok (.getfield 66, 3) := by decide +kernel
theorem dX6_weightSum_12 : decode cX6_weightSum 12 = .ok (.invokevirtual 87, 3) := by decide +kernel
theorem dX6_weightSum_15 : decode cX6_weightSum 15 = .ok (.if_icmp .ge 20, 3) := by decide +kernel
theorem dX6_weightSum_18 : decode cX6_weightSum 18 = .ok (.lload_n 1, 1) := by decide +kernel
theorem dX6_weightSum_19 : decode cX6_weightSum 19 = .ok (.aload_n 0, 1) := by decide +kernel
theorem dX6_weightSum_20 : decode cX6_weightSum 20 = .ok (.getfield 19, 3) := by decide +kernel
theorem dX6_weightSum_23 : decode cX6_weightSum 23 = .ok (.iload_n 3, 1) := by decide +kernel
theorem dX6_weightSum_24 : decode cX6_weightSum 24 = .ok (.invokevirtual 133, 3) := by decide +kernel
theorem dX6_weightSum_27 : decode cX6_weightSum 27 = .ok (.ladd, 1) := by decide +kernel
theorem dX6_weightSum_28 : decode cX6_weightSum 28 = .ok (.lstore_n 1, 1) := by decide +kernel
theorem dX6_weightSum_29 : decode cX6_weightSum 29 = .ok (.iinc 3 1, 3) := by decide +kernel
theorem dX6_weightSum_32 : decode cX6_weightSum 32 = .ok (.goto (-28), 3) := by decide +kernel
theorem dX6_weightSum_35 : decode cX6_weightSum 35 = .ok (.lload_n 1, 1) := by decide +kernel
theorem dX6_weightSum_36 : decode cX6_weightSum 36 = .ok (.lreturn, 1) := by decide +kernel
theorem dX6_degreeOf_0 : decode cX6_degreeOf 0 = .ok (.iconst 4, 1) := by decide +kernel
theorem dX6_degreeOf_1 : decode cX6_degreeOf 1 = .ok (.istore_n 2, 1) := by decide +kernel
theorem dX6_degreeOf_2 : decode cX6_degreeOf 2 = .ok (.iload_n 2, 1) := by decide +kernel
theorem dX6_degreeOf_3 : decode cX6_degreeOf 3 = .ok (.ifCond .lt 25, 3) := by decide +kernel
theorem dX6_degreeOf_6 : decode cX6_degreeOf 6 = .ok (.aload_n 0, 1) := by decide +kernel
theorem dX6_degreeOf_7 : decode cX6_degreeOf 7 = .ok (.getfield 19, 3) := by decide +kernel
theorem dX6_degreeOf_10 : decode cX6_degreeOf 10 = .ok (.iload_n 1, 1) := by decide +kernel
theorem dX6_degreeOf_11 : decode cX6_degreeOf 11 = .ok (.iload_n 2, 1) := by decide +kernel
theorem dX6_degreeOf_12 : decode cX6_degreeOf 12 = .ok (.invokevirtual 141, 3) := by decide +kernel
theorem dX6_degreeOf_15 : decode cX6_degreeOf 15 = .ok (.lconst 0, 1) := by decide +kernel
theorem dX6_degreeOf_16 : decode cX6_degreeOf 16 = .ok (.lcmp, 1) := by decide +kernel
theorem dX6_degreeOf_17 : decode cX6_degreeOf 17 = .ok (.ifCond .eq 5, 3) := by decide +kernel
theorem dX6_degreeOf_20 : decode cX6_degreeOf 20 = .ok (.iload_n 2, 1) := by decide +kernel
theorem dX6_degreeOf_21 : decode cX6_degreeOf 21 = .ok (.ireturn, 1) := by decide +kernel
theorem dX6_degreeOf_22 : decode cX6_degreeOf 22 = .ok (.iinc 2 (-1), 3) := by decide +kernel
theorem dX6_degreeOf_25 : decode cX6_degreeOf 25 = .ok (.goto (-23), 3) := by decide +kernel
theorem dX6_degreeOf_28 : decode cX6_degreeOf 28 = .ok (.iconst (-1), 1) := by decide +kernel
theorem dX6_degreeOf_29 : decode cX6_degreeOf 29 = .ok (.ireturn, 1) := by decide +kernel
theorem dX6_coefficient_0 : decode cX6_coefficient 0 = .ok (.iload_n 2, 1) := by decide +kernel
theorem dX6_coefficient_1 : decode cX6_coefficient 1 = .ok (.iconst 0, 1) := by decide +kernel
theorem dX6_coefficient_2 : decode cX6_coefficient 2 = .ok (.iconst 4, 1) := by decide +kernel
theorem dX6_coefficient_3 : decode cX6_coefficient 3 = .ok (.invokestatic 62, 3) := by decide +kernel
theorem dX6_coefficient_6 : decode cX6_coefficient 6 = .ok (.aload_n 0, 1) := by decide +kernel
theorem dX6_coefficient_7 : decode cX6_coefficient 7 = .ok (.getfield 19, 3) := by decide +kernel
theorem dX6_coefficient_10 : decode cX6_coefficient 10 = .ok (.iload_n 1, 1) := by decide +kernel
theorem dX6_coefficient_11 : decode cX6_coefficient 11 = .ok (.iload_n 2, 1) := by decide +kernel
theorem dX6_coefficient_12 : decode cX6_coefficient 12 = .ok (.invokevirtual 141, 3) := by decide +kernel
theorem dX6_coefficient_15 : decode cX6_coefficient 15 = .ok (.lreturn, 1) := by decide +kernel
theorem dX6_kindAt_0 : decode cX6_kindAt 0 = .ok (.iload_n 1, 1) := by decide +kernel
theorem dX6_kindAt_1 : decode cX6_kindAt 1 = .ok (.bipush 12, 2) := by decide +kernel
theorem dX6_kindAt_3 : decode cX6_kindAt 3 = .ok (.invokestatic 119, 3) := by decide +kernel
theorem dX6_kindAt_6 : decode cX6_kindAt 6 = .ok (.aload_n 0, 1) := by decide +kernel
theorem dX6_kindAt_7 : decode cX6_kindAt 7 = .ok (.getfield 19, 3) := by decide +kernel
theorem dX6_kindAt_10 : decode cX6_kindAt 10 = .ok (.iload_n 1, 1) := by decide +kernel
theorem dX6_kindAt_11 : decode cX6_kindAt 11 = .ok (.invokevirtual 145, 3) := by decide +kernel
theorem dX6_kindAt_14 : decode cX6_kindAt 14 = .ok (.ireturn, 1) := by decide +kernel
theorem dX6_value_0 : decode cX6_value 0 = .ok (.iload_n 1, 1) := by decide +kernel
theorem dX6_value_1 : decode cX6_value 1 = .ok (.bipush 12, 2) := by decide +kernel
theorem dX6_value_3 : decode cX6_value 3 = .ok (.invokestatic 119, 3) := by decide +kernel
theorem dX6_value_6 : decode cX6_value 6 = .ok (.iload_n 2, 1) := by decide +kernel
theorem dX6_value_7 : decode cX6_value 7 = .ok (.invokestatic 148, 3) := by decide +kernel
theorem dX6_value_10 : decode cX6_value 10 = .ok (.aload_n 0, 1) := by decide +kernel
theorem dX6_value_11 : decode cX6_value 11 = .ok (.aload_n 0, 1) := by decide +kernel
theorem dX6_value_12 : decode cX6_value 12 = .ok (.getfield 19, 3) := by decide +kernel
theorem dX6_value_15 : decode cX6_value 15 = .ok (.iload_n 1, 1) := by decide +kernel
theorem dX6_value_16 : decode cX6_value 16 = .ok (.invokevirtual 151, 3) := by decide +kernel
theorem dX6_value_19 : decode cX6_value 19 = .ok (.aload_n 0, 1) := by decide +kernel
theorem dX6_value_20 : decode cX6_value 20 = .ok (.getfield 43, 3) := by decide +kernel
theorem dX6_value_23 : decode cX6_value 23 = .ok (.iload_n 2, 1) := by decide +kernel
theorem dX6_value_24 : decode cX6_value 24 = .ok (.invokevirtual 155, 3) := by decide +kernel
theorem dX6_value_27 : decode cX6_value 27 = .ok (.lreturn, 1) := by decide +kernel
theorem dX6_about_0 : decode cX6_about 0 = .ok (.iload_n 1, 1) := by decide +kernel
theorem dX6_about_1 : decode cX6_about 1 = .ok (.bipush 12, 2) := by decide +kernel
theorem dX6_about_3 : decode cX6_about 3 = .ok (.invokestatic 119, 3) := by decide +kernel
theorem dX6_about_6 : decode cX6_about 6 = .ok (.aload_n 0, 1) := by decide +kernel
theorem dX6_about_7 : decode cX6_about 7 = .ok (.aload_n 0, 1) := by decide +kernel
theorem dX6_about_8 : decode cX6_about 8 = .ok (.getfield 19, 3) := by decide +kernel
theorem dX6_about_11 : decode cX6_about 11 = .ok (.iload_n 1, 1) := by decide +kernel
theorem dX6_about_12 : decode cX6_about 12 = .ok (.invokevirtual 151, 3) := by decide +kernel
theorem dX6_about_15 : decode cX6_about 15 = .ok (.aload_n 0, 1) := by decide +kernel
theorem dX6_about_16 : decode cX6_about 16 = .ok (.getfield 43, 3) := by decide +kernel
theorem dX6_about_19 : decode cX6_about 19 = .ok (.iconst 0, 1) := by decide +kernel
theorem dX6_about_20 : decode cX6_about 20 = .ok (.invokevirtual 155, 3) := by decide +kernel
theorem dX6_about_23 : decode cX6_about 23 = .ok (.l2d, 1) := by decide +kernel
theorem dX6_about_24 : decode cX6_about 24 = .ok (.dstore_n 2, 1) := by decide +kernel
theorem dX6_about_25 : decode cX6_about 25 = .ok (.aload_n 0, 1) := by decide +kernel
theorem dX6_about_26 : decode cX6_about 26 = .ok (.getfield 43, 3) := by decide +kernel
theorem dX6_about_29 : decode cX6_about 29 = .ok (.iconst 1, 1) := by decide +kernel
theorem dX6_about_30 : decode cX6_about 30 = .ok (.invokevirtual 155, 3) := by decide +kernel
theorem dX6_about_33 : decode cX6_about 33 = .ok (.l2d, 1) := by decide +kernel
theorem dX6_about_34 : decode cX6_about 34 = .ok (.dstore 4, 2) := by decide +kernel
theorem dX6_about_36 : decode cX6_about 36 = .ok (.dload 4, 2) := by decide +kernel
theorem dX6_about_38 : decode cX6_about 38 = .ok (.dconst 0, 1) := by decide +kernel
theorem dX6_about_39 : decode cX6_about 39 = .ok (.dcmp .l, 1) := by decide +kernel
theorem dX6_about_40 : decode cX6_about 40 = .ok (.ifCond .ne 7, 3) := by decide +kernel
theorem dX6_about_43 : decode cX6_about 43 = .ok (.dconst 0, 1) := by decide +kernel
theorem dX6_about_44 : decode cX6_about 44 = .ok (.goto 7, 3) := by decide +kernel
theorem dX6_about_47 : decode cX6_about 47 = .ok (.dload_n 2, 1) := by decide +kernel
theorem dX6_about_48 : decode cX6_about 48 = .ok (.dload 4, 2) := by decide +kernel
theorem dX6_about_50 : decode cX6_about 50 = .ok (.ddiv, 1) := by decide +kernel
theorem dX6_about_51 : decode cX6_about 51 = .ok (.dreturn, 1) := by decide +kernel
theorem dX6_isMet_0 : decode cX6_isMet 0 = .ok (.aload_n 0, 1) := by decide +kernel
theorem dX6_isMet_1 : decode cX6_isMet 1 = .ok (.iload_n 1, 1) := by decide +kernel
theorem dX6_isMet_2 : decode cX6_isMet 2 = .ok (.invokevirtual 103, 3) := by decide +kernel
theorem dX6_isMet_5 : decode cX6_isMet 5 = .ok (.aload_n 0, 1) := by decide +kernel
theorem dX6_isMet_6 : decode cX6_isMet 6 = .ok (.iload_n 1, 1) := by decide +kernel
theorem dX6_isMet_7 : decode cX6_isMet 7 = .ok (.invokevirtual 158, 3) := by decide +kernel
theorem dX6_isMet_10 : decode cX6_isMet 10 = .ok (.ireturn, 1) := by decide +kernel
theorem dX6_missed_0 : decode cX6_missed 0 = .ok (.iconst 0, 1) := by decide +kernel
theorem dX6_missed_1 : decode cX6_missed 1 = .ok (.istore_n 1, 1) := by decide +kernel
theorem dX6_missed_2 : decode cX6_missed 2 = .ok (.iconst 0, 1) := by decide +kernel
theorem dX6_missed_3 : decode cX6_missed 3 = .ok (.istore_n 2, 1) := by decide +kernel
theorem dX6_missed_4 : decode cX6_missed 4 = .ok (.iload_n 2, 1) := by decide +kernel
theorem dX6_missed_5 : decode cX6_missed 5 = .ok (.aload_n 0, 1) := by decide +kernel
theorem dX6_missed_6 : decode cX6_missed 6 = .ok (.getfield 19, 3) := by decide +kernel
theorem dX6_missed_9 : decode cX6_missed 9 = .ok (.getfield 66, 3) := by decide +kernel
theorem dX6_missed_12 : decode cX6_missed 12 = .ok (.invokevirtual 87, 3) := by decide +kernel
theorem dX6_missed_15 : decode cX6_missed 15 = .ok (.if_icmp .ge 20, 3) := by decide +kernel
theorem dX6_missed_18 : decode cX6_missed 18 = .ok (.aload_n 0, 1) := by decide +kernel
theorem dX6_missed_19 : decode cX6_missed 19 = .ok (.iload_n 2, 1) := by decide +kernel
theorem dX6_missed_20 : decode cX6_missed 20 = .ok (.invokevirtual 158, 3) := by decide +kernel
theorem dX6_missed_23 : decode cX6_missed 23 = .ok (.ifCond .ne 6, 3) := by decide +kernel
theorem dX6_missed_26 : decode cX6_missed 26 = .ok (.iinc 1 1, 3) := by decide +kernel
theorem dX6_missed_29 : decode cX6_missed 29 = .ok (.iinc 2 1, 3) := by decide +kernel
theorem dX6_missed_32 : decode cX6_missed 32 = .ok (.goto (-28), 3) := by decide +kernel
theorem dX6_missed_35 : decode cX6_missed 35 = .ok (.iload_n 1, 1) := by decide +kernel
theorem dX6_missed_36 : decode cX6_missed 36 = .ok (.ireturn, 1) := by decide +kernel
theorem dX6_many_0 : decode cX6_many 0 = .ok (.iconst 0, 1) := by decide +kernel
theorem dX6_many_1 : decode cX6_many 1 = .ok (.istore_n 2, 1) := by decide +kernel
theorem dX6_many_2 : decode cX6_many 2 = .ok (.bipush (-12), 2) := by decide +kernel
theorem dX6_many_4 : decode cX6_many 4 = .ok (.istore_n 3, 1) := by decide +kernel
theorem dX6_many_5 : decode cX6_many 5 = .ok (.iload_n 3, 1) := by decide +kernel
theorem dX6_many_6 : decode cX6_many 6 = .ok (.bipush 12, 2) := by decide +kernel
theorem dX6_many_8 : decode cX6_many 8 = .ok (.if_icmp .gt 24, 3) := by decide +kernel
theorem dX6_many_11 : decode cX6_many 11 = .ok (.aload_n 0, 1) := by decide +kernel
theorem dX6_many_12 : decode cX6_many 12 = .ok (.getfield 19, 3) := by decide +kernel
theorem dX6_many_15 : decode cX6_many 15 = .ok (.iload_n 3, 1) := by decide +kernel
theorem dX6_many_16 : decode cX6_many 16 = .ok (.invokevirtual 145, 3) := by decide +kernel
theorem dX6_many_19 : decode cX6_many 19 = .ok (.iload_n 1, 1) := by decide +kernel
theorem dX6_many_20 : decode cX6_many 20 = .ok (.if_icmp .ne 6, 3) := by decide +kernel
theorem dX6_many_23 : decode cX6_many 23 = .ok (.iinc 2 1, 3) := by decide +kernel
theorem dX6_many_26 : decode cX6_many 26 = .ok (.iinc 3 1, 3) := by decide +kernel
theorem dX6_many_29 : decode cX6_many 29 = .ok (.goto (-24), 3) := by decide +kernel
theorem dX6_many_32 : decode cX6_many 32 = .ok (.iload_n 2, 1) := by decide +kernel
theorem dX6_many_33 : decode cX6_many 33 = .ok (.ireturn, 1) := by decide +kernel
theorem dX6_hiddenPoles_0 : decode cX6_hiddenPoles 0 = .ok (.iconst 0, 1) := by decide +kernel
theorem dX6_hiddenPoles_1 : decode cX6_hiddenPoles 1 = .ok (.istore_n 1, 1) := by decide +kernel
theorem dX6_hiddenPoles_2 : decode cX6_hiddenPoles 2 = .ok (.bipush (-12), 2) := by decide +kernel
theorem dX6_hiddenPoles_4 : decode cX6_hiddenPoles 4 = .ok (.istore_n 2, 1) := by decide +kernel
theorem dX6_hiddenPoles_5 : decode cX6_hiddenPoles 5 = .ok (.iload_n 2, 1) := by decide +kernel
theorem dX6_hiddenPoles_6 : decode cX6_hiddenPoles 6 = .ok (.bipush 12, 2) := by decide +kernel
theorem dX6_hiddenPoles_8 : decode cX6_hiddenPoles 8 = .ok (.if_icmp .ge 23, 3) := by decide +kernel
theorem dX6_hiddenPoles_11 : decode cX6_hiddenPoles 11 = .ok (.aload_n 0, 1) := by decide +kernel
theorem dX6_hiddenPoles_12 : decode cX6_hiddenPoles 12 = .ok (.getfield 19, 3) := by decide +kernel
theorem dX6_hiddenPoles_15 : decode cX6_hiddenPoles 15 = .ok (.iload_n 2, 1) := by decide +kernel
theorem dX6_hiddenPoles_16 : decode cX6_hiddenPoles 16 = .ok (.invokevirtual 161, 3) := by decide +kernel
theorem dX6_hiddenPoles_19 : decode cX6_hiddenPoles 19 = .ok (.ifCond .eq 6, 3) := by decide +kernel
theorem dX6_hiddenPoles_22 : decode cX6_hiddenPoles 22 = .ok (.iinc 1 1, 3) := by decide +kernel
theorem dX6_hiddenPoles_25 : decode cX6_hiddenPoles 25 = .ok (.iinc 2 1, 3) := by decide +kernel
theorem dX6_hiddenPoles_28 : decode cX6_hiddenPoles 28 = .ok (.goto (-23), 3) := by decide +kernel
theorem dX6_hiddenPoles_31 : decode cX6_hiddenPoles 31 = .ok (.iload_n 1, 1) := by decide +kernel
theorem dX6_hiddenPoles_32 : decode cX6_hiddenPoles 32 = .ok (.ireturn, 1) := by decide +kernel
theorem dX6_nextPole_0 : decode cX6_nextPole 0 = .ok (.iload_n 1, 1) := by decide +kernel
theorem dX6_nextPole_1 : decode cX6_nextPole 1 = .ok (.bipush 12, 2) := by decide +kernel
theorem dX6_nextPole_3 : decode cX6_nextPole 3 = .ok (.invokestatic 119, 3) := by decide +kernel
theorem dX6_nextPole_6 : decode cX6_nextPole 6 = .ok (.iload_n 1, 1) := by decide +kernel
theorem dX6_nextPole_7 : decode cX6_nextPole 7 = .ok (.istore_n 2, 1) := by decide +kernel
theorem dX6_nextPole_8 : decode cX6_nextPole 8 = .ok (.iload_n 2, 1) := by decide +kernel
theorem dX6_nextPole_9 : decode cX6_nextPole 9 = .ok (.bipush 12, 2) := by decide +kernel
theorem dX6_nextPole_11 : decode cX6_nextPole 11 = .ok (.if_icmp .gt 40, 3) := by decide +kernel
theorem dX6_nextPole_14 : decode cX6_nextPole 14 = .ok (.aload_n 0, 1) := by decide +kernel
theorem dX6_nextPole_15 : decode cX6_nextPole 15 = .ok (.getfield 19, 3) := by decide +kernel
theorem dX6_nextPole_18 : decode cX6_nextPole 18 = .ok (.iload_n 2, 1) := by decide +kernel
theorem dX6_nextPole_19 : decode cX6_nextPole 19 = .ok (.invokevirtual 145, 3) := by decide +kernel
theorem dX6_nextPole_22 : decode cX6_nextPole 22 = .ok (.iconst 2, 1) := by decide +kernel
theorem dX6_nextPole_23 : decode cX6_nextPole 23 = .ok (.if_icmp .eq 20, 3) := by decide +kernel
theorem dX6_nextPole_26 : decode cX6_nextPole 26 = .ok (.iload_n 2, 1) := by decide +kernel
theorem dX6_nextPole_27 : decode cX6_nextPole 27 = .ok (.bipush 12, 2) := by decide +kernel
theorem dX6_nextPole_29 : decode cX6_nextPole 29 = .ok (.if_icmp .ge 16, 3) := by decide +kernel
theorem dX6_nextPole_32 : decode cX6_nextPole 32 = .ok (.aload_n 0, 1) := by decide +kernel
theorem dX6_nextPole_33 : decode cX6_nextPole 33 = .ok (.getfield 19, 3) := by decide +kernel
theorem dX6_nextPole_36 : decode cX6_nextPole 36 = .ok (.iload_n 2, 1) := by decide +kernel
theorem dX6_nextPole_37 : decode cX6_nextPole 37 = .ok (.invokevirtual 161, 3) := by decide +kernel
theorem dX6_nextPole_40 : decode cX6_nextPole 40 = .ok (.ifCond .eq 5, 3) := by decide +kernel
theorem dX6_nextPole_43 : decode cX6_nextPole 43 = .ok (.iload_n 2, 1) := by decide +kernel
theorem dX6_nextPole_44 : decode cX6_nextPole 44 = .ok (.ireturn, 1) := by decide +kernel
theorem dX6_nextPole_45 : decode cX6_nextPole 45 = .ok (.iinc 2 1, 3) := by decide +kernel
theorem dX6_nextPole_48 : decode cX6_nextPole 48 = .ok (.goto (-40), 3) := by decide +kernel
theorem dX6_nextPole_51 : decode cX6_nextPole 51 = .ok (.new 126, 3) := by decide +kernel
theorem dX6_nextPole_54 : decode cX6_nextPole 54 = .ok (.dup, 1) := by decide +kernel
theorem dX6_nextPole_55 : decode cX6_nextPole 55 = .ok (.ldc 164, 2) := by decide +kernel
theorem dX6_nextPole_57 : decode cX6_nextPole 57 = .ok (.invokespecial 130, 3) := by decide +kernel
theorem dX6_nextPole_60 : decode cX6_nextPole 60 = .ok (.athrow, 1) := by decide +kernel
theorem dX6_extreme_0 : decode cX6_extreme 0 = .ok (.iconst 0, 1) := by decide +kernel
theorem dX6_extreme_1 : decode cX6_extreme 1 = .ok (.istore_n 2, 1) := by decide +kernel
theorem dX6_extreme_2 : decode cX6_extreme 2 = .ok (.iconst 0, 1) := by decide +kernel
theorem dX6_extreme_3 : decode cX6_extreme 3 = .ok (.istore_n 3, 1) := by decide +kernel
theorem dX6_extreme_4 : decode cX6_extreme 4 = .ok (.bipush (-12), 2) := by decide +kernel
theorem dX6_extreme_6 : decode cX6_extreme 6 = .ok (.istore 4, 2) := by decide +kernel
theorem dX6_extreme_8 : decode cX6_extreme 8 = .ok (.iload 4, 2) := by decide +kernel
theorem dX6_extreme_10 : decode cX6_extreme 10 = .ok (.bipush 12, 2) := by decide +kernel
theorem dX6_extreme_12 : decode cX6_extreme 12 = .ok (.if_icmp .gt 75, 3) := by decide +kernel
theorem dX6_extreme_15 : decode cX6_extreme 15 = .ok (.aload_n 0, 1) := by decide +kernel
theorem dX6_extreme_16 : decode cX6_extreme 16 = .ok (.getfield 19, 3) := by decide +kernel
theorem dX6_extreme_19 : decode cX6_extreme 19 = .ok (.iload 4, 2) := by decide +kernel
theorem dX6_extreme_21 : decode cX6_extreme 21 = .ok (.aload_n 0, 1) := by decide +kernel
theorem dX6_extreme_22 : decode cX6_extreme 22 = .ok (.getfield 43, 3) := by decide +kernel
theorem dX6_extreme_25 : decode cX6_extreme 25 = .ok (.invokevirtual 166, 3) := by decide +kernel
theorem dX6_extreme_28 : decode cX6_extreme 28 = .ok (.ifCond .eq 53, 3) := by decide +kernel
theorem dX6_extreme_31 : decode cX6_extreme 31 = .ok (.aload_n 0, 1) := by decide +kernel
theorem dX6_extreme_32 : decode cX6_extreme 32 = .ok (.getfield 43, 3) := by decide +kernel
theorem dX6_extreme_35 : decode cX6_extreme 35 = .ok (.aload_n 0, 1) := by decide +kernel
theorem dX6_extreme_36 : decode cX6_extreme 36 = .ok (.getfield 47, 3) := by decide +kernel
theorem dX6_extreme_39 : decode cX6_extreme 39 = .ok (.invokevirtual 170, 3) := by decide +kernel
theorem dX6_extreme_42 : decode cX6_extreme 42 = .ok (.istore 5, 2) := by decide +kernel
theorem dX6_extreme_44 : decode cX6_extreme 44 = .ok (.iload_n 2, 1) := by decide +kernel
theorem dX6_extreme_45 : decode cX6_extreme 45 = .ok (.ifCond .eq 20, 3) := by decide +kernel
theorem dX6_extreme_48 : decode cX6_extreme 48 = .ok (.iload_n 1, 1) := by decide +kernel
theorem dX6_extreme_49 : decode cX6_extreme 49 = .ok (.ifCond .eq 11, 3) := by decide +kernel
theorem dX6_extreme_52 : decode cX6_extreme 52 = .ok (.iload 5, 2) := by decide +kernel
theorem dX6_extreme_54 : decode cX6_extreme 54 = .ok (.ifCond .le 27, 3) := by decide +kernel
theorem dX6_extreme_57 : decode cX6_extreme 57 = .ok (.goto 8, 3) := by decide +kernel
theorem dX6_extreme_60 : decode cX6_extreme 60 = .ok (.iload 5, 2) := by decide +kernel
theorem dX6_extreme_62 : decode cX6_extreme 62 = .ok (.ifCond .ge 19, 3) := by decide +kernel
theorem dX6_extreme_65 : decode cX6_extreme 65 = .ok (.aload_n 0, 1) := by decide +kernel
theorem dX6_extreme_66 : decode cX6_extreme 66 = .ok (.getfield 47, 3) := by decide +kernel
theorem dX6_extreme_69 : decode cX6_extreme 69 = .ok (.aload_n 0, 1) := by decide +kernel
theorem dX6_extreme_70 : decode cX6_extreme 70 = .ok (.getfield 43, 3) := by decide +kernel
theorem dX6_extreme_73 : decode cX6_extreme 73 = .ok (.invokevirtual 174, 3) := by decide +kernel
theorem dX6_extreme_76 : decode cX6_extreme 76 = .ok (.iload 4, 2) := by decide +kernel
theorem dX6_extreme_78 : decode cX6_extreme 78 = .ok (.istore_n 3, 1) := by decide +kernel
theorem dX6_extreme_79 : decode cX6_extreme 79 = .ok (.iconst 1, 1) := by decide +kernel
theorem dX6_extreme_80 : decode cX6_extreme 80 = .ok (.istore_n 2, 1) := by decide +kernel
theorem dX6_extreme_81 : decode cX6_extreme 81 = .ok (.iinc 4 1, 3) := by decide +kernel
theorem dX6_extreme_84 : decode cX6_extreme 84 = .ok (.goto (-76), 3) := by decide +kernel
theorem dX6_extreme_87 : decode cX6_extreme 87 = .ok (.iload_n 2, 1) := by decide +kernel
theorem dX6_extreme_88 : decode cX6_extreme 88 = .ok (.ifCond .ne 13, 3) := by decide +kernel
theorem dX6_extreme_91 : decode cX6_extreme 91 = .ok (.new 126, 3) := by decide +kernel
theorem dX6_extreme_94 : decode cX6_extreme 94 = .ok (.dup, 1) := by decide +kernel
theorem dX6_extreme_95 : decode cX6_extreme 95 = .ok (.ldc 177, 2) := by decide +kernel
theorem dX6_extreme_97 : decode cX6_extreme 97 = .ok (.invokespecial 130, 3) := by decide +kernel
theorem dX6_extreme_100 : decode cX6_extreme 100 = .ok (.athrow, 1) := by decide +kernel
theorem dX6_extreme_101 : decode cX6_extreme 101 = .ok (.iload_n 3, 1) := by decide +kernel
theorem dX6_extreme_102 : decode cX6_extreme 102 = .ok (.ireturn, 1) := by decide +kernel
theorem dX6_row_0 : decode cX6_row 0 = .ok (.aload_n 0, 1) := by decide +kernel
theorem dX6_row_1 : decode cX6_row 1 = .ok (.iload_n 1, 1) := by decide +kernel
theorem dX6_row_2 : decode cX6_row 2 = .ok (.invokevirtual 103, 3) := by decide +kernel
theorem dX6_row_5 : decode cX6_row 5 = .ok (.aload_n 0, 1) := by decide +kernel
theorem dX6_row_6 : decode cX6_row 6 = .ok (.iload_n 2, 1) := by decide +kernel
theorem dX6_row_7 : decode cX6_row 7 = .ok (.invokevirtual 103, 3) := by decide +kernel
theorem dX6_row_10 : decode cX6_row 10 = .ok (.iload_n 3, 1) := by decide +kernel
theorem dX6_row_11 : decode cX6_row 11 = .ok (.invokestatic 148, 3) := by decide +kernel
theorem dX6_row_14 : decode cX6_row 14 = .ok (.aload_n 0, 1) := by decide +kernel
theorem dX6_row_15 : decode cX6_row 15 = .ok (.iload_n 1, 1) := by decide +kernel
theorem dX6_row_16 : decode cX6_row 16 = .ok (.invokevirtual 179, 3) := by decide +kernel
theorem dX6_row_19 : decode cX6_row 19 = .ok (.aload_n 0, 1) := by decide +kernel
theorem dX6_row_20 : decode cX6_row 20 = .ok (.getfield 19, 3) := by decide +kernel
theorem dX6_row_23 : decode cX6_row 23 = .ok (.iload_n 1, 1) := by decide +kernel
theorem dX6_row_24 : decode cX6_row 24 = .ok (.iload_n 2, 1) := by decide +kernel
theorem dX6_row_25 : decode cX6_row 25 = .ok (.aload_n 0, 1) := by decide +kernel
theorem dX6_row_26 : decode cX6_row 26 = .ok (.getfield 43, 3) := by decide +kernel
theorem dX6_row_29 : decode cX6_row 29 = .ok (.invokevirtual 182, 3) := by decide +kernel
theorem dX6_row_32 : decode cX6_row 32 = .ok (.aload_n 0, 1) := by decide +kernel
theorem dX6_row_33 : decode cX6_row 33 = .ok (.getfield 43, 3) := by decide +kernel
theorem dX6_row_36 : decode cX6_row 36 = .ok (.iload_n 3, 1) := by decide +kernel
theorem dX6_row_37 : decode cX6_row 37 = .ok (.invokevirtual 155, 3) := by decide +kernel
theorem dX6_row_40 : decode cX6_row 40 = .ok (.lreturn, 1) := by decide +kernel
theorem dX6_slope_0 : decode cX6_slope 0 = .ok (.aload_n 0, 1) := by decide +kernel
theorem dX6_slope_1 : decode cX6_slope 1 = .ok (.iload_n 1, 1) := by decide +kernel
theorem dX6_slope_2 : decode cX6_slope 2 = .ok (.invokevirtual 103, 3) := by decide +kernel
theorem dX6_slope_5 : decode cX6_slope 5 = .ok (.iload_n 2, 1) := by decide +kernel
theorem dX6_slope_6 : decode cX6_slope 6 = .ok (.invokestatic 148, 3) := by decide +kernel
theorem dX6_slope_9 : decode cX6_slope 9 = .ok (.aload_n 0, 1) := by decide +kernel
theorem dX6_slope_10 : decode cX6_slope 10 = .ok (.iload_n 1, 1) := by decide +kernel
theorem dX6_slope_11 : decode cX6_slope 11 = .ok (.invokevirtual 179, 3) := by decide +kernel
theorem dX6_slope_14 : decode cX6_slope 14 = .ok (.aload_n 0, 1) := by decide +kernel
theorem dX6_slope_15 : decode cX6_slope 15 = .ok (.getfield 19, 3) := by decide +kernel
theorem dX6_slope_18 : decode cX6_slope 18 = .ok (.iload_n 1, 1) := by decide +kernel
theorem dX6_slope_19 : decode cX6_slope 19 = .ok (.aload_n 0, 1) := by decide +kernel
theorem dX6_slope_20 : decode cX6_slope 20 = .ok (.getfield 43, 3) := by decide +kernel
theorem dX6_slope_23 : decode cX6_slope 23 = .ok (.invokevirtual 186, 3) := by decide +kernel
theorem dX6_slope_26 : decode cX6_slope 26 = .ok (.aload_n 0, 1) := by decide +kernel
theorem dX6_slope_27 : decode cX6_slope 27 = .ok (.getfield 43, 3) := by decide +kernel
theorem dX6_slope_30 : decode cX6_slope 30 = .ok (.iload_n 2, 1) := by decide +kernel
theorem dX6_slope_31 : decode cX6_slope 31 = .ok (.invokevirtual 155, 3) := by decide +kernel
theorem dX6_slope_34 : decode cX6_slope 34 = .ok (.lreturn, 1) := by decide +kernel
theorem dX6_steepest_0 : decode cX6_steepest 0 = .ok (.iconst (-1), 1) := by decide +kernel
theorem dX6_steepest_1 : decode cX6_steepest 1 = .ok (.istore_n 1, 1) := by decide +kernel
theorem dX6_steepest_2 : decode cX6_steepest 2 = .ok (.iconst 0, 1) := by decide +kernel
theorem dX6_steepest_3 : decode cX6_steepest 3 = .ok (.istore_n 2, 1) := by decide +kernel
theorem dX6_steepest_4 : decode cX6_steepest 4 = .ok (.iload_n 2, 1) := by decide +kernel
theorem dX6_steepest_5 : decode cX6_steepest 5 = .ok (.aload_n 0, 1) := by decide +kernel
theorem dX6_steepest_6 : decode cX6_steepest 6 = .ok (.getfield 19, 3) := by decide +kernel
theorem dX6_steepest_9 : decode cX6_steepest 9 = .ok (.getfield 66, 3) := by decide +kernel
theorem dX6_steepest_12 : decode cX6_steepest 12 = .ok (.invokevirtual 87, 3) := by decide +kernel
theorem dX6_steepest_15 : decode cX6_steepest 15 = .ok (.if_icmp .ge 66, 3) := by decide +kernel
theorem dX6_steepest_18 : decode cX6_steepest 18 = .ok (.aload_n 0, 1) := by decide +kernel
theorem dX6_steepest_19 : decode cX6_steepest 19 = .ok (.getfield 19, 3) := by decide +kernel
theorem dX6_steepest_22 : decode cX6_steepest 22 = .ok (.iload_n 2, 1) := by decide +kernel
theorem dX6_steepest_23 : decode cX6_steepest 23 = .ok (.invokevirtual 133, 3) := by decide +kernel
theorem dX6_steepest_26 : decode cX6_steepest 26 = .ok (.lconst 0, 1) := by decide +kernel
theorem dX6_steepest_27 : decode cX6_steepest 27 = .ok (.lcmp, 1) := by decide +kernel
theorem dX6_steepest_28 : decode cX6_steepest 28 = .ok (.ifCond .eq 47, 3) := by decide +kernel
theorem dX6_steepest_31 : decode cX6_steepest 31 = .ok (.aload_n 0, 1) := by decide +kernel
theorem dX6_steepest_32 : decode cX6_steepest 32 = .ok (.getfield 19, 3) := by decide +kernel
theorem dX6_steepest_35 : decode cX6_steepest 35 = .ok (.iload_n 2, 1) := by decide +kernel
theorem dX6_steepest_36 : decode cX6_steepest 36 = .ok (.aload_n 0, 1) := by decide +kernel
theorem dX6_steepest_37 : decode cX6_steepest 37 = .ok (.getfield 43, 3) := by decide +kernel
theorem dX6_steepest_40 : decode cX6_steepest 40 = .ok (.invokevirtual 186, 3) := by decide +kernel
theorem dX6_steepest_43 : decode cX6_steepest 43 = .ok (.iload_n 1, 1) := by decide +kernel
theorem dX6_steepest_44 : decode cX6_steepest 44 = .ok (.iconst (-1), 1) := by decide +kernel
theorem dX6_steepest_45 : decode cX6_steepest 45 = .ok (.if_icmp .eq 17, 3) := by decide +kernel
theorem dX6_steepest_48 : decode cX6_steepest 48 = .ok (.aload_n 0, 1) := by decide +kernel
theorem dX6_steepest_49 : decode cX6_steepest 49 = .ok (.getfield 43, 3) := by decide +kernel
theorem dX6_steepest_52 : decode cX6_steepest 52 = .ok (.aload_n 0, 1) := by decide +kernel
theorem dX6_steepest_53 : decode cX6_steepest 53 = .ok (.getfield 47, 3) := by decide +kernel
theorem dX6_steepest_56 : decode cX6_steepest 56 = .ok (.invokevirtual 170, 3) := by decide +kernel
theorem dX6_steepest_59 : decode cX6_steepest 59 = .ok (.ifCond .le 16, 3) := by decide +kernel
theorem dX6_steepest_62 : decode cX6_steepest 62 = .ok (.aload_n 0, 1) := by decide +kernel
theorem dX6_steepest_63 : decode cX6_steepest 63 = .ok (.getfield 47, 3) := by decide +kernel
theorem dX6_steepest_66 : decode cX6_steepest 66 = .ok (.aload_n 0, 1) := by decide +kernel
theorem dX6_steepest_67 : decode cX6_steepest 67 = .ok (.getfield 43, 3) := by decide +kernel
theorem dX6_steepest_70 : decode cX6_steepest 70 = .ok (.invokevirtual 174, 3) := by decide +kernel
theorem dX6_steepest_73 : decode cX6_steepest 73 = .ok (.iload_n 2, 1) := by decide +kernel
theorem dX6_steepest_74 : decode cX6_steepest 74 = .ok (.istore_n 1, 1) := by decide +kernel
theorem dX6_steepest_75 : decode cX6_steepest 75 = .ok (.iinc 2 1, 3) := by decide +kernel
theorem dX6_steepest_78 : decode cX6_steepest 78 = .ok (.goto (-74), 3) := by decide +kernel
theorem dX6_steepest_81 : decode cX6_steepest 81 = .ok (.iload_n 1, 1) := by decide +kernel
theorem dX6_steepest_82 : decode cX6_steepest 82 = .ok (.iconst (-1), 1) := by decide +kernel
theorem dX6_steepest_83 : decode cX6_steepest 83 = .ok (.if_icmp .ne 13, 3) := by decide +kernel
theorem dX6_steepest_86 : decode cX6_steepest 86 = .ok (.new 126, 3) := by decide +kernel
theorem dX6_steepest_89 : decode cX6_steepest 89 = .ok (.dup, 1) := by decide +kernel
theorem dX6_steepest_90 : decode cX6_steepest 90 = .ok (.ldc 190, 2) := by decide +kernel
theorem dX6_steepest_92 : decode cX6_steepest 92 = .ok (.invokespecial 130, 3) := by decide +kernel
theorem dX6_steepest_95 : decode cX6_steepest 95 = .ok (.athrow, 1) := by decide +kernel
theorem dX6_steepest_96 : decode cX6_steepest 96 = .ok (.iload_n 1, 1) := by decide +kernel
theorem dX6_steepest_97 : decode cX6_steepest 97 = .ok (.ireturn, 1) := by decide +kernel
theorem dX6_divided_0 : decode cX6_divided 0 = .ok (.aload_n 0, 1) := by decide +kernel
theorem dX6_divided_1 : decode cX6_divided 1 = .ok (.iload_n 1, 1) := by decide +kernel
theorem dX6_divided_2 : decode cX6_divided 2 = .ok (.invokevirtual 103, 3) := by decide +kernel
theorem dX6_divided_5 : decode cX6_divided 5 = .ok (.aload_n 0, 1) := by decide +kernel
theorem dX6_divided_6 : decode cX6_divided 6 = .ok (.iload_n 2, 1) := by decide +kernel
theorem dX6_divided_7 : decode cX6_divided 7 = .ok (.invokevirtual 103, 3) := by decide +kernel
theorem dX6_divided_10 : decode cX6_divided 10 = .ok (.iload_n 3, 1) := by decide +kernel
theorem dX6_divided_11 : decode cX6_divided 11 = .ok (.invokestatic 148, 3) := by decide +kernel
theorem dX6_divided_14 : decode cX6_divided 14 = .ok (.iload_n 1, 1) := by decide +kernel
theorem dX6_divided_15 : decode cX6_divided 15 = .ok (.iconst 0, 1) := by decide +kernel
theorem dX6_divided_16 : decode cX6_divided 16 = .ok (.iload_n 2, 1) := by decide +kernel
theorem dX6_divided_17 : decode cX6_divided 17 = .ok (.invokestatic 62, 3) := by decide +kernel
theorem dX6_divided_20 : decode cX6_divided 20 = .ok (.aload_n 0, 1) := by decide +kernel
theorem dX6_divided_21 : decode cX6_divided 21 = .ok (.getfield 19, 3) := by decide +kernel
theorem dX6_divided_24 : decode cX6_divided 24 = .ok (.getfield 66, 3) := by decide +kernel
theorem dX6_divided_27 : decode cX6_divided 27 = .ok (.iload_n 1, 1) := by decide +kernel
theorem dX6_divided_28 : decode cX6_divided 28 = .ok (.iload_n 2, 1) := by decide +kernel
theorem dX6_divided_29 : decode cX6_divided 29 = .ok (.aload_n 0, 1) := by decide +kernel
theorem dX6_divided_30 : decode cX6_divided 30 = .ok (.getfield 43, 3) := by decide +kernel
theorem dX6_divided_33 : decode cX6_divided 33 = .ok (.invokevirtual 192, 3) := by decide +kernel
theorem dX6_divided_36 : decode cX6_divided 36 = .ok (.aload_n 0, 1) := by decide +kernel
theorem dX6_divided_37 : decode cX6_divided 37 = .ok (.getfield 43, 3) := by decide +kernel
theorem dX6_divided_40 : decode cX6_divided 40 = .ok (.iload_n 3, 1) := by decide +kernel
theorem dX6_divided_41 : decode cX6_divided 41 = .ok (.invokevirtual 155, 3) := by decide +kernel
theorem dX6_divided_44 : decode cX6_divided 44 = .ok (.lreturn, 1) := by decide +kernel
theorem dX6_plainValue_0 : decode cX6_plainValue 0 = .ok (.iload_n 1, 1) := by decide +kernel
theorem dX6_plainValue_1 : decode cX6_plainValue 1 = .ok (.bipush 12, 2) := by decide +kernel
theorem dX6_plainValue_3 : decode cX6_plainValue 3 = .ok (.invokestatic 119, 3) := by decide +kernel
theorem dX6_plainValue_6 : decode cX6_plainValue 6 = .ok (.iload_n 2, 1) := by decide +kernel
theorem dX6_plainValue_7 : decode cX6_plainValue 7 = .ok (.invokestatic 148, 3) := by decide +kernel
theorem dX6_plainValue_10 : decode cX6_plainValue 10 = .ok (.aload_n 0, 1) := by decide +kernel
theorem dX6_plainValue_11 : decode cX6_plainValue 11 = .ok (.getfield 23, 3) := by decide +kernel
theorem dX6_plainValue_14 : decode cX6_plainValue 14 = .ok (.getfield 66, 3) := by decide +kernel
theorem dX6_plainValue_17 : decode cX6_plainValue 17 = .ok (.aload_n 0, 1) := by decide +kernel
theorem dX6_plainValue_18 : decode cX6_plainValue 18 = .ok (.getfield 19, 3) := by decide +kernel
theorem dX6_plainValue_21 : decode cX6_plainValue 21 = .ok (.getfield 66, 3) := by decide +kernel
theorem dX6_plainValue_24 : decode cX6_plainValue 24 = .ok (.invokevirtual 77, 3) := by decide +kernel
theorem dX6_plainValue_27 : decode cX6_plainValue 27 = .ok (.aload_n 0, 1) := by decide +kernel
theorem dX6_plainValue_28 : decode cX6_plainValue 28 = .ok (.getfield 23, 3) := by decide +kernel
theorem dX6_plainValue_31 : decode cX6_plainValue 31 = .ok (.getfield 66, 3) := by decide +kernel
theorem dX6_plainValue_34 : decode cX6_plainValue 34 = .ok (.iconst 0, 1) := by decide +kernel
theorem dX6_plainValue_35 : decode cX6_plainValue 35 = .ok (.putfield 96, 3) := by decide +kernel
theorem dX6_plainValue_38 : decode cX6_plainValue 38 = .ok (.aload_n 0, 1) := by decide +kernel
theorem dX6_plainValue_39 : decode cX6_plainValue 39 = .ok (.getfield 23, 3) := by decide +kernel
theorem dX6_plainValue_42 : decode cX6_plainValue 42 = .ok (.invokevirtual 83, 3) := by decide +kernel
theorem dX6_plainValue_45 : decode cX6_plainValue 45 = .ok (.aload_n 0, 1) := by decide +kernel
theorem dX6_plainValue_46 : decode cX6_plainValue 46 = .ok (.aload_n 0, 1) := by decide +kernel
theorem dX6_plainValue_47 : decode cX6_plainValue 47 = .ok (.getfield 23, 3) := by decide +kernel
theorem dX6_plainValue_50 : decode cX6_plainValue 50 = .ok (.iload_n 1, 1) := by decide +kernel
theorem dX6_plainValue_51 : decode cX6_plainValue 51 = .ok (.invokevirtual 151, 3) := by decide +kernel
theorem dX6_plainValue_54 : decode cX6_plainValue 54 = .ok (.aload_n 0, 1) := by decide +kernel
theorem dX6_plainValue_55 : decode cX6_plainValue 55 = .ok (.getfield 43, 3) := by decide +kernel
theorem dX6_plainValue_58 : decode cX6_plainValue 58 = .ok (.iload_n 2, 1) := by decide +kernel
theorem dX6_plainValue_59 : decode cX6_plainValue 59 = .ok (.invokevirtual 155, 3) := by decide +kernel
theorem dX6_plainValue_62 : decode cX6_plainValue 62 = .ok (.lreturn, 1) := by decide +kernel
theorem dX6_valueIf_0 : decode cX6_valueIf 0 = .ok (.aload_n 0, 1) := by decide +kernel
theorem dX6_valueIf_1 : decode cX6_valueIf 1 = .ok (.iload_n 1, 1) := by decide +kernel
theorem dX6_valueIf_2 : decode cX6_valueIf 2 = .ok (.invokevirtual 103, 3) := by decide +kernel
theorem dX6_valueIf_5 : decode cX6_valueIf 5 = .ok (.iload_n 2, 1) := by decide +kernel
theorem dX6_valueIf_6 : decode cX6_valueIf 6 = .ok (.bipush 9, 2) := by decide +kernel
theorem dX6_valueIf_8 : decode cX6_valueIf 8 = .ok (.invokestatic 119, 3) := by decide +kernel
theorem dX6_valueIf_11 : decode cX6_valueIf 11 = .ok (.iload_n 3, 1) := by decide +kernel
theorem dX6_valueIf_12 : decode cX6_valueIf 12 = .ok (.bipush 12, 2) := by decide +kernel
theorem dX6_valueIf_14 : decode cX6_valueIf 14 = .ok (.invokestatic 119, 3) := by decide +kernel
theorem dX6_valueIf_17 : decode cX6_valueIf 17 = .ok (.iload 4, 2) := by decide +kernel
theorem dX6_valueIf_19 : decode cX6_valueIf 19 = .ok (.invokestatic 148, 3) := by decide +kernel
theorem dX6_valueIf_22 : decode cX6_valueIf 22 = .ok (.aload_n 0, 1) := by decide +kernel
theorem dX6_valueIf_23 : decode cX6_valueIf 23 = .ok (.iload_n 1, 1) := by decide +kernel
theorem dX6_valueIf_24 : decode cX6_valueIf 24 = .ok (.iload_n 2, 1) := by decide +kernel
theorem dX6_valueIf_25 : decode cX6_valueIf 25 = .ok (.invokevirtual 195, 3) := by decide +kernel
theorem dX6_valueIf_28 : decode cX6_valueIf 28 = .ok (.aload_n 0, 1) := by decide +kernel
theorem dX6_valueIf_29 : decode cX6_valueIf 29 = .ok (.iload_n 1, 1) := by decide +kernel
theorem dX6_valueIf_30 : decode cX6_valueIf 30 = .ok (.iload_n 2, 1) := by decide +kernel
theorem dX6_valueIf_31 : decode cX6_valueIf 31 = .ok (.invokevirtual 198, 3) := by decide +kernel
theorem dX6_valueIf_34 : decode cX6_valueIf 34 = .ok (.aload_n 0, 1) := by decide +kernel
theorem dX6_valueIf_35 : decode cX6_valueIf 35 = .ok (.aload_n 0, 1) := by decide +kernel
theorem dX6_valueIf_36 : decode cX6_valueIf 36 = .ok (.getfield 23, 3) := by decide +kernel
theorem dX6_valueIf_39 : decode cX6_valueIf 39 = .ok (.iload_n 3, 1) := by decide +kernel
theorem dX6_valueIf_40 : decode cX6_valueIf 40 = .ok (.invokevirtual 151, 3) := by decide +kernel
theorem dX6_valueIf_43 : decode cX6_valueIf 43 = .ok (.aload_n 0, 1) := by decide +kernel
theorem dX6_valueIf_44 : decode cX6_valueIf 44 = .ok (.getfield 43, 3) := by decide +kernel
theorem dX6_valueIf_47 : decode cX6_valueIf 47 = .ok (.iload 4, 2) := by decide +kernel
theorem dX6_valueIf_49 : decode cX6_valueIf 49 = .ok (.invokevirtual 155, 3) := by decide +kernel
theorem dX6_valueIf_52 : decode cX6_valueIf 52 = .ok (.lreturn, 1) := by decide +kernel
theorem dX6_valueWithout_0 : decode cX6_valueWithout 0 = .ok (.aload_n 0, 1) := by decide +kernel
theorem dX6_valueWithout_1 : decode cX6_valueWithout 1 = .ok (.iload_n 1, 1) := by decide +kernel
theorem dX6_valueWithout_2 : decode cX6_valueWithout 2 = .ok (.invokevirtual 103, 3) := by decide +kernel
theorem dX6_valueWithout_5 : decode cX6_valueWithout 5 = .ok (.iload_n 2, 1) := by decide +kernel
theorem dX6_valueWithout_6 : decode cX6_valueWithout 6 = .ok (.bipush 12, 2) := by decide +kernel
theorem dX6_valueWithout_8 : decode cX6_valueWithout 8 = .ok (.invokestatic 119, 3) := by decide +kernel
theorem dX6_valueWithout_11 : decode cX6_valueWithout 11 = .ok (.iload_n 3, 1) := by decide +kernel
theorem dX6_valueWithout_12 : decode cX6_valueWithout 12 = .ok (.invokestatic 148, 3) := by decide +kernel
theorem dX6_valueWithout_15 : decode cX6_valueWithout 15 = .ok (.aload_n 0, 1) := by decide +kernel
theorem dX6_valueWithout_16 : decode cX6_valueWithout 16 = .ok (.getfield 23, 3) := by decide +kernel
theorem dX6_valueWithout_19 : decode cX6_valueWithout 19 = .ok (.getfield 66, 3) := by decide +kernel
theorem dX6_valueWithout_22 : decode cX6_valueWithout 22 = .ok (.aload_n 0, 1) := by decide +kernel
theorem dX6_valueWithout_23 : decode cX6_valueWithout 23 = .ok (.getfield 19, 3) := by decide +kernel
theorem dX6_valueWithout_26 : decode cX6_valueWithout 26 = .ok (.getfield 66, 3) := by decide +kernel
theorem dX6_valueWithout_29 : decode cX6_valueWithout 29 = .ok (.invokevirtual 77, 3) := by decide +kernel
theorem dX6_valueWithout_32 : decode cX6_valueWithout 32 = .ok (.aload_n 0, 1) := by decide +kernel
theorem dX6_valueWithout_33 : decode cX6_valueWithout 33 = .ok (.getfield 23, 3) := by decide +kernel
theorem dX6_valueWithout_36 : decode cX6_valueWithout 36 = .ok (.getfield 66, 3) := by decide +kernel
theorem dX6_valueWithout_39 : decode cX6_valueWithout 39 = .ok (.iload_n 1, 1) := by decide +kernel
theorem dX6_valueWithout_40 : decode cX6_valueWithout 40 = .ok (.invokevirtual 201, 3) := by decide +kernel
theorem dX6_valueWithout_43 : decode cX6_valueWithout 43 = .ok (.aload_n 0, 1) := by decide +kernel
theorem dX6_valueWithout_44 : decode cX6_valueWithout 44 = .ok (.getfield 23, 3) := by decide +kernel
theorem dX6_valueWithout_47 : decode cX6_valueWithout 47 = .ok (.invokevirtual 83, 3) := by decide +kernel
theorem dX6_valueWithout_50 : decode cX6_valueWithout 50 = .ok (.aload_n 0, 1) := by decide +kernel
theorem dX6_valueWithout_51 : decode cX6_valueWithout 51 = .ok (.aload_n 0, 1) := by decide +kernel
theorem dX6_valueWithout_52 : decode cX6_valueWithout 52 = .ok (.getfield 23, 3) := by decide +kernel
theorem dX6_valueWithout_55 : decode cX6_valueWithout 55 = .ok (.iload_n 2, 1) := by decide +kernel
theorem dX6_valueWithout_56 : decode cX6_valueWithout 56 = .ok (.invokevirtual 151, 3) := by decide +kernel
theorem dX6_valueWithout_59 : decode cX6_valueWithout 59 = .ok (.aload_n 0, 1) := by decide +kernel
theorem dX6_valueWithout_60 : decode cX6_valueWithout 60 = .ok (.getfield 43, 3) := by decide +kernel
theorem dX6_valueWithout_63 : decode cX6_valueWithout 63 = .ok (.iload_n 3, 1) := by decide +kernel
theorem dX6_valueWithout_64 : decode cX6_valueWithout 64 = .ok (.invokevirtual 155, 3) := by decide +kernel
theorem dX6_valueWithout_67 : decode cX6_valueWithout 67 = .ok (.lreturn, 1) := by decide +kernel
theorem dX6_bestPlace_0 : decode cX6_bestPlace 0 = .ok (.aload_n 0, 1) := by decide +kernel
theorem dX6_bestPlace_1 : decode cX6_bestPlace 1 = .ok (.iload_n 1, 1) := by decide +kernel
theorem dX6_bestPlace_2 : decode cX6_bestPlace 2 = .ok (.invokevirtual 103, 3) := by decide +kernel
theorem dX6_bestPlace_5 : decode cX6_bestPlace 5 = .ok (.iload_n 2, 1) := by decide +kernel
theorem dX6_bestPlace_6 : decode cX6_bestPlace 6 = .ok (.bipush 12, 2) := by decide +kernel
theorem dX6_bestPlace_8 : decode cX6_bestPlace 8 = .ok (.invokestatic 119, 3) := by decide +kernel
theorem dX6_bestPlace_11 : decode cX6_bestPlace 11 = .ok (.iconst 0, 1) := by decide +kernel
theorem dX6_bestPlace_12 : decode cX6_bestPlace 12 = .ok (.istore_n 3, 1) := by decide +kernel
theorem dX6_bestPlace_13 : decode cX6_bestPlace 13 = .ok (.iconst 0, 1) := by decide +kernel
theorem dX6_bestPlace_14 : decode cX6_bestPlace 14 = .ok (.istore 4, 2) := by decide +kernel
theorem dX6_bestPlace_16 : decode cX6_bestPlace 16 = .ok (.bipush (-9), 2) := by decide +kernel
theorem dX6_bestPlace_18 : decode cX6_bestPlace 18 = .ok (.istore 5, 2) := by decide +kernel
theorem dX6_bestPlace_20 : decode cX6_bestPlace 20 = .ok (.iload 5, 2) := by decide +kernel
theorem dX6_bestPlace_22 : decode cX6_bestPlace 22 = .ok (.bipush 9, 2) := by decide +kernel
theorem dX6_bestPlace_24 : decode cX6_bestPlace 24 = .ok (.if_icmp .gt 82, 3) := by decide +kernel
theorem dX6_bestPlace_27 : decode cX6_bestPlace 27 = .ok (.aload_n 0, 1) := by decide +kernel
theorem dX6_bestPlace_28 : decode cX6_bestPlace 28 = .ok (.getfield 19, 3) := by decide +kernel
theorem dX6_bestPlace_31 : decode cX6_bestPlace 31 = .ok (.getfield 66, 3) := by decide +kernel
theorem dX6_bestPlace_34 : decode cX6_bestPlace 34 = .ok (.iload_n 1, 1) := by decide +kernel
theorem dX6_bestPlace_35 : decode cX6_bestPlace 35 = .ok (.iload 5, 2) := by decide +kernel
theorem dX6_bestPlace_37 : decode cX6_bestPlace 37 = .ok (.invokevirtual 204, 3) := by decide +kernel
theorem dX6_bestPlace_40 : decode cX6_bestPlace 40 = .ok (.ifCond .eq 60, 3) := by decide +kernel
theorem dX6_bestPlace_43 : decode cX6_bestPlace 43 = .ok (.aload_n 0, 1) := by decide +kernel
theorem dX6_bestPlace_44 : decode cX6_bestPlace 44 = .ok (.iload_n 1, 1) := by decide +kernel
theorem dX6_bestPlace_45 : decode cX6_bestPlace 45 = .ok (.iload 5, 2) := by decide +kernel
theorem dX6_bestPlace_47 : decode cX6_bestPlace 47 = .ok (.invokevirtual 198, 3) := by decide +kernel
theorem dX6_bestPlace_50 : decode cX6_bestPlace 50 = .ok (.aload_n 0, 1) := by decide +kernel
theorem dX6_bestPlace_51 : decode cX6_bestPlace 51 = .ok (.getfield 23, 3) := by decide +kernel
theorem dX6_bestPlace_54 : decode cX6_bestPlace 54 = .ok (.iload_n 2, 1) := by decide +kernel
theorem dX6_bestPlace_55 : decode cX6_bestPlace 55 = .ok (.aload_n 0, 1) := by decide +kernel
theorem dX6_bestPlace_56 : decode cX6_bestPlace 56 = .ok (.getfield 43, 3) := by decide +kernel
theorem dX6_bestPlace_59 : decode cX6_bestPlace 59 = .ok (.invokevirtual 166, 3) := by decide +kernel
theorem dX6_bestPlace_62 : decode cX6_bestPlace 62 = .ok (.ifCond .eq 38, 3) := by decide +kernel
theorem dX6_bestPlace_65 : decode cX6_bestPlace 65 = .ok (.iload_n 3, 1) := by decide +kernel
theorem dX6_bestPlace_66 : decode cX6_bestPlace 66 = .ok (.ifCond .eq 17, 3) := by decide +kernel
theorem dX6_bestPlace_69 : decode cX6_bestPlace 69 = .ok (.aload_n 0, 1) := by decide +kernel
theorem dX6_bestPlace_70 : decode cX6_bestPlace 70 = .ok (.getfield 43, 3) := by decide +kernel
theorem dX6_bestPlace_73 : decode cX6_bestPlace 73 = .ok (.aload_n 0, 1) := by decide +kernel
theorem dX6_bestPlace_74 : decode cX6_bestPlace 74 = .ok (.getfield 47, 3) := by decide +kernel
theorem dX6_bestPlace_77 : decode cX6_bestPlace 77 = .ok (.invokevirtual 170, 3) := by decide +kernel
theorem dX6_bestPlace_80 : decode cX6_bestPlace 80 = .ok (.ifCond .le 20, 3) := by decide +kernel
theorem dX6_bestPlace_83 : decode cX6_bestPlace 83 = .ok (.aload_n 0, 1) := by decide +kernel
theorem dX6_bestPlace_84 : decode cX6_bestPlace 84 = .ok (.getfield 47, 3) := by decide +kernel
theorem dX6_bestPlace_87 : decode cX6_bestPlace 87 = .ok (.aload_n 0, 1) := by decide +kernel
theorem dX6_bestPlace_88 : decode cX6_bestPlace 88 = .ok (.getfield 43, 3) := by decide +kernel
theorem dX6_bestPlace_91 : decode cX6_bestPlace 91 = .ok (.invokevirtual 174, 3) := by decide +kernel
theorem dX6_bestPlace_94 : decode cX6_bestPlace 94 = .ok (.iload 5, 2) := by decide +kernel
theorem dX6_bestPlace_96 : decode cX6_bestPlace 96 = .ok (.istore 4, 2) := by decide +kernel
theorem dX6_bestPlace_98 : decode cX6_bestPlace 98 = .ok (.iconst 1, 1) := by decide +kernel
theorem dX6_bestPlace_99 : decode cX6_bestPlace 99 = .ok (.istore_n 3, 1) := by decide +kernel
theorem dX6_bestPlace_100 : decode cX6_bestPlace 100 = .ok (.iinc 5 1, 3) := by decide +kernel
theorem dX6_bestPlace_103 : decode cX6_bestPlace 103 = .ok (.goto (-83), 3) := by decide +kernel
theorem dX6_bestPlace_106 : decode cX6_bestPlace 106 = .ok (.iload_n 3, 1) := by decide +kernel
theorem dX6_bestPlace_107 : decode cX6_bestPlace 107 = .ok (.ifCond .ne 13, 3) := by decide +kernel
theorem dX6_bestPlace_110 : decode cX6_bestPlace 110 = .ok (.new 126, 3) := by decide +kernel
theorem dX6_bestPlace_113 : decode cX6_bestPlace 113 = .ok (.dup, 1) := by decide +kernel
theorem dX6_bestPlace_114 : decode cX6_bestPlace 114 = .ok (.ldc 208, 2) := by decide +kernel
theorem dX6_bestPlace_116 : decode cX6_bestPlace 116 = .ok (.invokespecial 130, 3) := by decide +kernel
theorem dX6_bestPlace_119 : decode cX6_bestPlace 119 = .ok (.athrow, 1) := by decide +kernel
theorem dX6_bestPlace_120 : decode cX6_bestPlace 120 = .ok (.iload 4, 2) := by decide +kernel
theorem dX6_bestPlace_122 : decode cX6_bestPlace 122 = .ok (.ireturn, 1) := by decide +kernel
theorem dX6_move_0 : decode cX6_move 0 = .ok (.aload_n 0, 1) := by decide +kernel
theorem dX6_move_1 : decode cX6_move 1 = .ok (.iload_n 1, 1) := by decide +kernel
theorem dX6_move_2 : decode cX6_move 2 = .ok (.invokevirtual 103, 3) := by decide +kernel
theorem dX6_move_5 : decode cX6_move 5 = .ok (.iload_n 2, 1) := by decide +kernel
theorem dX6_move_6 : decode cX6_move 6 = .ok (.bipush 9, 2) := by decide +kernel
theorem dX6_move_8 : decode cX6_move 8 = .ok (.invokestatic 119, 3) := by decide +kernel
theorem dX6_move_11 : decode cX6_move 11 = .ok (.aload_n 0, 1) := by decide +kernel
theorem dX6_move_12 : decode cX6_move 12 = .ok (.iload_n 1, 1) := by decide +kernel
theorem dX6_move_13 : decode cX6_move 13 = .ok (.iload_n 2, 1) := by decide +kernel
theorem dX6_move_14 : decode cX6_move 14 = .ok (.invokevirtual 195, 3) := by decide +kernel
theorem dX6_move_17 : decode cX6_move 17 = .ok (.aload_n 0, 1) := by decide +kernel
theorem dX6_move_18 : decode cX6_move 18 = .ok (.getfield 19, 3) := by decide +kernel
theorem dX6_move_21 : decode cX6_move 21 = .ok (.getfield 66, 3) := by decide +kernel
theorem dX6_move_24 : decode cX6_move 24 = .ok (.iload_n 1, 1) := by decide +kernel
theorem dX6_move_25 : decode cX6_move 25 = .ok (.invokevirtual 106, 3) := by decide +kernel
theorem dX6_move_28 : decode cX6_move 28 = .ok (.istore_n 3, 1) := by decide +kernel
theorem dX6_move_29 : decode cX6_move 29 = .ok (.aload_n 0, 1) := by decide +kernel
theorem dX6_move_30 : decode cX6_move 30 = .ok (.getfield 29, 3) := by decide +kernel
theorem dX6_move_33 : decode cX6_move 33 = .ok (.aload_n 0, 1) := by decide +kernel
theorem dX6_move_34 : decode cX6_move 34 = .ok (.getfield 19, 3) := by decide +kernel
theorem dX6_move_37 : decode cX6_move 37 = .ok (.getfield 66, 3) := by decide +kernel
theorem dX6_move_40 : decode cX6_move 40 = .ok (.invokevirtual 210, 3) := by decide +kernel
theorem dX6_move_43 : decode cX6_move 43 = .ok (.aload_n 0, 1) := by decide +kernel
theorem dX6_move_44 : decode cX6_move 44 = .ok (.getfield 19, 3) := by decide +kernel
theorem dX6_move_47 : decode cX6_move 47 = .ok (.getfield 66, 3) := by decide +kernel
theorem dX6_move_50 : decode cX6_move 50 = .ok (.iload_n 1, 1) := by decide +kernel
theorem dX6_move_51 : decode cX6_move 51 = .ok (.iload_n 2, 1) := by decide +kernel
theorem dX6_move_52 : decode cX6_move 52 = .ok (.invokevirtual 213, 3) := by decide +kernel
theorem dX6_move_55 : decode cX6_move 55 = .ok (.aload_n 0, 1) := by decide +kernel
theorem dX6_move_56 : decode cX6_move 56 = .ok (.getfield 19, 3) := by decide +kernel
theorem dX6_move_59 : decode cX6_move 59 = .ok (.invokevirtual 83, 3) := by decide +kernel
theorem dX6_move_62 : decode cX6_move 62 = .ok (.iload_n 3, 1) := by decide +kernel
theorem dX6_move_63 : decode cX6_move 63 = .ok (.ireturn, 1) := by decide +kernel
theorem dX6_setValue_0 : decode cX6_setValue 0 = .ok (.aload_n 0, 1) := by decide +kernel
theorem dX6_setValue_1 : decode cX6_setValue 1 = .ok (.iload_n 1, 1) := by decide +kernel
theorem dX6_setValue_2 : decode cX6_setValue 2 = .ok (.invokevirtual 103, 3) := by decide +kernel
theorem dX6_setValue_5 : decode cX6_setValue 5 = .ok (.iload_n 2, 1) := by decide +kernel
theorem dX6_setValue_6 : decode cX6_setValue 6 = .ok (.bipush 20, 2) := by decide +kernel
theorem dX6_setValue_8 : decode cX6_setValue 8 = .ok (.invokestatic 119, 3) := by decide +kernel
theorem dX6_setValue_11 : decode cX6_setValue 11 = .ok (.aload_n 0, 1) := by decide +kernel
theorem dX6_setValue_12 : decode cX6_setValue 12 = .ok (.getfield 19, 3) := by decide +kernel
theorem dX6_setValue_15 : decode cX6_setValue 15 = .ok (.getfield 66, 3) := by decide +kernel
theorem dX6_setValue_18 : decode cX6_setValue 18 = .ok (.iload_n 1, 1) := by decide +kernel
theorem dX6_setValue_19 : decode cX6_setValue 19 = .ok (.invokevirtual 110, 3) := by decide +kernel
theorem dX6_setValue_22 : decode cX6_setValue 22 = .ok (.istore_n 3, 1) := by decide +kernel
theorem dX6_setValue_23 : decode cX6_setValue 23 = .ok (.aload_n 0, 1) := by decide +kernel
theorem dX6_setValue_24 : decode cX6_setValue 24 = .ok (.getfield 29, 3) := by decide +kernel
theorem dX6_setValue_27 : decode cX6_setValue 27 = .ok (.aload_n 0, 1) := by decide +kernel
theorem dX6_setValue_28 : decode cX6_setValue 28 = .ok (.getfield 19, 3) := by decide +kernel
theorem dX6_setValue_31 : decode cX6_setValue 31 = .ok (.getfield 66, 3) := by decide +kernel
theorem dX6_setValue_34 : decode cX6_setValue 34 = .ok (.invokevirtual 210, 3) := by decide +kernel
theorem dX6_setValue_37 : decode cX6_setValue 37 = .ok (.aload_n 0, 1) := by decide +kernel
theorem dX6_setValue_38 : decode cX6_setValue 38 = .ok (.getfield 19, 3) := by decide +kernel
theorem dX6_setValue_41 : decode cX6_setValue 41 = .ok (.getfield 66, 3) := by decide +kernel
theorem dX6_setValue_44 : decode cX6_setValue 44 = .ok (.iload_n 1, 1) := by decide +kernel
theorem dX6_setValue_45 : decode cX6_setValue 45 = .ok (.iload_n 2, 1) := by decide +kernel
theorem dX6_setValue_46 : decode cX6_setValue 46 = .ok (.invokevirtual 216, 3) := by decide +kernel
theorem dX6_setValue_49 : decode cX6_setValue 49 = .ok (.aload_n 0, 1) := by decide +kernel
theorem dX6_setValue_50 : decode cX6_setValue 50 = .ok (.getfield 19, 3) := by decide +kernel
theorem dX6_setValue_53 : decode cX6_setValue 53 = .ok (.invokevirtual 83, 3) := by decide +kernel
theorem dX6_setValue_56 : decode cX6_setValue 56 = .ok (.iload_n 3, 1) := by decide +kernel
theorem dX6_setValue_57 : decode cX6_setValue 57 = .ok (.ireturn, 1) := by decide +kernel
theorem dX6_setWeight_0 : decode cX6_setWeight 0 = .ok (.aload_n 0, 1) := by decide +kernel
theorem dX6_setWeight_1 : decode cX6_setWeight 1 = .ok (.iload_n 1, 1) := by decide +kernel
theorem dX6_setWeight_2 : decode cX6_setWeight 2 = .ok (.invokevirtual 103, 3) := by decide +kernel
theorem dX6_setWeight_5 : decode cX6_setWeight 5 = .ok (.iload_n 2, 1) := by decide +kernel
theorem dX6_setWeight_6 : decode cX6_setWeight 6 = .ok (.bipush 9, 2) := by decide +kernel
theorem dX6_setWeight_8 : decode cX6_setWeight 8 = .ok (.invokestatic 119, 3) := by decide +kernel
theorem dX6_setWeight_11 : decode cX6_setWeight 11 = .ok (.aload_n 0, 1) := by decide +kernel
theorem dX6_setWeight_12 : decode cX6_setWeight 12 = .ok (.getfield 19, 3) := by decide +kernel
theorem dX6_setWeight_15 : decode cX6_setWeight 15 = .ok (.getfield 66, 3) := by decide +kernel
theorem dX6_setWeight_18 : decode cX6_setWeight 18 = .ok (.iload_n 1, 1) := by decide +kernel
theorem dX6_setWeight_19 : decode cX6_setWeight 19 = .ok (.invokevirtual 113, 3) := by decide +kernel
theorem dX6_setWeight_22 : decode cX6_setWeight 22 = .ok (.istore_n 3, 1) := by decide +kernel
theorem dX6_setWeight_23 : decode cX6_setWeight 23 = .ok (.aload_n 0, 1) := by decide +kernel
theorem dX6_setWeight_24 : decode cX6_setWeight 24 = .ok (.getfield 29, 3) := by decide +kernel
theorem dX6_setWeight_27 : decode cX6_setWeight 27 = .ok (.aload_n 0, 1) := by decide +kernel
theorem dX6_setWeight_28 : decode cX6_setWeight 28 = .ok (.getfield 19, 3) := by decide +kernel
theorem dX6_setWeight_31 : decode cX6_setWeight 31 = .ok (.getfield 66, 3) := by decide +kernel
theorem dX6_setWeight_34 : decode cX6_setWeight 34 = .ok (.invokevirtual 210, 3) := by decide +kernel
theorem dX6_setWeight_37 : decode cX6_setWeight 37 = .ok (.aload_n 0, 1) := by decide +kernel
theorem dX6_setWeight_38 : decode cX6_setWeight 38 = .ok (.getfield 19, 3) := by decide +kernel
theorem dX6_setWeight_41 : decode cX6_setWeight 41 = .ok (.getfield 66, 3) := by decide +kernel
theorem dX6_setWeight_44 : decode cX6_setWeight 44 = .ok (.iload_n 1, 1) := by decide +kernel
theorem dX6_setWeight_45 : decode cX6_setWeight 45 = .ok (.iload_n 2, 1) := by decide +kernel
theorem dX6_setWeight_46 : decode cX6_setWeight 46 = .ok (.invokevirtual 219, 3) := by decide +kernel
theorem dX6_setWeight_49 : decode cX6_setWeight 49 = .ok (.aload_n 0, 1) := by decide +kernel
theorem dX6_setWeight_50 : decode cX6_setWeight 50 = .ok (.getfield 19, 3) := by decide +kernel
theorem dX6_setWeight_53 : decode cX6_setWeight 53 = .ok (.invokevirtual 83, 3) := by decide +kernel
theorem dX6_setWeight_56 : decode cX6_setWeight 56 = .ok (.iload_n 3, 1) := by decide +kernel
theorem dX6_setWeight_57 : decode cX6_setWeight 57 = .ok (.ireturn, 1) := by decide +kernel
theorem dX6_addPoint_0 : decode cX6_addPoint 0 = .ok (.iload_n 1, 1) := by decide +kernel
theorem dX6_addPoint_1 : decode cX6_addPoint 1 = .ok (.bipush 9, 2) := by decide +kernel
theorem dX6_addPoint_3 : decode cX6_addPoint 3 = .ok (.invokestatic 119, 3) := by decide +kernel
theorem dX6_addPoint_6 : decode cX6_addPoint 6 = .ok (.iload_n 2, 1) := by decide +kernel
theorem dX6_addPoint_7 : decode cX6_addPoint 7 = .ok (.bipush 20, 2) := by decide +kernel
theorem dX6_addPoint_9 : decode cX6_addPoint 9 = .ok (.invokestatic 119, 3) := by decide +kernel
theorem dX6_addPoint_12 : decode cX6_addPoint 12 = .ok (.iload_n 3, 1) := by decide +kernel
theorem dX6_addPoint_13 : decode cX6_addPoint 13 = .ok (.bipush 9, 2) := by decide +kernel
theorem dX6_addPoint_15 : decode cX6_addPoint 15 = .ok (.invokestatic 119, 3) := by decide +kernel
theorem dX6_addPoint_18 : decode cX6_addPoint 18 = .ok (.aload_n 0, 1) := by decide +kernel
theorem dX6_addPoint_19 : decode cX6_addPoint 19 = .ok (.iconst (-1), 1) := by decide +kernel
theorem dX6_addPoint_20 : decode cX6_addPoint 20 = .ok (.iload_n 1, 1) := by decide +kernel
theorem dX6_addPoint_21 : decode cX6_addPoint 21 = .ok (.invokevirtual 195, 3) := by decide +kernel
theorem dX6_addPoint_24 : decode cX6_addPoint 24 = .ok (.aload_n 0, 1) := by decide +kernel
theorem dX6_addPoint_25 : decode cX6_addPoint 25 = .ok (.getfield 19, 3) := by decide +kernel
theorem dX6_addPoint_28 : decode cX6_addPoint 28 = .ok (.getfield 66, 3) := by decide +kernel
theorem dX6_addPoint_31 : decode cX6_addPoint 31 = .ok (.invokevirtual 222, 3) := by decide +kernel
theorem dX6_addPoint_34 : decode cX6_addPoint 34 = .ok (.ifCond .eq 13, 3) := by decide +kernel
theorem dX6_addPoint_37 : decode cX6_addPoint 37 = .ok (.new 225, 3) := by decide +kernel
theorem dX6_addPoint_40 : decode cX6_addPoint 40 = .ok (.dup, 1) := by decide +kernel
theorem dX6_addPoint_41 : decode cX6_addPoint 41 = .ok (.ldc 227, 2) := by decide +kernel
theorem dX6_addPoint_43 : decode cX6_addPoint 43 = .ok (.invokespecial 229, 3) := by decide +kernel
theorem dX6_addPoint_46 : decode cX6_addPoint 46 = .ok (.athrow, 1) := by decide +kernel
theorem dX6_addPoint_47 : decode cX6_addPoint 47 = .ok (.aload_n 0, 1) := by decide +kernel
theorem dX6_addPoint_48 : decode cX6_addPoint 48 = .ok (.getfield 29, 3) := by decide +kernel
theorem dX6_addPoint_51 : decode cX6_addPoint 51 = .ok (.aload_n 0, 1) := by decide +kernel
theorem dX6_addPoint_52 : decode cX6_addPoint 52 = .ok (.getfield 19, 3) := by decide +kernel
theorem dX6_addPoint_55 : decode cX6_addPoint 55 = .ok (.getfield 66, 3) := by decide +kernel
theorem dX6_addPoint_58 : decode cX6_addPoint 58 = .ok (.invokevirtual 210, 3) := by decide +kernel
theorem dX6_addPoint_61 : decode cX6_addPoint 61 = .ok (.aload_n 0, 1) := by decide +kernel
theorem dX6_addPoint_62 : decode cX6_addPoint 62 = .ok (.getfield 19, 3) := by decide +kernel
theorem dX6_addPoint_65 : decode cX6_addPoint 65 = .ok (.getfield 66, 3) := by decide +kernel
theorem dX6_addPoint_68 : decode cX6_addPoint 68 = .ok (.iload_n 1, 1) := by decide +kernel
theorem dX6_addPoint_69 : decode cX6_addPoint 69 = .ok (.iload_n 2, 1) := by decide +kernel
theorem dX6_addPoint_70 : decode cX6_addPoint 70 = .ok (.iload_n 3, 1) := by decide +kernel
theorem dX6_addPoint_71 : decode cX6_addPoint 71 = .ok (.invokevirtual 230, 3) := by decide +kernel
theorem dX6_addPoint_74 : decode cX6_addPoint 74 = .ok (.aload_n 0, 1) := by decide +kernel
theorem dX6_addPoint_75 : decode cX6_addPoint 75 = .ok (.getfield 19, 3) := by decide +kernel
theorem dX6_addPoint_78 : decode cX6_addPoint 78 = .ok (.invokevirtual 83, 3) := by decide +kernel
theorem dX6_addPoint_81 : decode cX6_addPoint 81 = .ok (.aload_n 0, 1) := by decide +kernel
theorem dX6_addPoint_82 : decode cX6_addPoint 82 = .ok (.getfield 19, 3) := by decide +kernel
theorem dX6_addPoint_85 : decode cX6_addPoint 85 = .ok (.getfield 66, 3) := by decide +kernel
theorem dX6_addPoint_88 : decode cX6_addPoint 88 = .ok (.invokevirtual 87, 3) := by decide +kernel
theorem dX6_addPoint_91 : decode cX6_addPoint 91 = .ok (.iconst 1, 1) := by decide +kernel
theorem dX6_addPoint_92 : decode cX6_addPoint 92 = .ok (.isub, 1) := by decide +kernel
theorem dX6_addPoint_93 : decode cX6_addPoint 93 = .ok (.ireturn, 1) := by decide +kernel
theorem dX6_removePoint_0 : decode cX6_removePoint 0 = .ok (.aload_n 0, 1) := by decide +kernel
theorem dX6_removePoint_1 : decode cX6_removePoint 1 = .ok (.iload_n 1, 1) := by decide +kernel
theorem dX6_removePoint_2 : decode cX6_removePoint 2 = .ok (.invokevirtual 103, 3) := by decide +kernel
theorem dX6_removePoint_5 : decode cX6_removePoint 5 = .ok (.aload_n 0, 1) := by decide +kernel
theorem dX6_removePoint_6 : decode cX6_removePoint 6 = .ok (.getfield 29, 3) := by decide +kernel
theorem dX6_removePoint_9 : decode cX6_removePoint 9 = .ok (.aload_n 0, 1) := by decide +kernel
theorem dX6_removePoint_10 : decode cX6_removePoint 10 = .ok (.getfield 19, 3) := by decide +kernel
theorem dX6_removePoint_13 : decode cX6_removePoint 13 = .ok (.getfield 66, 3) := by decide +kernel
theorem dX6_removePoint_16 : decode cX6_removePoint 16 = .ok (.invokevirtual 210, 3) := by decide +kernel
theorem dX6_removePoint_19 : decode cX6_removePoint 19 = .ok (.aload_n 0, 1) := by decide +kernel
theorem dX6_removePoint_20 : decode cX6_removePoint 20 = .ok (.getfield 19, 3) := by decide +kernel
theorem dX6_removePoint_23 : decode cX6_removePoint 23 = .ok (.getfield 66, 3) := by decide +kernel
theorem dX6_removePoint_26 : decode cX6_removePoint 26 = .ok (.iload_n 1, 1) := by decide +kernel
theorem dX6_removePoint_27 : decode cX6_removePoint 27 = .ok (.invokevirtual 201, 3) := by decide +kernel
theorem dX6_removePoint_30 : decode cX6_removePoint 30 = .ok (.aload_n 0, 1) := by decide +kernel
theorem dX6_removePoint_31 : decode cX6_removePoint 31 = .ok (.getfield 19, 3) := by decide +kernel
theorem dX6_removePoint_34 : decode cX6_removePoint 34 = .ok (.invokevirtual 83, 3) := by decide +kernel
theorem dX6_removePoint_37 : decode cX6_removePoint 37 = .ok (.aload_n 0, 1) := by decide +kernel
theorem dX6_removePoint_38 : decode cX6_removePoint 38 = .ok (.getfield 19, 3) := by decide +kernel
theorem dX6_removePoint_41 : decode cX6_removePoint 41 = .ok (.getfield 66, 3) := by decide +kernel
theorem dX6_removePoint_44 : decode cX6_removePoint 44 = .ok (.invokevirtual 87, 3) := by decide +kernel
theorem dX6_removePoint_47 : decode cX6_removePoint 47 = .ok (.ireturn, 1) := by decide +kernel
theorem dX6_setMode_0 : decode cX6_setMode 0 = .ok (.iload_n 1, 1) := by decide +kernel
theorem dX6_setMode_1 : decode cX6_setMode 1 = .ok (.iconst 0, 1) := by decide +kernel
theorem dX6_setMode_2 : decode cX6_setMode 2 = .ok (.iconst 2, 1) := by decide +kernel
theorem dX6_setMode_3 : decode cX6_setMode 3 = .ok (.invokestatic 62, 3) := by decide +kernel
theorem dX6_setMode_6 : decode cX6_setMode 6 = .ok (.iload_n 2, 1) := by decide +kernel
theorem dX6_setMode_7 : decode cX6_setMode 7 = .ok (.iconst 0, 1) := by decide +kernel
theorem dX6_setMode_8 : decode cX6_setMode 8 = .ok (.iconst 4, 1) := by decide +kernel
theorem dX6_setMode_9 : decode cX6_setMode 9 = .ok (.invokestatic 62, 3) := by decide +kernel
theorem dX6_setMode_12 : decode cX6_setMode 12 = .ok (.aload_n 0, 1) := by decide +kernel
theorem dX6_setMode_13 : decode cX6_setMode 13 = .ok (.getfield 19, 3) := by decide +kernel
theorem dX6_setMode_16 : decode cX6_setMode 16 = .ok (.getfield 66, 3) := by decide +kernel
theorem dX6_setMode_19 : decode cX6_setMode 19 = .ok (.getfield 96, 3) := by decide +kernel
theorem dX6_setMode_22 : decode cX6_setMode 22 = .ok (.istore_n 3, 1) := by decide +kernel
theorem dX6_setMode_23 : decode cX6_setMode 23 = .ok (.aload_n 0, 1) := by decide +kernel
theorem dX6_setMode_24 : decode cX6_setMode 24 = .ok (.getfield 29, 3) := by decide +kernel
theorem dX6_setMode_27 : decode cX6_setMode 27 = .ok (.aload_n 0, 1) := by decide +kernel
theorem dX6_setMode_28 : decode cX6_setMode 28 = .ok (.getfield 19, 3) := by decide +kernel
theorem dX6_setMode_31 : decode cX6_setMode 31 = .ok (.getfield 66, 3) := by decide +kernel
theorem dX6_setMode_34 : decode cX6_setMode 34 = .ok (.invokevirtual 210, 3) := by decide +kernel
theorem dX6_setMode_37 : decode cX6_setMode 37 = .ok (.aload_n 0, 1) := by decide +kernel
theorem dX6_setMode_38 : decode cX6_setMode 38 = .ok (.getfield 19, 3) := by decide +kernel
theorem dX6_setMode_41 : decode cX6_setMode 41 = .ok (.getfield 66, 3) := by decide +kernel
theorem dX6_setMode_44 : decode cX6_setMode 44 = .ok (.iload_n 1, 1) := by decide +kernel
theorem dX6_setMode_45 : decode cX6_setMode 45 = .ok (.putfield 96, 3) := by decide +kernel
theorem dX6_setMode_48 : decode cX6_setMode 48 = .ok (.iload_n 1, 1) := by decide +kernel
theorem dX6_setMode_49 : decode cX6_setMode 49 = .ok (.iconst 1, 1) := by decide +kernel
theorem dX6_setMode_50 : decode cX6_setMode 50 = .ok (.if_icmp .ne 14, 3) := by decide +kernel
theorem dX6_setMode_53 : decode cX6_setMode 53 = .ok (.aload_n 0, 1) := by decide +kernel
theorem dX6_setMode_54 : decode cX6_setMode 54 = .ok (.getfield 19, 3) := by decide +kernel
theorem dX6_setMode_57 : decode cX6_setMode 57 = .ok (.getfield 66, 3) := by decide +kernel
theorem dX6_setMode_60 : decode cX6_setMode 60 = .ok (.iload_n 2, 1) := by decide +kernel
theorem dX6_setMode_61 : decode cX6_setMode 61 = .ok (.putfield 100, 3) := by decide +kernel
theorem dX6_setMode_64 : decode cX6_setMode 64 = .ok (.aload_n 0, 1) := by decide +kernel
theorem dX6_setMode_65 : decode cX6_setMode 65 = .ok (.getfield 19, 3) := by decide +kernel
theorem dX6_setMode_68 : decode cX6_setMode 68 = .ok (.invokevirtual 83, 3) := by decide +kernel
theorem dX6_setMode_71 : decode cX6_setMode 71 = .ok (.iload_n 3, 1) := by decide +kernel
theorem dX6_setMode_72 : decode cX6_setMode 72 = .ok (.ireturn, 1) := by decide +kernel
theorem dX6_shift_0 : decode cX6_shift 0 = .ok (.iload_n 1, 1) := by decide +kernel
theorem dX6_shift_1 : decode cX6_shift 1 = .ok (.bipush 18, 2) := by decide +kernel
theorem dX6_shift_3 : decode cX6_shift 3 = .ok (.invokestatic 119, 3) := by decide +kernel
theorem dX6_shift_6 : decode cX6_shift 6 = .ok (.aload_n 0, 1) := by decide +kernel
theorem dX6_shift_7 : decode cX6_shift 7 = .ok (.getfield 19, 3) := by decide +kernel
theorem dX6_shift_10 : decode cX6_shift 10 = .ok (.getfield 66, 3) := by decide +kernel
theorem dX6_shift_13 : decode cX6_shift 13 = .ok (.iload_n 1, 1) := by decide +kernel
theorem dX6_shift_14 : decode cX6_shift 14 = .ok (.invokevirtual 232, 3) := by decide +kernel
theorem dX6_shift_17 : decode cX6_shift 17 = .ok (.ifCond .ne 13, 3) := by decide +kernel
theorem dX6_shift_20 : decode cX6_shift 20 = .ok (.new 225, 3) := by decide +kernel
theorem dX6_shift_23 : decode cX6_shift 23 = .ok (.dup, 1) := by decide +kernel
theorem dX6_shift_24 : decode cX6_shift 24 = .ok (.ldc 235, 2) := by decide +kernel
theorem dX6_shift_26 : decode cX6_shift 26 = .ok (.invokespecial 229, 3) := by decide +kernel
theorem dX6_shift_29 : decode cX6_shift 29 = .ok (.athrow, 1) := by decide +kernel
theorem dX6_shift_30 : decode cX6_shift 30 = .ok (.aload_n 0, 1) := by decide +kernel
theorem dX6_shift_31 : decode cX6_shift 31 = .ok (.getfield 29, 3) := by decide +kernel
theorem dX6_shift_34 : decode cX6_shift 34 = .ok (.aload_n 0, 1) := by decide +kernel
theorem dX6_shift_35 : decode cX6_shift 35 = .ok (.getfield 19, 3) := by decide +kernel
theorem dX6_shift_38 : decode cX6_shift 38 = .ok (.getfield 66, 3) := by decide +kernel
theorem dX6_shift_41 : decode cX6_shift 41 = .ok (.invokevirtual 210, 3) := by decide +kernel
theorem dX6_shift_44 : decode cX6_shift 44 = .ok (.iconst 0, 1) := by decide +kernel
theorem dX6_shift_45 : decode cX6_shift 45 = .ok (.istore_n 2, 1) := by decide +kernel
theorem dX6_shift_46 : decode cX6_shift 46 = .ok (.iload_n 2, 1) := by decide +kernel
theorem dX6_shift_47 : decode cX6_shift 47 = .ok (.aload_n 0, 1) := by decide +kernel
theorem dX6_shift_48 : decode cX6_shift 48 = .ok (.getfield 19, 3) := by decide +kernel
theorem dX6_shift_51 : decode cX6_shift 51 = .ok (.getfield 66, 3) := by decide +kernel
theorem dX6_shift_54 : decode cX6_shift 54 = .ok (.invokevirtual 87, 3) := by decide +kernel
theorem dX6_shift_57 : decode cX6_shift 57 = .ok (.if_icmp .ge 33, 3) := by decide +kernel
theorem dX6_shift_60 : decode cX6_shift 60 = .ok (.aload_n 0, 1) := by decide +kernel
theorem dX6_shift_61 : decode cX6_shift 61 = .ok (.getfield 19, 3) := by decide +kernel
theorem dX6_shift_64 : decode cX6_shift 64 = .ok (.getfield 66, 3) := by decide +kernel
theorem dX6_shift_67 : decode cX6_shift 67 = .ok (.iload_n 2, 1) := by decide +kernel
theorem dX6_shift_68 : decode cX6_shift 68 = .ok (.aload_n 0, 1) := by decide +kernel
theorem dX6_shift_69 : decode cX6_shift 69 = .ok (.getfield 19, 3) := by decide +kernel
theorem dX6_shift_72 : decode cX6_shift 72 = .ok (.getfield 66, 3) := by decide +kernel
theorem dX6_shift_75 : decode cX6_shift 75 = .ok (.iload_n 2, 1) := by decide +kernel
theorem dX6_shift_76 : decode cX6_shift 76 = .ok (.invokevirtual 106, 3) := by decide +kernel
theorem dX6_shift_79 : decode cX6_shift 79 = .ok (.iload_n 1, 1) := by decide +kernel
theorem dX6_shift_80 : decode cX6_shift 80 = .ok (.iadd, 1) := by decide +kernel
theorem dX6_shift_81 : decode cX6_shift 81 = .ok (.invokevirtual 213, 3) := by decide +kernel
theorem dX6_shift_84 : decode cX6_shift 84 = .ok (.iinc 2 1, 3) := by decide +kernel
theorem dX6_shift_87 : decode cX6_shift 87 = .ok (.goto (-41), 3) := by decide +kernel
theorem dX6_shift_90 : decode cX6_shift 90 = .ok (.aload_n 0, 1) := by decide +kernel
theorem dX6_shift_91 : decode cX6_shift 91 = .ok (.getfield 19, 3) := by decide +kernel
theorem dX6_shift_94 : decode cX6_shift 94 = .ok (.invokevirtual 83, 3) := by decide +kernel
theorem dX6_shift_97 : decode cX6_shift 97 = .ok (.aload_n 0, 1) := by decide +kernel
theorem dX6_shift_98 : decode cX6_shift 98 = .ok (.getfield 19, 3) := by decide +kernel
theorem dX6_shift_101 : decode cX6_shift 101 = .ok (.getfield 66, 3) := by decide +kernel
theorem dX6_shift_104 : decode cX6_shift 104 = .ok (.invokevirtual 87, 3) := by decide +kernel
theorem dX6_shift_107 : decode cX6_shift 107 = .ok (.ireturn, 1) := by decide +kernel
theorem dX6_mirror_0 : decode cX6_mirror 0 = .ok (.aload_n 0, 1) := by decide +kernel
theorem dX6_mirror_1 : decode cX6_mirror 1 = .ok (.getfield 29, 3) := by decide +kernel
theorem dX6_mirror_4 : decode cX6_mirror 4 = .ok (.aload_n 0, 1) := by decide +kernel
theorem dX6_mirror_5 : decode cX6_mirror 5 = .ok (.getfield 19, 3) := by decide +kernel
theorem dX6_mirror_8 : decode cX6_mirror 8 = .ok (.getfield 66, 3) := by decide +kernel
theorem dX6_mirror_11 : decode cX6_mirror 11 = .ok (.invokevirtual 210, 3) := by decide +kernel
theorem dX6_mirror_14 : decode cX6_mirror 14 = .ok (.iconst 0, 1) := by decide +kernel
theorem dX6_mirror_15 : decode cX6_mirror 15 = .ok (.istore_n 1, 1) := by decide +kernel
theorem dX6_mirror_16 : decode cX6_mirror 16 = .ok (.iload_n 1, 1) := by decide +kernel
theorem dX6_mirror_17 : decode cX6_mirror 17 = .ok (.aload_n 0, 1) := by decide +kernel
theorem dX6_mirror_18 : decode cX6_mirror 18 = .ok (.getfield 19, 3) := by decide +kernel
theorem dX6_mirror_21 : decode cX6_mirror 21 = .ok (.getfield 66, 3) := by decide +kernel
theorem dX6_mirror_24 : decode cX6_mirror 24 = .ok (.invokevirtual 87, 3) := by decide +kernel
theorem dX6_mirror_27 : decode cX6_mirror 27 = .ok (.if_icmp .ge 32, 3) := by decide +kernel
theorem dX6_mirror_30 : decode cX6_mirror 30 = .ok (.aload_n 0, 1) := by decide +kernel
theorem dX6_mirror_31 : decode cX6_mirror 31 = .ok (.getfield 19, 3) := by decide +kernel
theorem dX6_mirror_34 : decode cX6_mirror 34 = .ok (.getfield 66, 3) := by decide +kernel
theorem dX6_mirror_37 : decode cX6_mirror 37 = .ok (.iload_n 1, 1) := by decide +kernel
theorem dX6_mirror_38 : decode cX6_mirror 38 = .ok (.aload_n 0, 1) := by decide +kernel
theorem dX6_mirror_39 : decode cX6_mirror 39 = .ok (.getfield 19, 3) := by decide +kernel
theorem dX6_mirror_42 : decode cX6_mirror 42 = .ok (.getfield 66, 3) := by decide +kernel
theorem dX6_mirror_45 : decode cX6_mirror 45 = .ok (.iload_n 1, 1) := by decide +kernel
theorem dX6_mirror_46 : decode cX6_mirror 46 = .ok (.invokevirtual 106, 3) := by decide +kernel
theorem dX6_mirror_49 : decode cX6_mirror 49 = .ok (.ineg, 1) := by decide +kernel
theorem dX6_mirror_50 : decode cX6_mirror 50 = .ok (.invokevirtual 213, 3) := by decide +kernel
theorem dX6_mirror_53 : decode cX6_mirror 53 = .ok (.iinc 1 1, 3) := by decide +kernel
theorem dX6_mirror_56 : decode cX6_mirror 56 = .ok (.goto (-40), 3) := by decide +kernel
theorem dX6_mirror_59 : decode cX6_mirror 59 = .ok (.aload_n 0, 1) := by decide +kernel
theorem dX6_mirror_60 : decode cX6_mirror 60 = .ok (.getfield 19, 3) := by decide +kernel
theorem dX6_mirror_63 : decode cX6_mirror 63 = .ok (.invokevirtual 83, 3) := by decide +kernel
theorem dX6_mirror_66 : decode cX6_mirror 66 = .ok (.aload_n 0, 1) := by decide +kernel
theorem dX6_mirror_67 : decode cX6_mirror 67 = .ok (.getfield 19, 3) := by decide +kernel
theorem dX6_mirror_70 : decode cX6_mirror 70 = .ok (.getfield 66, 3) := by decide +kernel
theorem dX6_mirror_73 : decode cX6_mirror 73 = .ok (.invokevirtual 87, 3) := by decide +kernel
theorem dX6_mirror_76 : decode cX6_mirror 76 = .ok (.ireturn, 1) := by decide +kernel
theorem dX6_undo_0 : decode cX6_undo 0 = .ok (.aload_n 0, 1) := by decide +kernel
theorem dX6_undo_1 : decode cX6_undo 1 = .ok (.getfield 29, 3) := by decide +kernel
theorem dX6_undo_4 : decode cX6_undo 4 = .ok (.aload_n 0, 1) := by decide +kernel
theorem dX6_undo_5 : decode cX6_undo 5 = .ok (.getfield 19, 3) := by decide +kernel
theorem dX6_undo_8 : decode cX6_undo 8 = .ok (.getfield 66, 3) := by decide +kernel
theorem dX6_undo_11 : decode cX6_undo 11 = .ok (.invokevirtual 237, 3) := by decide +kernel
theorem dX6_undo_14 : decode cX6_undo 14 = .ok (.ifCond .ne 5, 3) := by decide +kernel
theorem dX6_undo_17 : decode cX6_undo 17 = .ok (.iconst (-1), 1) := by decide +kernel
theorem dX6_undo_18 : decode cX6_undo 18 = .ok (.ireturn, 1) := by decide +kernel
theorem dX6_undo_19 : decode cX6_undo 19 = .ok (.aload_n 0, 1) := by decide +kernel
theorem dX6_undo_20 : decode cX6_undo 20 = .ok (.getfield 19, 3) := by decide +kernel
theorem dX6_undo_23 : decode cX6_undo 23 = .ok (.invokevirtual 83, 3) := by decide +kernel
theorem dX6_undo_26 : decode cX6_undo 26 = .ok (.aload_n 0, 1) := by decide +kernel
theorem dX6_undo_27 : decode cX6_undo 27 = .ok (.getfield 29, 3) := by decide +kernel
theorem dX6_undo_30 : decode cX6_undo 30 = .ok (.invokevirtual 241, 3) := by decide +kernel
theorem dX6_undo_33 : decode cX6_undo 33 = .ok (.ireturn, 1) := by decide +kernel
theorem dX6_write_0 : decode cX6_write 0 = .ok (.aload_n 0, 1) := by decide +kernel
theorem dX6_write_1 : decode cX6_write 1 = .ok (.getfield 36, 3) := by decide +kernel
theorem dX6_write_4 : decode cX6_write 4 = .ok (.invokevirtual 242, 3) := by decide +kernel
theorem dX6_write_7 : decode cX6_write 7 = .ok (.iconst 4, 1) := by decide +kernel
theorem dX6_write_8 : decode cX6_write 8 = .ok (.istore_n 2, 1) := by decide +kernel
theorem dX6_write_9 : decode cX6_write 9 = .ok (.iload_n 2, 1) := by decide +kernel
theorem dX6_write_10 : decode cX6_write 10 = .ok (.ifCond .lt 26, 3) := by decide +kernel
theorem dX6_write_13 : decode cX6_write 13 = .ok (.aload_n 0, 1) := by decide +kernel
theorem dX6_write_14 : decode cX6_write 14 = .ok (.getfield 36, 3) := by decide +kernel
theorem dX6_write_17 : decode cX6_write 17 = .ok (.aload_n 0, 1) := by decide +kernel
theorem dX6_write_18 : decode cX6_write 18 = .ok (.getfield 19, 3) := by decide +kernel
theorem dX6_write_21 : decode cX6_write 21 = .ok (.iload_n 1, 1) := by decide +kernel
theorem dX6_write_22 : decode cX6_write 22 = .ok (.iload_n 2, 1) := by decide +kernel
theorem dX6_write_23 : decode cX6_write 23 = .ok (.invokevirtual 141, 3) := by decide +kernel
theorem dX6_write_26 : decode cX6_write 26 = .ok (.iload_n 2, 1) := by decide +kernel
theorem dX6_write_27 : decode cX6_write 27 = .ok (.invokevirtual 243, 3) := by decide +kernel
theorem dX6_write_30 : decode cX6_write 30 = .ok (.iinc 2 (-1), 3) := by decide +kernel
theorem dX6_write_33 : decode cX6_write 33 = .ok (.goto (-24), 3) := by decide +kernel
theorem dX6_write_36 : decode cX6_write 36 = .ok (.aload_n 0, 1) := by decide +kernel
theorem dX6_write_37 : decode cX6_write 37 = .ok (.getfield 36, 3) := by decide +kernel
theorem dX6_write_40 : decode cX6_write 40 = .ok (.invokevirtual 247, 3) := by decide +kernel
theorem dX6_write_43 : decode cX6_write 43 = .ok (.ifCond .ne 12, 3) := by decide +kernel
theorem dX6_write_46 : decode cX6_write 46 = .ok (.aload_n 0, 1) := by decide +kernel
theorem dX6_write_47 : decode cX6_write 47 = .ok (.getfield 36, 3) := by decide +kernel
theorem dX6_write_50 : decode cX6_write 50 = .ok (.bipush 48, 2) := by decide +kernel
theorem dX6_write_52 : decode cX6_write 52 = .ok (.invokevirtual 248, 3) := by decide +kernel
theorem dX6_write_55 : decode cX6_write 55 = .ok (.aload_n 0, 1) := by decide +kernel
theorem dX6_write_56 : decode cX6_write 56 = .ok (.getfield 36, 3) := by decide +kernel
theorem dX6_write_59 : decode cX6_write 59 = .ok (.invokevirtual 247, 3) := by decide +kernel
theorem dX6_write_62 : decode cX6_write 62 = .ok (.ireturn, 1) := by decide +kernel
theorem dX6_writeValues_0 : decode cX6_writeValues 0 = .ok (.aload_n 0, 1) := by decide +kernel
theorem dX6_writeValues_1 : decode cX6_writeValues 1 = .ok (.getfield 36, 3) := by decide +kernel
theorem dX6_writeValues_4 : decode cX6_writeValues 4 = .ok (.invokevirtual 242, 3) := by decide +kernel
theorem dX6_writeValues_7 : decode cX6_writeValues 7 = .ok (.bipush (-3), 2) := by decide +kernel
theorem dX6_writeValues_9 : decode cX6_writeValues 9 = .ok (.istore_n 1, 1) := by decide +kernel
theorem dX6_writeValues_10 : decode cX6_writeValues 10 = .ok (.iload_n 1, 1) := by decide +kernel
theorem dX6_writeValues_11 : decode cX6_writeValues 11 = .ok (.iconst 3, 1) := by decide +kernel
theorem dX6_writeValues_12 : decode cX6_writeValues 12 = .ok (.if_icmp .gt 79, 3) := by decide +kernel
theorem dX6_writeValues_15 : decode cX6_writeValues 15 = .ok (.iload_n 1, 1) := by decide +kernel
theorem dX6_writeValues_16 : decode cX6_writeValues 16 = .ok (.bipush (-3), 2) := by decide +kernel
theorem dX6_writeValues_18 : decode cX6_writeValues 18 = .ok (.if_icmp .le 12, 3) := by decide +kernel
theorem dX6_writeValues_21 : decode cX6_writeValues 21 = .ok (.aload_n 0, 1) := by decide +kernel
theorem dX6_writeValues_22 : decode cX6_writeValues 22 = .ok (.getfield 36, 3) := by decide +kernel
theorem dX6_writeValues_25 : decode cX6_writeValues 25 = .ok (.bipush 32, 2) := by decide +kernel
theorem dX6_writeValues_27 : decode cX6_writeValues 27 = .ok (.invokevirtual 248, 3) := by decide +kernel
theorem dX6_writeValues_30 : decode cX6_writeValues 30 = .ok (.aload_n 0, 1) := by decide +kernel
theorem dX6_writeValues_31 : decode cX6_writeValues 31 = .ok (.getfield 19, 3) := by decide +kernel
theorem dX6_writeValues_34 : decode cX6_writeValues 34 = .ok (.iload_n 1, 1) := by decide +kernel
theorem dX6_writeValues_35 : decode cX6_writeValues 35 = .ok (.aload_n 0, 1) := by decide +kernel
theorem dX6_writeValues_36 : decode cX6_writeValues 36 = .ok (.getfield 43, 3) := by decide +kernel
theorem dX6_writeValues_39 : decode cX6_writeValues 39 = .ok (.invokevirtual 166, 3) := by decide +kernel
theorem dX6_writeValues_42 : decode cX6_writeValues 42 = .ok (.ifCond .eq 17, 3) := by decide +kernel
theorem dX6_writeValues_45 : decode cX6_writeValues 45 = .ok (.aload_n 0, 1) := by decide +kernel
theorem dX6_writeValues_46 : decode cX6_writeValues 46 = .ok (.getfield 36, 3) := by decide +kernel
theorem dX6_writeValues_49 : decode cX6_writeValues 49 = .ok (.aload_n 0, 1) := by decide +kernel
theorem dX6_writeValues_50 : decode cX6_writeValues 50 = .ok (.getfield 43, 3) := by decide +kernel
theorem dX6_writeValues_53 : decode cX6_writeValues 53 = .ok (.invokevirtual 252, 3) := by decide +kernel
theorem dX6_writeValues_56 : decode cX6_writeValues 56 = .ok (.goto 29, 3) := by decide +kernel
theorem dX6_writeValues_59 : decode cX6_writeValues 59 = .ok (.aload_n 0, 1) := by decide +kernel
theorem dX6_writeValues_60 : decode cX6_writeValues 60 = .ok (.getfield 36, 3) := by decide +kernel
theorem dX6_writeValues_63 : decode cX6_writeValues 63 = .ok (.aload_n 0, 1) := by decide +kernel
theorem dX6_writeValues_64 : decode cX6_writeValues 64 = .ok (.getfield 19, 3) := by decide +kernel
theorem dX6_writeValues_67 : decode cX6_writeValues 67 = .ok (.iload_n 1, 1) := by decide +kernel
theorem dX6_writeValues_68 : decode cX6_writeValues 68 = .ok (.invokevirtual 145, 3) := by decide +kernel
theorem dX6_writeValues_71 : decode cX6_writeValues 71 = .ok (.iconst 2, 1) := by decide +kernel
theorem dX6_writeValues_72 : decode cX6_writeValues 72 = .ok (.if_icmp .ne 8, 3) := by decide +kernel
theorem dX6_writeValues_75 : decode cX6_writeValues 75 = .ok (.bipush 33, 2) := by decide +kernel
theorem dX6_writeValues_77 : decode cX6_writeValues 77 = .ok (.goto 5, 3) := by decide +kernel
theorem dX6_writeValues_80 : decode cX6_writeValues 80 = .ok (.bipush 63, 2) := by decide +kernel
theorem dX6_writeValues_82 : decode cX6_writeValues 82 = .ok (.invokevirtual 248, 3) := by decide +kernel
theorem dX6_writeValues_85 : decode cX6_writeValues 85 = .ok (.iinc 1 1, 3) := by decide +kernel
theorem dX6_writeValues_88 : decode cX6_writeValues 88 = .ok (.goto (-78), 3) := by decide +kernel
theorem dX6_writeValues_91 : decode cX6_writeValues 91 = .ok (.aload_n 0, 1) := by decide +kernel
theorem dX6_writeValues_92 : decode cX6_writeValues 92 = .ok (.getfield 36, 3) := by decide +kernel
theorem dX6_writeValues_95 : decode cX6_writeValues 95 = .ok (.invokevirtual 247, 3) := by decide +kernel
theorem dX6_writeValues_98 : decode cX6_writeValues 98 = .ok (.ireturn, 1) := by decide +kernel
theorem dX6_written_0 : decode cX6_written 0 = .ok (.iload_n 1, 1) := by decide +kernel
theorem dX6_written_1 : decode cX6_written 1 = .ok (.ifCond .lt 14, 3) := by decide +kernel
theorem dX6_written_4 : decode cX6_written 4 = .ok (.iload_n 1, 1) := by decide +kernel
theorem dX6_written_5 : decode cX6_written 5 = .ok (.aload_n 0, 1) := by decide +kernel
theorem dX6_written_6 : decode cX6_written 6 = .ok (.getfield 36, 3) := by decide +kernel
theorem dX6_written_9 : decode cX6_written 9 = .ok (.invokevirtual 247, 3) := by decide +kernel
theorem dX6_written_12 : decode cX6_written 12 = .ok (.if_icmp .lt 14, 3) := by decide +kernel
theorem dX6_written_15 : decode cX6_written 15 = .ok (.new 255, 3) := by decide +kernel
theorem dX6_written_18 : decode cX6_written 18 = .ok (.dup, 1) := by decide +kernel
theorem dX6_written_19 : decode cX6_written 19 = .ok (.ldc_w 257, 3) := by decide +kernel
theorem dX6_written_22 : decode cX6_written 22 = .ok (.invokespecial 259, 3) := by decide +kernel
theorem dX6_written_25 : decode cX6_written 25 = .ok (.athrow, 1) := by decide +kernel
theorem dX6_written_26 : decode cX6_written 26 = .ok (.aload_n 0, 1) := by decide +kernel
theorem dX6_written_27 : decode cX6_written 27 = .ok (.getfield 36, 3) := by decide +kernel
theorem dX6_written_30 : decode cX6_written 30 = .ok (.iload_n 1, 1) := by decide +kernel
theorem dX6_written_31 : decode cX6_written 31 = .ok (.invokevirtual 260, 3) := by decide +kernel
theorem dX6_written_34 : decode cX6_written 34 = .ok (.ireturn, 1) := by decide +kernel
theorem dX6_needPoint_0 : decode cX6_needPoint 0 = .ok (.aload_n 0, 1) := by decide +kernel
theorem dX6_needPoint_1 : decode cX6_needPoint 1 = .ok (.getfield 19, 3) := by decide +kernel
theorem dX6_needPoint_4 : decode cX6_needPoint 4 = .ok (.getfield 66, 3) := by decide +kernel
theorem dX6_needPoint_7 : decode cX6_needPoint 7 = .ok (.iload_n 1, 1) := by decide +kernel
theorem dX6_needPoint_8 : decode cX6_needPoint 8 = .ok (.invokevirtual 264, 3) := by decide +kernel
theorem dX6_needPoint_11 : decode cX6_needPoint 11 = .ok (.ifCond .ne 14, 3) := by decide +kernel
theorem dX6_needPoint_14 : decode cX6_needPoint 14 = .ok (.new 255, 3) := by decide +kernel
theorem dX6_needPoint_17 : decode cX6_needPoint 17 = .ok (.dup, 1) := by decide +kernel
theorem dX6_needPoint_18 : decode cX6_needPoint 18 = .ok (.ldc_w 267, 3) := by decide +kernel
theorem dX6_needPoint_21 : decode cX6_needPoint 21 = .ok (.invokespecial 259, 3) := by decide +kernel
theorem dX6_needPoint_24 : decode cX6_needPoint 24 = .ok (.athrow, 1) := by decide +kernel
theorem dX6_needPoint_25 : decode cX6_needPoint 25 = .ok (.return_, 1) := by decide +kernel
theorem dX6_needBetween_0 : decode cX6_needBetween 0 = .ok (.iload_n 0, 1) := by decide +kernel
theorem dX6_needBetween_1 : decode cX6_needBetween 1 = .ok (.iload_n 1, 1) := by decide +kernel
theorem dX6_needBetween_2 : decode cX6_needBetween 2 = .ok (.if_icmp .lt 8, 3) := by decide +kernel
theorem dX6_needBetween_5 : decode cX6_needBetween 5 = .ok (.iload_n 0, 1) := by decide +kernel
theorem dX6_needBetween_6 : decode cX6_needBetween 6 = .ok (.iload_n 2, 1) := by decide +kernel
theorem dX6_needBetween_7 : decode cX6_needBetween 7 = .ok (.if_icmp .le 14, 3) := by decide +kernel
theorem dX6_needBetween_10 : decode cX6_needBetween 10 = .ok (.new 269, 3) := by decide +kernel
theorem dX6_needBetween_13 : decode cX6_needBetween 13 = .ok (.dup, 1) := by decide +kernel
theorem dX6_needBetween_14 : decode cX6_needBetween 14 = .ok (.ldc_w 271, 3) := by decide +kernel
theorem dX6_needBetween_17 : decode cX6_needBetween 17 = .ok (.invokespecial 273, 3) := by decide +kernel
theorem dX6_needBetween_20 : decode cX6_needBetween 20 = .ok (.athrow, 1) := by decide +kernel
theorem dX6_needBetween_21 : decode cX6_needBetween 21 = .ok (.return_, 1) := by decide +kernel
theorem dX6_needWithin_0 : decode cX6_needWithin 0 = .ok (.iload_n 0, 1) := by decide +kernel
theorem dX6_needWithin_1 : decode cX6_needWithin 1 = .ok (.iload_n 1, 1) := by decide +kernel
theorem dX6_needWithin_2 : decode cX6_needWithin 2 = .ok (.ineg, 1) := by decide +kernel
theorem dX6_needWithin_3 : decode cX6_needWithin 3 = .ok (.iload_n 1, 1) := by decide +kernel
theorem dX6_needWithin_4 : decode cX6_needWithin 4 = .ok (.invokestatic 62, 3) := by decide +kernel
theorem dX6_needWithin_7 : decode cX6_needWithin 7 = .ok (.return_, 1) := by decide +kernel
theorem dX6_needPart_0 : decode cX6_needPart 0 = .ok (.iload_n 0, 1) := by decide +kernel
theorem dX6_needPart_1 : decode cX6_needPart 1 = .ok (.iconst 0, 1) := by decide +kernel
theorem dX6_needPart_2 : decode cX6_needPart 2 = .ok (.iconst 1, 1) := by decide +kernel
theorem dX6_needPart_3 : decode cX6_needPart 3 = .ok (.invokestatic 62, 3) := by decide +kernel
theorem dX6_needPart_6 : decode cX6_needPart 6 = .ok (.return_, 1) := by decide +kernel
theorem dX6_needFree_0 : decode cX6_needFree 0 = .ok (.aload_n 0, 1) := by decide +kernel
theorem dX6_needFree_1 : decode cX6_needFree 1 = .ok (.getfield 19, 3) := by decide +kernel
theorem dX6_needFree_4 : decode cX6_needFree 4 = .ok (.getfield 66, 3) := by decide +kernel
theorem dX6_needFree_7 : decode cX6_needFree 7 = .ok (.iload_n 1, 1) := by decide +kernel
theorem dX6_needFree_8 : decode cX6_needFree 8 = .ok (.iload_n 2, 1) := by decide +kernel
theorem dX6_needFree_9 : decode cX6_needFree 9 = .ok (.invokevirtual 204, 3) := by decide +kernel
theorem dX6_needFree_12 : decode cX6_needFree 12 = .ok (.ifCond .ne 14, 3) := by decide +kernel
theorem dX6_needFree_15 : decode cX6_needFree 15 = .ok (.new 225, 3) := by decide +kernel
theorem dX6_needFree_18 : decode cX6_needFree 18 = .ok (.dup, 1) := by decide +kernel
theorem dX6_needFree_19 : decode cX6_needFree 19 = .ok (.ldc_w 274, 3) := by decide +kernel
theorem dX6_needFree_22 : decode cX6_needFree 22 = .ok (.invokespecial 229, 3) := by decide +kernel
theorem dX6_needFree_25 : decode cX6_needFree 25 = .ok (.athrow, 1) := by decide +kernel
theorem dX6_needFree_26 : decode cX6_needFree 26 = .ok (.return_, 1) := by decide +kernel
theorem dX6_needWeight_0 : decode cX6_needWeight 0 = .ok (.aload_n 0, 1) := by decide +kernel
theorem dX6_needWeight_1 : decode cX6_needWeight 1 = .ok (.getfield 19, 3) := by decide +kernel
theorem dX6_needWeight_4 : decode cX6_needWeight 4 = .ok (.iload_n 1, 1) := by decide +kernel
theorem dX6_needWeight_5 : decode cX6_needWeight 5 = .ok (.invokevirtual 133, 3) := by decide +kernel
theorem dX6_needWeight_8 : decode cX6_needWeight 8 = .ok (.lconst 0, 1) := by decide +kernel
theorem dX6_needWeight_9 : decode cX6_needWeight 9 = .ok (.lcmp, 1) := by decide +kernel
theorem dX6_needWeight_10 : decode cX6_needWeight 10 = .ok (.ifCond .ne 14, 3) := by decide +kernel
theorem dX6_needWeight_13 : decode cX6_needWeight 13 = .ok (.new 225, 3) := by decide +kernel
theorem dX6_needWeight_16 : decode cX6_needWeight 16 = .ok (.dup, 1) := by decide +kernel
theorem dX6_needWeight_17 : decode cX6_needWeight 17 = .ok (.ldc_w 276, 3) := by decide +kernel
theorem dX6_needWeight_20 : decode cX6_needWeight 20 = .ok (.invokespecial 229, 3) := by decide +kernel
theorem dX6_needWeight_23 : decode cX6_needWeight 23 = .ok (.athrow, 1) := by decide +kernel
theorem dX6_needWeight_24 : decode cX6_needWeight 24 = .ok (.return_, 1) := by decide +kernel
theorem dX6_needValue_0 : decode cX6_needValue 0 = .ok (.aload_n 1, 1) := by decide +kernel
theorem dX6_needValue_1 : decode cX6_needValue 1 = .ok (.iload_n 2, 1) := by decide +kernel
theorem dX6_needValue_2 : decode cX6_needValue 2 = .ok (.aload_n 0, 1) := by decide +kernel
theorem dX6_needValue_3 : decode cX6_needValue 3 = .ok (.getfield 43, 3) := by decide +kernel
theorem dX6_needValue_6 : decode cX6_needValue 6 = .ok (.invokevirtual 166, 3) := by decide +kernel
theorem dX6_needValue_9 : decode cX6_needValue 9 = .ok (.ifCond .ne 13, 3) := by decide +kernel
theorem dX6_needValue_12 : decode cX6_needValue 12 = .ok (.new 126, 3) := by decide +kernel
theorem dX6_needValue_15 : decode cX6_needValue 15 = .ok (.dup, 1) := by decide +kernel
theorem dX6_needValue_16 : decode cX6_needValue 16 = .ok (.ldc 177, 2) := by decide +kernel
theorem dX6_needValue_18 : decode cX6_needValue 18 = .ok (.invokespecial 130, 3) := by decide +kernel
theorem dX6_needValue_21 : decode cX6_needValue 21 = .ok (.athrow, 1) := by decide +kernel
theorem dX6_needValue_22 : decode cX6_needValue 22 = .ok (.return_, 1) := by decide +kernel
theorem dX6_meets_0 : decode cX6_meets 0 = .ok (.aload_n 0, 1) := by decide +kernel
theorem dX6_meets_1 : decode cX6_meets 1 = .ok (.getfield 19, 3) := by decide +kernel
theorem dX6_meets_4 : decode cX6_meets 4 = .ok (.aload_n 0, 1) := by decide +kernel
theorem dX6_meets_5 : decode cX6_meets 5 = .ok (.getfield 19, 3) := by decide +kernel
theorem dX6_meets_8 : decode cX6_meets 8 = .ok (.getfield 66, 3) := by decide +kernel
theorem dX6_meets_11 : decode cX6_meets 11 = .ok (.iload_n 1, 1) := by decide +kernel
theorem dX6_meets_12 : decode cX6_meets 12 = .ok (.invokevirtual 106, 3) := by decide +kernel
theorem dX6_meets_15 : decode cX6_meets 15 = .ok (.aload_n 0, 1) := by decide +kernel
theorem dX6_meets_16 : decode cX6_meets 16 = .ok (.getfield 43, 3) := by decide +kernel
theorem dX6_meets_19 : decode cX6_meets 19 = .ok (.invokevirtual 166, 3) := by decide +kernel
theorem dX6_meets_22 : decode cX6_meets 22 = .ok (.ifCond .eq 44, 3) := by decide +kernel
theorem dX6_meets_25 : decode cX6_meets 25 = .ok (.aload_n 0, 1) := by decide +kernel
theorem dX6_meets_26 : decode cX6_meets 26 = .ok (.getfield 43, 3) := by decide +kernel
theorem dX6_meets_29 : decode cX6_meets 29 = .ok (.iconst 1, 1) := by decide +kernel
theorem dX6_meets_30 : decode cX6_meets 30 = .ok (.invokevirtual 155, 3) := by decide +kernel
theorem dX6_meets_33 : decode cX6_meets 33 = .ok (.lconst 1, 1) := by decide +kernel
theorem dX6_meets_34 : decode cX6_meets 34 = .ok (.lcmp, 1) := by decide +kernel
theorem dX6_meets_35 : decode cX6_meets 35 = .ok (.ifCond .ne 31, 3) := by decide +kernel
theorem dX6_meets_38 : decode cX6_meets 38 = .ok (.aload_n 0, 1) := by decide +kernel
theorem dX6_meets_39 : decode cX6_meets 39 = .ok (.getfield 43, 3) := by decide +kernel
theorem dX6_meets_42 : decode cX6_meets 42 = .ok (.iconst 0, 1) := by decide +kernel
theorem dX6_meets_43 : decode cX6_meets 43 = .ok (.invokevirtual 155, 3) := by decide +kernel
theorem dX6_meets_46 : decode cX6_meets 46 = .ok (.aload_n 0, 1) := by decide +kernel
theorem dX6_meets_47 : decode cX6_meets 47 = .ok (.getfield 19, 3) := by decide +kernel
theorem dX6_meets_50 : decode cX6_meets 50 = .ok (.getfield 66, 3) := by decide +kernel
theorem dX6_meets_53 : decode cX6_meets 53 = .ok (.iload_n 1, 1) := by decide +kernel
theorem dX6_meets_54 : decode cX6_meets 54 = .ok (.invokevirtual 110, 3) := by decide +kernel
theorem dX6_meets_57 : decode cX6_meets 57 = .ok (.i2l, 1) := by decide +kernel
theorem dX6_meets_58 : decode cX6_meets 58 = .ok (.lcmp, 1) := by decide +kernel
theorem dX6_meets_59 : decode cX6_meets 59 = .ok (.ifCond .ne 7, 3) := by decide +kernel
theorem dX6_meets_62 : decode cX6_meets 62 = .ok (.iconst 1, 1) := by decide +kernel
theorem dX6_meets_63 : decode cX6_meets 63 = .ok (.goto 4, 3) := by decide +kernel
theorem dX6_meets_66 : decode cX6_meets 66 = .ok (.iconst 0, 1) := by decide +kernel
theorem dX6_meets_67 : decode cX6_meets 67 = .ok (.ireturn, 1) := by decide +kernel
theorem dX6_tryPlace_0 : decode cX6_tryPlace 0 = .ok (.aload_n 0, 1) := by decide +kernel
theorem dX6_tryPlace_1 : decode cX6_tryPlace 1 = .ok (.getfield 23, 3) := by decide +kernel
theorem dX6_tryPlace_4 : decode cX6_tryPlace 4 = .ok (.getfield 66, 3) := by decide +kernel
theorem dX6_tryPlace_7 : decode cX6_tryPlace 7 = .ok (.aload_n 0, 1) := by decide +kernel
theorem dX6_tryPlace_8 : decode cX6_tryPlace 8 = .ok (.getfield 19, 3) := by decide +kernel
theorem dX6_tryPlace_11 : decode cX6_tryPlace 11 = .ok (.getfield 66, 3) := by decide +kernel
theorem dX6_tryPlace_14 : decode cX6_tryPlace 14 = .ok (.invokevirtual 77, 3) := by decide +kernel
theorem dX6_tryPlace_17 : decode cX6_tryPlace 17 = .ok (.aload_n 0, 1) := by decide +kernel
theorem dX6_tryPlace_18 : decode cX6_tryPlace 18 = .ok (.getfield 23, 3) := by decide +kernel
theorem dX6_tryPlace_21 : decode cX6_tryPlace 21 = .ok (.getfield 66, 3) := by decide +kernel
theorem dX6_tryPlace_24 : decode cX6_tryPlace 24 = .ok (.iload_n 1, 1) := by decide +kernel
theorem dX6_tryPlace_25 : decode cX6_tryPlace 25 = .ok (.iload_n 2, 1) := by decide +kernel
theorem dX6_tryPlace_26 : decode cX6_tryPlace 26 = .ok (.invokevirtual 213, 3) := by decide +kernel
theorem dX6_tryPlace_29 : decode cX6_tryPlace 29 = .ok (.aload_n 0, 1) := by decide +kernel
theorem dX6_tryPlace_30 : decode cX6_tryPlace 30 = .ok (.getfield 23, 3) := by decide +kernel
theorem dX6_tryPlace_33 : decode cX6_tryPlace 33 = .ok (.invokevirtual 83, 3) := by decide +kernel
theorem dX6_tryPlace_36 : decode cX6_tryPlace 36 = .ok (.return_, 1) := by decide +kernel
