theorem dX7_init_0 : decode cX7_init 0 = .ok (.aload_n 0, 1) := by decide +kernel
theorem dX7_init_1 : decode cX7_init 1 = .ok (.invokespecial 1, 3) := by decide +kernel
theorem dX7_init_4 : decode cX7_init 4 = .ok (.aload_n 0, 1) := by decide +kernel
theorem dX7_init_5 : decode cX7_init 5 = .ok (.bipush 18, 2) := by decide +kernel
theorem dX7_init_7 : decode cX7_init 7 = .ok (.newarray .int, 2) := by decide +kernel
theorem dX7_init_9 : decode cX7_init 9 = .ok (.putfield 7, 3) := by decide +kernel
theorem dX7_init_12 : decode cX7_init 12 = .ok (.aload_n 0, 1) := by decide +kernel
theorem dX7_init_13 : decode cX7_init 13 = .ok (.bipush 18, 2) := by decide +kernel
theorem dX7_init_15 : decode cX7_init 15 = .ok (.newarray .int, 2) := by decide +kernel
theorem dX7_init_17 : decode cX7_init 17 = .ok (.putfield 13, 3) := by decide +kernel
theorem dX7_init_20 : decode cX7_init 20 = .ok (.aload_n 0, 1) := by decide +kernel
theorem dX7_init_21 : decode cX7_init 21 = .ok (.sipush 180, 3) := by decide +kernel
theorem dX7_init_24 : decode cX7_init 24 = .ok (.newarray .int, 2) := by decide +kernel
theorem dX7_init_26 : decode cX7_init 26 = .ok (.putfield 16, 3) := by decide +kernel
theorem dX7_init_29 : decode cX7_init 29 = .ok (.aload_n 0, 1) := by decide +kernel
theorem dX7_init_30 : decode cX7_init 30 = .ok (.sipush 400, 3) := by decide +kernel
theorem dX7_init_33 : decode cX7_init 33 = .ok (.newarray .int, 2) := by decide +kernel
theorem dX7_init_35 : decode cX7_init 35 = .ok (.putfield 19, 3) := by decide +kernel
theorem dX7_init_38 : decode cX7_init 38 = .ok (.aload_n 0, 1) := by decide +kernel
theorem dX7_init_39 : decode cX7_init 39 = .ok (.iconst (-1), 1) := by decide +kernel
theorem dX7_init_40 : decode cX7_init 40 = .ok (.putfield 22, 3) := by decide +kernel
theorem dX7_init_43 : decode cX7_init 43 = .ok (.aload_n 0, 1) := by decide +kernel
theorem dX7_init_44 : decode cX7_init 44 = .ok (.iconst 5, 1) := by decide +kernel
theorem dX7_init_45 : decode cX7_init 45 = .ok (.newarray .long, 2) := by decide +kernel
theorem dX7_init_47 : decode cX7_init 47 = .ok (.putfield 26, 3) := by decide +kernel
theorem dX7_init_50 : decode cX7_init 50 = .ok (.aload_n 0, 1) := by decide +kernel
theorem dX7_init_51 : decode cX7_init 51 = .ok (.iconst 5, 1) := by decide +kernel
theorem dX7_init_52 : decode cX7_init 52 = .ok (.newarray .int, 2) := by decide +kernel
theorem dX7_init_54 : decode cX7_init 54 = .ok (.putfield 30, 3) := by decide +kernel
theorem dX7_init_57 : decode cX7_init 57 = .ok (.aload_n 0, 1) := by decide +kernel
theorem dX7_init_58 : decode cX7_init 58 = .ok (.iconst 5, 1) := by decide +kernel
theorem dX7_init_59 : decode cX7_init 59 = .ok (.newarray .long, 2) := by decide +kernel
theorem dX7_init_61 : decode cX7_init 61 = .ok (.putfield 33, 3) := by decide +kernel
theorem dX7_init_64 : decode cX7_init 64 = .ok (.aload_n 0, 1) := by decide +kernel
theorem dX7_init_65 : decode cX7_init 65 = .ok (.iconst 5, 1) := by decide +kernel
theorem dX7_init_66 : decode cX7_init 66 = .ok (.newarray .long, 2) := by decide +kernel
theorem dX7_init_68 : decode cX7_init 68 = .ok (.putfield 36, 3) := by decide +kernel
theorem dX7_init_71 : decode cX7_init 71 = .ok (.aload_n 0, 1) := by decide +kernel
theorem dX7_init_72 : decode cX7_init 72 = .ok (.sipush 400, 3) := by decide +kernel
theorem dX7_init_75 : decode cX7_init 75 = .ok (.newarray .int, 2) := by decide +kernel
theorem dX7_init_77 : decode cX7_init 77 = .ok (.putfield 39, 3) := by decide +kernel
theorem dX7_init_80 : decode cX7_init 80 = .ok (.return_, 1) := by decide +kernel
theorem dX7_thrown_0 : decode cX7_thrown 0 = .ok (.aload_n 0, 1) := by decide +kernel
theorem dX7_thrown_1 : decode cX7_thrown 1 = .ok (.getfield 42, 3) := by decide +kernel
theorem dX7_thrown_4 : decode cX7_thrown 4 = .ok (.ireturn, 1) := by decide +kernel
theorem dX7_isIn_0 : decode cX7_isIn 0 = .ok (.lload_n 0, 1) := by decide +kernel
theorem dX7_isIn_1 : decode cX7_isIn 1 = .ok (.lload_n 2, 1) := by decide +kernel
theorem dX7_isIn_2 : decode cX7_isIn 2 = .ok (.lcmp, 1) := by decide +kernel
theorem dX7_isIn_3 : decode cX7_isIn 3 = .ok (.ifCond .lt 14, 3) := by decide +kernel
theorem dX7_isIn_6 : decode cX7_isIn 6 = .ok (.lload_n 0, 1) := by decide +kernel
theorem dX7_isIn_7 : decode cX7_isIn 7 = .ok (.lload 4, 2) := by decide +kernel
theorem dX7_isIn_9 : decode cX7_isIn 9 = .ok (.lcmp, 1) := by decide +kernel
theorem dX7_isIn_10 : decode cX7_isIn 10 = .ok (.ifCond .gt 7, 3) := by decide +kernel
theorem dX7_isIn_13 : decode cX7_isIn 13 = .ok (.iconst 1, 1) := by decide +kernel
theorem dX7_isIn_14 : decode cX7_isIn 14 = .ok (.goto 4, 3) := by decide +kernel
theorem dX7_isIn_17 : decode cX7_isIn 17 = .ok (.iconst 0, 1) := by decide +kernel
theorem dX7_isIn_18 : decode cX7_isIn 18 = .ok (.ireturn, 1) := by decide +kernel
theorem dX7_good_0 : decode cX7_good 0 = .ok (.aload_n 0, 1) := by decide +kernel
theorem dX7_good_1 : decode cX7_good 1 = .ok (.iload_n 1, 1) := by decide +kernel
theorem dX7_good_2 : decode cX7_good 2 = .ok (.ifCond .eq 7, 3) := by decide +kernel
theorem dX7_good_5 : decode cX7_good 5 = .ok (.iconst 0, 1) := by decide +kernel
theorem dX7_good_6 : decode cX7_good 6 = .ok (.goto 4, 3) := by decide +kernel
theorem dX7_good_9 : decode cX7_good 9 = .ok (.iconst 1, 1) := by decide +kernel
theorem dX7_good_10 : decode cX7_good 10 = .ok (.putfield 42, 3) := by decide +kernel
theorem dX7_good_13 : decode cX7_good 13 = .ok (.iload_n 1, 1) := by decide +kernel
theorem dX7_good_14 : decode cX7_good 14 = .ok (.ireturn, 1) := by decide +kernel
theorem dX7_good__0 : decode cX7_good_ 0 = .ok (.aload_n 0, 1) := by decide +kernel
theorem dX7_good__1 : decode cX7_good_ 1 = .ok (.iload_n 1, 1) := by decide +kernel
theorem dX7_good__2 : decode cX7_good_ 2 = .ok (.iload_n 2, 1) := by decide +kernel
theorem dX7_good__3 : decode cX7_good_ 3 = .ok (.iconst 1, 1) := by decide +kernel
theorem dX7_good__4 : decode cX7_good_ 4 = .ok (.invokevirtual 45, 3) := by decide +kernel
theorem dX7_good__7 : decode cX7_good_ 7 = .ok (.ireturn, 1) := by decide +kernel
theorem dX7_good___0 : decode cX7_good__ 0 = .ok (.aload_n 0, 1) := by decide +kernel
theorem dX7_good___1 : decode cX7_good__ 1 = .ok (.iconst 0, 1) := by decide +kernel
theorem dX7_good___2 : decode cX7_good__ 2 = .ok (.putfield 42, 3) := by decide +kernel
theorem dX7_good___5 : decode cX7_good__ 5 = .ok (.iload_n 1, 1) := by decide +kernel
theorem dX7_good___6 : decode cX7_good__ 6 = .ok (.ifCond .ne 11, 3) := by decide +kernel
theorem dX7_good___9 : decode cX7_good__ 9 = .ok (.aload_n 0, 1) := by decide +kernel
theorem dX7_good___10 : decode cX7_good__ 10 = .ok (.iconst 1, 1) := by decide +kernel
theorem dX7_good___11 : decode cX7_good__ 11 = .ok (.putfield 42, 3) := by decide +kernel
theorem dX7_good___14 : decode cX7_good__ 14 = .ok (.goto 24, 3) := by decide +kernel
theorem dX7_good___17 : decode cX7_good__ 17 = .ok (.iload_n 2, 1) := by decide +kernel
theorem dX7_good___18 : decode cX7_good__ 18 = .ok (.ifCond .ne 11, 3) := by decide +kernel
theorem dX7_good___21 : decode cX7_good__ 21 = .ok (.aload_n 0, 1) := by decide +kernel
theorem dX7_good___22 : decode cX7_good__ 22 = .ok (.iconst 2, 1) := by decide +kernel
theorem dX7_good___23 : decode cX7_good__ 23 = .ok (.putfield 42, 3) := by decide +kernel
theorem dX7_good___26 : decode cX7_good__ 26 = .ok (.goto 12, 3) := by decide +kernel
theorem dX7_good___29 : decode cX7_good__ 29 = .ok (.iload_n 3, 1) := by decide +kernel
theorem dX7_good___30 : decode cX7_good__ 30 = .ok (.ifCond .ne 8, 3) := by decide +kernel
theorem dX7_good___33 : decode cX7_good__ 33 = .ok (.aload_n 0, 1) := by decide +kernel
theorem dX7_good___34 : decode cX7_good__ 34 = .ok (.iconst 3, 1) := by decide +kernel
theorem dX7_good___35 : decode cX7_good__ 35 = .ok (.putfield 42, 3) := by decide +kernel
theorem dX7_good___38 : decode cX7_good__ 38 = .ok (.aload_n 0, 1) := by decide +kernel
theorem dX7_good___39 : decode cX7_good__ 39 = .ok (.getfield 42, 3) := by decide +kernel
theorem dX7_good___42 : decode cX7_good__ 42 = .ok (.ifCond .ne 7, 3) := by decide +kernel
theorem dX7_good___45 : decode cX7_good__ 45 = .ok (.iconst 1, 1) := by decide +kernel
theorem dX7_good___46 : decode cX7_good__ 46 = .ok (.goto 4, 3) := by decide +kernel
theorem dX7_good___49 : decode cX7_good__ 49 = .ok (.iconst 0, 1) := by decide +kernel
theorem dX7_good___50 : decode cX7_good__ 50 = .ok (.ireturn, 1) := by decide +kernel
theorem dX7_remember_0 : decode cX7_remember 0 = .ok (.aload_n 0, 1) := by decide +kernel
theorem dX7_remember_1 : decode cX7_remember 1 = .ok (.getfield 49, 3) := by decide +kernel
theorem dX7_remember_4 : decode cX7_remember 4 = .ok (.bipush 10, 2) := by decide +kernel
theorem dX7_remember_6 : decode cX7_remember 6 = .ok (.if_icmp .ne 44, 3) := by decide +kernel
theorem dX7_remember_9 : decode cX7_remember 9 = .ok (.bipush 18, 2) := by decide +kernel
theorem dX7_remember_11 : decode cX7_remember 11 = .ok (.istore_n 1, 1) := by decide +kernel
theorem dX7_remember_12 : decode cX7_remember 12 = .ok (.iload_n 1, 1) := by decide +kernel
theorem dX7_remember_13 : decode cX7_remember 13 = .ok (.sipush 180, 3) := by decide +kernel
theorem dX7_remember_16 : decode cX7_remember 16 = .ok (.if_icmp .ge 24, 3) := by decide +kernel
theorem dX7_remember_19 : decode cX7_remember 19 = .ok (.aload_n 0, 1) := by decide +kernel
theorem dX7_remember_20 : decode cX7_remember 20 = .ok (.getfield 16, 3) := by decide +kernel
theorem dX7_remember_23 : decode cX7_remember 23 = .ok (.iload_n 1, 1) := by decide +kernel
theorem dX7_remember_24 : decode cX7_remember 24 = .ok (.bipush 18, 2) := by decide +kernel
theorem dX7_remember_26 : decode cX7_remember 26 = .ok (.isub, 1) := by decide +kernel
theorem dX7_remember_27 : decode cX7_remember 27 = .ok (.aload_n 0, 1) := by decide +kernel
theorem dX7_remember_28 : decode cX7_remember 28 = .ok (.getfield 16, 3) := by decide +kernel
theorem dX7_remember_31 : decode cX7_remember 31 = .ok (.iload_n 1, 1) := by decide +kernel
theorem dX7_remember_32 : decode cX7_remember 32 = .ok (.iaload, 1) := by decide +kernel
theorem dX7_remember_33 : decode cX7_remember 33 = .ok (.iastore, 1) := by decide +kernel
theorem dX7_remember_34 : decode cX7_remember 34 = .ok (.iinc 1 1, 3) := by decide +kernel
theorem dX7_remember_37 : decode cX7_remember 37 = .ok (.goto (-25), 3) := by decide +kernel
theorem dX7_remember_40 : decode cX7_remember 40 = .ok (.aload_n 0, 1) := by decide +kernel
theorem dX7_remember_41 : decode cX7_remember 41 = .ok (.dup, 1) := by decide +kernel
theorem dX7_remember_42 : decode cX7_remember 42 = .ok (.getfield 49, 3) := by decide +kernel
theorem dX7_remember_45 : decode cX7_remember 45 = .ok (.iconst 1, 1) := by decide +kernel
theorem dX7_remember_46 : decode cX7_remember 46 = .ok (.isub, 1) := by decide +kernel
theorem dX7_remember_47 : decode cX7_remember 47 = .ok (.putfield 49, 3) := by decide +kernel
theorem dX7_remember_50 : decode cX7_remember 50 = .ok (.iconst 0, 1) := by decide +kernel
theorem dX7_remember_51 : decode cX7_remember 51 = .ok (.istore_n 1, 1) := by decide +kernel
theorem dX7_remember_52 : decode cX7_remember 52 = .ok (.iload_n 1, 1) := by decide +kernel
theorem dX7_remember_53 : decode cX7_remember 53 = .ok (.bipush 18, 2) := by decide +kernel
theorem dX7_remember_55 : decode cX7_remember 55 = .ok (.if_icmp .ge 29, 3) := by decide +kernel
theorem dX7_remember_58 : decode cX7_remember 58 = .ok (.aload_n 0, 1) := by decide +kernel
theorem dX7_remember_59 : decode cX7_remember 59 = .ok (.getfield 16, 3) := by decide +kernel
theorem dX7_remember_62 : decode cX7_remember 62 = .ok (.bipush 18, 2) := by decide +kernel
theorem dX7_remember_64 : decode cX7_remember 64 = .ok (.aload_n 0, 1) := by decide +kernel
theorem dX7_remember_65 : decode cX7_remember 65 = .ok (.getfield 49, 3) := by decide +kernel
theorem dX7_remember_68 : decode cX7_remember 68 = .ok (.imul, 1) := by decide +kernel
theorem dX7_remember_69 : decode cX7_remember 69 = .ok (.iload_n 1, 1) := by decide +kernel
theorem dX7_remember_70 : decode cX7_remember 70 = .ok (.iadd, 1) := by decide +kernel
theorem dX7_remember_71 : decode cX7_remember 71 = .ok (.aload_n 0, 1) := by decide +kernel
theorem dX7_remember_72 : decode cX7_remember 72 = .ok (.getfield 7, 3) := by decide +kernel
theorem dX7_remember_75 : decode cX7_remember 75 = .ok (.iload_n 1, 1) := by decide +kernel
theorem dX7_remember_76 : decode cX7_remember 76 = .ok (.iaload, 1) := by decide +kernel
theorem dX7_remember_77 : decode cX7_remember 77 = .ok (.iastore, 1) := by decide +kernel
theorem dX7_remember_78 : decode cX7_remember 78 = .ok (.iinc 1 1, 3) := by decide +kernel
theorem dX7_remember_81 : decode cX7_remember 81 = .ok (.goto (-29), 3) := by decide +kernel
theorem dX7_remember_84 : decode cX7_remember 84 = .ok (.aload_n 0, 1) := by decide +kernel
theorem dX7_remember_85 : decode cX7_remember 85 = .ok (.dup, 1) := by decide +kernel
theorem dX7_remember_86 : decode cX7_remember 86 = .ok (.getfield 49, 3) := by decide +kernel
theorem dX7_remember_89 : decode cX7_remember 89 = .ok (.iconst 1, 1) := by decide +kernel
theorem dX7_remember_90 : decode cX7_remember 90 = .ok (.iadd, 1) := by decide +kernel
theorem dX7_remember_91 : decode cX7_remember 91 = .ok (.putfield 49, 3) := by decide +kernel
theorem dX7_remember_94 : decode cX7_remember 94 = .ok (.return_, 1) := by decide +kernel
theorem dX7_undo_0 : decode cX7_undo 0 = .ok (.aload_n 0, 1) := by decide +kernel
theorem dX7_undo_1 : decode cX7_undo 1 = .ok (.iconst 0, 1) := by decide +kernel
theorem dX7_undo_2 : decode cX7_undo 2 = .ok (.putfield 42, 3) := by decide +kernel
theorem dX7_undo_5 : decode cX7_undo 5 = .ok (.aload_n 0, 1) := by decide +kernel
theorem dX7_undo_6 : decode cX7_undo 6 = .ok (.getfield 49, 3) := by decide +kernel
theorem dX7_undo_9 : decode cX7_undo 9 = .ok (.ifCond .ne 5, 3) := by decide +kernel
theorem dX7_undo_12 : decode cX7_undo 12 = .ok (.iconst (-1), 1) := by decide +kernel
theorem dX7_undo_13 : decode cX7_undo 13 = .ok (.ireturn, 1) := by decide +kernel
theorem dX7_undo_14 : decode cX7_undo 14 = .ok (.aload_n 0, 1) := by decide +kernel
theorem dX7_undo_15 : decode cX7_undo 15 = .ok (.dup, 1) := by decide +kernel
theorem dX7_undo_16 : decode cX7_undo 16 = .ok (.getfield 49, 3) := by decide +kernel
theorem dX7_undo_19 : decode cX7_undo 19 = .ok (.iconst 1, 1) := by decide +kernel
theorem dX7_undo_20 : decode cX7_undo 20 = .ok (.isub, 1) := by decide +kernel
theorem dX7_undo_21 : decode cX7_undo 21 = .ok (.putfield 49, 3) := by decide +kernel
theorem dX7_undo_24 : decode cX7_undo 24 = .ok (.iconst 0, 1) := by decide +kernel
theorem dX7_undo_25 : decode cX7_undo 25 = .ok (.istore_n 1, 1) := by decide +kernel
theorem dX7_undo_26 : decode cX7_undo 26 = .ok (.iload_n 1, 1) := by decide +kernel
theorem dX7_undo_27 : decode cX7_undo 27 = .ok (.bipush 18, 2) := by decide +kernel
theorem dX7_undo_29 : decode cX7_undo 29 = .ok (.if_icmp .ge 29, 3) := by decide +kernel
theorem dX7_undo_32 : decode cX7_undo 32 = .ok (.aload_n 0, 1) := by decide +kernel
theorem dX7_undo_33 : decode cX7_undo 33 = .ok (.getfield 7, 3) := by decide +kernel
theorem dX7_undo_36 : decode cX7_undo 36 = .ok (.iload_n 1, 1) := by decide +kernel
theorem dX7_undo_37 : decode cX7_undo 37 = .ok (.aload_n 0, 1) := by decide +kernel
theorem dX7_undo_38 : decode cX7_undo 38 = .ok (.getfield 16, 3) := by decide +kernel
theorem dX7_undo_41 : decode cX7_undo 41 = .ok (.bipush 18, 2) := by decide +kernel
theorem dX7_undo_43 : decode cX7_undo 43 = .ok (.aload_n 0, 1) := by decide +kernel
theorem dX7_undo_44 : decode cX7_undo 44 = .ok (.getfield 49, 3) := by decide +kernel
theorem dX7_undo_47 : decode cX7_undo 47 = .ok (.imul, 1) := by decide +kernel
theorem dX7_undo_48 : decode cX7_undo 48 = .ok (.iload_n 1, 1) := by decide +kernel
theorem dX7_undo_49 : decode cX7_undo 49 = .ok (.iadd, 1) := by decide +kernel
theorem dX7_undo_50 : decode cX7_undo 50 = .ok (.iaload, 1) := by decide +kernel
theorem dX7_undo_51 : decode cX7_undo 51 = .ok (.iastore, 1) := by decide +kernel
theorem dX7_undo_52 : decode cX7_undo 52 = .ok (.iinc 1 1, 3) := by decide +kernel
theorem dX7_undo_55 : decode cX7_undo 55 = .ok (.goto (-29), 3) := by decide +kernel
theorem dX7_undo_58 : decode cX7_undo 58 = .ok (.aload_n 0, 1) := by decide +kernel
theorem dX7_undo_59 : decode cX7_undo 59 = .ok (.getfield 49, 3) := by decide +kernel
theorem dX7_undo_62 : decode cX7_undo 62 = .ok (.ireturn, 1) := by decide +kernel
theorem dX7_putAside_0 : decode cX7_putAside 0 = .ok (.iconst 0, 1) := by decide +kernel
theorem dX7_putAside_1 : decode cX7_putAside 1 = .ok (.istore_n 1, 1) := by decide +kernel
theorem dX7_putAside_2 : decode cX7_putAside 2 = .ok (.iload_n 1, 1) := by decide +kernel
theorem dX7_putAside_3 : decode cX7_putAside 3 = .ok (.bipush 18, 2) := by decide +kernel
theorem dX7_putAside_5 : decode cX7_putAside 5 = .ok (.if_icmp .ge 21, 3) := by decide +kernel
theorem dX7_putAside_8 : decode cX7_putAside 8 = .ok (.aload_n 0, 1) := by decide +kernel
theorem dX7_putAside_9 : decode cX7_putAside 9 = .ok (.getfield 13, 3) := by decide +kernel
theorem dX7_putAside_12 : decode cX7_putAside 12 = .ok (.iload_n 1, 1) := by decide +kernel
theorem dX7_putAside_13 : decode cX7_putAside 13 = .ok (.aload_n 0, 1) := by decide +kernel
theorem dX7_putAside_14 : decode cX7_putAside 14 = .ok (.getfield 7, 3) := by decide +kernel
theorem dX7_putAside_17 : decode cX7_putAside 17 = .ok (.iload_n 1, 1) := by decide +kernel
theorem dX7_putAside_18 : decode cX7_putAside 18 = .ok (.iaload, 1) := by decide +kernel
theorem dX7_putAside_19 : decode cX7_putAside 19 = .ok (.iastore, 1) := by decide +kernel
theorem dX7_putAside_20 : decode cX7_putAside 20 = .ok (.iinc 1 1, 3) := by decide +kernel
theorem dX7_putAside_23 : decode cX7_putAside 23 = .ok (.goto (-21), 3) := by decide +kernel
theorem dX7_putAside_26 : decode cX7_putAside 26 = .ok (.return_, 1) := by decide +kernel
theorem dX7_layBack_0 : decode cX7_layBack 0 = .ok (.iconst 0, 1) := by decide +kernel
theorem dX7_layBack_1 : decode cX7_layBack 1 = .ok (.istore_n 1, 1) := by decide +kernel
theorem dX7_layBack_2 : decode cX7_layBack 2 = .ok (.iload_n 1, 1) := by decide +kernel
theorem dX7_layBack_3 : decode cX7_layBack 3 = .ok (.bipush 18, 2) := by decide +kernel
theorem dX7_layBack_5 : decode cX7_layBack 5 = .ok (.if_icmp .ge 21, 3) := by decide +kernel
theorem dX7_layBack_8 : decode cX7_layBack 8 = .ok (.aload_n 0, 1) := by decide +kernel
theorem dX7_layBack_9 : decode cX7_layBack 9 = .ok (.getfield 7, 3) := by decide +kernel
theorem dX7_layBack_12 : decode cX7_layBack 12 = .ok (.iload_n 1, 1) := by decide +kernel
theorem dX7_layBack_13 : decode cX7_layBack 13 = .ok (.aload_n 0, 1) := by decide +kernel
theorem dX7_layBack_14 : decode cX7_layBack 14 = .ok (.getfield 13, 3) := by decide +kernel
theorem dX7_layBack_17 : decode cX7_layBack 17 = .ok (.iload_n 1, 1) := by decide +kernel
theorem dX7_layBack_18 : decode cX7_layBack 18 = .ok (.iaload, 1) := by decide +kernel
theorem dX7_layBack_19 : decode cX7_layBack 19 = .ok (.iastore, 1) := by decide +kernel
theorem dX7_layBack_20 : decode cX7_layBack 20 = .ok (.iinc 1 1, 3) := by decide +kernel
theorem dX7_layBack_23 : decode cX7_layBack 23 = .ok (.goto (-21), 3) := by decide +kernel
theorem dX7_layBack_26 : decode cX7_layBack 26 = .ok (.return_, 1) := by decide +kernel
theorem dX7_append_0 : decode cX7_append 0 = .ok (.bipush 24, 2) := by decide +kernel
theorem dX7_append_2 : decode cX7_append 2 = .ok (.istore_n 2, 1) := by decide +kernel
theorem dX7_append_3 : decode cX7_append 3 = .ok (.iload_n 2, 1) := by decide +kernel
theorem dX7_append_4 : decode cX7_append 4 = .ok (.ifCond .lt 35, 3) := by decide +kernel
theorem dX7_append_7 : decode cX7_append 7 = .ok (.aload_n 0, 1) := by decide +kernel
theorem dX7_append_8 : decode cX7_append 8 = .ok (.getfield 19, 3) := by decide +kernel
theorem dX7_append_11 : decode cX7_append 11 = .ok (.aload_n 0, 1) := by decide +kernel
theorem dX7_append_12 : decode cX7_append 12 = .ok (.getfield 52, 3) := by decide +kernel
theorem dX7_append_15 : decode cX7_append 15 = .ok (.iload_n 1, 1) := by decide +kernel
theorem dX7_append_16 : decode cX7_append 16 = .ok (.iload_n 2, 1) := by decide +kernel
theorem dX7_append_17 : decode cX7_append 17 = .ok (.iushr, 1) := by decide +kernel
theorem dX7_append_18 : decode cX7_append 18 = .ok (.sipush 255, 3) := by decide +kernel
theorem dX7_append_21 : decode cX7_append 21 = .ok (.iand, 1) := by decide +kernel
theorem dX7_append_22 : decode cX7_append 22 = .ok (.iastore, 1) := by decide +kernel
theorem dX7_append_23 : decode cX7_append 23 = .ok (.aload_n 0, 1) := by decide +kernel
theorem dX7_append_24 : decode cX7_append 24 = .ok (.dup, 1) := by decide +kernel
theorem dX7_append_25 : decode cX7_append 25 = .ok (.getfield 52, 3) := by decide +kernel
theorem dX7_append_28 : decode cX7_append 28 = .ok (.iconst 1, 1) := by decide +kernel
theorem dX7_append_29 : decode cX7_append 29 = .ok (.iadd, 1) := by decide +kernel
theorem dX7_append_30 : decode cX7_append 30 = .ok (.putfield 52, 3) := by decide +kernel
theorem dX7_append_33 : decode cX7_append 33 = .ok (.iinc 2 (-8), 3) := by decide +kernel
theorem dX7_append_36 : decode cX7_append 36 = .ok (.goto (-33), 3) := by decide +kernel
theorem dX7_append_39 : decode cX7_append 39 = .ok (.return_, 1) := by decide +kernel
theorem dX7_feed_0 : decode cX7_feed 0 = .ok (.aload_n 0, 1) := by decide +kernel
theorem dX7_feed_1 : decode cX7_feed 1 = .ok (.iconst 0, 1) := by decide +kernel
theorem dX7_feed_2 : decode cX7_feed 2 = .ok (.putfield 42, 3) := by decide +kernel
theorem dX7_feed_5 : decode cX7_feed 5 = .ok (.aload_n 0, 1) := by decide +kernel
theorem dX7_feed_6 : decode cX7_feed 6 = .ok (.getfield 52, 3) := by decide +kernel
theorem dX7_feed_9 : decode cX7_feed 9 = .ok (.bipush 20, 2) := by decide +kernel
theorem dX7_feed_11 : decode cX7_feed 11 = .ok (.iadd, 1) := by decide +kernel
theorem dX7_feed_12 : decode cX7_feed 12 = .ok (.sipush 400, 3) := by decide +kernel
theorem dX7_feed_15 : decode cX7_feed 15 = .ok (.if_icmp .le 6, 3) := by decide +kernel
theorem dX7_feed_18 : decode cX7_feed 18 = .ok (.bipush (-2), 2) := by decide +kernel
theorem dX7_feed_20 : decode cX7_feed 20 = .ok (.ireturn, 1) := by decide +kernel
theorem dX7_feed_21 : decode cX7_feed 21 = .ok (.aload_n 0, 1) := by decide +kernel
theorem dX7_feed_22 : decode cX7_feed 22 = .ok (.iload_n 1, 1) := by decide +kernel
theorem dX7_feed_23 : decode cX7_feed 23 = .ok (.invokevirtual 55, 3) := by decide +kernel
theorem dX7_feed_26 : decode cX7_feed 26 = .ok (.aload_n 0, 1) := by decide +kernel
theorem dX7_feed_27 : decode cX7_feed 27 = .ok (.iload_n 2, 1) := by decide +kernel
theorem dX7_feed_28 : decode cX7_feed 28 = .ok (.invokevirtual 55, 3) := by decide +kernel
theorem dX7_feed_31 : decode cX7_feed 31 = .ok (.aload_n 0, 1) := by decide +kernel
theorem dX7_feed_32 : decode cX7_feed 32 = .ok (.iload_n 3, 1) := by decide +kernel
theorem dX7_feed_33 : decode cX7_feed 33 = .ok (.invokevirtual 55, 3) := by decide +kernel
theorem dX7_feed_36 : decode cX7_feed 36 = .ok (.aload_n 0, 1) := by decide +kernel
theorem dX7_feed_37 : decode cX7_feed 37 = .ok (.iload 4, 2) := by decide +kernel
theorem dX7_feed_39 : decode cX7_feed 39 = .ok (.invokevirtual 55, 3) := by decide +kernel
theorem dX7_feed_42 : decode cX7_feed 42 = .ok (.aload_n 0, 1) := by decide +kernel
theorem dX7_feed_43 : decode cX7_feed 43 = .ok (.iload 5, 2) := by decide +kernel
theorem dX7_feed_45 : decode cX7_feed 45 = .ok (.invokevirtual 55, 3) := by decide +kernel
theorem dX7_feed_48 : decode cX7_feed 48 = .ok (.aload_n 0, 1) := by decide +kernel
theorem dX7_feed_49 : decode cX7_feed 49 = .ok (.getfield 52, 3) := by decide +kernel
theorem dX7_feed_52 : decode cX7_feed 52 = .ok (.ireturn, 1) := by decide +kernel
theorem dX7_byteAt_0 : decode cX7_byteAt 0 = .ok (.iload_n 1, 1) := by decide +kernel
theorem dX7_byteAt_1 : decode cX7_byteAt 1 = .ok (.aload_n 0, 1) := by decide +kernel
theorem dX7_byteAt_2 : decode cX7_byteAt 2 = .ok (.getfield 59, 3) := by decide +kernel
theorem dX7_byteAt_5 : decode cX7_byteAt 5 = .ok (.if_icmp .ge 12, 3) := by decide +kernel
theorem dX7_byteAt_8 : decode cX7_byteAt 8 = .ok (.aload_n 0, 1) := by decide +kernel
theorem dX7_byteAt_9 : decode cX7_byteAt 9 = .ok (.getfield 19, 3) := by decide +kernel
theorem dX7_byteAt_12 : decode cX7_byteAt 12 = .ok (.iload_n 1, 1) := by decide +kernel
theorem dX7_byteAt_13 : decode cX7_byteAt 13 = .ok (.iaload, 1) := by decide +kernel
theorem dX7_byteAt_14 : decode cX7_byteAt 14 = .ok (.goto 4, 3) := by decide +kernel
theorem dX7_byteAt_17 : decode cX7_byteAt 17 = .ok (.iconst (-1), 1) := by decide +kernel
theorem dX7_byteAt_18 : decode cX7_byteAt 18 = .ok (.ireturn, 1) := by decide +kernel
theorem dX7_isLetter_0 : decode cX7_isLetter 0 = .ok (.iload_n 0, 1) := by decide +kernel
theorem dX7_isLetter_1 : decode cX7_isLetter 1 = .ok (.bipush 97, 2) := by decide +kernel
theorem dX7_isLetter_3 : decode cX7_isLetter 3 = .ok (.if_icmp .lt 13, 3) := by decide +kernel
theorem dX7_isLetter_6 : decode cX7_isLetter 6 = .ok (.iload_n 0, 1) := by decide +kernel
theorem dX7_isLetter_7 : decode cX7_isLetter 7 = .ok (.bipush 122, 2) := by decide +kernel
theorem dX7_isLetter_9 : decode cX7_isLetter 9 = .ok (.if_icmp .gt 7, 3) := by decide +kernel
theorem dX7_isLetter_12 : decode cX7_isLetter 12 = .ok (.iconst 1, 1) := by decide +kernel
theorem dX7_isLetter_13 : decode cX7_isLetter 13 = .ok (.goto 4, 3) := by decide +kernel
theorem dX7_isLetter_16 : decode cX7_isLetter 16 = .ok (.iconst 0, 1) := by decide +kernel
theorem dX7_isLetter_17 : decode cX7_isLetter 17 = .ok (.ireturn, 1) := by decide +kernel
theorem dX7_isDigit_0 : decode cX7_isDigit 0 = .ok (.iload_n 0, 1) := by decide +kernel
theorem dX7_isDigit_1 : decode cX7_isDigit 1 = .ok (.bipush 48, 2) := by decide +kernel
theorem dX7_isDigit_3 : decode cX7_isDigit 3 = .ok (.if_icmp .lt 13, 3) := by decide +kernel
theorem dX7_isDigit_6 : decode cX7_isDigit 6 = .ok (.iload_n 0, 1) := by decide +kernel
theorem dX7_isDigit_7 : decode cX7_isDigit 7 = .ok (.bipush 57, 2) := by decide +kernel
theorem dX7_isDigit_9 : decode cX7_isDigit 9 = .ok (.if_icmp .gt 7, 3) := by decide +kernel
theorem dX7_isDigit_12 : decode cX7_isDigit 12 = .ok (.iconst 1, 1) := by decide +kernel
theorem dX7_isDigit_13 : decode cX7_isDigit 13 = .ok (.goto 4, 3) := by decide +kernel
theorem dX7_isDigit_16 : decode cX7_isDigit 16 = .ok (.iconst 0, 1) := by decide +kernel
theorem dX7_isDigit_17 : decode cX7_isDigit 17 = .ok (.ireturn, 1) := by decide +kernel
theorem dX7_readWord_0 : decode cX7_readWord 0 = .ok (.aload_n 0, 1) := by decide +kernel
theorem dX7_readWord_1 : decode cX7_readWord 1 = .ok (.aload_n 0, 1) := by decide +kernel
theorem dX7_readWord_2 : decode cX7_readWord 2 = .ok (.getfield 62, 3) := by decide +kernel
theorem dX7_readWord_5 : decode cX7_readWord 5 = .ok (.invokevirtual 65, 3) := by decide +kernel
theorem dX7_readWord_8 : decode cX7_readWord 8 = .ok (.invokestatic 69, 3) := by decide +kernel
theorem dX7_readWord_11 : decode cX7_readWord 11 = .ok (.ifCond .eq 16, 3) := by decide +kernel
theorem dX7_readWord_14 : decode cX7_readWord 14 = .ok (.aload_n 0, 1) := by decide +kernel
theorem dX7_readWord_15 : decode cX7_readWord 15 = .ok (.dup, 1) := by decide +kernel
theorem dX7_readWord_16 : decode cX7_readWord 16 = .ok (.getfield 62, 3) := by decide +kernel
theorem dX7_readWord_19 : decode cX7_readWord 19 = .ok (.iconst 1, 1) := by decide +kernel
theorem dX7_readWord_20 : decode cX7_readWord 20 = .ok (.iadd, 1) := by decide +kernel
theorem dX7_readWord_21 : decode cX7_readWord 21 = .ok (.putfield 62, 3) := by decide +kernel
theorem dX7_readWord_24 : decode cX7_readWord 24 = .ok (.goto (-24), 3) := by decide +kernel
theorem dX7_readWord_27 : decode cX7_readWord 27 = .ok (.aload_n 0, 1) := by decide +kernel
theorem dX7_readWord_28 : decode cX7_readWord 28 = .ok (.aload_n 0, 1) := by decide +kernel
theorem dX7_readWord_29 : decode cX7_readWord 29 = .ok (.getfield 62, 3) := by decide +kernel
theorem dX7_readWord_32 : decode cX7_readWord 32 = .ok (.aload_n 0, 1) := by decide +kernel
theorem dX7_readWord_33 : decode cX7_readWord 33 = .ok (.getfield 73, 3) := by decide +kernel
theorem dX7_readWord_36 : decode cX7_readWord 36 = .ok (.isub, 1) := by decide +kernel
theorem dX7_readWord_37 : decode cX7_readWord 37 = .ok (.bipush 8, 2) := by decide +kernel
theorem dX7_readWord_39 : decode cX7_readWord 39 = .ok (.if_icmp .le 7, 3) := by decide +kernel
theorem dX7_readWord_42 : decode cX7_readWord 42 = .ok (.iconst 1, 1) := by decide +kernel
theorem dX7_readWord_43 : decode cX7_readWord 43 = .ok (.goto 4, 3) := by decide +kernel
theorem dX7_readWord_46 : decode cX7_readWord 46 = .ok (.iconst 2, 1) := by decide +kernel
theorem dX7_readWord_47 : decode cX7_readWord 47 = .ok (.putfield 76, 3) := by decide +kernel
theorem dX7_readWord_50 : decode cX7_readWord 50 = .ok (.return_, 1) := by decide +kernel
theorem dX7_readNumber_0 : decode cX7_readNumber 0 = .ok (.aload_n 0, 1) := by decide +kernel
theorem dX7_readNumber_1 : decode cX7_readNumber 1 = .ok (.iconst 0, 1) := by decide +kernel
theorem dX7_readNumber_2 : decode cX7_readNumber 2 = .ok (.putfield 79, 3) := by decide +kernel
theorem dX7_readNumber_5 : decode cX7_readNumber 5 = .ok (.aload_n 0, 1) := by decide +kernel
theorem dX7_readNumber_6 : decode cX7_readNumber 6 = .ok (.aload_n 0, 1) := by decide +kernel
theorem dX7_readNumber_7 : decode cX7_readNumber 7 = .ok (.getfield 62, 3) := by decide +kernel
theorem dX7_readNumber_10 : decode cX7_readNumber 10 = .ok (.invokevirtual 65, 3) := by decide +kernel
theorem dX7_readNumber_13 : decode cX7_readNumber 13 = .ok (.invokestatic 82, 3) := by decide +kernel
theorem dX7_readNumber_16 : decode cX7_readNumber 16 = .ok (.ifCond .eq 59, 3) := by decide +kernel
theorem dX7_readNumber_19 : decode cX7_readNumber 19 = .ok (.aload_n 0, 1) := by decide +kernel
theorem dX7_readNumber_20 : decode cX7_readNumber 20 = .ok (.aload_n 0, 1) := by decide +kernel
theorem dX7_readNumber_21 : decode cX7_readNumber 21 = .ok (.getfield 62, 3) := by decide +kernel
theorem dX7_readNumber_24 : decode cX7_readNumber 24 = .ok (.aload_n 0, 1) := by decide +kernel
theorem dX7_readNumber_25 : decode cX7_readNumber 25 = .ok (.getfield 73, 3) := by decide +kernel
theorem dX7_readNumber_28 : decode cX7_readNumber 28 = .ok (.isub, 1) := by decide +kernel
theorem dX7_readNumber_29 : decode cX7_readNumber 29 = .ok (.iconst 2, 1) := by decide +kernel
theorem dX7_readNumber_30 : decode cX7_readNumber 30 = .ok (.if_icmp .ge 25, 3) := by decide +kernel
theorem dX7_readNumber_33 : decode cX7_readNumber 33 = .ok (.bipush 10, 2) := by decide +kernel
theorem dX7_readNumber_35 : decode cX7_readNumber 35 = .ok (.aload_n 0, 1) := by decide +kernel
theorem dX7_readNumber_36 : decode cX7_readNumber 36 = .ok (.getfield 79, 3) := by decide +kernel
theorem dX7_readNumber_39 : decode cX7_readNumber 39 = .ok (.imul, 1) := by decide +kernel
theorem dX7_readNumber_40 : decode cX7_readNumber 40 = .ok (.aload_n 0, 1) := by decide +kernel
theorem dX7_readNumber_41 : decode cX7_readNumber 41 = .ok (.aload_n 0, 1) := by decide +kernel
theorem dX7_readNumber_42 : decode cX7_readNumber 42 = .ok (.getfield 62, 3) := by decide +kernel
theorem dX7_readNumber_45 : decode cX7_readNumber 45 = .ok (.invokevirtual 65, 3) := by decide +kernel
theorem dX7_readNumber_48 : decode cX7_readNumber 48 = .ok (.iadd, 1) := by decide +kernel
theorem dX7_readNumber_49 : decode cX7_readNumber 49 = .ok (.bipush 48, 2) := by decide +kernel
theorem dX7_readNumber_51 : decode cX7_readNumber 51 = .ok (.isub, 1) := by decide +kernel
theorem dX7_readNumber_52 : decode cX7_readNumber 52 = .ok (.goto 7, 3) := by decide +kernel
theorem dX7_readNumber_55 : decode cX7_readNumber 55 = .ok (.aload_n 0, 1) := by decide +kernel
theorem dX7_readNumber_56 : decode cX7_readNumber 56 = .ok (.getfield 79, 3) := by decide +kernel
theorem dX7_readNumber_59 : decode cX7_readNumber 59 = .ok (.putfield 79, 3) := by decide +kernel
theorem dX7_readNumber_62 : decode cX7_readNumber 62 = .ok (.aload_n 0, 1) := by decide +kernel
theorem dX7_readNumber_63 : decode cX7_readNumber 63 = .ok (.dup, 1) := by decide +kernel
theorem dX7_readNumber_64 : decode cX7_readNumber 64 = .ok (.getfield 62, 3) := by decide +kernel
theorem dX7_readNumber_67 : decode cX7_readNumber 67 = .ok (.iconst 1, 1) := by decide +kernel
theorem dX7_readNumber_68 : decode cX7_readNumber 68 = .ok (.iadd, 1) := by decide +kernel
theorem dX7_readNumber_69 : decode cX7_readNumber 69 = .ok (.putfield 62, 3) := by decide +kernel
theorem dX7_readNumber_72 : decode cX7_readNumber 72 = .ok (.goto (-67), 3) := by decide +kernel
theorem dX7_readNumber_75 : decode cX7_readNumber 75 = .ok (.aload_n 0, 1) := by decide +kernel
theorem dX7_readNumber_76 : decode cX7_readNumber 76 = .ok (.aload_n 0, 1) := by decide +kernel
theorem dX7_readNumber_77 : decode cX7_readNumber 77 = .ok (.getfield 62, 3) := by decide +kernel
theorem dX7_readNumber_80 : decode cX7_readNumber 80 = .ok (.aload_n 0, 1) := by decide +kernel
theorem dX7_readNumber_81 : decode cX7_readNumber 81 = .ok (.getfield 73, 3) := by decide +kernel
theorem dX7_readNumber_84 : decode cX7_readNumber 84 = .ok (.isub, 1) := by decide +kernel
theorem dX7_readNumber_85 : decode cX7_readNumber 85 = .ok (.iconst 2, 1) := by decide +kernel
theorem dX7_readNumber_86 : decode cX7_readNumber 86 = .ok (.if_icmp .le 7, 3) := by decide +kernel
theorem dX7_readNumber_89 : decode cX7_readNumber 89 = .ok (.iconst 1, 1) := by decide +kernel
theorem dX7_readNumber_90 : decode cX7_readNumber 90 = .ok (.goto 4, 3) := by decide +kernel
theorem dX7_readNumber_93 : decode cX7_readNumber 93 = .ok (.iconst 3, 1) := by decide +kernel
theorem dX7_readNumber_94 : decode cX7_readNumber 94 = .ok (.putfield 76, 3) := by decide +kernel
theorem dX7_readNumber_97 : decode cX7_readNumber 97 = .ok (.return_, 1) := by decide +kernel
theorem dX7_readSign_0 : decode cX7_readSign 0 = .ok (.aload_n 0, 1) := by decide +kernel
theorem dX7_readSign_1 : decode cX7_readSign 1 = .ok (.dup, 1) := by decide +kernel
theorem dX7_readSign_2 : decode cX7_readSign 2 = .ok (.getfield 62, 3) := by decide +kernel
theorem dX7_readSign_5 : decode cX7_readSign 5 = .ok (.iconst 1, 1) := by decide +kernel
theorem dX7_readSign_6 : decode cX7_readSign 6 = .ok (.iadd, 1) := by decide +kernel
theorem dX7_readSign_7 : decode cX7_readSign 7 = .ok (.putfield 62, 3) := by decide +kernel
theorem dX7_readSign_10 : decode cX7_readSign 10 = .ok (.aload_n 0, 1) := by decide +kernel
theorem dX7_readSign_11 : decode cX7_readSign 11 = .ok (.iconst 1, 1) := by decide +kernel
theorem dX7_readSign_12 : decode cX7_readSign 12 = .ok (.putfield 76, 3) := by decide +kernel
theorem dX7_readSign_15 : decode cX7_readSign 15 = .ok (.iload_n 1, 1) := by decide +kernel
theorem dX7_readSign_16 : decode cX7_readSign 16 = .ok (.bipush 59, 2) := by decide +kernel
theorem dX7_readSign_18 : decode cX7_readSign 18 = .ok (.if_icmp .ne 11, 3) := by decide +kernel
theorem dX7_readSign_21 : decode cX7_readSign 21 = .ok (.aload_n 0, 1) := by decide +kernel
theorem dX7_readSign_22 : decode cX7_readSign 22 = .ok (.iconst 4, 1) := by decide +kernel
theorem dX7_readSign_23 : decode cX7_readSign 23 = .ok (.putfield 76, 3) := by decide +kernel
theorem dX7_readSign_26 : decode cX7_readSign 26 = .ok (.goto 14, 3) := by decide +kernel
theorem dX7_readSign_29 : decode cX7_readSign 29 = .ok (.iload_n 1, 1) := by decide +kernel
theorem dX7_readSign_30 : decode cX7_readSign 30 = .ok (.bipush 45, 2) := by decide +kernel
theorem dX7_readSign_32 : decode cX7_readSign 32 = .ok (.if_icmp .ne 8, 3) := by decide +kernel
theorem dX7_readSign_35 : decode cX7_readSign 35 = .ok (.aload_n 0, 1) := by decide +kernel
theorem dX7_readSign_36 : decode cX7_readSign 36 = .ok (.iconst 5, 1) := by decide +kernel
theorem dX7_readSign_37 : decode cX7_readSign 37 = .ok (.putfield 76, 3) := by decide +kernel
theorem dX7_readSign_40 : decode cX7_readSign 40 = .ok (.return_, 1) := by decide +kernel
theorem dX7_advance_0 : decode cX7_advance 0 = .ok (.aload_n 0, 1) := by decide +kernel
theorem dX7_advance_1 : decode cX7_advance 1 = .ok (.aload_n 0, 1) := by decide +kernel
theorem dX7_advance_2 : decode cX7_advance 2 = .ok (.getfield 62, 3) := by decide +kernel
theorem dX7_advance_5 : decode cX7_advance 5 = .ok (.invokevirtual 65, 3) := by decide +kernel
theorem dX7_advance_8 : decode cX7_advance 8 = .ok (.bipush 32, 2) := by decide +kernel
theorem dX7_advance_10 : decode cX7_advance 10 = .ok (.if_icmp .eq 16, 3) := by decide +kernel
theorem dX7_advance_13 : decode cX7_advance 13 = .ok (.aload_n 0, 1) := by decide +kernel
theorem dX7_advance_14 : decode cX7_advance 14 = .ok (.aload_n 0, 1) := by decide +kernel
theorem dX7_advance_15 : decode cX7_advance 15 = .ok (.getfield 62, 3) := by decide +kernel
theorem dX7_advance_18 : decode cX7_advance 18 = .ok (.invokevirtual 65, 3) := by decide +kernel
theorem dX7_advance_21 : decode cX7_advance 21 = .ok (.bipush 10, 2) := by decide +kernel
theorem dX7_advance_23 : decode cX7_advance 23 = .ok (.if_icmp .ne 16, 3) := by decide +kernel
theorem dX7_advance_26 : decode cX7_advance 26 = .ok (.aload_n 0, 1) := by decide +kernel
theorem dX7_advance_27 : decode cX7_advance 27 = .ok (.dup, 1) := by decide +kernel
theorem dX7_advance_28 : decode cX7_advance 28 = .ok (.getfield 62, 3) := by decide +kernel
theorem dX7_advance_31 : decode cX7_advance 31 = .ok (.iconst 1, 1) := by decide +kernel
theorem dX7_advance_32 : decode cX7_advance 32 = .ok (.iadd, 1) := by decide +kernel
theorem dX7_advance_33 : decode cX7_advance 33 = .ok (.putfield 62, 3) := by decide +kernel
theorem dX7_advance_36 : decode cX7_advance 36 = .ok (.goto (-36), 3) := by decide +kernel
theorem dX7_advance_39 : decode cX7_advance 39 = .ok (.aload_n 0, 1) := by decide +kernel
theorem dX7_advance_40 : decode cX7_advance 40 = .ok (.aload_n 0, 1) := by decide +kernel
theorem dX7_advance_41 : decode cX7_advance 41 = .ok (.getfield 62, 3) := by decide +kernel
theorem dX7_advance_44 : decode cX7_advance 44 = .ok (.putfield 73, 3) := by decide +kernel
theorem dX7_advance_47 : decode cX7_advance 47 = .ok (.aload_n 0, 1) := by decide +kernel
theorem dX7_advance_48 : decode cX7_advance 48 = .ok (.aload_n 0, 1) := by decide +kernel
theorem dX7_advance_49 : decode cX7_advance 49 = .ok (.getfield 62, 3) := by decide +kernel
theorem dX7_advance_52 : decode cX7_advance 52 = .ok (.invokevirtual 65, 3) := by decide +kernel
theorem dX7_advance_55 : decode cX7_advance 55 = .ok (.istore_n 1, 1) := by decide +kernel
theorem dX7_advance_56 : decode cX7_advance 56 = .ok (.iload_n 1, 1) := by decide +kernel
theorem dX7_advance_57 : decode cX7_advance 57 = .ok (.iconst (-1), 1) := by decide +kernel
theorem dX7_advance_58 : decode cX7_advance 58 = .ok (.if_icmp .ne 11, 3) := by decide +kernel
theorem dX7_advance_61 : decode cX7_advance 61 = .ok (.aload_n 0, 1) := by decide +kernel
theorem dX7_advance_62 : decode cX7_advance 62 = .ok (.iconst 0, 1) := by decide +kernel
theorem dX7_advance_63 : decode cX7_advance 63 = .ok (.putfield 76, 3) := by decide +kernel
theorem dX7_advance_66 : decode cX7_advance 66 = .ok (.goto 36, 3) := by decide +kernel
theorem dX7_advance_69 : decode cX7_advance 69 = .ok (.iload_n 1, 1) := by decide +kernel
theorem dX7_advance_70 : decode cX7_advance 70 = .ok (.invokestatic 69, 3) := by decide +kernel
theorem dX7_advance_73 : decode cX7_advance 73 = .ok (.ifCond .eq 10, 3) := by decide +kernel
theorem dX7_advance_76 : decode cX7_advance 76 = .ok (.aload_n 0, 1) := by decide +kernel
theorem dX7_advance_77 : decode cX7_advance 77 = .ok (.invokevirtual 85, 3) := by decide +kernel
theorem dX7_advance_80 : decode cX7_advance 80 = .ok (.goto 22, 3) := by decide +kernel
theorem dX7_advance_83 : decode cX7_advance 83 = .ok (.iload_n 1, 1) := by decide +kernel
theorem dX7_advance_84 : decode cX7_advance 84 = .ok (.invokestatic 82, 3) := by decide +kernel
theorem dX7_advance_87 : decode cX7_advance 87 = .ok (.ifCond .eq 10, 3) := by decide +kernel
theorem dX7_advance_90 : decode cX7_advance 90 = .ok (.aload_n 0, 1) := by decide +kernel
theorem dX7_advance_91 : decode cX7_advance 91 = .ok (.invokevirtual 88, 3) := by decide +kernel
theorem dX7_advance_94 : decode cX7_advance 94 = .ok (.goto 8, 3) := by decide +kernel
theorem dX7_advance_97 : decode cX7_advance 97 = .ok (.aload_n 0, 1) := by decide +kernel
theorem dX7_advance_98 : decode cX7_advance 98 = .ok (.iload_n 1, 1) := by decide +kernel
theorem dX7_advance_99 : decode cX7_advance 99 = .ok (.invokevirtual 91, 3) := by decide +kernel
theorem dX7_advance_102 : decode cX7_advance 102 = .ok (.iconst 1, 1) := by decide +kernel
theorem dX7_advance_103 : decode cX7_advance 103 = .ok (.ireturn, 1) := by decide +kernel
theorem dX7_isWord_0 : decode cX7_isWord 0 = .ok (.aload_n 0, 1) := by decide +kernel
theorem dX7_isWord_1 : decode cX7_isWord 1 = .ok (.getfield 76, 3) := by decide +kernel
theorem dX7_isWord_4 : decode cX7_isWord 4 = .ok (.iconst 2, 1) := by decide +kernel
theorem dX7_isWord_5 : decode cX7_isWord 5 = .ok (.if_icmp .ne 19, 3) := by decide +kernel
theorem dX7_isWord_8 : decode cX7_isWord 8 = .ok (.aload_n 0, 1) := by decide +kernel
theorem dX7_isWord_9 : decode cX7_isWord 9 = .ok (.getfield 62, 3) := by decide +kernel
theorem dX7_isWord_12 : decode cX7_isWord 12 = .ok (.aload_n 0, 1) := by decide +kernel
theorem dX7_isWord_13 : decode cX7_isWord 13 = .ok (.getfield 73, 3) := by decide +kernel
theorem dX7_isWord_16 : decode cX7_isWord 16 = .ok (.isub, 1) := by decide +kernel
theorem dX7_isWord_17 : decode cX7_isWord 17 = .ok (.aload_n 1, 1) := by decide +kernel
theorem dX7_isWord_18 : decode cX7_isWord 18 = .ok (.invokevirtual 94, 3) := by decide +kernel
theorem dX7_isWord_21 : decode cX7_isWord 21 = .ok (.if_icmp .eq 5, 3) := by decide +kernel
theorem dX7_isWord_24 : decode cX7_isWord 24 = .ok (.iconst 0, 1) := by decide +kernel
theorem dX7_isWord_25 : decode cX7_isWord 25 = .ok (.ireturn, 1) := by decide +kernel
theorem dX7_isWord_26 : decode cX7_isWord 26 = .ok (.iconst 0, 1) := by decide +kernel
theorem dX7_isWord_27 : decode cX7_isWord 27 = .ok (.istore_n 2, 1) := by decide +kernel
theorem dX7_isWord_28 : decode cX7_isWord 28 = .ok (.iload_n 2, 1) := by decide +kernel
theorem dX7_isWord_29 : decode cX7_isWord 29 = .ok (.aload_n 1, 1) := by decide +kernel
theorem dX7_isWord_30 : decode cX7_isWord 30 = .ok (.invokevirtual 94, 3) := by decide +kernel
theorem dX7_isWord_33 : decode cX7_isWord 33 = .ok (.if_icmp .ge 30, 3) := by decide +kernel
theorem dX7_isWord_36 : decode cX7_isWord 36 = .ok (.aload_n 0, 1) := by decide +kernel
theorem dX7_isWord_37 : decode cX7_isWord 37 = .ok (.getfield 19, 3) := by decide +kernel
theorem dX7_isWord_40 : decode cX7_isWord 40 = .ok (.aload_n 0, 1) := by decide +kernel
theorem dX7_isWord_41 : decode cX7_isWord 41 = .ok (.getfield 73, 3) := by decide +kernel
theorem dX7_isWord_44 : decode cX7_isWord 44 = .ok (.iload_n 2, 1) := by decide +kernel
theorem dX7_isWord_45 : decode cX7_isWord 45 = .ok (.iadd, 1) := by decide +kernel
theorem dX7_isWord_46 : decode cX7_isWord 46 = .ok (.iaload, 1) := by decide +kernel
theorem dX7_isWord_47 : decode cX7_isWord 47 = .ok (.aload_n 1, 1) := by decide +kernel
theorem dX7_isWord_48 : decode cX7_isWord 48 = .ok (.iload_n 2, 1) := by decide +kernel
theorem dX7_isWord_49 : decode cX7_isWord 49 = .ok (.invokevirtual 99, 3) := by decide +kernel
theorem dX7_isWord_52 : decode cX7_isWord 52 = .ok (.if_icmp .eq 5, 3) := by decide +kernel
theorem dX7_isWord_55 : decode cX7_isWord 55 = .ok (.iconst 0, 1) := by decide +kernel
theorem dX7_isWord_56 : decode cX7_isWord 56 = .ok (.ireturn, 1) := by decide +kernel
theorem dX7_isWord_57 : decode cX7_isWord 57 = .ok (.iinc 2 1, 3) := by decide +kernel
theorem dX7_isWord_60 : decode cX7_isWord 60 = .ok (.goto (-32), 3) := by decide +kernel
theorem dX7_isWord_63 : decode cX7_isWord 63 = .ok (.iconst 1, 1) := by decide +kernel
theorem dX7_isWord_64 : decode cX7_isWord 64 = .ok (.ireturn, 1) := by decide +kernel
theorem dX7_fail_0 : decode cX7_fail 0 = .ok (.aload_n 0, 1) := by decide +kernel
theorem dX7_fail_1 : decode cX7_fail 1 = .ok (.aload_n 0, 1) := by decide +kernel
theorem dX7_fail_2 : decode cX7_fail 2 = .ok (.getfield 76, 3) := by decide +kernel
theorem dX7_fail_5 : decode cX7_fail 5 = .ok (.iconst 1, 1) := by decide +kernel
theorem dX7_fail_6 : decode cX7_fail 6 = .ok (.if_icmp .ne 7, 3) := by decide +kernel
theorem dX7_fail_9 : decode cX7_fail 9 = .ok (.iconst 1, 1) := by decide +kernel
theorem dX7_fail_10 : decode cX7_fail 10 = .ok (.goto 4, 3) := by decide +kernel
theorem dX7_fail_13 : decode cX7_fail 13 = .ok (.iload_n 1, 1) := by decide +kernel
theorem dX7_fail_14 : decode cX7_fail 14 = .ok (.putfield 103, 3) := by decide +kernel
theorem dX7_fail_17 : decode cX7_fail 17 = .ok (.aload_n 0, 1) := by decide +kernel
theorem dX7_fail_18 : decode cX7_fail 18 = .ok (.aload_n 0, 1) := by decide +kernel
theorem dX7_fail_19 : decode cX7_fail 19 = .ok (.getfield 73, 3) := by decide +kernel
theorem dX7_fail_22 : decode cX7_fail 22 = .ok (.putfield 106, 3) := by decide +kernel
theorem dX7_fail_25 : decode cX7_fail 25 = .ok (.iconst 0, 1) := by decide +kernel
theorem dX7_fail_26 : decode cX7_fail 26 = .ok (.ireturn, 1) := by decide +kernel
theorem dX7_seesNumber_0 : decode cX7_seesNumber 0 = .ok (.iload_n 3, 1) := by decide +kernel
theorem dX7_seesNumber_1 : decode cX7_seesNumber 1 = .ok (.ifCond .eq 15, 3) := by decide +kernel
theorem dX7_seesNumber_4 : decode cX7_seesNumber 4 = .ok (.aload_n 0, 1) := by decide +kernel
theorem dX7_seesNumber_5 : decode cX7_seesNumber 5 = .ok (.getfield 76, 3) := by decide +kernel
theorem dX7_seesNumber_8 : decode cX7_seesNumber 8 = .ok (.iconst 5, 1) := by decide +kernel
theorem dX7_seesNumber_9 : decode cX7_seesNumber 9 = .ok (.if_icmp .ne 7, 3) := by decide +kernel
theorem dX7_seesNumber_12 : decode cX7_seesNumber 12 = .ok (.iconst 1, 1) := by decide +kernel
theorem dX7_seesNumber_13 : decode cX7_seesNumber 13 = .ok (.goto 4, 3) := by decide +kernel
theorem dX7_seesNumber_16 : decode cX7_seesNumber 16 = .ok (.iconst 0, 1) := by decide +kernel
theorem dX7_seesNumber_17 : decode cX7_seesNumber 17 = .ok (.istore 4, 2) := by decide +kernel
theorem dX7_seesNumber_19 : decode cX7_seesNumber 19 = .ok (.iload 4, 2) := by decide +kernel
theorem dX7_seesNumber_21 : decode cX7_seesNumber 21 = .ok (.ifCond .eq 8, 3) := by decide +kernel
theorem dX7_seesNumber_24 : decode cX7_seesNumber 24 = .ok (.aload_n 0, 1) := by decide +kernel
theorem dX7_seesNumber_25 : decode cX7_seesNumber 25 = .ok (.invokevirtual 109, 3) := by decide +kernel
theorem dX7_seesNumber_28 : decode cX7_seesNumber 28 = .ok (.pop, 1) := by decide +kernel
theorem dX7_seesNumber_29 : decode cX7_seesNumber 29 = .ok (.aload_n 0, 1) := by decide +kernel
theorem dX7_seesNumber_30 : decode cX7_seesNumber 30 = .ok (.getfield 76, 3) := by decide +kernel
theorem dX7_seesNumber_33 : decode cX7_seesNumber 33 = .ok (.iconst 3, 1) := by decide +kernel
theorem dX7_seesNumber_34 : decode cX7_seesNumber 34 = .ok (.if_icmp .eq 9, 3) := by decide +kernel
theorem dX7_seesNumber_37 : decode cX7_seesNumber 37 = .ok (.aload_n 0, 1) := by decide +kernel
theorem dX7_seesNumber_38 : decode cX7_seesNumber 38 = .ok (.iconst 2, 1) := by decide +kernel
theorem dX7_seesNumber_39 : decode cX7_seesNumber 39 = .ok (.invokevirtual 113, 3) := by decide +kernel
theorem dX7_seesNumber_42 : decode cX7_seesNumber 42 = .ok (.ireturn, 1) := by decide +kernel
theorem dX7_seesNumber_43 : decode cX7_seesNumber 43 = .ok (.aload_n 0, 1) := by decide +kernel
theorem dX7_seesNumber_44 : decode cX7_seesNumber 44 = .ok (.iload 4, 2) := by decide +kernel
theorem dX7_seesNumber_46 : decode cX7_seesNumber 46 = .ok (.ifCond .eq 11, 3) := by decide +kernel
theorem dX7_seesNumber_49 : decode cX7_seesNumber 49 = .ok (.aload_n 0, 1) := by decide +kernel
theorem dX7_seesNumber_50 : decode cX7_seesNumber 50 = .ok (.getfield 79, 3) := by decide +kernel
theorem dX7_seesNumber_53 : decode cX7_seesNumber 53 = .ok (.ineg, 1) := by decide +kernel
theorem dX7_seesNumber_54 : decode cX7_seesNumber 54 = .ok (.goto 7, 3) := by decide +kernel
theorem dX7_seesNumber_57 : decode cX7_seesNumber 57 = .ok (.aload_n 0, 1) := by decide +kernel
theorem dX7_seesNumber_58 : decode cX7_seesNumber 58 = .ok (.getfield 79, 3) := by decide +kernel
theorem dX7_seesNumber_61 : decode cX7_seesNumber 61 = .ok (.putfield 116, 3) := by decide +kernel
theorem dX7_seesNumber_64 : decode cX7_seesNumber 64 = .ok (.aload_n 0, 1) := by decide +kernel
theorem dX7_seesNumber_65 : decode cX7_seesNumber 65 = .ok (.getfield 116, 3) := by decide +kernel
theorem dX7_seesNumber_68 : decode cX7_seesNumber 68 = .ok (.i2l, 1) := by decide +kernel
theorem dX7_seesNumber_69 : decode cX7_seesNumber 69 = .ok (.iload_n 1, 1) := by decide +kernel
theorem dX7_seesNumber_70 : decode cX7_seesNumber 70 = .ok (.i2l, 1) := by decide +kernel
theorem dX7_seesNumber_71 : decode cX7_seesNumber 71 = .ok (.iload_n 2, 1) := by decide +kernel
theorem dX7_seesNumber_72 : decode cX7_seesNumber 72 = .ok (.i2l, 1) := by decide +kernel
theorem dX7_seesNumber_73 : decode cX7_seesNumber 73 = .ok (.invokestatic 119, 3) := by decide +kernel
theorem dX7_seesNumber_76 : decode cX7_seesNumber 76 = .ok (.ifCond .ne 11, 3) := by decide +kernel
theorem dX7_seesNumber_79 : decode cX7_seesNumber 79 = .ok (.aload_n 0, 1) := by decide +kernel
theorem dX7_seesNumber_80 : decode cX7_seesNumber 80 = .ok (.iconst 3, 1) := by decide +kernel
theorem dX7_seesNumber_81 : decode cX7_seesNumber 81 = .ok (.invokevirtual 113, 3) := by decide +kernel
theorem dX7_seesNumber_84 : decode cX7_seesNumber 84 = .ok (.ifCond .eq 7, 3) := by decide +kernel
theorem dX7_seesNumber_87 : decode cX7_seesNumber 87 = .ok (.iconst 1, 1) := by decide +kernel
theorem dX7_seesNumber_88 : decode cX7_seesNumber 88 = .ok (.goto 4, 3) := by decide +kernel
theorem dX7_seesNumber_91 : decode cX7_seesNumber 91 = .ok (.iconst 0, 1) := by decide +kernel
theorem dX7_seesNumber_92 : decode cX7_seesNumber 92 = .ok (.ireturn, 1) := by decide +kernel
theorem dX7_numberInto_0 : decode cX7_numberInto 0 = .ok (.aload_n 0, 1) := by decide +kernel
theorem dX7_numberInto_1 : decode cX7_numberInto 1 = .ok (.iload_n 2, 1) := by decide +kernel
theorem dX7_numberInto_2 : decode cX7_numberInto 2 = .ok (.ineg, 1) := by decide +kernel
theorem dX7_numberInto_3 : decode cX7_numberInto 3 = .ok (.iload_n 2, 1) := by decide +kernel
theorem dX7_numberInto_4 : decode cX7_numberInto 4 = .ok (.iconst 1, 1) := by decide +kernel
theorem dX7_numberInto_5 : decode cX7_numberInto 5 = .ok (.invokevirtual 123, 3) := by decide +kernel
theorem dX7_numberInto_8 : decode cX7_numberInto 8 = .ok (.ifCond .ne 5, 3) := by decide +kernel
theorem dX7_numberInto_11 : decode cX7_numberInto 11 = .ok (.iconst 0, 1) := by decide +kernel
theorem dX7_numberInto_12 : decode cX7_numberInto 12 = .ok (.ireturn, 1) := by decide +kernel
theorem dX7_numberInto_13 : decode cX7_numberInto 13 = .ok (.aload_n 0, 1) := by decide +kernel
theorem dX7_numberInto_14 : decode cX7_numberInto 14 = .ok (.getfield 7, 3) := by decide +kernel
theorem dX7_numberInto_17 : decode cX7_numberInto 17 = .ok (.iload_n 1, 1) := by decide +kernel
theorem dX7_numberInto_18 : decode cX7_numberInto 18 = .ok (.aload_n 0, 1) := by decide +kernel
theorem dX7_numberInto_19 : decode cX7_numberInto 19 = .ok (.getfield 116, 3) := by decide +kernel
theorem dX7_numberInto_22 : decode cX7_numberInto 22 = .ok (.iastore, 1) := by decide +kernel
theorem dX7_numberInto_23 : decode cX7_numberInto 23 = .ok (.aload_n 0, 1) := by decide +kernel
theorem dX7_numberInto_24 : decode cX7_numberInto 24 = .ok (.invokevirtual 109, 3) := by decide +kernel
theorem dX7_numberInto_27 : decode cX7_numberInto 27 = .ok (.ireturn, 1) := by decide +kernel
theorem dX7_closed_0 : decode cX7_closed 0 = .ok (.aload_n 0, 1) := by decide +kernel
theorem dX7_closed_1 : decode cX7_closed 1 = .ok (.getfield 76, 3) := by decide +kernel
theorem dX7_closed_4 : decode cX7_closed 4 = .ok (.iconst 4, 1) := by decide +kernel
theorem dX7_closed_5 : decode cX7_closed 5 = .ok (.if_icmp .eq 9, 3) := by decide +kernel
theorem dX7_closed_8 : decode cX7_closed 8 = .ok (.aload_n 0, 1) := by decide +kernel
theorem dX7_closed_9 : decode cX7_closed 9 = .ok (.iconst 2, 1) := by decide +kernel
theorem dX7_closed_10 : decode cX7_closed 10 = .ok (.invokevirtual 113, 3) := by decide +kernel
theorem dX7_closed_13 : decode cX7_closed 13 = .ok (.ireturn, 1) := by decide +kernel
theorem dX7_closed_14 : decode cX7_closed 14 = .ok (.aload_n 0, 1) := by decide +kernel
theorem dX7_closed_15 : decode cX7_closed 15 = .ok (.invokevirtual 109, 3) := by decide +kernel
theorem dX7_closed_18 : decode cX7_closed 18 = .ok (.ireturn, 1) := by decide +kernel
theorem dX7_pointWith_0 : decode cX7_pointWith 0 = .ok (.iconst 0, 1) := by decide +kernel
theorem dX7_pointWith_1 : decode cX7_pointWith 1 = .ok (.istore_n 2, 1) := by decide +kernel
theorem dX7_pointWith_2 : decode cX7_pointWith 2 = .ok (.iload_n 2, 1) := by decide +kernel
theorem dX7_pointWith_3 : decode cX7_pointWith 3 = .ok (.aload_n 0, 1) := by decide +kernel
theorem dX7_pointWith_4 : decode cX7_pointWith 4 = .ok (.getfield 7, 3) := by decide +kernel
theorem dX7_pointWith_7 : decode cX7_pointWith 7 = .ok (.iconst 2, 1) := by decide +kernel
theorem dX7_pointWith_8 : decode cX7_pointWith 8 = .ok (.iaload, 1) := by decide +kernel
theorem dX7_pointWith_9 : decode cX7_pointWith 9 = .ok (.if_icmp .ge 23, 3) := by decide +kernel
theorem dX7_pointWith_12 : decode cX7_pointWith 12 = .ok (.aload_n 0, 1) := by decide +kernel
theorem dX7_pointWith_13 : decode cX7_pointWith 13 = .ok (.getfield 7, 3) := by decide +kernel
theorem dX7_pointWith_16 : decode cX7_pointWith 16 = .ok (.iconst 3, 1) := by decide +kernel
theorem dX7_pointWith_17 : decode cX7_pointWith 17 = .ok (.iload_n 2, 1) := by decide +kernel
theorem dX7_pointWith_18 : decode cX7_pointWith 18 = .ok (.iadd, 1) := by decide +kernel
theorem dX7_pointWith_19 : decode cX7_pointWith 19 = .ok (.iaload, 1) := by decide +kernel
theorem dX7_pointWith_20 : decode cX7_pointWith 20 = .ok (.iload_n 1, 1) := by decide +kernel
theorem dX7_pointWith_21 : decode cX7_pointWith 21 = .ok (.if_icmp .ne 5, 3) := by decide +kernel
theorem dX7_pointWith_24 : decode cX7_pointWith 24 = .ok (.iload_n 2, 1) := by decide +kernel
theorem dX7_pointWith_25 : decode cX7_pointWith 25 = .ok (.ireturn, 1) := by decide +kernel
theorem dX7_pointWith_26 : decode cX7_pointWith 26 = .ok (.iinc 2 1, 3) := by decide +kernel
theorem dX7_pointWith_29 : decode cX7_pointWith 29 = .ok (.goto (-27), 3) := by decide +kernel
theorem dX7_pointWith_32 : decode cX7_pointWith 32 = .ok (.iconst (-1), 1) := by decide +kernel
theorem dX7_pointWith_33 : decode cX7_pointWith 33 = .ok (.ireturn, 1) := by decide +kernel
theorem dX7_pointStatement_0 : decode cX7_pointStatement 0 = .ok (.aload_n 0, 1) := by decide +kernel
theorem dX7_pointStatement_1 : decode cX7_pointStatement 1 = .ok (.getfield 7, 3) := by decide +kernel
theorem dX7_pointStatement_4 : decode cX7_pointStatement 4 = .ok (.iconst 2, 1) := by decide +kernel
theorem dX7_pointStatement_5 : decode cX7_pointStatement 5 = .ok (.iaload, 1) := by decide +kernel
theorem dX7_pointStatement_6 : decode cX7_pointStatement 6 = .ok (.istore_n 1, 1) := by decide +kernel
theorem dX7_pointStatement_7 : decode cX7_pointStatement 7 = .ok (.iload_n 1, 1) := by decide +kernel
theorem dX7_pointStatement_8 : decode cX7_pointStatement 8 = .ok (.iconst 5, 1) := by decide +kernel
theorem dX7_pointStatement_9 : decode cX7_pointStatement 9 = .ok (.if_icmp .ne 9, 3) := by decide +kernel
theorem dX7_pointStatement_12 : decode cX7_pointStatement 12 = .ok (.aload_n 0, 1) := by decide +kernel
theorem dX7_pointStatement_13 : decode cX7_pointStatement 13 = .ok (.iconst 5, 1) := by decide +kernel
theorem dX7_pointStatement_14 : decode cX7_pointStatement 14 = .ok (.invokevirtual 113, 3) := by decide +kernel
theorem dX7_pointStatement_17 : decode cX7_pointStatement 17 = .ok (.ireturn, 1) := by decide +kernel
theorem dX7_pointStatement_18 : decode cX7_pointStatement 18 = .ok (.aload_n 0, 1) := by decide +kernel
theorem dX7_pointStatement_19 : decode cX7_pointStatement 19 = .ok (.invokevirtual 109, 3) := by decide +kernel
theorem dX7_pointStatement_22 : decode cX7_pointStatement 22 = .ok (.pop, 1) := by decide +kernel
theorem dX7_pointStatement_23 : decode cX7_pointStatement 23 = .ok (.aload_n 0, 1) := by decide +kernel
theorem dX7_pointStatement_24 : decode cX7_pointStatement 24 = .ok (.bipush (-9), 2) := by decide +kernel
theorem dX7_pointStatement_26 : decode cX7_pointStatement 26 = .ok (.bipush 9, 2) := by decide +kernel
theorem dX7_pointStatement_28 : decode cX7_pointStatement 28 = .ok (.iconst 1, 1) := by decide +kernel
theorem dX7_pointStatement_29 : decode cX7_pointStatement 29 = .ok (.invokevirtual 123, 3) := by decide +kernel
theorem dX7_pointStatement_32 : decode cX7_pointStatement 32 = .ok (.ifCond .ne 5, 3) := by decide +kernel
theorem dX7_pointStatement_35 : decode cX7_pointStatement 35 = .ok (.iconst 0, 1) := by decide +kernel
theorem dX7_pointStatement_36 : decode cX7_pointStatement 36 = .ok (.ireturn, 1) := by decide +kernel
theorem dX7_pointStatement_37 : decode cX7_pointStatement 37 = .ok (.aload_n 0, 1) := by decide +kernel
theorem dX7_pointStatement_38 : decode cX7_pointStatement 38 = .ok (.aload_n 0, 1) := by decide +kernel
theorem dX7_pointStatement_39 : decode cX7_pointStatement 39 = .ok (.getfield 116, 3) := by decide +kernel
theorem dX7_pointStatement_42 : decode cX7_pointStatement 42 = .ok (.invokevirtual 127, 3) := by decide +kernel
theorem dX7_pointStatement_45 : decode cX7_pointStatement 45 = .ok (.iconst (-1), 1) := by decide +kernel
theorem dX7_pointStatement_46 : decode cX7_pointStatement 46 = .ok (.if_icmp .eq 9, 3) := by decide +kernel
theorem dX7_pointStatement_49 : decode cX7_pointStatement 49 = .ok (.aload_n 0, 1) := by decide +kernel
theorem dX7_pointStatement_50 : decode cX7_pointStatement 50 = .ok (.iconst 4, 1) := by decide +kernel
theorem dX7_pointStatement_51 : decode cX7_pointStatement 51 = .ok (.invokevirtual 113, 3) := by decide +kernel
theorem dX7_pointStatement_54 : decode cX7_pointStatement 54 = .ok (.ireturn, 1) := by decide +kernel
theorem dX7_pointStatement_55 : decode cX7_pointStatement 55 = .ok (.aload_n 0, 1) := by decide +kernel
theorem dX7_pointStatement_56 : decode cX7_pointStatement 56 = .ok (.getfield 7, 3) := by decide +kernel
theorem dX7_pointStatement_59 : decode cX7_pointStatement 59 = .ok (.iconst 3, 1) := by decide +kernel
theorem dX7_pointStatement_60 : decode cX7_pointStatement 60 = .ok (.iload_n 1, 1) := by decide +kernel
theorem dX7_pointStatement_61 : decode cX7_pointStatement 61 = .ok (.iadd, 1) := by decide +kernel
theorem dX7_pointStatement_62 : decode cX7_pointStatement 62 = .ok (.aload_n 0, 1) := by decide +kernel
theorem dX7_pointStatement_63 : decode cX7_pointStatement 63 = .ok (.getfield 116, 3) := by decide +kernel
theorem dX7_pointStatement_66 : decode cX7_pointStatement 66 = .ok (.iastore, 1) := by decide +kernel
theorem dX7_pointStatement_67 : decode cX7_pointStatement 67 = .ok (.aload_n 0, 1) := by decide +kernel
theorem dX7_pointStatement_68 : decode cX7_pointStatement 68 = .ok (.invokevirtual 109, 3) := by decide +kernel
theorem dX7_pointStatement_71 : decode cX7_pointStatement 71 = .ok (.pop, 1) := by decide +kernel
theorem dX7_pointStatement_72 : decode cX7_pointStatement 72 = .ok (.aload_n 0, 1) := by decide +kernel
theorem dX7_pointStatement_73 : decode cX7_pointStatement 73 = .ok (.bipush 8, 2) := by decide +kernel
theorem dX7_pointStatement_75 : decode cX7_pointStatement 75 = .ok (.iload_n 1, 1) := by decide +kernel
theorem dX7_pointStatement_76 : decode cX7_pointStatement 76 = .ok (.iadd, 1) := by decide +kernel
theorem dX7_pointStatement_77 : decode cX7_pointStatement 77 = .ok (.bipush 20, 2) := by decide +kernel
theorem dX7_pointStatement_79 : decode cX7_pointStatement 79 = .ok (.invokevirtual 130, 3) := by decide +kernel
theorem dX7_pointStatement_82 : decode cX7_pointStatement 82 = .ok (.ifCond .ne 5, 3) := by decide +kernel
theorem dX7_pointStatement_85 : decode cX7_pointStatement 85 = .ok (.iconst 0, 1) := by decide +kernel
theorem dX7_pointStatement_86 : decode cX7_pointStatement 86 = .ok (.ireturn, 1) := by decide +kernel
theorem dX7_pointStatement_87 : decode cX7_pointStatement 87 = .ok (.aload_n 0, 1) := by decide +kernel
theorem dX7_pointStatement_88 : decode cX7_pointStatement 88 = .ok (.getfield 7, 3) := by decide +kernel
theorem dX7_pointStatement_91 : decode cX7_pointStatement 91 = .ok (.bipush 13, 2) := by decide +kernel
theorem dX7_pointStatement_93 : decode cX7_pointStatement 93 = .ok (.iload_n 1, 1) := by decide +kernel
theorem dX7_pointStatement_94 : decode cX7_pointStatement 94 = .ok (.iadd, 1) := by decide +kernel
theorem dX7_pointStatement_95 : decode cX7_pointStatement 95 = .ok (.iconst 1, 1) := by decide +kernel
theorem dX7_pointStatement_96 : decode cX7_pointStatement 96 = .ok (.iastore, 1) := by decide +kernel
theorem dX7_pointStatement_97 : decode cX7_pointStatement 97 = .ok (.aload_n 0, 1) := by decide +kernel
theorem dX7_pointStatement_98 : decode cX7_pointStatement 98 = .ok (.ldc 134, 2) := by decide +kernel
theorem dX7_pointStatement_100 : decode cX7_pointStatement 100 = .ok (.invokevirtual 136, 3) := by decide +kernel
theorem dX7_pointStatement_103 : decode cX7_pointStatement 103 = .ok (.ifCond .eq 23, 3) := by decide +kernel
theorem dX7_pointStatement_106 : decode cX7_pointStatement 106 = .ok (.aload_n 0, 1) := by decide +kernel
theorem dX7_pointStatement_107 : decode cX7_pointStatement 107 = .ok (.invokevirtual 109, 3) := by decide +kernel
theorem dX7_pointStatement_110 : decode cX7_pointStatement 110 = .ok (.pop, 1) := by decide +kernel
theorem dX7_pointStatement_111 : decode cX7_pointStatement 111 = .ok (.aload_n 0, 1) := by decide +kernel
theorem dX7_pointStatement_112 : decode cX7_pointStatement 112 = .ok (.bipush 13, 2) := by decide +kernel
theorem dX7_pointStatement_114 : decode cX7_pointStatement 114 = .ok (.iload_n 1, 1) := by decide +kernel
theorem dX7_pointStatement_115 : decode cX7_pointStatement 115 = .ok (.iadd, 1) := by decide +kernel
theorem dX7_pointStatement_116 : decode cX7_pointStatement 116 = .ok (.bipush 9, 2) := by decide +kernel
theorem dX7_pointStatement_118 : decode cX7_pointStatement 118 = .ok (.invokevirtual 130, 3) := by decide +kernel
theorem dX7_pointStatement_121 : decode cX7_pointStatement 121 = .ok (.ifCond .ne 5, 3) := by decide +kernel
theorem dX7_pointStatement_124 : decode cX7_pointStatement 124 = .ok (.iconst 0, 1) := by decide +kernel
theorem dX7_pointStatement_125 : decode cX7_pointStatement 125 = .ok (.ireturn, 1) := by decide +kernel
theorem dX7_pointStatement_126 : decode cX7_pointStatement 126 = .ok (.aload_n 0, 1) := by decide +kernel
theorem dX7_pointStatement_127 : decode cX7_pointStatement 127 = .ok (.getfield 7, 3) := by decide +kernel
theorem dX7_pointStatement_130 : decode cX7_pointStatement 130 = .ok (.iconst 2, 1) := by decide +kernel
theorem dX7_pointStatement_131 : decode cX7_pointStatement 131 = .ok (.dup2, 1) := by decide +kernel
theorem dX7_pointStatement_132 : decode cX7_pointStatement 132 = .ok (.iaload, 1) := by decide +kernel
theorem dX7_pointStatement_133 : decode cX7_pointStatement 133 = .ok (.iconst 1, 1) := by decide +kernel
theorem dX7_pointStatement_134 : decode cX7_pointStatement 134 = .ok (.iadd, 1) := by decide +kernel
theorem dX7_pointStatement_135 : decode cX7_pointStatement 135 = .ok (.iastore, 1) := by decide +kernel
theorem dX7_pointStatement_136 : decode cX7_pointStatement 136 = .ok (.iconst 1, 1) := by decide +kernel
theorem dX7_pointStatement_137 : decode cX7_pointStatement 137 = .ok (.ireturn, 1) := by decide +kernel
theorem dX7_blendStatement_0 : decode cX7_blendStatement 0 = .ok (.aload_n 0, 1) := by decide +kernel
theorem dX7_blendStatement_1 : decode cX7_blendStatement 1 = .ok (.invokevirtual 109, 3) := by decide +kernel
theorem dX7_blendStatement_4 : decode cX7_blendStatement 4 = .ok (.pop, 1) := by decide +kernel
theorem dX7_blendStatement_5 : decode cX7_blendStatement 5 = .ok (.aload_n 0, 1) := by decide +kernel
theorem dX7_blendStatement_6 : decode cX7_blendStatement 6 = .ok (.iconst 0, 1) := by decide +kernel
theorem dX7_blendStatement_7 : decode cX7_blendStatement 7 = .ok (.iconst 4, 1) := by decide +kernel
theorem dX7_blendStatement_8 : decode cX7_blendStatement 8 = .ok (.iconst 0, 1) := by decide +kernel
theorem dX7_blendStatement_9 : decode cX7_blendStatement 9 = .ok (.invokevirtual 123, 3) := by decide +kernel
theorem dX7_blendStatement_12 : decode cX7_blendStatement 12 = .ok (.ifCond .ne 5, 3) := by decide +kernel
theorem dX7_blendStatement_15 : decode cX7_blendStatement 15 = .ok (.iconst 0, 1) := by decide +kernel
theorem dX7_blendStatement_16 : decode cX7_blendStatement 16 = .ok (.ireturn, 1) := by decide +kernel
theorem dX7_blendStatement_17 : decode cX7_blendStatement 17 = .ok (.aload_n 0, 1) := by decide +kernel
theorem dX7_blendStatement_18 : decode cX7_blendStatement 18 = .ok (.getfield 7, 3) := by decide +kernel
theorem dX7_blendStatement_21 : decode cX7_blendStatement 21 = .ok (.iconst 0, 1) := by decide +kernel
theorem dX7_blendStatement_22 : decode cX7_blendStatement 22 = .ok (.iconst 1, 1) := by decide +kernel
theorem dX7_blendStatement_23 : decode cX7_blendStatement 23 = .ok (.iastore, 1) := by decide +kernel
theorem dX7_blendStatement_24 : decode cX7_blendStatement 24 = .ok (.aload_n 0, 1) := by decide +kernel
theorem dX7_blendStatement_25 : decode cX7_blendStatement 25 = .ok (.getfield 7, 3) := by decide +kernel
theorem dX7_blendStatement_28 : decode cX7_blendStatement 28 = .ok (.iconst 1, 1) := by decide +kernel
theorem dX7_blendStatement_29 : decode cX7_blendStatement 29 = .ok (.aload_n 0, 1) := by decide +kernel
theorem dX7_blendStatement_30 : decode cX7_blendStatement 30 = .ok (.getfield 116, 3) := by decide +kernel
theorem dX7_blendStatement_33 : decode cX7_blendStatement 33 = .ok (.iastore, 1) := by decide +kernel
theorem dX7_blendStatement_34 : decode cX7_blendStatement 34 = .ok (.aload_n 0, 1) := by decide +kernel
theorem dX7_blendStatement_35 : decode cX7_blendStatement 35 = .ok (.invokevirtual 109, 3) := by decide +kernel
theorem dX7_blendStatement_38 : decode cX7_blendStatement 38 = .ok (.ireturn, 1) := by decide +kernel
theorem dX7_modeStatement_0 : decode cX7_modeStatement 0 = .ok (.aload_n 0, 1) := by decide +kernel
theorem dX7_modeStatement_1 : decode cX7_modeStatement 1 = .ok (.getfield 7, 3) := by decide +kernel
theorem dX7_modeStatement_4 : decode cX7_modeStatement 4 = .ok (.iconst 0, 1) := by decide +kernel
theorem dX7_modeStatement_5 : decode cX7_modeStatement 5 = .ok (.iload_n 1, 1) := by decide +kernel
theorem dX7_modeStatement_6 : decode cX7_modeStatement 6 = .ok (.iastore, 1) := by decide +kernel
theorem dX7_modeStatement_7 : decode cX7_modeStatement 7 = .ok (.aload_n 0, 1) := by decide +kernel
theorem dX7_modeStatement_8 : decode cX7_modeStatement 8 = .ok (.invokevirtual 109, 3) := by decide +kernel
theorem dX7_modeStatement_11 : decode cX7_modeStatement 11 = .ok (.ireturn, 1) := by decide +kernel
theorem dX7_statement_0 : decode cX7_statement 0 = .ok (.aload_n 0, 1) := by decide +kernel
theorem dX7_statement_1 : decode cX7_statement 1 = .ok (.ldc 140, 2) := by decide +kernel
theorem dX7_statement_3 : decode cX7_statement 3 = .ok (.invokevirtual 136, 3) := by decide +kernel
theorem dX7_statement_6 : decode cX7_statement 6 = .ok (.ifCond .eq 8, 3) := by decide +kernel
theorem dX7_statement_9 : decode cX7_statement 9 = .ok (.aload_n 0, 1) := by decide +kernel
theorem dX7_statement_10 : decode cX7_statement 10 = .ok (.invokevirtual 142, 3) := by decide +kernel
theorem dX7_statement_13 : decode cX7_statement 13 = .ok (.ireturn, 1) := by decide +kernel
theorem dX7_statement_14 : decode cX7_statement 14 = .ok (.aload_n 0, 1) := by decide +kernel
theorem dX7_statement_15 : decode cX7_statement 15 = .ok (.ldc 145, 2) := by decide +kernel
theorem dX7_statement_17 : decode cX7_statement 17 = .ok (.invokevirtual 136, 3) := by decide +kernel
theorem dX7_statement_20 : decode cX7_statement 20 = .ok (.ifCond .eq 8, 3) := by decide +kernel
theorem dX7_statement_23 : decode cX7_statement 23 = .ok (.aload_n 0, 1) := by decide +kernel
theorem dX7_statement_24 : decode cX7_statement 24 = .ok (.invokevirtual 147, 3) := by decide +kernel
theorem dX7_statement_27 : decode cX7_statement 27 = .ok (.ireturn, 1) := by decide +kernel
theorem dX7_statement_28 : decode cX7_statement 28 = .ok (.aload_n 0, 1) := by decide +kernel
theorem dX7_statement_29 : decode cX7_statement 29 = .ok (.ldc 150, 2) := by decide +kernel
theorem dX7_statement_31 : decode cX7_statement 31 = .ok (.invokevirtual 136, 3) := by decide +kernel
theorem dX7_statement_34 : decode cX7_statement 34 = .ok (.ifCond .eq 9, 3) := by decide +kernel
theorem dX7_statement_37 : decode cX7_statement 37 = .ok (.aload_n 0, 1) := by decide +kernel
theorem dX7_statement_38 : decode cX7_statement 38 = .ok (.iconst 0, 1) := by decide +kernel
theorem dX7_statement_39 : decode cX7_statement 39 = .ok (.invokevirtual 152, 3) := by decide +kernel
theorem dX7_statement_42 : decode cX7_statement 42 = .ok (.ireturn, 1) := by decide +kernel
theorem dX7_statement_43 : decode cX7_statement 43 = .ok (.aload_n 0, 1) := by decide +kernel
theorem dX7_statement_44 : decode cX7_statement 44 = .ok (.ldc 155, 2) := by decide +kernel
theorem dX7_statement_46 : decode cX7_statement 46 = .ok (.invokevirtual 136, 3) := by decide +kernel
theorem dX7_statement_49 : decode cX7_statement 49 = .ok (.ifCond .eq 11, 3) := by decide +kernel
theorem dX7_statement_52 : decode cX7_statement 52 = .ok (.aload_n 0, 1) := by decide +kernel
theorem dX7_statement_53 : decode cX7_statement 53 = .ok (.iconst 2, 1) := by decide +kernel
theorem dX7_statement_54 : decode cX7_statement 54 = .ok (.invokevirtual 152, 3) := by decide +kernel
theorem dX7_statement_57 : decode cX7_statement 57 = .ok (.goto 8, 3) := by decide +kernel
theorem dX7_statement_60 : decode cX7_statement 60 = .ok (.aload_n 0, 1) := by decide +kernel
theorem dX7_statement_61 : decode cX7_statement 61 = .ok (.iconst 2, 1) := by decide +kernel
theorem dX7_statement_62 : decode cX7_statement 62 = .ok (.invokevirtual 113, 3) := by decide +kernel
theorem dX7_statement_65 : decode cX7_statement 65 = .ok (.ireturn, 1) := by decide +kernel
theorem dX7_parse_0 : decode cX7_parse 0 = .ok (.aload_n 0, 1) := by decide +kernel
theorem dX7_parse_1 : decode cX7_parse 1 = .ok (.iload_n 1, 1) := by decide +kernel
theorem dX7_parse_2 : decode cX7_parse 2 = .ok (.putfield 59, 3) := by decide +kernel
theorem dX7_parse_5 : decode cX7_parse 5 = .ok (.aload_n 0, 1) := by decide +kernel
theorem dX7_parse_6 : decode cX7_parse 6 = .ok (.iconst 0, 1) := by decide +kernel
theorem dX7_parse_7 : decode cX7_parse 7 = .ok (.putfield 52, 3) := by decide +kernel
theorem dX7_parse_10 : decode cX7_parse 10 = .ok (.aload_n 0, 1) := by decide +kernel
theorem dX7_parse_11 : decode cX7_parse 11 = .ok (.iconst 0, 1) := by decide +kernel
theorem dX7_parse_12 : decode cX7_parse 12 = .ok (.putfield 62, 3) := by decide +kernel
theorem dX7_parse_15 : decode cX7_parse 15 = .ok (.aload_n 0, 1) := by decide +kernel
theorem dX7_parse_16 : decode cX7_parse 16 = .ok (.iconst 0, 1) := by decide +kernel
theorem dX7_parse_17 : decode cX7_parse 17 = .ok (.putfield 103, 3) := by decide +kernel
theorem dX7_parse_20 : decode cX7_parse 20 = .ok (.aload_n 0, 1) := by decide +kernel
theorem dX7_parse_21 : decode cX7_parse 21 = .ok (.iconst (-1), 1) := by decide +kernel
theorem dX7_parse_22 : decode cX7_parse 22 = .ok (.putfield 106, 3) := by decide +kernel
theorem dX7_parse_25 : decode cX7_parse 25 = .ok (.iconst 0, 1) := by decide +kernel
theorem dX7_parse_26 : decode cX7_parse 26 = .ok (.istore_n 2, 1) := by decide +kernel
theorem dX7_parse_27 : decode cX7_parse 27 = .ok (.iload_n 2, 1) := by decide +kernel
theorem dX7_parse_28 : decode cX7_parse 28 = .ok (.bipush 18, 2) := by decide +kernel
theorem dX7_parse_30 : decode cX7_parse 30 = .ok (.if_icmp .ge 16, 3) := by decide +kernel
theorem dX7_parse_33 : decode cX7_parse 33 = .ok (.aload_n 0, 1) := by decide +kernel
theorem dX7_parse_34 : decode cX7_parse 34 = .ok (.getfield 7, 3) := by decide +kernel
theorem dX7_parse_37 : decode cX7_parse 37 = .ok (.iload_n 2, 1) := by decide +kernel
theorem dX7_parse_38 : decode cX7_parse 38 = .ok (.iconst 0, 1) := by decide +kernel
theorem dX7_parse_39 : decode cX7_parse 39 = .ok (.iastore, 1) := by decide +kernel
theorem dX7_parse_40 : decode cX7_parse 40 = .ok (.iinc 2 1, 3) := by decide +kernel
theorem dX7_parse_43 : decode cX7_parse 43 = .ok (.goto (-16), 3) := by decide +kernel
theorem dX7_parse_46 : decode cX7_parse 46 = .ok (.aload_n 0, 1) := by decide +kernel
theorem dX7_parse_47 : decode cX7_parse 47 = .ok (.invokevirtual 109, 3) := by decide +kernel
theorem dX7_parse_50 : decode cX7_parse 50 = .ok (.pop, 1) := by decide +kernel
theorem dX7_parse_51 : decode cX7_parse 51 = .ok (.iconst 1, 1) := by decide +kernel
theorem dX7_parse_52 : decode cX7_parse 52 = .ok (.istore_n 2, 1) := by decide +kernel
theorem dX7_parse_53 : decode cX7_parse 53 = .ok (.iload_n 2, 1) := by decide +kernel
theorem dX7_parse_54 : decode cX7_parse 54 = .ok (.ifCond .eq 33, 3) := by decide +kernel
theorem dX7_parse_57 : decode cX7_parse 57 = .ok (.aload_n 0, 1) := by decide +kernel
theorem dX7_parse_58 : decode cX7_parse 58 = .ok (.getfield 76, 3) := by decide +kernel
theorem dX7_parse_61 : decode cX7_parse 61 = .ok (.ifCond .eq 26, 3) := by decide +kernel
theorem dX7_parse_64 : decode cX7_parse 64 = .ok (.aload_n 0, 1) := by decide +kernel
theorem dX7_parse_65 : decode cX7_parse 65 = .ok (.invokevirtual 157, 3) := by decide +kernel
theorem dX7_parse_68 : decode cX7_parse 68 = .ok (.ifCond .eq 14, 3) := by decide +kernel
theorem dX7_parse_71 : decode cX7_parse 71 = .ok (.aload_n 0, 1) := by decide +kernel
theorem dX7_parse_72 : decode cX7_parse 72 = .ok (.invokevirtual 160, 3) := by decide +kernel
theorem dX7_parse_75 : decode cX7_parse 75 = .ok (.ifCond .eq 7, 3) := by decide +kernel
theorem dX7_parse_78 : decode cX7_parse 78 = .ok (.iconst 1, 1) := by decide +kernel
theorem dX7_parse_79 : decode cX7_parse 79 = .ok (.goto 4, 3) := by decide +kernel
theorem dX7_parse_82 : decode cX7_parse 82 = .ok (.iconst 0, 1) := by decide +kernel
theorem dX7_parse_83 : decode cX7_parse 83 = .ok (.istore_n 2, 1) := by decide +kernel
theorem dX7_parse_84 : decode cX7_parse 84 = .ok (.goto (-31), 3) := by decide +kernel
theorem dX7_parse_87 : decode cX7_parse 87 = .ok (.iload_n 2, 1) := by decide +kernel
theorem dX7_parse_88 : decode cX7_parse 88 = .ok (.ireturn, 1) := by decide +kernel
theorem dX7_load_0 : decode cX7_load 0 = .ok (.aload_n 0, 1) := by decide +kernel
theorem dX7_load_1 : decode cX7_load 1 = .ok (.iload_n 1, 1) := by decide +kernel
theorem dX7_load_2 : decode cX7_load 2 = .ok (.i2l, 1) := by decide +kernel
theorem dX7_load_3 : decode cX7_load 3 = .ok (.lconst 0, 1) := by decide +kernel
theorem dX7_load_4 : decode cX7_load 4 = .ok (.aload_n 0, 1) := by decide +kernel
theorem dX7_load_5 : decode cX7_load 5 = .ok (.getfield 52, 3) := by decide +kernel
theorem dX7_load_8 : decode cX7_load 8 = .ok (.i2l, 1) := by decide +kernel
theorem dX7_load_9 : decode cX7_load 9 = .ok (.invokestatic 119, 3) := by decide +kernel
theorem dX7_load_12 : decode cX7_load 12 = .ok (.invokevirtual 163, 3) := by decide +kernel
theorem dX7_load_15 : decode cX7_load 15 = .ok (.ifCond .ne 5, 3) := by decide +kernel
theorem dX7_load_18 : decode cX7_load 18 = .ok (.iconst 0, 1) := by decide +kernel
theorem dX7_load_19 : decode cX7_load 19 = .ok (.ireturn, 1) := by decide +kernel
theorem dX7_load_20 : decode cX7_load 20 = .ok (.aload_n 0, 1) := by decide +kernel
theorem dX7_load_21 : decode cX7_load 21 = .ok (.invokevirtual 166, 3) := by decide +kernel
theorem dX7_load_24 : decode cX7_load 24 = .ok (.aload_n 0, 1) := by decide +kernel
theorem dX7_load_25 : decode cX7_load 25 = .ok (.iload_n 1, 1) := by decide +kernel
theorem dX7_load_26 : decode cX7_load 26 = .ok (.invokevirtual 169, 3) := by decide +kernel
theorem dX7_load_29 : decode cX7_load 29 = .ok (.istore_n 2, 1) := by decide +kernel
theorem dX7_load_30 : decode cX7_load 30 = .ok (.aload_n 0, 1) := by decide +kernel
theorem dX7_load_31 : decode cX7_load 31 = .ok (.aload_n 0, 1) := by decide +kernel
theorem dX7_load_32 : decode cX7_load 32 = .ok (.getfield 103, 3) := by decide +kernel
theorem dX7_load_35 : decode cX7_load 35 = .ok (.putfield 172, 3) := by decide +kernel
theorem dX7_load_38 : decode cX7_load 38 = .ok (.aload_n 0, 1) := by decide +kernel
theorem dX7_load_39 : decode cX7_load 39 = .ok (.aload_n 0, 1) := by decide +kernel
theorem dX7_load_40 : decode cX7_load 40 = .ok (.getfield 106, 3) := by decide +kernel
theorem dX7_load_43 : decode cX7_load 43 = .ok (.putfield 22, 3) := by decide +kernel
theorem dX7_load_46 : decode cX7_load 46 = .ok (.iload_n 2, 1) := by decide +kernel
theorem dX7_load_47 : decode cX7_load 47 = .ok (.ifCond .ne 10, 3) := by decide +kernel
theorem dX7_load_50 : decode cX7_load 50 = .ok (.aload_n 0, 1) := by decide +kernel
theorem dX7_load_51 : decode cX7_load 51 = .ok (.invokevirtual 175, 3) := by decide +kernel
theorem dX7_load_54 : decode cX7_load 54 = .ok (.bipush (-3), 2) := by decide +kernel
theorem dX7_load_56 : decode cX7_load 56 = .ok (.ireturn, 1) := by decide +kernel
theorem dX7_load_57 : decode cX7_load 57 = .ok (.aload_n 0, 1) := by decide +kernel
theorem dX7_load_58 : decode cX7_load 58 = .ok (.iconst 0, 1) := by decide +kernel
theorem dX7_load_59 : decode cX7_load 59 = .ok (.putfield 49, 3) := by decide +kernel
theorem dX7_load_62 : decode cX7_load 62 = .ok (.aload_n 0, 1) := by decide +kernel
theorem dX7_load_63 : decode cX7_load 63 = .ok (.getfield 7, 3) := by decide +kernel
theorem dX7_load_66 : decode cX7_load 66 = .ok (.iconst 2, 1) := by decide +kernel
theorem dX7_load_67 : decode cX7_load 67 = .ok (.iaload, 1) := by decide +kernel
theorem dX7_load_68 : decode cX7_load 68 = .ok (.ireturn, 1) := by decide +kernel
theorem dX7_errorKind_0 : decode cX7_errorKind 0 = .ok (.aload_n 0, 1) := by decide +kernel
theorem dX7_errorKind_1 : decode cX7_errorKind 1 = .ok (.iconst 0, 1) := by decide +kernel
theorem dX7_errorKind_2 : decode cX7_errorKind 2 = .ok (.putfield 42, 3) := by decide +kernel
theorem dX7_errorKind_5 : decode cX7_errorKind 5 = .ok (.aload_n 0, 1) := by decide +kernel
theorem dX7_errorKind_6 : decode cX7_errorKind 6 = .ok (.getfield 172, 3) := by decide +kernel
theorem dX7_errorKind_9 : decode cX7_errorKind 9 = .ok (.ireturn, 1) := by decide +kernel
theorem dX7_errorPosition_0 : decode cX7_errorPosition 0 = .ok (.aload_n 0, 1) := by decide +kernel
theorem dX7_errorPosition_1 : decode cX7_errorPosition 1 = .ok (.iconst 0, 1) := by decide +kernel
theorem dX7_errorPosition_2 : decode cX7_errorPosition 2 = .ok (.putfield 42, 3) := by decide +kernel
theorem dX7_errorPosition_5 : decode cX7_errorPosition 5 = .ok (.aload_n 0, 1) := by decide +kernel
theorem dX7_errorPosition_6 : decode cX7_errorPosition 6 = .ok (.getfield 22, 3) := by decide +kernel
theorem dX7_errorPosition_9 : decode cX7_errorPosition 9 = .ok (.ireturn, 1) := by decide +kernel
theorem dX7_isPoint_0 : decode cX7_isPoint 0 = .ok (.iload_n 1, 1) := by decide +kernel
theorem dX7_isPoint_1 : decode cX7_isPoint 1 = .ok (.i2l, 1) := by decide +kernel
theorem dX7_isPoint_2 : decode cX7_isPoint 2 = .ok (.lconst 0, 1) := by decide +kernel
theorem dX7_isPoint_3 : decode cX7_isPoint 3 = .ok (.aload_n 0, 1) := by decide +kernel
theorem dX7_isPoint_4 : decode cX7_isPoint 4 = .ok (.getfield 7, 3) := by decide +kernel
theorem dX7_isPoint_7 : decode cX7_isPoint 7 = .ok (.iconst 2, 1) := by decide +kernel
theorem dX7_isPoint_8 : decode cX7_isPoint 8 = .ok (.iaload, 1) := by decide +kernel
theorem dX7_isPoint_9 : decode cX7_isPoint 9 = .ok (.iconst 1, 1) := by decide +kernel
theorem dX7_isPoint_10 : decode cX7_isPoint 10 = .ok (.isub, 1) := by decide +kernel
theorem dX7_isPoint_11 : decode cX7_isPoint 11 = .ok (.i2l, 1) := by decide +kernel
theorem dX7_isPoint_12 : decode cX7_isPoint 12 = .ok (.invokestatic 119, 3) := by decide +kernel
theorem dX7_isPoint_15 : decode cX7_isPoint 15 = .ok (.ireturn, 1) := by decide +kernel
theorem dX7_isWhole_0 : decode cX7_isWhole 0 = .ok (.iload_n 0, 1) := by decide +kernel
theorem dX7_isWhole_1 : decode cX7_isWhole 1 = .ok (.i2l, 1) := by decide +kernel
theorem dX7_isWhole_2 : decode cX7_isWhole 2 = .ok (.ldc2_w 178, 3) := by decide +kernel
theorem dX7_isWhole_5 : decode cX7_isWhole 5 = .ok (.ldc2_w 180, 3) := by decide +kernel
theorem dX7_isWhole_8 : decode cX7_isWhole 8 = .ok (.invokestatic 119, 3) := by decide +kernel
theorem dX7_isWhole_11 : decode cX7_isWhole 11 = .ok (.ireturn, 1) := by decide +kernel
theorem dX7_isPart_0 : decode cX7_isPart 0 = .ok (.iload_n 0, 1) := by decide +kernel
theorem dX7_isPart_1 : decode cX7_isPart 1 = .ok (.ifCond .eq 8, 3) := by decide +kernel
theorem dX7_isPart_4 : decode cX7_isPart 4 = .ok (.iload_n 0, 1) := by decide +kernel
theorem dX7_isPart_5 : decode cX7_isPart 5 = .ok (.iconst 1, 1) := by decide +kernel
theorem dX7_isPart_6 : decode cX7_isPart 6 = .ok (.if_icmp .ne 7, 3) := by decide +kernel
theorem dX7_isPart_9 : decode cX7_isPart 9 = .ok (.iconst 1, 1) := by decide +kernel
theorem dX7_isPart_10 : decode cX7_isPart 10 = .ok (.goto 4, 3) := by decide +kernel
theorem dX7_isPart_13 : decode cX7_isPart 13 = .ok (.iconst 0, 1) := by decide +kernel
theorem dX7_isPart_14 : decode cX7_isPart 14 = .ok (.ireturn, 1) := by decide +kernel
theorem dX7_points_0 : decode cX7_points 0 = .ok (.aload_n 0, 1) := by decide +kernel
theorem dX7_points_1 : decode cX7_points 1 = .ok (.iconst 0, 1) := by decide +kernel
theorem dX7_points_2 : decode cX7_points 2 = .ok (.putfield 42, 3) := by decide +kernel
theorem dX7_points_5 : decode cX7_points 5 = .ok (.aload_n 0, 1) := by decide +kernel
theorem dX7_points_6 : decode cX7_points 6 = .ok (.getfield 7, 3) := by decide +kernel
theorem dX7_points_9 : decode cX7_points 9 = .ok (.iconst 2, 1) := by decide +kernel
theorem dX7_points_10 : decode cX7_points 10 = .ok (.iaload, 1) := by decide +kernel
theorem dX7_points_11 : decode cX7_points 11 = .ok (.ireturn, 1) := by decide +kernel
theorem dX7_mode_0 : decode cX7_mode 0 = .ok (.aload_n 0, 1) := by decide +kernel
theorem dX7_mode_1 : decode cX7_mode 1 = .ok (.iconst 0, 1) := by decide +kernel
theorem dX7_mode_2 : decode cX7_mode 2 = .ok (.putfield 42, 3) := by decide +kernel
theorem dX7_mode_5 : decode cX7_mode 5 = .ok (.aload_n 0, 1) := by decide +kernel
theorem dX7_mode_6 : decode cX7_mode 6 = .ok (.getfield 7, 3) := by decide +kernel
theorem dX7_mode_9 : decode cX7_mode 9 = .ok (.iconst 0, 1) := by decide +kernel
theorem dX7_mode_10 : decode cX7_mode 10 = .ok (.iaload, 1) := by decide +kernel
theorem dX7_mode_11 : decode cX7_mode 11 = .ok (.ireturn, 1) := by decide +kernel
theorem dX7_degree_0 : decode cX7_degree 0 = .ok (.aload_n 0, 1) := by decide +kernel
theorem dX7_degree_1 : decode cX7_degree 1 = .ok (.iconst 0, 1) := by decide +kernel
theorem dX7_degree_2 : decode cX7_degree 2 = .ok (.putfield 42, 3) := by decide +kernel
theorem dX7_degree_5 : decode cX7_degree 5 = .ok (.aload_n 0, 1) := by decide +kernel
theorem dX7_degree_6 : decode cX7_degree 6 = .ok (.getfield 7, 3) := by decide +kernel
theorem dX7_degree_9 : decode cX7_degree 9 = .ok (.iconst 1, 1) := by decide +kernel
theorem dX7_degree_10 : decode cX7_degree 10 = .ok (.iaload, 1) := by decide +kernel
theorem dX7_degree_11 : decode cX7_degree 11 = .ok (.ireturn, 1) := by decide +kernel
theorem dX7_placeOf_0 : decode cX7_placeOf 0 = .ok (.iconst 0, 1) := by decide +kernel
theorem dX7_placeOf_1 : decode cX7_placeOf 1 = .ok (.istore_n 2, 1) := by decide +kernel
theorem dX7_placeOf_2 : decode cX7_placeOf 2 = .ok (.iconst 0, 1) := by decide +kernel
theorem dX7_placeOf_3 : decode cX7_placeOf 3 = .ok (.istore_n 3, 1) := by decide +kernel
theorem dX7_placeOf_4 : decode cX7_placeOf 4 = .ok (.iload_n 3, 1) := by decide +kernel
theorem dX7_placeOf_5 : decode cX7_placeOf 5 = .ok (.aload_n 0, 1) := by decide +kernel
theorem dX7_placeOf_6 : decode cX7_placeOf 6 = .ok (.getfield 7, 3) := by decide +kernel
theorem dX7_placeOf_9 : decode cX7_placeOf 9 = .ok (.iconst 2, 1) := by decide +kernel
theorem dX7_placeOf_10 : decode cX7_placeOf 10 = .ok (.iaload, 1) := by decide +kernel
theorem dX7_placeOf_11 : decode cX7_placeOf 11 = .ok (.if_icmp .ge 31, 3) := by decide +kernel
theorem dX7_placeOf_14 : decode cX7_placeOf 14 = .ok (.aload_n 0, 1) := by decide +kernel
theorem dX7_placeOf_15 : decode cX7_placeOf 15 = .ok (.getfield 7, 3) := by decide +kernel
theorem dX7_placeOf_18 : decode cX7_placeOf 18 = .ok (.iconst 3, 1) := by decide +kernel
theorem dX7_placeOf_19 : decode cX7_placeOf 19 = .ok (.iload_n 3, 1) := by decide +kernel
theorem dX7_placeOf_20 : decode cX7_placeOf 20 = .ok (.iadd, 1) := by decide +kernel
theorem dX7_placeOf_21 : decode cX7_placeOf 21 = .ok (.iaload, 1) := by decide +kernel
theorem dX7_placeOf_22 : decode cX7_placeOf 22 = .ok (.aload_n 0, 1) := by decide +kernel
theorem dX7_placeOf_23 : decode cX7_placeOf 23 = .ok (.getfield 7, 3) := by decide +kernel
theorem dX7_placeOf_26 : decode cX7_placeOf 26 = .ok (.iconst 3, 1) := by decide +kernel
theorem dX7_placeOf_27 : decode cX7_placeOf 27 = .ok (.iload_n 1, 1) := by decide +kernel
theorem dX7_placeOf_28 : decode cX7_placeOf 28 = .ok (.iadd, 1) := by decide +kernel
theorem dX7_placeOf_29 : decode cX7_placeOf 29 = .ok (.iaload, 1) := by decide +kernel
theorem dX7_placeOf_30 : decode cX7_placeOf 30 = .ok (.if_icmp .ge 6, 3) := by decide +kernel
theorem dX7_placeOf_33 : decode cX7_placeOf 33 = .ok (.iinc 2 1, 3) := by decide +kernel
theorem dX7_placeOf_36 : decode cX7_placeOf 36 = .ok (.iinc 3 1, 3) := by decide +kernel
theorem dX7_placeOf_39 : decode cX7_placeOf 39 = .ok (.goto (-35), 3) := by decide +kernel
theorem dX7_placeOf_42 : decode cX7_placeOf 42 = .ok (.iload_n 2, 1) := by decide +kernel
theorem dX7_placeOf_43 : decode cX7_placeOf 43 = .ok (.ireturn, 1) := by decide +kernel
theorem dX7_point_0 : decode cX7_point 0 = .ok (.aload_n 0, 1) := by decide +kernel
theorem dX7_point_1 : decode cX7_point 1 = .ok (.aload_n 0, 1) := by decide +kernel
theorem dX7_point_2 : decode cX7_point 2 = .ok (.iload_n 1, 1) := by decide +kernel
theorem dX7_point_3 : decode cX7_point 3 = .ok (.invokevirtual 182, 3) := by decide +kernel
theorem dX7_point_6 : decode cX7_point 6 = .ok (.iload_n 2, 1) := by decide +kernel
theorem dX7_point_7 : decode cX7_point 7 = .ok (.i2l, 1) := by decide +kernel
theorem dX7_point_8 : decode cX7_point 8 = .ok (.lconst 0, 1) := by decide +kernel
theorem dX7_point_9 : decode cX7_point 9 = .ok (.ldc2_w 185, 3) := by decide +kernel
theorem dX7_point_12 : decode cX7_point 12 = .ok (.invokestatic 119, 3) := by decide +kernel
theorem dX7_point_15 : decode cX7_point 15 = .ok (.invokevirtual 187, 3) := by decide +kernel
theorem dX7_point_18 : decode cX7_point 18 = .ok (.ifCond .ne 5, 3) := by decide +kernel
theorem dX7_point_21 : decode cX7_point 21 = .ok (.iconst 0, 1) := by decide +kernel
theorem dX7_point_22 : decode cX7_point 22 = .ok (.ireturn, 1) := by decide +kernel
theorem dX7_point_23 : decode cX7_point 23 = .ok (.iload_n 2, 1) := by decide +kernel
theorem dX7_point_24 : decode cX7_point 24 = .ok (.tableswitch 57 0 2 #[28, 37, 47], 28) := by decide +kernel
theorem dX7_point_52 : decode cX7_point 52 = .ok (.aload_n 0, 1) := by decide +kernel
theorem dX7_point_53 : decode cX7_point 53 = .ok (.getfield 7, 3) := by decide +kernel
theorem dX7_point_56 : decode cX7_point 56 = .ok (.iconst 3, 1) := by decide +kernel
theorem dX7_point_57 : decode cX7_point 57 = .ok (.iload_n 1, 1) := by decide +kernel
theorem dX7_point_58 : decode cX7_point 58 = .ok (.iadd, 1) := by decide +kernel
theorem dX7_point_59 : decode cX7_point 59 = .ok (.iaload, 1) := by decide +kernel
theorem dX7_point_60 : decode cX7_point 60 = .ok (.ireturn, 1) := by decide +kernel
theorem dX7_point_61 : decode cX7_point 61 = .ok (.aload_n 0, 1) := by decide +kernel
theorem dX7_point_62 : decode cX7_point 62 = .ok (.getfield 7, 3) := by decide +kernel
theorem dX7_point_65 : decode cX7_point 65 = .ok (.bipush 8, 2) := by decide +kernel
theorem dX7_point_67 : decode cX7_point 67 = .ok (.iload_n 1, 1) := by decide +kernel
theorem dX7_point_68 : decode cX7_point 68 = .ok (.iadd, 1) := by decide +kernel
theorem dX7_point_69 : decode cX7_point 69 = .ok (.iaload, 1) := by decide +kernel
theorem dX7_point_70 : decode cX7_point 70 = .ok (.ireturn, 1) := by decide +kernel
theorem dX7_point_71 : decode cX7_point 71 = .ok (.aload_n 0, 1) := by decide +kernel
theorem dX7_point_72 : decode cX7_point 72 = .ok (.getfield 7, 3) := by decide +kernel
theorem dX7_point_75 : decode cX7_point 75 = .ok (.bipush 13, 2) := by decide +kernel
theorem dX7_point_77 : decode cX7_point 77 = .ok (.iload_n 1, 1) := by decide +kernel
theorem dX7_point_78 : decode cX7_point 78 = .ok (.iadd, 1) := by decide +kernel
theorem dX7_point_79 : decode cX7_point 79 = .ok (.iaload, 1) := by decide +kernel
theorem dX7_point_80 : decode cX7_point 80 = .ok (.ireturn, 1) := by decide +kernel
theorem dX7_point_81 : decode cX7_point 81 = .ok (.aload_n 0, 1) := by decide +kernel
theorem dX7_point_82 : decode cX7_point 82 = .ok (.iload_n 1, 1) := by decide +kernel
theorem dX7_point_83 : decode cX7_point 83 = .ok (.invokevirtual 190, 3) := by decide +kernel
theorem dX7_point_86 : decode cX7_point 86 = .ok (.ireturn, 1) := by decide +kernel
theorem dX7_pointAt_0 : decode cX7_pointAt 0 = .ok (.aload_n 0, 1) := by decide +kernel
theorem dX7_pointAt_1 : decode cX7_pointAt 1 = .ok (.iload_n 1, 1) := by decide +kernel
theorem dX7_pointAt_2 : decode cX7_pointAt 2 = .ok (.invokestatic 193, 3) := by decide +kernel
theorem dX7_pointAt_5 : decode cX7_pointAt 5 = .ok (.aload_n 0, 1) := by decide +kernel
theorem dX7_pointAt_6 : decode cX7_pointAt 6 = .ok (.iload_n 1, 1) := by decide +kernel
theorem dX7_pointAt_7 : decode cX7_pointAt 7 = .ok (.invokevirtual 127, 3) := by decide +kernel
theorem dX7_pointAt_10 : decode cX7_pointAt 10 = .ok (.iconst (-1), 1) := by decide +kernel
theorem dX7_pointAt_11 : decode cX7_pointAt 11 = .ok (.if_icmp .eq 7, 3) := by decide +kernel
theorem dX7_pointAt_14 : decode cX7_pointAt 14 = .ok (.iconst 1, 1) := by decide +kernel
theorem dX7_pointAt_15 : decode cX7_pointAt 15 = .ok (.goto 4, 3) := by decide +kernel
theorem dX7_pointAt_18 : decode cX7_pointAt 18 = .ok (.iconst 0, 1) := by decide +kernel
theorem dX7_pointAt_19 : decode cX7_pointAt 19 = .ok (.invokevirtual 187, 3) := by decide +kernel
theorem dX7_pointAt_22 : decode cX7_pointAt 22 = .ok (.ifCond .eq 11, 3) := by decide +kernel
theorem dX7_pointAt_25 : decode cX7_pointAt 25 = .ok (.aload_n 0, 1) := by decide +kernel
theorem dX7_pointAt_26 : decode cX7_pointAt 26 = .ok (.iload_n 1, 1) := by decide +kernel
theorem dX7_pointAt_27 : decode cX7_pointAt 27 = .ok (.invokevirtual 127, 3) := by decide +kernel
theorem dX7_pointAt_30 : decode cX7_pointAt 30 = .ok (.goto 4, 3) := by decide +kernel
theorem dX7_pointAt_33 : decode cX7_pointAt 33 = .ok (.iconst 0, 1) := by decide +kernel
theorem dX7_pointAt_34 : decode cX7_pointAt 34 = .ok (.ireturn, 1) := by decide +kernel
theorem dX7_common_0 : decode cX7_common 0 = .ok (.lload_n 0, 1) := by decide +kernel
theorem dX7_common_1 : decode cX7_common 1 = .ok (.invokestatic 196, 3) := by decide +kernel
theorem dX7_common_4 : decode cX7_common 4 = .ok (.lstore 4, 2) := by decide +kernel
theorem dX7_common_6 : decode cX7_common 6 = .ok (.lload_n 2, 1) := by decide +kernel
theorem dX7_common_7 : decode cX7_common 7 = .ok (.invokestatic 196, 3) := by decide +kernel
theorem dX7_common_10 : decode cX7_common 10 = .ok (.lstore 6, 2) := by decide +kernel
theorem dX7_common_12 : decode cX7_common 12 = .ok (.lload 6, 2) := by decide +kernel
theorem dX7_common_14 : decode cX7_common 14 = .ok (.lconst 0, 1) := by decide +kernel
theorem dX7_common_15 : decode cX7_common 15 = .ok (.lcmp, 1) := by decide +kernel
theorem dX7_common_16 : decode cX7_common 16 = .ok (.ifCond .eq 21, 3) := by decide +kernel
theorem dX7_common_19 : decode cX7_common 19 = .ok (.lload 4, 2) := by decide +kernel
theorem dX7_common_21 : decode cX7_common 21 = .ok (.lload 6, 2) := by decide +kernel
theorem dX7_common_23 : decode cX7_common 23 = .ok (.lrem, 1) := by decide +kernel
theorem dX7_common_24 : decode cX7_common 24 = .ok (.lstore 8, 2) := by decide +kernel
theorem dX7_common_26 : decode cX7_common 26 = .ok (.lload 6, 2) := by decide +kernel
theorem dX7_common_28 : decode cX7_common 28 = .ok (.lstore 4, 2) := by decide +kernel
theorem dX7_common_30 : decode cX7_common 30 = .ok (.lload 8, 2) := by decide +kernel
theorem dX7_common_32 : decode cX7_common 32 = .ok (.lstore 6, 2) := by decide +kernel
theorem dX7_common_34 : decode cX7_common 34 = .ok (.goto (-22), 3) := by decide +kernel
theorem dX7_common_37 : decode cX7_common 37 = .ok (.lload 4, 2) := by decide +kernel
theorem dX7_common_39 : decode cX7_common 39 = .ok (.lreturn, 1) := by decide +kernel
theorem dX7_lays_0 : decode cX7_lays 0 = .ok (.lload_n 1, 1) := by decide +kernel
theorem dX7_lays_1 : decode cX7_lays 1 = .ok (.lload_n 3, 1) := by decide +kernel
theorem dX7_lays_2 : decode cX7_lays 2 = .ok (.invokestatic 202, 3) := by decide +kernel
theorem dX7_lays_5 : decode cX7_lays 5 = .ok (.lstore 5, 2) := by decide +kernel
theorem dX7_lays_7 : decode cX7_lays 7 = .ok (.lload_n 3, 1) := by decide +kernel
theorem dX7_lays_8 : decode cX7_lays 8 = .ok (.lconst 0, 1) := by decide +kernel
theorem dX7_lays_9 : decode cX7_lays 9 = .ok (.lcmp, 1) := by decide +kernel
theorem dX7_lays_10 : decode cX7_lays 10 = .ok (.ifCond .ge 8, 3) := by decide +kernel
theorem dX7_lays_13 : decode cX7_lays 13 = .ok (.lload 5, 2) := by decide +kernel
theorem dX7_lays_15 : decode cX7_lays 15 = .ok (.lneg, 1) := by decide +kernel
theorem dX7_lays_16 : decode cX7_lays 16 = .ok (.lstore 5, 2) := by decide +kernel
theorem dX7_lays_18 : decode cX7_lays 18 = .ok (.aload_n 0, 1) := by decide +kernel
theorem dX7_lays_19 : decode cX7_lays 19 = .ok (.lload_n 1, 1) := by decide +kernel
theorem dX7_lays_20 : decode cX7_lays 20 = .ok (.lload 5, 2) := by decide +kernel
theorem dX7_lays_22 : decode cX7_lays 22 = .ok (.ldiv, 1) := by decide +kernel
theorem dX7_lays_23 : decode cX7_lays 23 = .ok (.putfield 206, 3) := by decide +kernel
theorem dX7_lays_26 : decode cX7_lays 26 = .ok (.aload_n 0, 1) := by decide +kernel
theorem dX7_lays_27 : decode cX7_lays 27 = .ok (.lload_n 3, 1) := by decide +kernel
theorem dX7_lays_28 : decode cX7_lays 28 = .ok (.lload 5, 2) := by decide +kernel
theorem dX7_lays_30 : decode cX7_lays 30 = .ok (.ldiv, 1) := by decide +kernel
theorem dX7_lays_31 : decode cX7_lays 31 = .ok (.putfield 210, 3) := by decide +kernel
theorem dX7_lays_34 : decode cX7_lays 34 = .ok (.return_, 1) := by decide +kernel
theorem dX7_told_0 : decode cX7_told 0 = .ok (.iload_n 1, 1) := by decide +kernel
theorem dX7_told_1 : decode cX7_told 1 = .ok (.ifCond .ne 10, 3) := by decide +kernel
theorem dX7_told_4 : decode cX7_told 4 = .ok (.aload_n 0, 1) := by decide +kernel
theorem dX7_told_5 : decode cX7_told 5 = .ok (.getfield 206, 3) := by decide +kernel
theorem dX7_told_8 : decode cX7_told 8 = .ok (.goto 7, 3) := by decide +kernel
theorem dX7_told_11 : decode cX7_told 11 = .ok (.aload_n 0, 1) := by decide +kernel
theorem dX7_told_12 : decode cX7_told 12 = .ok (.getfield 210, 3) := by decide +kernel
theorem dX7_told_15 : decode cX7_told 15 = .ok (.lreturn, 1) := by decide +kernel
theorem dX7_isGreater_0 : decode cX7_isGreater 0 = .ok (.lload_n 0, 1) := by decide +kernel
theorem dX7_isGreater_1 : decode cX7_isGreater 1 = .ok (.lstore 8, 2) := by decide +kernel
theorem dX7_isGreater_3 : decode cX7_isGreater 3 = .ok (.lload_n 2, 1) := by decide +kernel
theorem dX7_isGreater_4 : decode cX7_isGreater 4 = .ok (.lstore 10, 2) := by decide +kernel
theorem dX7_isGreater_6 : decode cX7_isGreater 6 = .ok (.lload 4, 2) := by decide +kernel
theorem dX7_isGreater_8 : decode cX7_isGreater 8 = .ok (.lstore 12, 2) := by decide +kernel
theorem dX7_isGreater_10 : decode cX7_isGreater 10 = .ok (.lload 6, 2) := by decide +kernel
theorem dX7_isGreater_12 : decode cX7_isGreater 12 = .ok (.lstore 14, 2) := by decide +kernel
theorem dX7_isGreater_14 : decode cX7_isGreater 14 = .ok (.lload 8, 2) := by decide +kernel
theorem dX7_isGreater_16 : decode cX7_isGreater 16 = .ok (.lload 10, 2) := by decide +kernel
theorem dX7_isGreater_18 : decode cX7_isGreater 18 = .ok (.invokestatic 213, 3) := by decide +kernel
theorem dX7_isGreater_21 : decode cX7_isGreater 21 = .ok (.lstore 16, 2) := by decide +kernel
theorem dX7_isGreater_23 : decode cX7_isGreater 23 = .ok (.lload 12, 2) := by decide +kernel
theorem dX7_isGreater_25 : decode cX7_isGreater 25 = .ok (.lload 14, 2) := by decide +kernel
theorem dX7_isGreater_27 : decode cX7_isGreater 27 = .ok (.invokestatic 213, 3) := by decide +kernel
theorem dX7_isGreater_30 : decode cX7_isGreater 30 = .ok (.lstore 18, 2) := by decide +kernel
theorem dX7_isGreater_32 : decode cX7_isGreater 32 = .ok (.lload 16, 2) := by decide +kernel
theorem dX7_isGreater_34 : decode cX7_isGreater 34 = .ok (.lload 18, 2) := by decide +kernel
theorem dX7_isGreater_36 : decode cX7_isGreater 36 = .ok (.lcmp, 1) := by decide +kernel
theorem dX7_isGreater_37 : decode cX7_isGreater 37 = .ok (.ifCond .eq 17, 3) := by decide +kernel
theorem dX7_isGreater_40 : decode cX7_isGreater 40 = .ok (.lload 16, 2) := by decide +kernel
theorem dX7_isGreater_42 : decode cX7_isGreater 42 = .ok (.lload 18, 2) := by decide +kernel
theorem dX7_isGreater_44 : decode cX7_isGreater 44 = .ok (.lcmp, 1) := by decide +kernel
theorem dX7_isGreater_45 : decode cX7_isGreater 45 = .ok (.ifCond .le 7, 3) := by decide +kernel
theorem dX7_isGreater_48 : decode cX7_isGreater 48 = .ok (.iconst 1, 1) := by decide +kernel
theorem dX7_isGreater_49 : decode cX7_isGreater 49 = .ok (.goto 4, 3) := by decide +kernel
theorem dX7_isGreater_52 : decode cX7_isGreater 52 = .ok (.iconst 0, 1) := by decide +kernel
theorem dX7_isGreater_53 : decode cX7_isGreater 53 = .ok (.ireturn, 1) := by decide +kernel
theorem dX7_isGreater_54 : decode cX7_isGreater 54 = .ok (.lload 8, 2) := by decide +kernel
theorem dX7_isGreater_56 : decode cX7_isGreater 56 = .ok (.lload 16, 2) := by decide +kernel
theorem dX7_isGreater_58 : decode cX7_isGreater 58 = .ok (.lload 10, 2) := by decide +kernel
theorem dX7_isGreater_60 : decode cX7_isGreater 60 = .ok (.lmul, 1) := by decide +kernel
theorem dX7_isGreater_61 : decode cX7_isGreater 61 = .ok (.lsub, 1) := by decide +kernel
theorem dX7_isGreater_62 : decode cX7_isGreater 62 = .ok (.lstore 20, 2) := by decide +kernel
theorem dX7_isGreater_64 : decode cX7_isGreater 64 = .ok (.lload 12, 2) := by decide +kernel
theorem dX7_isGreater_66 : decode cX7_isGreater 66 = .ok (.lload 18, 2) := by decide +kernel
theorem dX7_isGreater_68 : decode cX7_isGreater 68 = .ok (.lload 14, 2) := by decide +kernel
theorem dX7_isGreater_70 : decode cX7_isGreater 70 = .ok (.lmul, 1) := by decide +kernel
theorem dX7_isGreater_71 : decode cX7_isGreater 71 = .ok (.lsub, 1) := by decide +kernel
theorem dX7_isGreater_72 : decode cX7_isGreater 72 = .ok (.lstore 22, 2) := by decide +kernel
theorem dX7_isGreater_74 : decode cX7_isGreater 74 = .ok (.lload 22, 2) := by decide +kernel
theorem dX7_isGreater_76 : decode cX7_isGreater 76 = .ok (.lconst 0, 1) := by decide +kernel
theorem dX7_isGreater_77 : decode cX7_isGreater 77 = .ok (.lcmp, 1) := by decide +kernel
theorem dX7_isGreater_78 : decode cX7_isGreater 78 = .ok (.ifCond .ne 16, 3) := by decide +kernel
theorem dX7_isGreater_81 : decode cX7_isGreater 81 = .ok (.lload 20, 2) := by decide +kernel
theorem dX7_isGreater_83 : decode cX7_isGreater 83 = .ok (.lconst 0, 1) := by decide +kernel
theorem dX7_isGreater_84 : decode cX7_isGreater 84 = .ok (.lcmp, 1) := by decide +kernel
theorem dX7_isGreater_85 : decode cX7_isGreater 85 = .ok (.ifCond .le 7, 3) := by decide +kernel
theorem dX7_isGreater_88 : decode cX7_isGreater 88 = .ok (.iconst 1, 1) := by decide +kernel
theorem dX7_isGreater_89 : decode cX7_isGreater 89 = .ok (.goto 4, 3) := by decide +kernel
theorem dX7_isGreater_92 : decode cX7_isGreater 92 = .ok (.iconst 0, 1) := by decide +kernel
theorem dX7_isGreater_93 : decode cX7_isGreater 93 = .ok (.ireturn, 1) := by decide +kernel
theorem dX7_isGreater_94 : decode cX7_isGreater 94 = .ok (.lload 20, 2) := by decide +kernel
theorem dX7_isGreater_96 : decode cX7_isGreater 96 = .ok (.lconst 0, 1) := by decide +kernel
theorem dX7_isGreater_97 : decode cX7_isGreater 97 = .ok (.lcmp, 1) := by decide +kernel
theorem dX7_isGreater_98 : decode cX7_isGreater 98 = .ok (.ifCond .ne 5, 3) := by decide +kernel
theorem dX7_isGreater_101 : decode cX7_isGreater 101 = .ok (.iconst 0, 1) := by decide +kernel
theorem dX7_isGreater_102 : decode cX7_isGreater 102 = .ok (.ireturn, 1) := by decide +kernel
theorem dX7_isGreater_103 : decode cX7_isGreater 103 = .ok (.lload 14, 2) := by decide +kernel
theorem dX7_isGreater_105 : decode cX7_isGreater 105 = .ok (.lstore 8, 2) := by decide +kernel
theorem dX7_isGreater_107 : decode cX7_isGreater 107 = .ok (.lload 20, 2) := by decide +kernel
theorem dX7_isGreater_109 : decode cX7_isGreater 109 = .ok (.lstore 14, 2) := by decide +kernel
theorem dX7_isGreater_111 : decode cX7_isGreater 111 = .ok (.lload 10, 2) := by decide +kernel
theorem dX7_isGreater_113 : decode cX7_isGreater 113 = .ok (.lstore 12, 2) := by decide +kernel
theorem dX7_isGreater_115 : decode cX7_isGreater 115 = .ok (.lload 22, 2) := by decide +kernel
theorem dX7_isGreater_117 : decode cX7_isGreater 117 = .ok (.lstore 10, 2) := by decide +kernel
theorem dX7_isGreater_119 : decode cX7_isGreater 119 = .ok (.goto (-105), 3) := by decide +kernel
theorem dX7_laysOrder_0 : decode cX7_laysOrder 0 = .ok (.iconst 0, 1) := by decide +kernel
theorem dX7_laysOrder_1 : decode cX7_laysOrder 1 = .ok (.istore_n 1, 1) := by decide +kernel
theorem dX7_laysOrder_2 : decode cX7_laysOrder 2 = .ok (.iload_n 1, 1) := by decide +kernel
theorem dX7_laysOrder_3 : decode cX7_laysOrder 3 = .ok (.aload_n 0, 1) := by decide +kernel
theorem dX7_laysOrder_4 : decode cX7_laysOrder 4 = .ok (.getfield 7, 3) := by decide +kernel
theorem dX7_laysOrder_7 : decode cX7_laysOrder 7 = .ok (.iconst 2, 1) := by decide +kernel
theorem dX7_laysOrder_8 : decode cX7_laysOrder 8 = .ok (.iaload, 1) := by decide +kernel
theorem dX7_laysOrder_9 : decode cX7_laysOrder 9 = .ok (.if_icmp .ge 20, 3) := by decide +kernel
theorem dX7_laysOrder_12 : decode cX7_laysOrder 12 = .ok (.aload_n 0, 1) := by decide +kernel
theorem dX7_laysOrder_13 : decode cX7_laysOrder 13 = .ok (.getfield 30, 3) := by decide +kernel
theorem dX7_laysOrder_16 : decode cX7_laysOrder 16 = .ok (.aload_n 0, 1) := by decide +kernel
theorem dX7_laysOrder_17 : decode cX7_laysOrder 17 = .ok (.iload_n 1, 1) := by decide +kernel
theorem dX7_laysOrder_18 : decode cX7_laysOrder 18 = .ok (.invokevirtual 190, 3) := by decide +kernel
theorem dX7_laysOrder_21 : decode cX7_laysOrder 21 = .ok (.iload_n 1, 1) := by decide +kernel
theorem dX7_laysOrder_22 : decode cX7_laysOrder 22 = .ok (.iastore, 1) := by decide +kernel
theorem dX7_laysOrder_23 : decode cX7_laysOrder 23 = .ok (.iinc 1 1, 3) := by decide +kernel
theorem dX7_laysOrder_26 : decode cX7_laysOrder 26 = .ok (.goto (-24), 3) := by decide +kernel
theorem dX7_laysOrder_29 : decode cX7_laysOrder 29 = .ok (.return_, 1) := by decide +kernel
theorem dX7_span_0 : decode cX7_span 0 = .ok (.lconst 1, 1) := by decide +kernel
theorem dX7_span_1 : decode cX7_span 1 = .ok (.lstore_n 3, 1) := by decide +kernel
theorem dX7_span_2 : decode cX7_span 2 = .ok (.iload_n 1, 1) := by decide +kernel
theorem dX7_span_3 : decode cX7_span 3 = .ok (.istore 5, 2) := by decide +kernel
theorem dX7_span_5 : decode cX7_span 5 = .ok (.iload 5, 2) := by decide +kernel
theorem dX7_span_7 : decode cX7_span 7 = .ok (.iload_n 2, 1) := by decide +kernel
theorem dX7_span_8 : decode cX7_span 8 = .ok (.if_icmp .ge 51, 3) := by decide +kernel
theorem dX7_span_11 : decode cX7_span 11 = .ok (.iload_n 1, 1) := by decide +kernel
theorem dX7_span_12 : decode cX7_span 12 = .ok (.istore 6, 2) := by decide +kernel
theorem dX7_span_14 : decode cX7_span 14 = .ok (.iload 6, 2) := by decide +kernel
theorem dX7_span_16 : decode cX7_span 16 = .ok (.iload 5, 2) := by decide +kernel
theorem dX7_span_18 : decode cX7_span 18 = .ok (.if_icmp .ge 35, 3) := by decide +kernel
theorem dX7_span_21 : decode cX7_span 21 = .ok (.lload_n 3, 1) := by decide +kernel
theorem dX7_span_22 : decode cX7_span 22 = .ok (.aload_n 0, 1) := by decide +kernel
theorem dX7_span_23 : decode cX7_span 23 = .ok (.getfield 7, 3) := by decide +kernel
theorem dX7_span_26 : decode cX7_span 26 = .ok (.iconst 3, 1) := by decide +kernel
theorem dX7_span_27 : decode cX7_span 27 = .ok (.iload 5, 2) := by decide +kernel
theorem dX7_span_29 : decode cX7_span 29 = .ok (.iadd, 1) := by decide +kernel
theorem dX7_span_30 : decode cX7_span 30 = .ok (.iaload, 1) := by decide +kernel
theorem dX7_span_31 : decode cX7_span 31 = .ok (.aload_n 0, 1) := by decide +kernel
theorem dX7_span_32 : decode cX7_span 32 = .ok (.getfield 7, 3) := by decide +kernel
theorem dX7_span_35 : decode cX7_span 35 = .ok (.iconst 3, 1) := by decide +kernel
theorem dX7_span_36 : decode cX7_span 36 = .ok (.iload 6, 2) := by decide +kernel
theorem dX7_span_38 : decode cX7_span 38 = .ok (.iadd, 1) := by decide +kernel
theorem dX7_span_39 : decode cX7_span 39 = .ok (.iaload, 1) := by decide +kernel
theorem dX7_span_40 : decode cX7_span 40 = .ok (.isub, 1) := by decide +kernel
theorem dX7_span_41 : decode cX7_span 41 = .ok (.invokestatic 216, 3) := by decide +kernel
theorem dX7_span_44 : decode cX7_span 44 = .ok (.i2l, 1) := by decide +kernel
theorem dX7_span_45 : decode cX7_span 45 = .ok (.lmul, 1) := by decide +kernel
theorem dX7_span_46 : decode cX7_span 46 = .ok (.lstore_n 3, 1) := by decide +kernel
theorem dX7_span_47 : decode cX7_span 47 = .ok (.iinc 6 1, 3) := by decide +kernel
theorem dX7_span_50 : decode cX7_span 50 = .ok (.goto (-36), 3) := by decide +kernel
theorem dX7_span_53 : decode cX7_span 53 = .ok (.iinc 5 1, 3) := by decide +kernel
theorem dX7_span_56 : decode cX7_span 56 = .ok (.goto (-51), 3) := by decide +kernel
theorem dX7_span_59 : decode cX7_span 59 = .ok (.lload_n 3, 1) := by decide +kernel
theorem dX7_span_60 : decode cX7_span 60 = .ok (.lreturn, 1) := by decide +kernel
theorem dX7_productIn_0 : decode cX7_productIn 0 = .ok (.lconst 1, 1) := by decide +kernel
theorem dX7_productIn_1 : decode cX7_productIn 1 = .ok (.lstore 4, 2) := by decide +kernel
theorem dX7_productIn_3 : decode cX7_productIn 3 = .ok (.iload_n 2, 1) := by decide +kernel
theorem dX7_productIn_4 : decode cX7_productIn 4 = .ok (.istore 6, 2) := by decide +kernel
theorem dX7_productIn_6 : decode cX7_productIn 6 = .ok (.iload 6, 2) := by decide +kernel
theorem dX7_productIn_8 : decode cX7_productIn 8 = .ok (.iload_n 3, 1) := by decide +kernel
theorem dX7_productIn_9 : decode cX7_productIn 9 = .ok (.if_icmp .gt 49, 3) := by decide +kernel
theorem dX7_productIn_12 : decode cX7_productIn 12 = .ok (.aload_n 0, 1) := by decide +kernel
theorem dX7_productIn_13 : decode cX7_productIn 13 = .ok (.getfield 30, 3) := by decide +kernel
theorem dX7_productIn_16 : decode cX7_productIn 16 = .ok (.iload 6, 2) := by decide +kernel
theorem dX7_productIn_18 : decode cX7_productIn 18 = .ok (.iaload, 1) := by decide +kernel
theorem dX7_productIn_19 : decode cX7_productIn 19 = .ok (.iload_n 1, 1) := by decide +kernel
theorem dX7_productIn_20 : decode cX7_productIn 20 = .ok (.if_icmp .eq 32, 3) := by decide +kernel
theorem dX7_productIn_23 : decode cX7_productIn 23 = .ok (.lload 4, 2) := by decide +kernel
theorem dX7_productIn_25 : decode cX7_productIn 25 = .ok (.aload_n 0, 1) := by decide +kernel
theorem dX7_productIn_26 : decode cX7_productIn 26 = .ok (.getfield 7, 3) := by decide +kernel
theorem dX7_productIn_29 : decode cX7_productIn 29 = .ok (.iconst 3, 1) := by decide +kernel
theorem dX7_productIn_30 : decode cX7_productIn 30 = .ok (.iload_n 1, 1) := by decide +kernel
theorem dX7_productIn_31 : decode cX7_productIn 31 = .ok (.iadd, 1) := by decide +kernel
theorem dX7_productIn_32 : decode cX7_productIn 32 = .ok (.iaload, 1) := by decide +kernel
theorem dX7_productIn_33 : decode cX7_productIn 33 = .ok (.aload_n 0, 1) := by decide +kernel
theorem dX7_productIn_34 : decode cX7_productIn 34 = .ok (.getfield 7, 3) := by decide +kernel
theorem dX7_productIn_37 : decode cX7_productIn 37 = .ok (.iconst 3, 1) := by decide +kernel
theorem dX7_productIn_38 : decode cX7_productIn 38 = .ok (.aload_n 0, 1) := by decide +kernel
theorem dX7_productIn_39 : decode cX7_productIn 39 = .ok (.getfield 30, 3) := by decide +kernel
theorem dX7_productIn_42 : decode cX7_productIn 42 = .ok (.iload 6, 2) := by decide +kernel
theorem dX7_productIn_44 : decode cX7_productIn 44 = .ok (.iaload, 1) := by decide +kernel
theorem dX7_productIn_45 : decode cX7_productIn 45 = .ok (.iadd, 1) := by decide +kernel
theorem dX7_productIn_46 : decode cX7_productIn 46 = .ok (.iaload, 1) := by decide +kernel
theorem dX7_productIn_47 : decode cX7_productIn 47 = .ok (.isub, 1) := by decide +kernel
theorem dX7_productIn_48 : decode cX7_productIn 48 = .ok (.i2l, 1) := by decide +kernel
theorem dX7_productIn_49 : decode cX7_productIn 49 = .ok (.lmul, 1) := by decide +kernel
theorem dX7_productIn_50 : decode cX7_productIn 50 = .ok (.lstore 4, 2) := by decide +kernel
theorem dX7_productIn_52 : decode cX7_productIn 52 = .ok (.iinc 6 1, 3) := by decide +kernel
theorem dX7_productIn_55 : decode cX7_productIn 55 = .ok (.goto (-49), 3) := by decide +kernel
theorem dX7_productIn_58 : decode cX7_productIn 58 = .ok (.lload 4, 2) := by decide +kernel
theorem dX7_productIn_60 : decode cX7_productIn 60 = .ok (.lreturn, 1) := by decide +kernel
theorem dX7_blended_0 : decode cX7_blended 0 = .ok (.aload_n 0, 1) := by decide +kernel
theorem dX7_blended_1 : decode cX7_blended 1 = .ok (.getfield 7, 3) := by decide +kernel
theorem dX7_blended_4 : decode cX7_blended 4 = .ok (.iconst 2, 1) := by decide +kernel
theorem dX7_blended_5 : decode cX7_blended 5 = .ok (.iaload, 1) := by decide +kernel
theorem dX7_blended_6 : decode cX7_blended 6 = .ok (.istore_n 2, 1) := by decide +kernel
theorem dX7_blended_7 : decode cX7_blended 7 = .ok (.aload_n 0, 1) := by decide +kernel
theorem dX7_blended_8 : decode cX7_blended 8 = .ok (.getfield 7, 3) := by decide +kernel
theorem dX7_blended_11 : decode cX7_blended 11 = .ok (.iconst 1, 1) := by decide +kernel
theorem dX7_blended_12 : decode cX7_blended 12 = .ok (.iaload, 1) := by decide +kernel
theorem dX7_blended_13 : decode cX7_blended 13 = .ok (.iload_n 2, 1) := by decide +kernel
theorem dX7_blended_14 : decode cX7_blended 14 = .ok (.iconst 1, 1) := by decide +kernel
theorem dX7_blended_15 : decode cX7_blended 15 = .ok (.isub, 1) := by decide +kernel
theorem dX7_blended_16 : decode cX7_blended 16 = .ok (.invokestatic 218, 3) := by decide +kernel
theorem dX7_blended_19 : decode cX7_blended 19 = .ok (.istore_n 3, 1) := by decide +kernel
theorem dX7_blended_20 : decode cX7_blended 20 = .ok (.aload_n 0, 1) := by decide +kernel
theorem dX7_blended_21 : decode cX7_blended 21 = .ok (.iload_n 1, 1) := by decide +kernel
theorem dX7_blended_22 : decode cX7_blended 22 = .ok (.invokevirtual 190, 3) := by decide +kernel
theorem dX7_blended_25 : decode cX7_blended 25 = .ok (.istore 4, 2) := by decide +kernel
theorem dX7_blended_27 : decode cX7_blended 27 = .ok (.lconst 0, 1) := by decide +kernel
theorem dX7_blended_28 : decode cX7_blended 28 = .ok (.lstore 5, 2) := by decide +kernel
theorem dX7_blended_30 : decode cX7_blended 30 = .ok (.iconst 0, 1) := by decide +kernel
theorem dX7_blended_31 : decode cX7_blended 31 = .ok (.iload 4, 2) := by decide +kernel
theorem dX7_blended_33 : decode cX7_blended 33 = .ok (.iload_n 3, 1) := by decide +kernel
theorem dX7_blended_34 : decode cX7_blended 34 = .ok (.isub, 1) := by decide +kernel
theorem dX7_blended_35 : decode cX7_blended 35 = .ok (.invokestatic 222, 3) := by decide +kernel
theorem dX7_blended_38 : decode cX7_blended 38 = .ok (.istore 7, 2) := by decide +kernel
theorem dX7_blended_40 : decode cX7_blended 40 = .ok (.iload 7, 2) := by decide +kernel
theorem dX7_blended_42 : decode cX7_blended 42 = .ok (.iload 4, 2) := by decide +kernel
theorem dX7_blended_44 : decode cX7_blended 44 = .ok (.iload_n 2, 1) := by decide +kernel
theorem dX7_blended_45 : decode cX7_blended 45 = .ok (.iconst 1, 1) := by decide +kernel
theorem dX7_blended_46 : decode cX7_blended 46 = .ok (.isub, 1) := by decide +kernel
theorem dX7_blended_47 : decode cX7_blended 47 = .ok (.iload_n 3, 1) := by decide +kernel
theorem dX7_blended_48 : decode cX7_blended 48 = .ok (.isub, 1) := by decide +kernel
theorem dX7_blended_49 : decode cX7_blended 49 = .ok (.invokestatic 218, 3) := by decide +kernel
theorem dX7_blended_52 : decode cX7_blended 52 = .ok (.if_icmp .gt 49, 3) := by decide +kernel
theorem dX7_blended_55 : decode cX7_blended 55 = .ok (.aload_n 0, 1) := by decide +kernel
theorem dX7_blended_56 : decode cX7_blended 56 = .ok (.iconst 0, 1) := by decide +kernel
theorem dX7_blended_57 : decode cX7_blended 57 = .ok (.iload_n 2, 1) := by decide +kernel
theorem dX7_blended_58 : decode cX7_blended 58 = .ok (.invokevirtual 225, 3) := by decide +kernel
theorem dX7_blended_61 : decode cX7_blended 61 = .ok (.aload_n 0, 1) := by decide +kernel
theorem dX7_blended_62 : decode cX7_blended 62 = .ok (.iload_n 1, 1) := by decide +kernel
theorem dX7_blended_63 : decode cX7_blended 63 = .ok (.iload 7, 2) := by decide +kernel
theorem dX7_blended_65 : decode cX7_blended 65 = .ok (.iload 7, 2) := by decide +kernel
theorem dX7_blended_67 : decode cX7_blended 67 = .ok (.iload_n 3, 1) := by decide +kernel
theorem dX7_blended_68 : decode cX7_blended 68 = .ok (.iadd, 1) := by decide +kernel
theorem dX7_blended_69 : decode cX7_blended 69 = .ok (.invokevirtual 229, 3) := by decide +kernel
theorem dX7_blended_72 : decode cX7_blended 72 = .ok (.ldiv, 1) := by decide +kernel
theorem dX7_blended_73 : decode cX7_blended 73 = .ok (.lstore 8, 2) := by decide +kernel
theorem dX7_blended_75 : decode cX7_blended 75 = .ok (.lload 5, 2) := by decide +kernel
theorem dX7_blended_77 : decode cX7_blended 77 = .ok (.iload 7, 2) := by decide +kernel
theorem dX7_blended_79 : decode cX7_blended 79 = .ok (.iconst 2, 1) := by decide +kernel
theorem dX7_blended_80 : decode cX7_blended 80 = .ok (.irem, 1) := by decide +kernel
theorem dX7_blended_81 : decode cX7_blended 81 = .ok (.ifCond .ne 8, 3) := by decide +kernel
theorem dX7_blended_84 : decode cX7_blended 84 = .ok (.lload 8, 2) := by decide +kernel
theorem dX7_blended_86 : decode cX7_blended 86 = .ok (.goto 6, 3) := by decide +kernel
theorem dX7_blended_89 : decode cX7_blended 89 = .ok (.lload 8, 2) := by decide +kernel
theorem dX7_blended_91 : decode cX7_blended 91 = .ok (.lneg, 1) := by decide +kernel
theorem dX7_blended_92 : decode cX7_blended 92 = .ok (.ladd, 1) := by decide +kernel
theorem dX7_blended_93 : decode cX7_blended 93 = .ok (.lstore 5, 2) := by decide +kernel
theorem dX7_blended_95 : decode cX7_blended 95 = .ok (.iinc 7 1, 3) := by decide +kernel
theorem dX7_blended_98 : decode cX7_blended 98 = .ok (.goto (-58), 3) := by decide +kernel
theorem dX7_blended_101 : decode cX7_blended 101 = .ok (.lload 5, 2) := by decide +kernel
theorem dX7_blended_103 : decode cX7_blended 103 = .ok (.lreturn, 1) := by decide +kernel
theorem dX7_rawOf_0 : decode cX7_rawOf 0 = .ok (.aload_n 0, 1) := by decide +kernel
theorem dX7_rawOf_1 : decode cX7_rawOf 1 = .ok (.getfield 7, 3) := by decide +kernel
theorem dX7_rawOf_4 : decode cX7_rawOf 4 = .ok (.iconst 0, 1) := by decide +kernel
theorem dX7_rawOf_5 : decode cX7_rawOf 5 = .ok (.iaload, 1) := by decide +kernel
theorem dX7_rawOf_6 : decode cX7_rawOf 6 = .ok (.iconst 2, 1) := by decide +kernel
theorem dX7_rawOf_7 : decode cX7_rawOf 7 = .ok (.if_icmp .ne 14, 3) := by decide +kernel
theorem dX7_rawOf_10 : decode cX7_rawOf 10 = .ok (.aload_n 0, 1) := by decide +kernel
theorem dX7_rawOf_11 : decode cX7_rawOf 11 = .ok (.getfield 7, 3) := by decide +kernel
theorem dX7_rawOf_14 : decode cX7_rawOf 14 = .ok (.bipush 13, 2) := by decide +kernel
theorem dX7_rawOf_16 : decode cX7_rawOf 16 = .ok (.iload_n 1, 1) := by decide +kernel
theorem dX7_rawOf_17 : decode cX7_rawOf 17 = .ok (.iadd, 1) := by decide +kernel
theorem dX7_rawOf_18 : decode cX7_rawOf 18 = .ok (.iaload, 1) := by decide +kernel
theorem dX7_rawOf_19 : decode cX7_rawOf 19 = .ok (.i2l, 1) := by decide +kernel
theorem dX7_rawOf_20 : decode cX7_rawOf 20 = .ok (.lreturn, 1) := by decide +kernel
theorem dX7_rawOf_21 : decode cX7_rawOf 21 = .ok (.aload_n 0, 1) := by decide +kernel
theorem dX7_rawOf_22 : decode cX7_rawOf 22 = .ok (.getfield 7, 3) := by decide +kernel
theorem dX7_rawOf_25 : decode cX7_rawOf 25 = .ok (.iconst 0, 1) := by decide +kernel
theorem dX7_rawOf_26 : decode cX7_rawOf 26 = .ok (.iaload, 1) := by decide +kernel
theorem dX7_rawOf_27 : decode cX7_rawOf 27 = .ok (.iconst 1, 1) := by decide +kernel
theorem dX7_rawOf_28 : decode cX7_rawOf 28 = .ok (.if_icmp .ne 11, 3) := by decide +kernel
theorem dX7_rawOf_31 : decode cX7_rawOf 31 = .ok (.aload_n 0, 1) := by decide +kernel
theorem dX7_rawOf_32 : decode cX7_rawOf 32 = .ok (.iload_n 1, 1) := by decide +kernel
theorem dX7_rawOf_33 : decode cX7_rawOf 33 = .ok (.invokevirtual 233, 3) := by decide +kernel
theorem dX7_rawOf_36 : decode cX7_rawOf 36 = .ok (.goto 29, 3) := by decide +kernel
theorem dX7_rawOf_39 : decode cX7_rawOf 39 = .ok (.aload_n 0, 1) := by decide +kernel
theorem dX7_rawOf_40 : decode cX7_rawOf 40 = .ok (.iconst 0, 1) := by decide +kernel
theorem dX7_rawOf_41 : decode cX7_rawOf 41 = .ok (.aload_n 0, 1) := by decide +kernel
theorem dX7_rawOf_42 : decode cX7_rawOf 42 = .ok (.getfield 7, 3) := by decide +kernel
theorem dX7_rawOf_45 : decode cX7_rawOf 45 = .ok (.iconst 2, 1) := by decide +kernel
theorem dX7_rawOf_46 : decode cX7_rawOf 46 = .ok (.iaload, 1) := by decide +kernel
theorem dX7_rawOf_47 : decode cX7_rawOf 47 = .ok (.invokevirtual 225, 3) := by decide +kernel
theorem dX7_rawOf_50 : decode cX7_rawOf 50 = .ok (.aload_n 0, 1) := by decide +kernel
theorem dX7_rawOf_51 : decode cX7_rawOf 51 = .ok (.iload_n 1, 1) := by decide +kernel
theorem dX7_rawOf_52 : decode cX7_rawOf 52 = .ok (.iconst 0, 1) := by decide +kernel
theorem dX7_rawOf_53 : decode cX7_rawOf 53 = .ok (.aload_n 0, 1) := by decide +kernel
theorem dX7_rawOf_54 : decode cX7_rawOf 54 = .ok (.getfield 7, 3) := by decide +kernel
theorem dX7_rawOf_57 : decode cX7_rawOf 57 = .ok (.iconst 2, 1) := by decide +kernel
theorem dX7_rawOf_58 : decode cX7_rawOf 58 = .ok (.iaload, 1) := by decide +kernel
theorem dX7_rawOf_59 : decode cX7_rawOf 59 = .ok (.iconst 1, 1) := by decide +kernel
theorem dX7_rawOf_60 : decode cX7_rawOf 60 = .ok (.isub, 1) := by decide +kernel
theorem dX7_rawOf_61 : decode cX7_rawOf 61 = .ok (.invokevirtual 229, 3) := by decide +kernel
theorem dX7_rawOf_64 : decode cX7_rawOf 64 = .ok (.ldiv, 1) := by decide +kernel
theorem dX7_rawOf_65 : decode cX7_rawOf 65 = .ok (.lreturn, 1) := by decide +kernel
theorem dX7_laysWeights_0 : decode cX7_laysWeights 0 = .ok (.aload_n 0, 1) := by decide +kernel
theorem dX7_laysWeights_1 : decode cX7_laysWeights 1 = .ok (.invokevirtual 237, 3) := by decide +kernel
theorem dX7_laysWeights_4 : decode cX7_laysWeights 4 = .ok (.lconst 0, 1) := by decide +kernel
theorem dX7_laysWeights_5 : decode cX7_laysWeights 5 = .ok (.lstore_n 1, 1) := by decide +kernel
theorem dX7_laysWeights_6 : decode cX7_laysWeights 6 = .ok (.iconst 0, 1) := by decide +kernel
theorem dX7_laysWeights_7 : decode cX7_laysWeights 7 = .ok (.istore_n 3, 1) := by decide +kernel
theorem dX7_laysWeights_8 : decode cX7_laysWeights 8 = .ok (.iload_n 3, 1) := by decide +kernel
theorem dX7_laysWeights_9 : decode cX7_laysWeights 9 = .ok (.aload_n 0, 1) := by decide +kernel
theorem dX7_laysWeights_10 : decode cX7_laysWeights 10 = .ok (.getfield 7, 3) := by decide +kernel
theorem dX7_laysWeights_13 : decode cX7_laysWeights 13 = .ok (.iconst 2, 1) := by decide +kernel
theorem dX7_laysWeights_14 : decode cX7_laysWeights 14 = .ok (.iaload, 1) := by decide +kernel
theorem dX7_laysWeights_15 : decode cX7_laysWeights 15 = .ok (.if_icmp .ge 31, 3) := by decide +kernel
theorem dX7_laysWeights_18 : decode cX7_laysWeights 18 = .ok (.aload_n 0, 1) := by decide +kernel
theorem dX7_laysWeights_19 : decode cX7_laysWeights 19 = .ok (.getfield 26, 3) := by decide +kernel
theorem dX7_laysWeights_22 : decode cX7_laysWeights 22 = .ok (.iload_n 3, 1) := by decide +kernel
theorem dX7_laysWeights_23 : decode cX7_laysWeights 23 = .ok (.aload_n 0, 1) := by decide +kernel
theorem dX7_laysWeights_24 : decode cX7_laysWeights 24 = .ok (.iload_n 3, 1) := by decide +kernel
theorem dX7_laysWeights_25 : decode cX7_laysWeights 25 = .ok (.invokevirtual 240, 3) := by decide +kernel
theorem dX7_laysWeights_28 : decode cX7_laysWeights 28 = .ok (.lastore, 1) := by decide +kernel
theorem dX7_laysWeights_29 : decode cX7_laysWeights 29 = .ok (.lload_n 1, 1) := by decide +kernel
theorem dX7_laysWeights_30 : decode cX7_laysWeights 30 = .ok (.aload_n 0, 1) := by decide +kernel
theorem dX7_laysWeights_31 : decode cX7_laysWeights 31 = .ok (.getfield 26, 3) := by decide +kernel
theorem dX7_laysWeights_34 : decode cX7_laysWeights 34 = .ok (.iload_n 3, 1) := by decide +kernel
theorem dX7_laysWeights_35 : decode cX7_laysWeights 35 = .ok (.laload, 1) := by decide +kernel
theorem dX7_laysWeights_36 : decode cX7_laysWeights 36 = .ok (.invokestatic 202, 3) := by decide +kernel
theorem dX7_laysWeights_39 : decode cX7_laysWeights 39 = .ok (.lstore_n 1, 1) := by decide +kernel
theorem dX7_laysWeights_40 : decode cX7_laysWeights 40 = .ok (.iinc 3 1, 3) := by decide +kernel
theorem dX7_laysWeights_43 : decode cX7_laysWeights 43 = .ok (.goto (-35), 3) := by decide +kernel
theorem dX7_laysWeights_46 : decode cX7_laysWeights 46 = .ok (.iconst 0, 1) := by decide +kernel
theorem dX7_laysWeights_47 : decode cX7_laysWeights 47 = .ok (.istore_n 3, 1) := by decide +kernel
theorem dX7_laysWeights_48 : decode cX7_laysWeights 48 = .ok (.iload_n 3, 1) := by decide +kernel
theorem dX7_laysWeights_49 : decode cX7_laysWeights 49 = .ok (.aload_n 0, 1) := by decide +kernel
theorem dX7_laysWeights_50 : decode cX7_laysWeights 50 = .ok (.getfield 7, 3) := by decide +kernel
theorem dX7_laysWeights_53 : decode cX7_laysWeights 53 = .ok (.iconst 2, 1) := by decide +kernel
theorem dX7_laysWeights_54 : decode cX7_laysWeights 54 = .ok (.iaload, 1) := by decide +kernel
theorem dX7_laysWeights_55 : decode cX7_laysWeights 55 = .ok (.if_icmp .ge 25, 3) := by decide +kernel
theorem dX7_laysWeights_58 : decode cX7_laysWeights 58 = .ok (.lload_n 1, 1) := by decide +kernel
theorem dX7_laysWeights_59 : decode cX7_laysWeights 59 = .ok (.lconst 0, 1) := by decide +kernel
theorem dX7_laysWeights_60 : decode cX7_laysWeights 60 = .ok (.lcmp, 1) := by decide +kernel
theorem dX7_laysWeights_61 : decode cX7_laysWeights 61 = .ok (.ifCond .le 19, 3) := by decide +kernel
theorem dX7_laysWeights_64 : decode cX7_laysWeights 64 = .ok (.aload_n 0, 1) := by decide +kernel
theorem dX7_laysWeights_65 : decode cX7_laysWeights 65 = .ok (.getfield 26, 3) := by decide +kernel
theorem dX7_laysWeights_68 : decode cX7_laysWeights 68 = .ok (.iload_n 3, 1) := by decide +kernel
theorem dX7_laysWeights_69 : decode cX7_laysWeights 69 = .ok (.dup2, 1) := by decide +kernel
theorem dX7_laysWeights_70 : decode cX7_laysWeights 70 = .ok (.laload, 1) := by decide +kernel
theorem dX7_laysWeights_71 : decode cX7_laysWeights 71 = .ok (.lload_n 1, 1) := by decide +kernel
theorem dX7_laysWeights_72 : decode cX7_laysWeights 72 = .ok (.ldiv, 1) := by decide +kernel
theorem dX7_laysWeights_73 : decode cX7_laysWeights 73 = .ok (.lastore, 1) := by decide +kernel
theorem dX7_laysWeights_74 : decode cX7_laysWeights 74 = .ok (.iinc 3 1, 3) := by decide +kernel
theorem dX7_laysWeights_77 : decode cX7_laysWeights 77 = .ok (.goto (-29), 3) := by decide +kernel
theorem dX7_laysWeights_80 : decode cX7_laysWeights 80 = .ok (.return_, 1) := by decide +kernel
theorem dX7_weight_0 : decode cX7_weight 0 = .ok (.aload_n 0, 1) := by decide +kernel
theorem dX7_weight_1 : decode cX7_weight 1 = .ok (.aload_n 0, 1) := by decide +kernel
theorem dX7_weight_2 : decode cX7_weight 2 = .ok (.iload_n 1, 1) := by decide +kernel
theorem dX7_weight_3 : decode cX7_weight 3 = .ok (.invokevirtual 182, 3) := by decide +kernel
theorem dX7_weight_6 : decode cX7_weight 6 = .ok (.invokevirtual 163, 3) := by decide +kernel
theorem dX7_weight_9 : decode cX7_weight 9 = .ok (.ifCond .ne 5, 3) := by decide +kernel
theorem dX7_weight_12 : decode cX7_weight 12 = .ok (.lconst 0, 1) := by decide +kernel
theorem dX7_weight_13 : decode cX7_weight 13 = .ok (.lreturn, 1) := by decide +kernel
theorem dX7_weight_14 : decode cX7_weight 14 = .ok (.aload_n 0, 1) := by decide +kernel
theorem dX7_weight_15 : decode cX7_weight 15 = .ok (.invokevirtual 243, 3) := by decide +kernel
theorem dX7_weight_18 : decode cX7_weight 18 = .ok (.aload_n 0, 1) := by decide +kernel
theorem dX7_weight_19 : decode cX7_weight 19 = .ok (.getfield 26, 3) := by decide +kernel
theorem dX7_weight_22 : decode cX7_weight 22 = .ok (.iload_n 1, 1) := by decide +kernel
theorem dX7_weight_23 : decode cX7_weight 23 = .ok (.laload, 1) := by decide +kernel
theorem dX7_weight_24 : decode cX7_weight 24 = .ok (.lreturn, 1) := by decide +kernel
theorem dX7_isAlternating_0 : decode cX7_isAlternating 0 = .ok (.aload_n 0, 1) := by decide +kernel
theorem dX7_isAlternating_1 : decode cX7_isAlternating 1 = .ok (.iconst 0, 1) := by decide +kernel
theorem dX7_isAlternating_2 : decode cX7_isAlternating 2 = .ok (.putfield 42, 3) := by decide +kernel
theorem dX7_isAlternating_5 : decode cX7_isAlternating 5 = .ok (.aload_n 0, 1) := by decide +kernel
theorem dX7_isAlternating_6 : decode cX7_isAlternating 6 = .ok (.invokevirtual 243, 3) := by decide +kernel
theorem dX7_isAlternating_9 : decode cX7_isAlternating 9 = .ok (.iconst 1, 1) := by decide +kernel
theorem dX7_isAlternating_10 : decode cX7_isAlternating 10 = .ok (.istore_n 1, 1) := by decide +kernel
theorem dX7_isAlternating_11 : decode cX7_isAlternating 11 = .ok (.iconst 0, 1) := by decide +kernel
theorem dX7_isAlternating_12 : decode cX7_isAlternating 12 = .ok (.istore_n 2, 1) := by decide +kernel
theorem dX7_isAlternating_13 : decode cX7_isAlternating 13 = .ok (.iload_n 2, 1) := by decide +kernel
theorem dX7_isAlternating_14 : decode cX7_isAlternating 14 = .ok (.aload_n 0, 1) := by decide +kernel
theorem dX7_isAlternating_15 : decode cX7_isAlternating 15 = .ok (.getfield 7, 3) := by decide +kernel
theorem dX7_isAlternating_18 : decode cX7_isAlternating 18 = .ok (.iconst 2, 1) := by decide +kernel
theorem dX7_isAlternating_19 : decode cX7_isAlternating 19 = .ok (.iaload, 1) := by decide +kernel
theorem dX7_isAlternating_20 : decode cX7_isAlternating 20 = .ok (.if_icmp .ge 78, 3) := by decide +kernel
theorem dX7_isAlternating_23 : decode cX7_isAlternating 23 = .ok (.aload_n 0, 1) := by decide +kernel
theorem dX7_isAlternating_24 : decode cX7_isAlternating 24 = .ok (.getfield 26, 3) := by decide +kernel
theorem dX7_isAlternating_27 : decode cX7_isAlternating 27 = .ok (.aload_n 0, 1) := by decide +kernel
theorem dX7_isAlternating_28 : decode cX7_isAlternating 28 = .ok (.getfield 30, 3) := by decide +kernel
theorem dX7_isAlternating_31 : decode cX7_isAlternating 31 = .ok (.iload_n 2, 1) := by decide +kernel
theorem dX7_isAlternating_32 : decode cX7_isAlternating 32 = .ok (.iaload, 1) := by decide +kernel
theorem dX7_isAlternating_33 : decode cX7_isAlternating 33 = .ok (.laload, 1) := by decide +kernel
theorem dX7_isAlternating_34 : decode cX7_isAlternating 34 = .ok (.lstore_n 3, 1) := by decide +kernel
theorem dX7_isAlternating_35 : decode cX7_isAlternating 35 = .ok (.iload_n 1, 1) := by decide +kernel
theorem dX7_isAlternating_36 : decode cX7_isAlternating 36 = .ok (.ifCond .eq 54, 3) := by decide +kernel
theorem dX7_isAlternating_39 : decode cX7_isAlternating 39 = .ok (.lload_n 3, 1) := by decide +kernel
theorem dX7_isAlternating_40 : decode cX7_isAlternating 40 = .ok (.lconst 0, 1) := by decide +kernel
theorem dX7_isAlternating_41 : decode cX7_isAlternating 41 = .ok (.lcmp, 1) := by decide +kernel
theorem dX7_isAlternating_42 : decode cX7_isAlternating 42 = .ok (.ifCond .eq 48, 3) := by decide +kernel
theorem dX7_isAlternating_45 : decode cX7_isAlternating 45 = .ok (.iload_n 2, 1) := by decide +kernel
theorem dX7_isAlternating_46 : decode cX7_isAlternating 46 = .ok (.ifCond .eq 40, 3) := by decide +kernel
theorem dX7_isAlternating_49 : decode cX7_isAlternating 49 = .ok (.lload_n 3, 1) := by decide +kernel
theorem dX7_isAlternating_50 : decode cX7_isAlternating 50 = .ok (.lconst 0, 1) := by decide +kernel
theorem dX7_isAlternating_51 : decode cX7_isAlternating 51 = .ok (.lcmp, 1) := by decide +kernel
theorem dX7_isAlternating_52 : decode cX7_isAlternating 52 = .ok (.ifCond .le 7, 3) := by decide +kernel
theorem dX7_isAlternating_55 : decode cX7_isAlternating 55 = .ok (.iconst 1, 1) := by decide +kernel
theorem dX7_isAlternating_56 : decode cX7_isAlternating 56 = .ok (.goto 4, 3) := by decide +kernel
theorem dX7_isAlternating_59 : decode cX7_isAlternating 59 = .ok (.iconst 0, 1) := by decide +kernel
theorem dX7_isAlternating_60 : decode cX7_isAlternating 60 = .ok (.aload_n 0, 1) := by decide +kernel
theorem dX7_isAlternating_61 : decode cX7_isAlternating 61 = .ok (.getfield 26, 3) := by decide +kernel
theorem dX7_isAlternating_64 : decode cX7_isAlternating 64 = .ok (.aload_n 0, 1) := by decide +kernel
theorem dX7_isAlternating_65 : decode cX7_isAlternating 65 = .ok (.getfield 30, 3) := by decide +kernel
theorem dX7_isAlternating_68 : decode cX7_isAlternating 68 = .ok (.iload_n 2, 1) := by decide +kernel
theorem dX7_isAlternating_69 : decode cX7_isAlternating 69 = .ok (.iconst 1, 1) := by decide +kernel
theorem dX7_isAlternating_70 : decode cX7_isAlternating 70 = .ok (.isub, 1) := by decide +kernel
theorem dX7_isAlternating_71 : decode cX7_isAlternating 71 = .ok (.iaload, 1) := by decide +kernel
theorem dX7_isAlternating_72 : decode cX7_isAlternating 72 = .ok (.laload, 1) := by decide +kernel
theorem dX7_isAlternating_73 : decode cX7_isAlternating 73 = .ok (.lconst 0, 1) := by decide +kernel
theorem dX7_isAlternating_74 : decode cX7_isAlternating 74 = .ok (.lcmp, 1) := by decide +kernel
theorem dX7_isAlternating_75 : decode cX7_isAlternating 75 = .ok (.ifCond .le 7, 3) := by decide +kernel
theorem dX7_isAlternating_78 : decode cX7_isAlternating 78 = .ok (.iconst 1, 1) := by decide +kernel
theorem dX7_isAlternating_79 : decode cX7_isAlternating 79 = .ok (.goto 4, 3) := by decide +kernel
theorem dX7_isAlternating_82 : decode cX7_isAlternating 82 = .ok (.iconst 0, 1) := by decide +kernel
theorem dX7_isAlternating_83 : decode cX7_isAlternating 83 = .ok (.if_icmp .eq 7, 3) := by decide +kernel
theorem dX7_isAlternating_86 : decode cX7_isAlternating 86 = .ok (.iconst 1, 1) := by decide +kernel
theorem dX7_isAlternating_87 : decode cX7_isAlternating 87 = .ok (.goto 4, 3) := by decide +kernel
theorem dX7_isAlternating_90 : decode cX7_isAlternating 90 = .ok (.iconst 0, 1) := by decide +kernel
theorem dX7_isAlternating_91 : decode cX7_isAlternating 91 = .ok (.istore_n 1, 1) := by decide +kernel
theorem dX7_isAlternating_92 : decode cX7_isAlternating 92 = .ok (.iinc 2 1, 3) := by decide +kernel
theorem dX7_isAlternating_95 : decode cX7_isAlternating 95 = .ok (.goto (-82), 3) := by decide +kernel
theorem dX7_isAlternating_98 : decode cX7_isAlternating 98 = .ok (.iload_n 1, 1) := by decide +kernel
theorem dX7_isAlternating_99 : decode cX7_isAlternating 99 = .ok (.ireturn, 1) := by decide +kernel
theorem dX7_weightSum_0 : decode cX7_weightSum 0 = .ok (.aload_n 0, 1) := by decide +kernel
theorem dX7_weightSum_1 : decode cX7_weightSum 1 = .ok (.iconst 0, 1) := by decide +kernel
theorem dX7_weightSum_2 : decode cX7_weightSum 2 = .ok (.putfield 42, 3) := by decide +kernel
theorem dX7_weightSum_5 : decode cX7_weightSum 5 = .ok (.aload_n 0, 1) := by decide +kernel
theorem dX7_weightSum_6 : decode cX7_weightSum 6 = .ok (.invokevirtual 243, 3) := by decide +kernel
theorem dX7_weightSum_9 : decode cX7_weightSum 9 = .ok (.lconst 0, 1) := by decide +kernel
theorem dX7_weightSum_10 : decode cX7_weightSum 10 = .ok (.lstore_n 1, 1) := by decide +kernel
theorem dX7_weightSum_11 : decode cX7_weightSum 11 = .ok (.iconst 0, 1) := by decide +kernel
theorem dX7_weightSum_12 : decode cX7_weightSum 12 = .ok (.istore_n 3, 1) := by decide +kernel
theorem dX7_weightSum_13 : decode cX7_weightSum 13 = .ok (.iload_n 3, 1) := by decide +kernel
theorem dX7_weightSum_14 : decode cX7_weightSum 14 = .ok (.aload_n 0, 1) := by decide +kernel
theorem dX7_weightSum_15 : decode cX7_weightSum 15 = .ok (.getfield 7, 3) := by decide +kernel
theorem dX7_weightSum_18 : decode cX7_weightSum 18 = .ok (.iconst 2, 1) := by decide +kernel
theorem dX7_weightSum_19 : decode cX7_weightSum 19 = .ok (.iaload, 1) := by decide +kernel
theorem dX7_weightSum_20 : decode cX7_weightSum 20 = .ok (.if_icmp .ge 18, 3) := by decide +kernel
theorem dX7_weightSum_23 : decode cX7_weightSum 23 = .ok (.lload_n 1, 1) := by decide +kernel
theorem dX7_weightSum_24 : decode cX7_weightSum 24 = .ok (.aload_n 0, 1) := by decide +kernel
theorem dX7_weightSum_25 : decode cX7_weightSum 25 = .ok (.getfield 26, 3) := by decide +kernel
theorem dX7_weightSum_28 : decode cX7_weightSum 28 = .ok (.iload_n 3, 1) := by decide +kernel
theorem dX7_weightSum_29 : decode cX7_weightSum 29 = .ok (.laload, 1) := by decide +kernel
theorem dX7_weightSum_30 : decode cX7_weightSum 30 = .ok (.ladd, 1) := by decide +kernel
theorem dX7_weightSum_31 : decode cX7_weightSum 31 = .ok (.lstore_n 1, 1) := by decide +kernel
theorem dX7_weightSum_32 : decode cX7_weightSum 32 = .ok (.iinc 3 1, 3) := by decide +kernel
theorem dX7_weightSum_35 : decode cX7_weightSum 35 = .ok (.goto (-22), 3) := by decide +kernel
theorem dX7_weightSum_38 : decode cX7_weightSum 38 = .ok (.lload_n 1, 1) := by decide +kernel
theorem dX7_weightSum_39 : decode cX7_weightSum 39 = .ok (.lreturn, 1) := by decide +kernel
theorem dX7_withoutAt_0 : decode cX7_withoutAt 0 = .ok (.lconst 1, 1) := by decide +kernel
theorem dX7_withoutAt_1 : decode cX7_withoutAt 1 = .ok (.lstore_n 3, 1) := by decide +kernel
theorem dX7_withoutAt_2 : decode cX7_withoutAt 2 = .ok (.iconst 0, 1) := by decide +kernel
theorem dX7_withoutAt_3 : decode cX7_withoutAt 3 = .ok (.istore 5, 2) := by decide +kernel
theorem dX7_withoutAt_5 : decode cX7_withoutAt 5 = .ok (.iload 5, 2) := by decide +kernel
theorem dX7_withoutAt_7 : decode cX7_withoutAt 7 = .ok (.aload_n 0, 1) := by decide +kernel
theorem dX7_withoutAt_8 : decode cX7_withoutAt 8 = .ok (.getfield 7, 3) := by decide +kernel
theorem dX7_withoutAt_11 : decode cX7_withoutAt 11 = .ok (.iconst 2, 1) := by decide +kernel
theorem dX7_withoutAt_12 : decode cX7_withoutAt 12 = .ok (.iaload, 1) := by decide +kernel
theorem dX7_withoutAt_13 : decode cX7_withoutAt 13 = .ok (.if_icmp .ge 34, 3) := by decide +kernel
theorem dX7_withoutAt_16 : decode cX7_withoutAt 16 = .ok (.lload_n 3, 1) := by decide +kernel
theorem dX7_withoutAt_17 : decode cX7_withoutAt 17 = .ok (.iload 5, 2) := by decide +kernel
theorem dX7_withoutAt_19 : decode cX7_withoutAt 19 = .ok (.iload_n 1, 1) := by decide +kernel
theorem dX7_withoutAt_20 : decode cX7_withoutAt 20 = .ok (.if_icmp .ne 7, 3) := by decide +kernel
theorem dX7_withoutAt_23 : decode cX7_withoutAt 23 = .ok (.lconst 1, 1) := by decide +kernel
theorem dX7_withoutAt_24 : decode cX7_withoutAt 24 = .ok (.goto 15, 3) := by decide +kernel
theorem dX7_withoutAt_27 : decode cX7_withoutAt 27 = .ok (.iload_n 2, 1) := by decide +kernel
theorem dX7_withoutAt_28 : decode cX7_withoutAt 28 = .ok (.aload_n 0, 1) := by decide +kernel
theorem dX7_withoutAt_29 : decode cX7_withoutAt 29 = .ok (.getfield 7, 3) := by decide +kernel
theorem dX7_withoutAt_32 : decode cX7_withoutAt 32 = .ok (.iconst 3, 1) := by decide +kernel
theorem dX7_withoutAt_33 : decode cX7_withoutAt 33 = .ok (.iload 5, 2) := by decide +kernel
theorem dX7_withoutAt_35 : decode cX7_withoutAt 35 = .ok (.iadd, 1) := by decide +kernel
theorem dX7_withoutAt_36 : decode cX7_withoutAt 36 = .ok (.iaload, 1) := by decide +kernel
theorem dX7_withoutAt_37 : decode cX7_withoutAt 37 = .ok (.isub, 1) := by decide +kernel
theorem dX7_withoutAt_38 : decode cX7_withoutAt 38 = .ok (.i2l, 1) := by decide +kernel
theorem dX7_withoutAt_39 : decode cX7_withoutAt 39 = .ok (.lmul, 1) := by decide +kernel
theorem dX7_withoutAt_40 : decode cX7_withoutAt 40 = .ok (.lstore_n 3, 1) := by decide +kernel
theorem dX7_withoutAt_41 : decode cX7_withoutAt 41 = .ok (.iinc 5 1, 3) := by decide +kernel
theorem dX7_withoutAt_44 : decode cX7_withoutAt 44 = .ok (.goto (-39), 3) := by decide +kernel
theorem dX7_withoutAt_47 : decode cX7_withoutAt 47 = .ok (.lload_n 3, 1) := by decide +kernel
theorem dX7_withoutAt_48 : decode cX7_withoutAt 48 = .ok (.lreturn, 1) := by decide +kernel
theorem dX7_slopeWithoutAt_0 : decode cX7_slopeWithoutAt 0 = .ok (.lconst 0, 1) := by decide +kernel
theorem dX7_slopeWithoutAt_1 : decode cX7_slopeWithoutAt 1 = .ok (.lstore_n 3, 1) := by decide +kernel
theorem dX7_slopeWithoutAt_2 : decode cX7_slopeWithoutAt 2 = .ok (.iconst 0, 1) := by decide +kernel
theorem dX7_slopeWithoutAt_3 : decode cX7_slopeWithoutAt 3 = .ok (.istore 5, 2) := by decide +kernel
theorem dX7_slopeWithoutAt_5 : decode cX7_slopeWithoutAt 5 = .ok (.iload 5, 2) := by decide +kernel
theorem dX7_slopeWithoutAt_7 : decode cX7_slopeWithoutAt 7 = .ok (.aload_n 0, 1) := by decide +kernel
theorem dX7_slopeWithoutAt_8 : decode cX7_slopeWithoutAt 8 = .ok (.getfield 7, 3) := by decide +kernel
theorem dX7_slopeWithoutAt_11 : decode cX7_slopeWithoutAt 11 = .ok (.iconst 2, 1) := by decide +kernel
theorem dX7_slopeWithoutAt_12 : decode cX7_slopeWithoutAt 12 = .ok (.iaload, 1) := by decide +kernel
theorem dX7_slopeWithoutAt_13 : decode cX7_slopeWithoutAt 13 = .ok (.if_icmp .ge 81, 3) := by decide +kernel
theorem dX7_slopeWithoutAt_16 : decode cX7_slopeWithoutAt 16 = .ok (.iload 5, 2) := by decide +kernel
theorem dX7_slopeWithoutAt_18 : decode cX7_slopeWithoutAt 18 = .ok (.iload_n 1, 1) := by decide +kernel
theorem dX7_slopeWithoutAt_19 : decode cX7_slopeWithoutAt 19 = .ok (.if_icmp .ne 7, 3) := by decide +kernel
theorem dX7_slopeWithoutAt_22 : decode cX7_slopeWithoutAt 22 = .ok (.lconst 0, 1) := by decide +kernel
theorem dX7_slopeWithoutAt_23 : decode cX7_slopeWithoutAt 23 = .ok (.goto 4, 3) := by decide +kernel
theorem dX7_slopeWithoutAt_26 : decode cX7_slopeWithoutAt 26 = .ok (.lconst 1, 1) := by decide +kernel
theorem dX7_slopeWithoutAt_27 : decode cX7_slopeWithoutAt 27 = .ok (.lstore 6, 2) := by decide +kernel
theorem dX7_slopeWithoutAt_29 : decode cX7_slopeWithoutAt 29 = .ok (.iconst 0, 1) := by decide +kernel
theorem dX7_slopeWithoutAt_30 : decode cX7_slopeWithoutAt 30 = .ok (.istore 8, 2) := by decide +kernel
theorem dX7_slopeWithoutAt_32 : decode cX7_slopeWithoutAt 32 = .ok (.iload 8, 2) := by decide +kernel
theorem dX7_slopeWithoutAt_34 : decode cX7_slopeWithoutAt 34 = .ok (.aload_n 0, 1) := by decide +kernel
theorem dX7_slopeWithoutAt_35 : decode cX7_slopeWithoutAt 35 = .ok (.getfield 7, 3) := by decide +kernel
theorem dX7_slopeWithoutAt_38 : decode cX7_slopeWithoutAt 38 = .ok (.iconst 2, 1) := by decide +kernel
theorem dX7_slopeWithoutAt_39 : decode cX7_slopeWithoutAt 39 = .ok (.iaload, 1) := by decide +kernel
theorem dX7_slopeWithoutAt_40 : decode cX7_slopeWithoutAt 40 = .ok (.if_icmp .ge 43, 3) := by decide +kernel
theorem dX7_slopeWithoutAt_43 : decode cX7_slopeWithoutAt 43 = .ok (.lload 6, 2) := by decide +kernel
theorem dX7_slopeWithoutAt_45 : decode cX7_slopeWithoutAt 45 = .ok (.iload 8, 2) := by decide +kernel
theorem dX7_slopeWithoutAt_47 : decode cX7_slopeWithoutAt 47 = .ok (.iload_n 1, 1) := by decide +kernel
theorem dX7_slopeWithoutAt_48 : decode cX7_slopeWithoutAt 48 = .ok (.if_icmp .eq 10, 3) := by decide +kernel
theorem dX7_slopeWithoutAt_51 : decode cX7_slopeWithoutAt 51 = .ok (.iload 8, 2) := by decide +kernel
theorem dX7_slopeWithoutAt_53 : decode cX7_slopeWithoutAt 53 = .ok (.iload 5, 2) := by decide +kernel
theorem dX7_slopeWithoutAt_55 : decode cX7_slopeWithoutAt 55 = .ok (.if_icmp .ne 7, 3) := by decide +kernel
theorem dX7_slopeWithoutAt_58 : decode cX7_slopeWithoutAt 58 = .ok (.lconst 1, 1) := by decide +kernel
theorem dX7_slopeWithoutAt_59 : decode cX7_slopeWithoutAt 59 = .ok (.goto 15, 3) := by decide +kernel
theorem dX7_slopeWithoutAt_62 : decode cX7_slopeWithoutAt 62 = .ok (.iload_n 2, 1) := by decide +kernel
theorem dX7_slopeWithoutAt_63 : decode cX7_slopeWithoutAt 63 = .ok (.aload_n 0, 1) := by decide +kernel
theorem dX7_slopeWithoutAt_64 : decode cX7_slopeWithoutAt 64 = .ok (.getfield 7, 3) := by decide +kernel
theorem dX7_slopeWithoutAt_67 : decode cX7_slopeWithoutAt 67 = .ok (.iconst 3, 1) := by decide +kernel
theorem dX7_slopeWithoutAt_68 : decode cX7_slopeWithoutAt 68 = .ok (.iload 8, 2) := by decide +kernel
theorem dX7_slopeWithoutAt_70 : decode cX7_slopeWithoutAt 70 = .ok (.iadd, 1) := by decide +kernel
theorem dX7_slopeWithoutAt_71 : decode cX7_slopeWithoutAt 71 = .ok (.iaload, 1) := by decide +kernel
theorem dX7_slopeWithoutAt_72 : decode cX7_slopeWithoutAt 72 = .ok (.isub, 1) := by decide +kernel
theorem dX7_slopeWithoutAt_73 : decode cX7_slopeWithoutAt 73 = .ok (.i2l, 1) := by decide +kernel
theorem dX7_slopeWithoutAt_74 : decode cX7_slopeWithoutAt 74 = .ok (.lmul, 1) := by decide +kernel
theorem dX7_slopeWithoutAt_75 : decode cX7_slopeWithoutAt 75 = .ok (.lstore 6, 2) := by decide +kernel
theorem dX7_slopeWithoutAt_77 : decode cX7_slopeWithoutAt 77 = .ok (.iinc 8 1, 3) := by decide +kernel
theorem dX7_slopeWithoutAt_80 : decode cX7_slopeWithoutAt 80 = .ok (.goto (-48), 3) := by decide +kernel
theorem dX7_slopeWithoutAt_83 : decode cX7_slopeWithoutAt 83 = .ok (.lload_n 3, 1) := by decide +kernel
theorem dX7_slopeWithoutAt_84 : decode cX7_slopeWithoutAt 84 = .ok (.lload 6, 2) := by decide +kernel
theorem dX7_slopeWithoutAt_86 : decode cX7_slopeWithoutAt 86 = .ok (.ladd, 1) := by decide +kernel
theorem dX7_slopeWithoutAt_87 : decode cX7_slopeWithoutAt 87 = .ok (.lstore_n 3, 1) := by decide +kernel
theorem dX7_slopeWithoutAt_88 : decode cX7_slopeWithoutAt 88 = .ok (.iinc 5 1, 3) := by decide +kernel
theorem dX7_slopeWithoutAt_91 : decode cX7_slopeWithoutAt 91 = .ok (.goto (-86), 3) := by decide +kernel
theorem dX7_slopeWithoutAt_94 : decode cX7_slopeWithoutAt 94 = .ok (.lload_n 3, 1) := by decide +kernel
theorem dX7_slopeWithoutAt_95 : decode cX7_slopeWithoutAt 95 = .ok (.lreturn, 1) := by decide +kernel
theorem dX7_timesOf_0 : decode cX7_timesOf 0 = .ok (.iload_n 2, 1) := by decide +kernel
theorem dX7_timesOf_1 : decode cX7_timesOf 1 = .ok (.ifCond .eq 12, 3) := by decide +kernel
theorem dX7_timesOf_4 : decode cX7_timesOf 4 = .ok (.aload_n 0, 1) := by decide +kernel
theorem dX7_timesOf_5 : decode cX7_timesOf 5 = .ok (.getfield 26, 3) := by decide +kernel
theorem dX7_timesOf_8 : decode cX7_timesOf 8 = .ok (.iload_n 1, 1) := by decide +kernel
theorem dX7_timesOf_9 : decode cX7_timesOf 9 = .ok (.laload, 1) := by decide +kernel
theorem dX7_timesOf_10 : decode cX7_timesOf 10 = .ok (.goto 20, 3) := by decide +kernel
theorem dX7_timesOf_13 : decode cX7_timesOf 13 = .ok (.aload_n 0, 1) := by decide +kernel
theorem dX7_timesOf_14 : decode cX7_timesOf 14 = .ok (.getfield 26, 3) := by decide +kernel
theorem dX7_timesOf_17 : decode cX7_timesOf 17 = .ok (.iload_n 1, 1) := by decide +kernel
theorem dX7_timesOf_18 : decode cX7_timesOf 18 = .ok (.laload, 1) := by decide +kernel
theorem dX7_timesOf_19 : decode cX7_timesOf 19 = .ok (.aload_n 0, 1) := by decide +kernel
theorem dX7_timesOf_20 : decode cX7_timesOf 20 = .ok (.getfield 7, 3) := by decide +kernel
theorem dX7_timesOf_23 : decode cX7_timesOf 23 = .ok (.bipush 8, 2) := by decide +kernel
theorem dX7_timesOf_25 : decode cX7_timesOf 25 = .ok (.iload_n 1, 1) := by decide +kernel
theorem dX7_timesOf_26 : decode cX7_timesOf 26 = .ok (.iadd, 1) := by decide +kernel
theorem dX7_timesOf_27 : decode cX7_timesOf 27 = .ok (.iaload, 1) := by decide +kernel
theorem dX7_timesOf_28 : decode cX7_timesOf 28 = .ok (.i2l, 1) := by decide +kernel
theorem dX7_timesOf_29 : decode cX7_timesOf 29 = .ok (.lmul, 1) := by decide +kernel
theorem dX7_timesOf_30 : decode cX7_timesOf 30 = .ok (.lreturn, 1) := by decide +kernel
theorem dX7_polynomialAt_0 : decode cX7_polynomialAt 0 = .ok (.lconst 0, 1) := by decide +kernel
theorem dX7_polynomialAt_1 : decode cX7_polynomialAt 1 = .ok (.lstore_n 3, 1) := by decide +kernel
theorem dX7_polynomialAt_2 : decode cX7_polynomialAt 2 = .ok (.iconst 0, 1) := by decide +kernel
theorem dX7_polynomialAt_3 : decode cX7_polynomialAt 3 = .ok (.istore 5, 2) := by decide +kernel
theorem dX7_polynomialAt_5 : decode cX7_polynomialAt 5 = .ok (.iload 5, 2) := by decide +kernel
theorem dX7_polynomialAt_7 : decode cX7_polynomialAt 7 = .ok (.aload_n 0, 1) := by decide +kernel
theorem dX7_polynomialAt_8 : decode cX7_polynomialAt 8 = .ok (.getfield 7, 3) := by decide +kernel
theorem dX7_polynomialAt_11 : decode cX7_polynomialAt 11 = .ok (.iconst 2, 1) := by decide +kernel
theorem dX7_polynomialAt_12 : decode cX7_polynomialAt 12 = .ok (.iaload, 1) := by decide +kernel
theorem dX7_polynomialAt_13 : decode cX7_polynomialAt 13 = .ok (.if_icmp .ge 27, 3) := by decide +kernel
theorem dX7_polynomialAt_16 : decode cX7_polynomialAt 16 = .ok (.lload_n 3, 1) := by decide +kernel
theorem dX7_polynomialAt_17 : decode cX7_polynomialAt 17 = .ok (.aload_n 0, 1) := by decide +kernel
theorem dX7_polynomialAt_18 : decode cX7_polynomialAt 18 = .ok (.iload 5, 2) := by decide +kernel
theorem dX7_polynomialAt_20 : decode cX7_polynomialAt 20 = .ok (.iload_n 1, 1) := by decide +kernel
theorem dX7_polynomialAt_21 : decode cX7_polynomialAt 21 = .ok (.invokevirtual 246, 3) := by decide +kernel
theorem dX7_polynomialAt_24 : decode cX7_polynomialAt 24 = .ok (.aload_n 0, 1) := by decide +kernel
theorem dX7_polynomialAt_25 : decode cX7_polynomialAt 25 = .ok (.iload 5, 2) := by decide +kernel
theorem dX7_polynomialAt_27 : decode cX7_polynomialAt 27 = .ok (.iload_n 2, 1) := by decide +kernel
theorem dX7_polynomialAt_28 : decode cX7_polynomialAt 28 = .ok (.invokevirtual 250, 3) := by decide +kernel
theorem dX7_polynomialAt_31 : decode cX7_polynomialAt 31 = .ok (.lmul, 1) := by decide +kernel
theorem dX7_polynomialAt_32 : decode cX7_polynomialAt 32 = .ok (.ladd, 1) := by decide +kernel
theorem dX7_polynomialAt_33 : decode cX7_polynomialAt 33 = .ok (.lstore_n 3, 1) := by decide +kernel
theorem dX7_polynomialAt_34 : decode cX7_polynomialAt 34 = .ok (.iinc 5 1, 3) := by decide +kernel
theorem dX7_polynomialAt_37 : decode cX7_polynomialAt 37 = .ok (.goto (-32), 3) := by decide +kernel
theorem dX7_polynomialAt_40 : decode cX7_polynomialAt 40 = .ok (.lload_n 3, 1) := by decide +kernel
theorem dX7_polynomialAt_41 : decode cX7_polynomialAt 41 = .ok (.lreturn, 1) := by decide +kernel
theorem dX7_slopeAt_0 : decode cX7_slopeAt 0 = .ok (.lconst 0, 1) := by decide +kernel
theorem dX7_slopeAt_1 : decode cX7_slopeAt 1 = .ok (.lstore_n 3, 1) := by decide +kernel
theorem dX7_slopeAt_2 : decode cX7_slopeAt 2 = .ok (.iconst 0, 1) := by decide +kernel
theorem dX7_slopeAt_3 : decode cX7_slopeAt 3 = .ok (.istore 5, 2) := by decide +kernel
theorem dX7_slopeAt_5 : decode cX7_slopeAt 5 = .ok (.iload 5, 2) := by decide +kernel
theorem dX7_slopeAt_7 : decode cX7_slopeAt 7 = .ok (.aload_n 0, 1) := by decide +kernel
theorem dX7_slopeAt_8 : decode cX7_slopeAt 8 = .ok (.getfield 7, 3) := by decide +kernel
theorem dX7_slopeAt_11 : decode cX7_slopeAt 11 = .ok (.iconst 2, 1) := by decide +kernel
theorem dX7_slopeAt_12 : decode cX7_slopeAt 12 = .ok (.iaload, 1) := by decide +kernel
theorem dX7_slopeAt_13 : decode cX7_slopeAt 13 = .ok (.if_icmp .ge 27, 3) := by decide +kernel
theorem dX7_slopeAt_16 : decode cX7_slopeAt 16 = .ok (.lload_n 3, 1) := by decide +kernel
theorem dX7_slopeAt_17 : decode cX7_slopeAt 17 = .ok (.aload_n 0, 1) := by decide +kernel
theorem dX7_slopeAt_18 : decode cX7_slopeAt 18 = .ok (.iload 5, 2) := by decide +kernel
theorem dX7_slopeAt_20 : decode cX7_slopeAt 20 = .ok (.iload_n 1, 1) := by decide +kernel
theorem dX7_slopeAt_21 : decode cX7_slopeAt 21 = .ok (.invokevirtual 246, 3) := by decide +kernel
theorem dX7_slopeAt_24 : decode cX7_slopeAt 24 = .ok (.aload_n 0, 1) := by decide +kernel
theorem dX7_slopeAt_25 : decode cX7_slopeAt 25 = .ok (.iload 5, 2) := by decide +kernel
theorem dX7_slopeAt_27 : decode cX7_slopeAt 27 = .ok (.iload_n 2, 1) := by decide +kernel
theorem dX7_slopeAt_28 : decode cX7_slopeAt 28 = .ok (.invokevirtual 253, 3) := by decide +kernel
theorem dX7_slopeAt_31 : decode cX7_slopeAt 31 = .ok (.lmul, 1) := by decide +kernel
theorem dX7_slopeAt_32 : decode cX7_slopeAt 32 = .ok (.ladd, 1) := by decide +kernel
theorem dX7_slopeAt_33 : decode cX7_slopeAt 33 = .ok (.lstore_n 3, 1) := by decide +kernel
theorem dX7_slopeAt_34 : decode cX7_slopeAt 34 = .ok (.iinc 5 1, 3) := by decide +kernel
theorem dX7_slopeAt_37 : decode cX7_slopeAt 37 = .ok (.goto (-32), 3) := by decide +kernel
theorem dX7_slopeAt_40 : decode cX7_slopeAt 40 = .ok (.lload_n 3, 1) := by decide +kernel
theorem dX7_slopeAt_41 : decode cX7_slopeAt 41 = .ok (.lreturn, 1) := by decide +kernel
theorem dX7_laysProduct_0 : decode cX7_laysProduct 0 = .ok (.iconst 0, 1) := by decide +kernel
theorem dX7_laysProduct_1 : decode cX7_laysProduct 1 = .ok (.istore_n 2, 1) := by decide +kernel
theorem dX7_laysProduct_2 : decode cX7_laysProduct 2 = .ok (.iload_n 2, 1) := by decide +kernel
theorem dX7_laysProduct_3 : decode cX7_laysProduct 3 = .ok (.iconst 5, 1) := by decide +kernel
theorem dX7_laysProduct_4 : decode cX7_laysProduct 4 = .ok (.if_icmp .ge 24, 3) := by decide +kernel
theorem dX7_laysProduct_7 : decode cX7_laysProduct 7 = .ok (.aload_n 0, 1) := by decide +kernel
theorem dX7_laysProduct_8 : decode cX7_laysProduct 8 = .ok (.getfield 36, 3) := by decide +kernel
theorem dX7_laysProduct_11 : decode cX7_laysProduct 11 = .ok (.iload_n 2, 1) := by decide +kernel
theorem dX7_laysProduct_12 : decode cX7_laysProduct 12 = .ok (.iload_n 2, 1) := by decide +kernel
theorem dX7_laysProduct_13 : decode cX7_laysProduct 13 = .ok (.ifCond .ne 7, 3) := by decide +kernel
theorem dX7_laysProduct_16 : decode cX7_laysProduct 16 = .ok (.lconst 1, 1) := by decide +kernel
theorem dX7_laysProduct_17 : decode cX7_laysProduct 17 = .ok (.goto 4, 3) := by decide +kernel
theorem dX7_laysProduct_20 : decode cX7_laysProduct 20 = .ok (.lconst 0, 1) := by decide +kernel
theorem dX7_laysProduct_21 : decode cX7_laysProduct 21 = .ok (.lastore, 1) := by decide +kernel
theorem dX7_laysProduct_22 : decode cX7_laysProduct 22 = .ok (.iinc 2 1, 3) := by decide +kernel
theorem dX7_laysProduct_25 : decode cX7_laysProduct 25 = .ok (.goto (-23), 3) := by decide +kernel
theorem dX7_laysProduct_28 : decode cX7_laysProduct 28 = .ok (.iconst 0, 1) := by decide +kernel
theorem dX7_laysProduct_29 : decode cX7_laysProduct 29 = .ok (.istore_n 2, 1) := by decide +kernel
theorem dX7_laysProduct_30 : decode cX7_laysProduct 30 = .ok (.iload_n 2, 1) := by decide +kernel
theorem dX7_laysProduct_31 : decode cX7_laysProduct 31 = .ok (.aload_n 0, 1) := by decide +kernel
theorem dX7_laysProduct_32 : decode cX7_laysProduct 32 = .ok (.getfield 7, 3) := by decide +kernel
theorem dX7_laysProduct_35 : decode cX7_laysProduct 35 = .ok (.iconst 2, 1) := by decide +kernel
theorem dX7_laysProduct_36 : decode cX7_laysProduct 36 = .ok (.iaload, 1) := by decide +kernel
theorem dX7_laysProduct_37 : decode cX7_laysProduct 37 = .ok (.if_icmp .ge 65, 3) := by decide +kernel
theorem dX7_laysProduct_40 : decode cX7_laysProduct 40 = .ok (.iconst 4, 1) := by decide +kernel
theorem dX7_laysProduct_41 : decode cX7_laysProduct 41 = .ok (.istore_n 3, 1) := by decide +kernel
theorem dX7_laysProduct_42 : decode cX7_laysProduct 42 = .ok (.iload_n 3, 1) := by decide +kernel
theorem dX7_laysProduct_43 : decode cX7_laysProduct 43 = .ok (.ifCond .lt 53, 3) := by decide +kernel
theorem dX7_laysProduct_46 : decode cX7_laysProduct 46 = .ok (.iload_n 2, 1) := by decide +kernel
theorem dX7_laysProduct_47 : decode cX7_laysProduct 47 = .ok (.iload_n 1, 1) := by decide +kernel
theorem dX7_laysProduct_48 : decode cX7_laysProduct 48 = .ok (.if_icmp .eq 48, 3) := by decide +kernel
theorem dX7_laysProduct_51 : decode cX7_laysProduct 51 = .ok (.aload_n 0, 1) := by decide +kernel
theorem dX7_laysProduct_52 : decode cX7_laysProduct 52 = .ok (.getfield 36, 3) := by decide +kernel
theorem dX7_laysProduct_55 : decode cX7_laysProduct 55 = .ok (.iload_n 3, 1) := by decide +kernel
theorem dX7_laysProduct_56 : decode cX7_laysProduct 56 = .ok (.iload_n 3, 1) := by decide +kernel
theorem dX7_laysProduct_57 : decode cX7_laysProduct 57 = .ok (.ifCond .ne 7, 3) := by decide +kernel
theorem dX7_laysProduct_60 : decode cX7_laysProduct 60 = .ok (.lconst 0, 1) := by decide +kernel
theorem dX7_laysProduct_61 : decode cX7_laysProduct 61 = .ok (.goto 11, 3) := by decide +kernel
theorem dX7_laysProduct_64 : decode cX7_laysProduct 64 = .ok (.aload_n 0, 1) := by decide +kernel
theorem dX7_laysProduct_65 : decode cX7_laysProduct 65 = .ok (.getfield 36, 3) := by decide +kernel
theorem dX7_laysProduct_68 : decode cX7_laysProduct 68 = .ok (.iload_n 3, 1) := by decide +kernel
theorem dX7_laysProduct_69 : decode cX7_laysProduct 69 = .ok (.iconst 1, 1) := by decide +kernel
theorem dX7_laysProduct_70 : decode cX7_laysProduct 70 = .ok (.isub, 1) := by decide +kernel
theorem dX7_laysProduct_71 : decode cX7_laysProduct 71 = .ok (.laload, 1) := by decide +kernel
theorem dX7_laysProduct_72 : decode cX7_laysProduct 72 = .ok (.aload_n 0, 1) := by decide +kernel
theorem dX7_laysProduct_73 : decode cX7_laysProduct 73 = .ok (.getfield 7, 3) := by decide +kernel
theorem dX7_laysProduct_76 : decode cX7_laysProduct 76 = .ok (.iconst 3, 1) := by decide +kernel
theorem dX7_laysProduct_77 : decode cX7_laysProduct 77 = .ok (.iload_n 2, 1) := by decide +kernel
theorem dX7_laysProduct_78 : decode cX7_laysProduct 78 = .ok (.iadd, 1) := by decide +kernel
theorem dX7_laysProduct_79 : decode cX7_laysProduct 79 = .ok (.iaload, 1) := by decide +kernel
theorem dX7_laysProduct_80 : decode cX7_laysProduct 80 = .ok (.i2l, 1) := by decide +kernel
theorem dX7_laysProduct_81 : decode cX7_laysProduct 81 = .ok (.aload_n 0, 1) := by decide +kernel
theorem dX7_laysProduct_82 : decode cX7_laysProduct 82 = .ok (.getfield 36, 3) := by decide +kernel
theorem dX7_laysProduct_85 : decode cX7_laysProduct 85 = .ok (.iload_n 3, 1) := by decide +kernel
theorem dX7_laysProduct_86 : decode cX7_laysProduct 86 = .ok (.laload, 1) := by decide +kernel
theorem dX7_laysProduct_87 : decode cX7_laysProduct 87 = .ok (.lmul, 1) := by decide +kernel
theorem dX7_laysProduct_88 : decode cX7_laysProduct 88 = .ok (.lsub, 1) := by decide +kernel
theorem dX7_laysProduct_89 : decode cX7_laysProduct 89 = .ok (.lastore, 1) := by decide +kernel
theorem dX7_laysProduct_90 : decode cX7_laysProduct 90 = .ok (.iinc 3 (-1), 3) := by decide +kernel
theorem dX7_laysProduct_93 : decode cX7_laysProduct 93 = .ok (.goto (-51), 3) := by decide +kernel
theorem dX7_laysProduct_96 : decode cX7_laysProduct 96 = .ok (.iinc 2 1, 3) := by decide +kernel
theorem dX7_laysProduct_99 : decode cX7_laysProduct 99 = .ok (.goto (-69), 3) := by decide +kernel
theorem dX7_laysProduct_102 : decode cX7_laysProduct 102 = .ok (.return_, 1) := by decide +kernel
theorem dX7_laysCoefficients_0 : decode cX7_laysCoefficients 0 = .ok (.aload_n 0, 1) := by decide +kernel
theorem dX7_laysCoefficients_1 : decode cX7_laysCoefficients 1 = .ok (.invokevirtual 243, 3) := by decide +kernel
theorem dX7_laysCoefficients_4 : decode cX7_laysCoefficients 4 = .ok (.iconst 0, 1) := by decide +kernel
theorem dX7_laysCoefficients_5 : decode cX7_laysCoefficients 5 = .ok (.istore_n 2, 1) := by decide +kernel
theorem dX7_laysCoefficients_6 : decode cX7_laysCoefficients 6 = .ok (.iload_n 2, 1) := by decide +kernel
theorem dX7_laysCoefficients_7 : decode cX7_laysCoefficients 7 = .ok (.iconst 5, 1) := by decide +kernel
theorem dX7_laysCoefficients_8 : decode cX7_laysCoefficients 8 = .ok (.if_icmp .ge 16, 3) := by decide +kernel
theorem dX7_laysCoefficients_11 : decode cX7_laysCoefficients 11 = .ok (.aload_n 0, 1) := by decide +kernel
theorem dX7_laysCoefficients_12 : decode cX7_laysCoefficients 12 = .ok (.getfield 33, 3) := by decide +kernel
theorem dX7_laysCoefficients_15 : decode cX7_laysCoefficients 15 = .ok (.iload_n 2, 1) := by decide +kernel
theorem dX7_laysCoefficients_16 : decode cX7_laysCoefficients 16 = .ok (.lconst 0, 1) := by decide +kernel
theorem dX7_laysCoefficients_17 : decode cX7_laysCoefficients 17 = .ok (.lastore, 1) := by decide +kernel
theorem dX7_laysCoefficients_18 : decode cX7_laysCoefficients 18 = .ok (.iinc 2 1, 3) := by decide +kernel
theorem dX7_laysCoefficients_21 : decode cX7_laysCoefficients 21 = .ok (.goto (-15), 3) := by decide +kernel
theorem dX7_laysCoefficients_24 : decode cX7_laysCoefficients 24 = .ok (.iconst 0, 1) := by decide +kernel
theorem dX7_laysCoefficients_25 : decode cX7_laysCoefficients 25 = .ok (.istore_n 2, 1) := by decide +kernel
theorem dX7_laysCoefficients_26 : decode cX7_laysCoefficients 26 = .ok (.iload_n 2, 1) := by decide +kernel
theorem dX7_laysCoefficients_27 : decode cX7_laysCoefficients 27 = .ok (.aload_n 0, 1) := by decide +kernel
theorem dX7_laysCoefficients_28 : decode cX7_laysCoefficients 28 = .ok (.getfield 7, 3) := by decide +kernel
theorem dX7_laysCoefficients_31 : decode cX7_laysCoefficients 31 = .ok (.iconst 2, 1) := by decide +kernel
theorem dX7_laysCoefficients_32 : decode cX7_laysCoefficients 32 = .ok (.iaload, 1) := by decide +kernel
theorem dX7_laysCoefficients_33 : decode cX7_laysCoefficients 33 = .ok (.if_icmp .ge 49, 3) := by decide +kernel
theorem dX7_laysCoefficients_36 : decode cX7_laysCoefficients 36 = .ok (.aload_n 0, 1) := by decide +kernel
theorem dX7_laysCoefficients_37 : decode cX7_laysCoefficients 37 = .ok (.iload_n 2, 1) := by decide +kernel
theorem dX7_laysCoefficients_38 : decode cX7_laysCoefficients 38 = .ok (.invokevirtual 256, 3) := by decide +kernel
theorem dX7_laysCoefficients_41 : decode cX7_laysCoefficients 41 = .ok (.iconst 0, 1) := by decide +kernel
theorem dX7_laysCoefficients_42 : decode cX7_laysCoefficients 42 = .ok (.istore_n 3, 1) := by decide +kernel
theorem dX7_laysCoefficients_43 : decode cX7_laysCoefficients 43 = .ok (.iload_n 3, 1) := by decide +kernel
theorem dX7_laysCoefficients_44 : decode cX7_laysCoefficients 44 = .ok (.iconst 5, 1) := by decide +kernel
theorem dX7_laysCoefficients_45 : decode cX7_laysCoefficients 45 = .ok (.if_icmp .ge 31, 3) := by decide +kernel
theorem dX7_laysCoefficients_48 : decode cX7_laysCoefficients 48 = .ok (.aload_n 0, 1) := by decide +kernel
theorem dX7_laysCoefficients_49 : decode cX7_laysCoefficients 49 = .ok (.getfield 33, 3) := by decide +kernel
theorem dX7_laysCoefficients_52 : decode cX7_laysCoefficients 52 = .ok (.iload_n 3, 1) := by decide +kernel
theorem dX7_laysCoefficients_53 : decode cX7_laysCoefficients 53 = .ok (.dup2, 1) := by decide +kernel
theorem dX7_laysCoefficients_54 : decode cX7_laysCoefficients 54 = .ok (.laload, 1) := by decide +kernel
theorem dX7_laysCoefficients_55 : decode cX7_laysCoefficients 55 = .ok (.aload_n 0, 1) := by decide +kernel
theorem dX7_laysCoefficients_56 : decode cX7_laysCoefficients 56 = .ok (.iload_n 2, 1) := by decide +kernel
theorem dX7_laysCoefficients_57 : decode cX7_laysCoefficients 57 = .ok (.iload_n 1, 1) := by decide +kernel
theorem dX7_laysCoefficients_58 : decode cX7_laysCoefficients 58 = .ok (.invokevirtual 246, 3) := by decide +kernel
theorem dX7_laysCoefficients_61 : decode cX7_laysCoefficients 61 = .ok (.aload_n 0, 1) := by decide +kernel
theorem dX7_laysCoefficients_62 : decode cX7_laysCoefficients 62 = .ok (.getfield 36, 3) := by decide +kernel
theorem dX7_laysCoefficients_65 : decode cX7_laysCoefficients 65 = .ok (.iload_n 3, 1) := by decide +kernel
theorem dX7_laysCoefficients_66 : decode cX7_laysCoefficients 66 = .ok (.laload, 1) := by decide +kernel
theorem dX7_laysCoefficients_67 : decode cX7_laysCoefficients 67 = .ok (.lmul, 1) := by decide +kernel
theorem dX7_laysCoefficients_68 : decode cX7_laysCoefficients 68 = .ok (.ladd, 1) := by decide +kernel
theorem dX7_laysCoefficients_69 : decode cX7_laysCoefficients 69 = .ok (.lastore, 1) := by decide +kernel
theorem dX7_laysCoefficients_70 : decode cX7_laysCoefficients 70 = .ok (.iinc 3 1, 3) := by decide +kernel
theorem dX7_laysCoefficients_73 : decode cX7_laysCoefficients 73 = .ok (.goto (-30), 3) := by decide +kernel
theorem dX7_laysCoefficients_76 : decode cX7_laysCoefficients 76 = .ok (.iinc 2 1, 3) := by decide +kernel
theorem dX7_laysCoefficients_79 : decode cX7_laysCoefficients 79 = .ok (.goto (-53), 3) := by decide +kernel
theorem dX7_laysCoefficients_82 : decode cX7_laysCoefficients 82 = .ok (.return_, 1) := by decide +kernel
theorem dX7_degreeOf_0 : decode cX7_degreeOf 0 = .ok (.aload_n 0, 1) := by decide +kernel
theorem dX7_degreeOf_1 : decode cX7_degreeOf 1 = .ok (.iconst 0, 1) := by decide +kernel
theorem dX7_degreeOf_2 : decode cX7_degreeOf 2 = .ok (.putfield 42, 3) := by decide +kernel
theorem dX7_degreeOf_5 : decode cX7_degreeOf 5 = .ok (.aload_n 0, 1) := by decide +kernel
theorem dX7_degreeOf_6 : decode cX7_degreeOf 6 = .ok (.iload_n 1, 1) := by decide +kernel
theorem dX7_degreeOf_7 : decode cX7_degreeOf 7 = .ok (.invokevirtual 259, 3) := by decide +kernel
theorem dX7_degreeOf_10 : decode cX7_degreeOf 10 = .ok (.iconst 4, 1) := by decide +kernel
theorem dX7_degreeOf_11 : decode cX7_degreeOf 11 = .ok (.istore_n 2, 1) := by decide +kernel
theorem dX7_degreeOf_12 : decode cX7_degreeOf 12 = .ok (.iload_n 2, 1) := by decide +kernel
theorem dX7_degreeOf_13 : decode cX7_degreeOf 13 = .ok (.ifCond .lt 20, 3) := by decide +kernel
theorem dX7_degreeOf_16 : decode cX7_degreeOf 16 = .ok (.aload_n 0, 1) := by decide +kernel
theorem dX7_degreeOf_17 : decode cX7_degreeOf 17 = .ok (.getfield 33, 3) := by decide +kernel
theorem dX7_degreeOf_20 : decode cX7_degreeOf 20 = .ok (.iload_n 2, 1) := by decide +kernel
theorem dX7_degreeOf_21 : decode cX7_degreeOf 21 = .ok (.laload, 1) := by decide +kernel
theorem dX7_degreeOf_22 : decode cX7_degreeOf 22 = .ok (.lconst 0, 1) := by decide +kernel
theorem dX7_degreeOf_23 : decode cX7_degreeOf 23 = .ok (.lcmp, 1) := by decide +kernel
theorem dX7_degreeOf_24 : decode cX7_degreeOf 24 = .ok (.ifCond .ne 9, 3) := by decide +kernel
theorem dX7_degreeOf_27 : decode cX7_degreeOf 27 = .ok (.iinc 2 (-1), 3) := by decide +kernel
theorem dX7_degreeOf_30 : decode cX7_degreeOf 30 = .ok (.goto (-18), 3) := by decide +kernel
theorem dX7_degreeOf_33 : decode cX7_degreeOf 33 = .ok (.iload_n 2, 1) := by decide +kernel
theorem dX7_degreeOf_34 : decode cX7_degreeOf 34 = .ok (.ireturn, 1) := by decide +kernel
theorem dX7_coefficient_0 : decode cX7_coefficient 0 = .ok (.aload_n 0, 1) := by decide +kernel
theorem dX7_coefficient_1 : decode cX7_coefficient 1 = .ok (.iload_n 2, 1) := by decide +kernel
theorem dX7_coefficient_2 : decode cX7_coefficient 2 = .ok (.i2l, 1) := by decide +kernel
theorem dX7_coefficient_3 : decode cX7_coefficient 3 = .ok (.lconst 0, 1) := by decide +kernel
theorem dX7_coefficient_4 : decode cX7_coefficient 4 = .ok (.ldc2_w 263, 3) := by decide +kernel
theorem dX7_coefficient_7 : decode cX7_coefficient 7 = .ok (.invokestatic 119, 3) := by decide +kernel
theorem dX7_coefficient_10 : decode cX7_coefficient 10 = .ok (.invokevirtual 163, 3) := by decide +kernel
theorem dX7_coefficient_13 : decode cX7_coefficient 13 = .ok (.ifCond .ne 5, 3) := by decide +kernel
theorem dX7_coefficient_16 : decode cX7_coefficient 16 = .ok (.lconst 0, 1) := by decide +kernel
theorem dX7_coefficient_17 : decode cX7_coefficient 17 = .ok (.lreturn, 1) := by decide +kernel
theorem dX7_coefficient_18 : decode cX7_coefficient 18 = .ok (.aload_n 0, 1) := by decide +kernel
theorem dX7_coefficient_19 : decode cX7_coefficient 19 = .ok (.iload_n 1, 1) := by decide +kernel
theorem dX7_coefficient_20 : decode cX7_coefficient 20 = .ok (.invokevirtual 259, 3) := by decide +kernel
theorem dX7_coefficient_23 : decode cX7_coefficient 23 = .ok (.aload_n 0, 1) := by decide +kernel
theorem dX7_coefficient_24 : decode cX7_coefficient 24 = .ok (.getfield 33, 3) := by decide +kernel
theorem dX7_coefficient_27 : decode cX7_coefficient 27 = .ok (.iload_n 2, 1) := by decide +kernel
theorem dX7_coefficient_28 : decode cX7_coefficient 28 = .ok (.laload, 1) := by decide +kernel
theorem dX7_coefficient_29 : decode cX7_coefficient 29 = .ok (.lreturn, 1) := by decide +kernel
theorem dX7_kindNow_0 : decode cX7_kindNow 0 = .ok (.aload_n 0, 1) := by decide +kernel
theorem dX7_kindNow_1 : decode cX7_kindNow 1 = .ok (.iconst 1, 1) := by decide +kernel
theorem dX7_kindNow_2 : decode cX7_kindNow 2 = .ok (.iload_n 1, 1) := by decide +kernel
theorem dX7_kindNow_3 : decode cX7_kindNow 3 = .ok (.invokevirtual 265, 3) := by decide +kernel
theorem dX7_kindNow_6 : decode cX7_kindNow 6 = .ok (.lstore_n 2, 1) := by decide +kernel
theorem dX7_kindNow_7 : decode cX7_kindNow 7 = .ok (.aload_n 0, 1) := by decide +kernel
theorem dX7_kindNow_8 : decode cX7_kindNow 8 = .ok (.iconst 0, 1) := by decide +kernel
theorem dX7_kindNow_9 : decode cX7_kindNow 9 = .ok (.iload_n 1, 1) := by decide +kernel
theorem dX7_kindNow_10 : decode cX7_kindNow 10 = .ok (.invokevirtual 265, 3) := by decide +kernel
theorem dX7_kindNow_13 : decode cX7_kindNow 13 = .ok (.lstore 4, 2) := by decide +kernel
theorem dX7_kindNow_15 : decode cX7_kindNow 15 = .ok (.lload_n 2, 1) := by decide +kernel
theorem dX7_kindNow_16 : decode cX7_kindNow 16 = .ok (.lconst 0, 1) := by decide +kernel
theorem dX7_kindNow_17 : decode cX7_kindNow 17 = .ok (.lcmp, 1) := by decide +kernel
theorem dX7_kindNow_18 : decode cX7_kindNow 18 = .ok (.ifCond .eq 12, 3) := by decide +kernel
theorem dX7_kindNow_21 : decode cX7_kindNow 21 = .ok (.aload_n 0, 1) := by decide +kernel
theorem dX7_kindNow_22 : decode cX7_kindNow 22 = .ok (.lload 4, 2) := by decide +kernel
theorem dX7_kindNow_24 : decode cX7_kindNow 24 = .ok (.lload_n 2, 1) := by decide +kernel
theorem dX7_kindNow_25 : decode cX7_kindNow 25 = .ok (.invokevirtual 269, 3) := by decide +kernel
theorem dX7_kindNow_28 : decode cX7_kindNow 28 = .ok (.iconst 0, 1) := by decide +kernel
theorem dX7_kindNow_29 : decode cX7_kindNow 29 = .ok (.ireturn, 1) := by decide +kernel
theorem dX7_kindNow_30 : decode cX7_kindNow 30 = .ok (.lload 4, 2) := by decide +kernel
theorem dX7_kindNow_32 : decode cX7_kindNow 32 = .ok (.lconst 0, 1) := by decide +kernel
theorem dX7_kindNow_33 : decode cX7_kindNow 33 = .ok (.lcmp, 1) := by decide +kernel
theorem dX7_kindNow_34 : decode cX7_kindNow 34 = .ok (.ifCond .eq 5, 3) := by decide +kernel
theorem dX7_kindNow_37 : decode cX7_kindNow 37 = .ok (.iconst 2, 1) := by decide +kernel
theorem dX7_kindNow_38 : decode cX7_kindNow 38 = .ok (.ireturn, 1) := by decide +kernel
theorem dX7_kindNow_39 : decode cX7_kindNow 39 = .ok (.aload_n 0, 1) := by decide +kernel
theorem dX7_kindNow_40 : decode cX7_kindNow 40 = .ok (.iconst 1, 1) := by decide +kernel
theorem dX7_kindNow_41 : decode cX7_kindNow 41 = .ok (.iload_n 1, 1) := by decide +kernel
theorem dX7_kindNow_42 : decode cX7_kindNow 42 = .ok (.invokevirtual 273, 3) := by decide +kernel
theorem dX7_kindNow_45 : decode cX7_kindNow 45 = .ok (.lstore 6, 2) := by decide +kernel
theorem dX7_kindNow_47 : decode cX7_kindNow 47 = .ok (.lload 6, 2) := by decide +kernel
theorem dX7_kindNow_49 : decode cX7_kindNow 49 = .ok (.lconst 0, 1) := by decide +kernel
theorem dX7_kindNow_50 : decode cX7_kindNow 50 = .ok (.lcmp, 1) := by decide +kernel
theorem dX7_kindNow_51 : decode cX7_kindNow 51 = .ok (.ifCond .ne 5, 3) := by decide +kernel
theorem dX7_kindNow_54 : decode cX7_kindNow 54 = .ok (.iconst 3, 1) := by decide +kernel
theorem dX7_kindNow_55 : decode cX7_kindNow 55 = .ok (.ireturn, 1) := by decide +kernel
theorem dX7_kindNow_56 : decode cX7_kindNow 56 = .ok (.aload_n 0, 1) := by decide +kernel
theorem dX7_kindNow_57 : decode cX7_kindNow 57 = .ok (.aload_n 0, 1) := by decide +kernel
theorem dX7_kindNow_58 : decode cX7_kindNow 58 = .ok (.iconst 0, 1) := by decide +kernel
theorem dX7_kindNow_59 : decode cX7_kindNow 59 = .ok (.iload_n 1, 1) := by decide +kernel
theorem dX7_kindNow_60 : decode cX7_kindNow 60 = .ok (.invokevirtual 273, 3) := by decide +kernel
theorem dX7_kindNow_63 : decode cX7_kindNow 63 = .ok (.lload 6, 2) := by decide +kernel
theorem dX7_kindNow_65 : decode cX7_kindNow 65 = .ok (.invokevirtual 269, 3) := by decide +kernel
theorem dX7_kindNow_68 : decode cX7_kindNow 68 = .ok (.iconst 1, 1) := by decide +kernel
theorem dX7_kindNow_69 : decode cX7_kindNow 69 = .ok (.ireturn, 1) := by decide +kernel
theorem dX7_hasValue_0 : decode cX7_hasValue 0 = .ok (.aload_n 0, 1) := by decide +kernel
theorem dX7_hasValue_1 : decode cX7_hasValue 1 = .ok (.invokevirtual 243, 3) := by decide +kernel
theorem dX7_hasValue_4 : decode cX7_hasValue 4 = .ok (.aload_n 0, 1) := by decide +kernel
theorem dX7_hasValue_5 : decode cX7_hasValue 5 = .ok (.iload_n 1, 1) := by decide +kernel
theorem dX7_hasValue_6 : decode cX7_hasValue 6 = .ok (.invokevirtual 276, 3) := by decide +kernel
theorem dX7_hasValue_9 : decode cX7_hasValue 9 = .ok (.iconst 2, 1) := by decide +kernel
theorem dX7_hasValue_10 : decode cX7_hasValue 10 = .ok (.if_icmp .ge 7, 3) := by decide +kernel
theorem dX7_hasValue_13 : decode cX7_hasValue 13 = .ok (.iconst 1, 1) := by decide +kernel
theorem dX7_hasValue_14 : decode cX7_hasValue 14 = .ok (.goto 4, 3) := by decide +kernel
theorem dX7_hasValue_17 : decode cX7_hasValue 17 = .ok (.iconst 0, 1) := by decide +kernel
theorem dX7_hasValue_18 : decode cX7_hasValue 18 = .ok (.ireturn, 1) := by decide +kernel
theorem dX7_kindAt_0 : decode cX7_kindAt 0 = .ok (.aload_n 0, 1) := by decide +kernel
theorem dX7_kindAt_1 : decode cX7_kindAt 1 = .ok (.iload_n 1, 1) := by decide +kernel
theorem dX7_kindAt_2 : decode cX7_kindAt 2 = .ok (.invokestatic 193, 3) := by decide +kernel
theorem dX7_kindAt_5 : decode cX7_kindAt 5 = .ok (.invokevirtual 163, 3) := by decide +kernel
theorem dX7_kindAt_8 : decode cX7_kindAt 8 = .ok (.ifCond .ne 5, 3) := by decide +kernel
theorem dX7_kindAt_11 : decode cX7_kindAt 11 = .ok (.iconst 0, 1) := by decide +kernel
theorem dX7_kindAt_12 : decode cX7_kindAt 12 = .ok (.ireturn, 1) := by decide +kernel
theorem dX7_kindAt_13 : decode cX7_kindAt 13 = .ok (.aload_n 0, 1) := by decide +kernel
theorem dX7_kindAt_14 : decode cX7_kindAt 14 = .ok (.invokevirtual 243, 3) := by decide +kernel
theorem dX7_kindAt_17 : decode cX7_kindAt 17 = .ok (.aload_n 0, 1) := by decide +kernel
theorem dX7_kindAt_18 : decode cX7_kindAt 18 = .ok (.iload_n 1, 1) := by decide +kernel
theorem dX7_kindAt_19 : decode cX7_kindAt 19 = .ok (.invokevirtual 276, 3) := by decide +kernel
theorem dX7_kindAt_22 : decode cX7_kindAt 22 = .ok (.ireturn, 1) := by decide +kernel
theorem dX7_value_0 : decode cX7_value 0 = .ok (.iload_n 1, 1) := by decide +kernel
theorem dX7_value_1 : decode cX7_value 1 = .ok (.invokestatic 193, 3) := by decide +kernel
theorem dX7_value_4 : decode cX7_value 4 = .ok (.ifCond .eq 14, 3) := by decide +kernel
theorem dX7_value_7 : decode cX7_value 7 = .ok (.iload_n 2, 1) := by decide +kernel
theorem dX7_value_8 : decode cX7_value 8 = .ok (.invokestatic 279, 3) := by decide +kernel
theorem dX7_value_11 : decode cX7_value 11 = .ok (.ifCond .eq 7, 3) := by decide +kernel
theorem dX7_value_14 : decode cX7_value 14 = .ok (.iconst 1, 1) := by decide +kernel
theorem dX7_value_15 : decode cX7_value 15 = .ok (.goto 4, 3) := by decide +kernel
theorem dX7_value_18 : decode cX7_value 18 = .ok (.iconst 0, 1) := by decide +kernel
theorem dX7_value_19 : decode cX7_value 19 = .ok (.istore_n 3, 1) := by decide +kernel
theorem dX7_value_20 : decode cX7_value 20 = .ok (.aload_n 0, 1) := by decide +kernel
theorem dX7_value_21 : decode cX7_value 21 = .ok (.iload_n 3, 1) := by decide +kernel
theorem dX7_value_22 : decode cX7_value 22 = .ok (.iload_n 3, 1) := by decide +kernel
theorem dX7_value_23 : decode cX7_value 23 = .ok (.ifCond .eq 15, 3) := by decide +kernel
theorem dX7_value_26 : decode cX7_value 26 = .ok (.aload_n 0, 1) := by decide +kernel
theorem dX7_value_27 : decode cX7_value 27 = .ok (.iload_n 1, 1) := by decide +kernel
theorem dX7_value_28 : decode cX7_value 28 = .ok (.invokevirtual 282, 3) := by decide +kernel
theorem dX7_value_31 : decode cX7_value 31 = .ok (.ifCond .eq 7, 3) := by decide +kernel
theorem dX7_value_34 : decode cX7_value 34 = .ok (.iconst 1, 1) := by decide +kernel
theorem dX7_value_35 : decode cX7_value 35 = .ok (.goto 4, 3) := by decide +kernel
theorem dX7_value_38 : decode cX7_value 38 = .ok (.iconst 0, 1) := by decide +kernel
theorem dX7_value_39 : decode cX7_value 39 = .ok (.invokevirtual 187, 3) := by decide +kernel
theorem dX7_value_42 : decode cX7_value 42 = .ok (.ifCond .eq 11, 3) := by decide +kernel
theorem dX7_value_45 : decode cX7_value 45 = .ok (.aload_n 0, 1) := by decide +kernel
theorem dX7_value_46 : decode cX7_value 46 = .ok (.iload_n 2, 1) := by decide +kernel
theorem dX7_value_47 : decode cX7_value 47 = .ok (.invokevirtual 285, 3) := by decide +kernel
theorem dX7_value_50 : decode cX7_value 50 = .ok (.goto 4, 3) := by decide +kernel
theorem dX7_value_53 : decode cX7_value 53 = .ok (.lconst 0, 1) := by decide +kernel
theorem dX7_value_54 : decode cX7_value 54 = .ok (.lreturn, 1) := by decide +kernel
theorem dX7_about_0 : decode cX7_about 0 = .ok (.iload_n 1, 1) := by decide +kernel
theorem dX7_about_1 : decode cX7_about 1 = .ok (.invokestatic 193, 3) := by decide +kernel
theorem dX7_about_4 : decode cX7_about 4 = .ok (.istore_n 2, 1) := by decide +kernel
theorem dX7_about_5 : decode cX7_about 5 = .ok (.aload_n 0, 1) := by decide +kernel
theorem dX7_about_6 : decode cX7_about 6 = .ok (.iload_n 2, 1) := by decide +kernel
theorem dX7_about_7 : decode cX7_about 7 = .ok (.iload_n 2, 1) := by decide +kernel
theorem dX7_about_8 : decode cX7_about 8 = .ok (.ifCond .eq 15, 3) := by decide +kernel
theorem dX7_about_11 : decode cX7_about 11 = .ok (.aload_n 0, 1) := by decide +kernel
theorem dX7_about_12 : decode cX7_about 12 = .ok (.iload_n 1, 1) := by decide +kernel
theorem dX7_about_13 : decode cX7_about 13 = .ok (.invokevirtual 282, 3) := by decide +kernel
theorem dX7_about_16 : decode cX7_about 16 = .ok (.ifCond .eq 7, 3) := by decide +kernel
theorem dX7_about_19 : decode cX7_about 19 = .ok (.iconst 1, 1) := by decide +kernel
theorem dX7_about_20 : decode cX7_about 20 = .ok (.goto 4, 3) := by decide +kernel
theorem dX7_about_23 : decode cX7_about 23 = .ok (.iconst 0, 1) := by decide +kernel
theorem dX7_about_24 : decode cX7_about 24 = .ok (.invokevirtual 187, 3) := by decide +kernel
theorem dX7_about_27 : decode cX7_about 27 = .ok (.ifCond .eq 17, 3) := by decide +kernel
theorem dX7_about_30 : decode cX7_about 30 = .ok (.aload_n 0, 1) := by decide +kernel
theorem dX7_about_31 : decode cX7_about 31 = .ok (.getfield 206, 3) := by decide +kernel
theorem dX7_about_34 : decode cX7_about 34 = .ok (.l2d, 1) := by decide +kernel
theorem dX7_about_35 : decode cX7_about 35 = .ok (.aload_n 0, 1) := by decide +kernel
theorem dX7_about_36 : decode cX7_about 36 = .ok (.getfield 210, 3) := by decide +kernel
theorem dX7_about_39 : decode cX7_about 39 = .ok (.l2d, 1) := by decide +kernel
theorem dX7_about_40 : decode cX7_about 40 = .ok (.ddiv, 1) := by decide +kernel
theorem dX7_about_41 : decode cX7_about 41 = .ok (.goto 4, 3) := by decide +kernel
theorem dX7_about_44 : decode cX7_about 44 = .ok (.dconst 0, 1) := by decide +kernel
theorem dX7_about_45 : decode cX7_about 45 = .ok (.dreturn, 1) := by decide +kernel
theorem dX7_isMetNow_0 : decode cX7_isMetNow 0 = .ok (.aload_n 0, 1) := by decide +kernel
theorem dX7_isMetNow_1 : decode cX7_isMetNow 1 = .ok (.aload_n 0, 1) := by decide +kernel
theorem dX7_isMetNow_2 : decode cX7_isMetNow 2 = .ok (.getfield 7, 3) := by decide +kernel
theorem dX7_isMetNow_5 : decode cX7_isMetNow 5 = .ok (.iconst 3, 1) := by decide +kernel
theorem dX7_isMetNow_6 : decode cX7_isMetNow 6 = .ok (.iload_n 1, 1) := by decide +kernel
theorem dX7_isMetNow_7 : decode cX7_isMetNow 7 = .ok (.iadd, 1) := by decide +kernel
theorem dX7_isMetNow_8 : decode cX7_isMetNow 8 = .ok (.iaload, 1) := by decide +kernel
theorem dX7_isMetNow_9 : decode cX7_isMetNow 9 = .ok (.invokevirtual 282, 3) := by decide +kernel
theorem dX7_isMetNow_12 : decode cX7_isMetNow 12 = .ok (.ifCond .eq 34, 3) := by decide +kernel
theorem dX7_isMetNow_15 : decode cX7_isMetNow 15 = .ok (.aload_n 0, 1) := by decide +kernel
theorem dX7_isMetNow_16 : decode cX7_isMetNow 16 = .ok (.getfield 206, 3) := by decide +kernel
theorem dX7_isMetNow_19 : decode cX7_isMetNow 19 = .ok (.aload_n 0, 1) := by decide +kernel
theorem dX7_isMetNow_20 : decode cX7_isMetNow 20 = .ok (.getfield 7, 3) := by decide +kernel
theorem dX7_isMetNow_23 : decode cX7_isMetNow 23 = .ok (.bipush 8, 2) := by decide +kernel
theorem dX7_isMetNow_25 : decode cX7_isMetNow 25 = .ok (.iload_n 1, 1) := by decide +kernel
theorem dX7_isMetNow_26 : decode cX7_isMetNow 26 = .ok (.iadd, 1) := by decide +kernel
theorem dX7_isMetNow_27 : decode cX7_isMetNow 27 = .ok (.iaload, 1) := by decide +kernel
theorem dX7_isMetNow_28 : decode cX7_isMetNow 28 = .ok (.i2l, 1) := by decide +kernel
theorem dX7_isMetNow_29 : decode cX7_isMetNow 29 = .ok (.lcmp, 1) := by decide +kernel
theorem dX7_isMetNow_30 : decode cX7_isMetNow 30 = .ok (.ifCond .ne 16, 3) := by decide +kernel
theorem dX7_isMetNow_33 : decode cX7_isMetNow 33 = .ok (.aload_n 0, 1) := by decide +kernel
theorem dX7_isMetNow_34 : decode cX7_isMetNow 34 = .ok (.getfield 210, 3) := by decide +kernel
theorem dX7_isMetNow_37 : decode cX7_isMetNow 37 = .ok (.lconst 1, 1) := by decide +kernel
theorem dX7_isMetNow_38 : decode cX7_isMetNow 38 = .ok (.lcmp, 1) := by decide +kernel
theorem dX7_isMetNow_39 : decode cX7_isMetNow 39 = .ok (.ifCond .ne 7, 3) := by decide +kernel
theorem dX7_isMetNow_42 : decode cX7_isMetNow 42 = .ok (.iconst 1, 1) := by decide +kernel
theorem dX7_isMetNow_43 : decode cX7_isMetNow 43 = .ok (.goto 4, 3) := by decide +kernel
theorem dX7_isMetNow_46 : decode cX7_isMetNow 46 = .ok (.iconst 0, 1) := by decide +kernel
theorem dX7_isMetNow_47 : decode cX7_isMetNow 47 = .ok (.ireturn, 1) := by decide +kernel
theorem dX7_isMet_0 : decode cX7_isMet 0 = .ok (.aload_n 0, 1) := by decide +kernel
theorem dX7_isMet_1 : decode cX7_isMet 1 = .ok (.aload_n 0, 1) := by decide +kernel
theorem dX7_isMet_2 : decode cX7_isMet 2 = .ok (.iload_n 1, 1) := by decide +kernel
theorem dX7_isMet_3 : decode cX7_isMet 3 = .ok (.invokevirtual 182, 3) := by decide +kernel
theorem dX7_isMet_6 : decode cX7_isMet 6 = .ok (.invokevirtual 163, 3) := by decide +kernel
theorem dX7_isMet_9 : decode cX7_isMet 9 = .ok (.ifCond .eq 15, 3) := by decide +kernel
theorem dX7_isMet_12 : decode cX7_isMet 12 = .ok (.aload_n 0, 1) := by decide +kernel
theorem dX7_isMet_13 : decode cX7_isMet 13 = .ok (.iload_n 1, 1) := by decide +kernel
theorem dX7_isMet_14 : decode cX7_isMet 14 = .ok (.invokevirtual 287, 3) := by decide +kernel
theorem dX7_isMet_17 : decode cX7_isMet 17 = .ok (.ifCond .eq 7, 3) := by decide +kernel
theorem dX7_isMet_20 : decode cX7_isMet 20 = .ok (.iconst 1, 1) := by decide +kernel
theorem dX7_isMet_21 : decode cX7_isMet 21 = .ok (.goto 4, 3) := by decide +kernel
theorem dX7_isMet_24 : decode cX7_isMet 24 = .ok (.iconst 0, 1) := by decide +kernel
theorem dX7_isMet_25 : decode cX7_isMet 25 = .ok (.ireturn, 1) := by decide +kernel
theorem dX7_missed_0 : decode cX7_missed 0 = .ok (.aload_n 0, 1) := by decide +kernel
theorem dX7_missed_1 : decode cX7_missed 1 = .ok (.iconst 0, 1) := by decide +kernel
theorem dX7_missed_2 : decode cX7_missed 2 = .ok (.putfield 42, 3) := by decide +kernel
theorem dX7_missed_5 : decode cX7_missed 5 = .ok (.iconst 0, 1) := by decide +kernel
theorem dX7_missed_6 : decode cX7_missed 6 = .ok (.istore_n 1, 1) := by decide +kernel
theorem dX7_missed_7 : decode cX7_missed 7 = .ok (.iconst 0, 1) := by decide +kernel
theorem dX7_missed_8 : decode cX7_missed 8 = .ok (.istore_n 2, 1) := by decide +kernel
theorem dX7_missed_9 : decode cX7_missed 9 = .ok (.iload_n 2, 1) := by decide +kernel
theorem dX7_missed_10 : decode cX7_missed 10 = .ok (.aload_n 0, 1) := by decide +kernel
theorem dX7_missed_11 : decode cX7_missed 11 = .ok (.getfield 7, 3) := by decide +kernel
theorem dX7_missed_14 : decode cX7_missed 14 = .ok (.iconst 2, 1) := by decide +kernel
theorem dX7_missed_15 : decode cX7_missed 15 = .ok (.iaload, 1) := by decide +kernel
theorem dX7_missed_16 : decode cX7_missed 16 = .ok (.if_icmp .ge 20, 3) := by decide +kernel
theorem dX7_missed_19 : decode cX7_missed 19 = .ok (.aload_n 0, 1) := by decide +kernel
theorem dX7_missed_20 : decode cX7_missed 20 = .ok (.iload_n 2, 1) := by decide +kernel
theorem dX7_missed_21 : decode cX7_missed 21 = .ok (.invokevirtual 287, 3) := by decide +kernel
theorem dX7_missed_24 : decode cX7_missed 24 = .ok (.ifCond .ne 6, 3) := by decide +kernel
theorem dX7_missed_27 : decode cX7_missed 27 = .ok (.iinc 1 1, 3) := by decide +kernel
theorem dX7_missed_30 : decode cX7_missed 30 = .ok (.iinc 2 1, 3) := by decide +kernel
theorem dX7_missed_33 : decode cX7_missed 33 = .ok (.goto (-24), 3) := by decide +kernel
theorem dX7_missed_36 : decode cX7_missed 36 = .ok (.iload_n 1, 1) := by decide +kernel
theorem dX7_missed_37 : decode cX7_missed 37 = .ok (.ireturn, 1) := by decide +kernel
theorem dX7_many_0 : decode cX7_many 0 = .ok (.aload_n 0, 1) := by decide +kernel
theorem dX7_many_1 : decode cX7_many 1 = .ok (.iconst 0, 1) := by decide +kernel
theorem dX7_many_2 : decode cX7_many 2 = .ok (.putfield 42, 3) := by decide +kernel
theorem dX7_many_5 : decode cX7_many 5 = .ok (.aload_n 0, 1) := by decide +kernel
theorem dX7_many_6 : decode cX7_many 6 = .ok (.invokevirtual 243, 3) := by decide +kernel
theorem dX7_many_9 : decode cX7_many 9 = .ok (.iconst 0, 1) := by decide +kernel
theorem dX7_many_10 : decode cX7_many 10 = .ok (.istore_n 2, 1) := by decide +kernel
theorem dX7_many_11 : decode cX7_many 11 = .ok (.bipush (-12), 2) := by decide +kernel
theorem dX7_many_13 : decode cX7_many 13 = .ok (.istore_n 3, 1) := by decide +kernel
theorem dX7_many_14 : decode cX7_many 14 = .ok (.iload_n 3, 1) := by decide +kernel
theorem dX7_many_15 : decode cX7_many 15 = .ok (.bipush 12, 2) := by decide +kernel
theorem dX7_many_17 : decode cX7_many 17 = .ok (.if_icmp .gt 21, 3) := by decide +kernel
theorem dX7_many_20 : decode cX7_many 20 = .ok (.aload_n 0, 1) := by decide +kernel
theorem dX7_many_21 : decode cX7_many 21 = .ok (.iload_n 3, 1) := by decide +kernel
theorem dX7_many_22 : decode cX7_many 22 = .ok (.invokevirtual 276, 3) := by decide +kernel
theorem dX7_many_25 : decode cX7_many 25 = .ok (.iload_n 1, 1) := by decide +kernel
theorem dX7_many_26 : decode cX7_many 26 = .ok (.if_icmp .ne 6, 3) := by decide +kernel
theorem dX7_many_29 : decode cX7_many 29 = .ok (.iinc 2 1, 3) := by decide +kernel
theorem dX7_many_32 : decode cX7_many 32 = .ok (.iinc 3 1, 3) := by decide +kernel
theorem dX7_many_35 : decode cX7_many 35 = .ok (.goto (-21), 3) := by decide +kernel
theorem dX7_many_38 : decode cX7_many 38 = .ok (.iload_n 2, 1) := by decide +kernel
theorem dX7_many_39 : decode cX7_many 39 = .ok (.ireturn, 1) := by decide +kernel
theorem dX7_isHiddenBehind_0 : decode cX7_isHiddenBehind 0 = .ok (.aload_n 0, 1) := by decide +kernel
theorem dX7_isHiddenBehind_1 : decode cX7_isHiddenBehind 1 = .ok (.iconst 1, 1) := by decide +kernel
theorem dX7_isHiddenBehind_2 : decode cX7_isHiddenBehind 2 = .ok (.iload_n 1, 1) := by decide +kernel
theorem dX7_isHiddenBehind_3 : decode cX7_isHiddenBehind 3 = .ok (.invokevirtual 265, 3) := by decide +kernel
theorem dX7_isHiddenBehind_6 : decode cX7_isHiddenBehind 6 = .ok (.lstore_n 2, 1) := by decide +kernel
theorem dX7_isHiddenBehind_7 : decode cX7_isHiddenBehind 7 = .ok (.aload_n 0, 1) := by decide +kernel
theorem dX7_isHiddenBehind_8 : decode cX7_isHiddenBehind 8 = .ok (.iconst 1, 1) := by decide +kernel
theorem dX7_isHiddenBehind_9 : decode cX7_isHiddenBehind 9 = .ok (.iload_n 1, 1) := by decide +kernel
theorem dX7_isHiddenBehind_10 : decode cX7_isHiddenBehind 10 = .ok (.iconst 1, 1) := by decide +kernel
theorem dX7_isHiddenBehind_11 : decode cX7_isHiddenBehind 11 = .ok (.iadd, 1) := by decide +kernel
theorem dX7_isHiddenBehind_12 : decode cX7_isHiddenBehind 12 = .ok (.invokevirtual 265, 3) := by decide +kernel
theorem dX7_isHiddenBehind_15 : decode cX7_isHiddenBehind 15 = .ok (.lstore 4, 2) := by decide +kernel
theorem dX7_isHiddenBehind_17 : decode cX7_isHiddenBehind 17 = .ok (.lload_n 2, 1) := by decide +kernel
theorem dX7_isHiddenBehind_18 : decode cX7_isHiddenBehind 18 = .ok (.lconst 0, 1) := by decide +kernel
theorem dX7_isHiddenBehind_19 : decode cX7_isHiddenBehind 19 = .ok (.lcmp, 1) := by decide +kernel
theorem dX7_isHiddenBehind_20 : decode cX7_isHiddenBehind 20 = .ok (.ifCond .le 10, 3) := by decide +kernel
theorem dX7_isHiddenBehind_23 : decode cX7_isHiddenBehind 23 = .ok (.lload 4, 2) := by decide +kernel
theorem dX7_isHiddenBehind_25 : decode cX7_isHiddenBehind 25 = .ok (.lconst 0, 1) := by decide +kernel
theorem dX7_isHiddenBehind_26 : decode cX7_isHiddenBehind 26 = .ok (.lcmp, 1) := by decide +kernel
theorem dX7_isHiddenBehind_27 : decode cX7_isHiddenBehind 27 = .ok (.ifCond .lt 16, 3) := by decide +kernel
theorem dX7_isHiddenBehind_30 : decode cX7_isHiddenBehind 30 = .ok (.lload_n 2, 1) := by decide +kernel
theorem dX7_isHiddenBehind_31 : decode cX7_isHiddenBehind 31 = .ok (.lconst 0, 1) := by decide +kernel
theorem dX7_isHiddenBehind_32 : decode cX7_isHiddenBehind 32 = .ok (.lcmp, 1) := by decide +kernel
theorem dX7_isHiddenBehind_33 : decode cX7_isHiddenBehind 33 = .ok (.ifCond .ge 14, 3) := by decide +kernel
theorem dX7_isHiddenBehind_36 : decode cX7_isHiddenBehind 36 = .ok (.lload 4, 2) := by decide +kernel
theorem dX7_isHiddenBehind_38 : decode cX7_isHiddenBehind 38 = .ok (.lconst 0, 1) := by decide +kernel
theorem dX7_isHiddenBehind_39 : decode cX7_isHiddenBehind 39 = .ok (.lcmp, 1) := by decide +kernel
theorem dX7_isHiddenBehind_40 : decode cX7_isHiddenBehind 40 = .ok (.ifCond .le 7, 3) := by decide +kernel
theorem dX7_isHiddenBehind_43 : decode cX7_isHiddenBehind 43 = .ok (.iconst 1, 1) := by decide +kernel
theorem dX7_isHiddenBehind_44 : decode cX7_isHiddenBehind 44 = .ok (.goto 4, 3) := by decide +kernel
theorem dX7_isHiddenBehind_47 : decode cX7_isHiddenBehind 47 = .ok (.iconst 0, 1) := by decide +kernel
theorem dX7_isHiddenBehind_48 : decode cX7_isHiddenBehind 48 = .ok (.ireturn, 1) := by decide +kernel
theorem dX7_hiddenPoles_0 : decode cX7_hiddenPoles 0 = .ok (.aload_n 0, 1) := by decide +kernel
theorem dX7_hiddenPoles_1 : decode cX7_hiddenPoles 1 = .ok (.iconst 0, 1) := by decide +kernel
theorem dX7_hiddenPoles_2 : decode cX7_hiddenPoles 2 = .ok (.putfield 42, 3) := by decide +kernel
theorem dX7_hiddenPoles_5 : decode cX7_hiddenPoles 5 = .ok (.aload_n 0, 1) := by decide +kernel
theorem dX7_hiddenPoles_6 : decode cX7_hiddenPoles 6 = .ok (.invokevirtual 243, 3) := by decide +kernel
theorem dX7_hiddenPoles_9 : decode cX7_hiddenPoles 9 = .ok (.iconst 0, 1) := by decide +kernel
theorem dX7_hiddenPoles_10 : decode cX7_hiddenPoles 10 = .ok (.istore_n 1, 1) := by decide +kernel
theorem dX7_hiddenPoles_11 : decode cX7_hiddenPoles 11 = .ok (.bipush (-12), 2) := by decide +kernel
theorem dX7_hiddenPoles_13 : decode cX7_hiddenPoles 13 = .ok (.istore_n 2, 1) := by decide +kernel
theorem dX7_hiddenPoles_14 : decode cX7_hiddenPoles 14 = .ok (.iload_n 2, 1) := by decide +kernel
theorem dX7_hiddenPoles_15 : decode cX7_hiddenPoles 15 = .ok (.bipush 12, 2) := by decide +kernel
theorem dX7_hiddenPoles_17 : decode cX7_hiddenPoles 17 = .ok (.if_icmp .ge 20, 3) := by decide +kernel
theorem dX7_hiddenPoles_20 : decode cX7_hiddenPoles 20 = .ok (.aload_n 0, 1) := by decide +kernel
theorem dX7_hiddenPoles_21 : decode cX7_hiddenPoles 21 = .ok (.iload_n 2, 1) := by decide +kernel
theorem dX7_hiddenPoles_22 : decode cX7_hiddenPoles 22 = .ok (.invokevirtual 290, 3) := by decide +kernel
theorem dX7_hiddenPoles_25 : decode cX7_hiddenPoles 25 = .ok (.ifCond .eq 6, 3) := by decide +kernel
theorem dX7_hiddenPoles_28 : decode cX7_hiddenPoles 28 = .ok (.iinc 1 1, 3) := by decide +kernel
theorem dX7_hiddenPoles_31 : decode cX7_hiddenPoles 31 = .ok (.iinc 2 1, 3) := by decide +kernel
theorem dX7_hiddenPoles_34 : decode cX7_hiddenPoles 34 = .ok (.goto (-20), 3) := by decide +kernel
theorem dX7_hiddenPoles_37 : decode cX7_hiddenPoles 37 = .ok (.iload_n 1, 1) := by decide +kernel
theorem dX7_hiddenPoles_38 : decode cX7_hiddenPoles 38 = .ok (.ireturn, 1) := by decide +kernel
theorem dX7_poleFrom_0 : decode cX7_poleFrom 0 = .ok (.aload_n 0, 1) := by decide +kernel
theorem dX7_poleFrom_1 : decode cX7_poleFrom 1 = .ok (.invokevirtual 243, 3) := by decide +kernel
theorem dX7_poleFrom_4 : decode cX7_poleFrom 4 = .ok (.iload_n 1, 1) := by decide +kernel
theorem dX7_poleFrom_5 : decode cX7_poleFrom 5 = .ok (.istore_n 2, 1) := by decide +kernel
theorem dX7_poleFrom_6 : decode cX7_poleFrom 6 = .ok (.iload_n 2, 1) := by decide +kernel
theorem dX7_poleFrom_7 : decode cX7_poleFrom 7 = .ok (.bipush 12, 2) := by decide +kernel
theorem dX7_poleFrom_9 : decode cX7_poleFrom 9 = .ok (.if_icmp .gt 34, 3) := by decide +kernel
theorem dX7_poleFrom_12 : decode cX7_poleFrom 12 = .ok (.aload_n 0, 1) := by decide +kernel
theorem dX7_poleFrom_13 : decode cX7_poleFrom 13 = .ok (.iload_n 2, 1) := by decide +kernel
theorem dX7_poleFrom_14 : decode cX7_poleFrom 14 = .ok (.invokevirtual 276, 3) := by decide +kernel
theorem dX7_poleFrom_17 : decode cX7_poleFrom 17 = .ok (.iconst 2, 1) := by decide +kernel
theorem dX7_poleFrom_18 : decode cX7_poleFrom 18 = .ok (.if_icmp .eq 17, 3) := by decide +kernel
theorem dX7_poleFrom_21 : decode cX7_poleFrom 21 = .ok (.iload_n 2, 1) := by decide +kernel
theorem dX7_poleFrom_22 : decode cX7_poleFrom 22 = .ok (.bipush 12, 2) := by decide +kernel
theorem dX7_poleFrom_24 : decode cX7_poleFrom 24 = .ok (.if_icmp .ge 13, 3) := by decide +kernel
theorem dX7_poleFrom_27 : decode cX7_poleFrom 27 = .ok (.aload_n 0, 1) := by decide +kernel
theorem dX7_poleFrom_28 : decode cX7_poleFrom 28 = .ok (.iload_n 2, 1) := by decide +kernel
theorem dX7_poleFrom_29 : decode cX7_poleFrom 29 = .ok (.invokevirtual 290, 3) := by decide +kernel
theorem dX7_poleFrom_32 : decode cX7_poleFrom 32 = .ok (.ifCond .eq 5, 3) := by decide +kernel
theorem dX7_poleFrom_35 : decode cX7_poleFrom 35 = .ok (.iload_n 2, 1) := by decide +kernel
theorem dX7_poleFrom_36 : decode cX7_poleFrom 36 = .ok (.ireturn, 1) := by decide +kernel
theorem dX7_poleFrom_37 : decode cX7_poleFrom 37 = .ok (.iinc 2 1, 3) := by decide +kernel
theorem dX7_poleFrom_40 : decode cX7_poleFrom 40 = .ok (.goto (-34), 3) := by decide +kernel
theorem dX7_poleFrom_43 : decode cX7_poleFrom 43 = .ok (.bipush 13, 2) := by decide +kernel
theorem dX7_poleFrom_45 : decode cX7_poleFrom 45 = .ok (.ireturn, 1) := by decide +kernel
theorem dX7_nextPole_0 : decode cX7_nextPole 0 = .ok (.iload_n 1, 1) := by decide +kernel
theorem dX7_nextPole_1 : decode cX7_nextPole 1 = .ok (.invokestatic 193, 3) := by decide +kernel
theorem dX7_nextPole_4 : decode cX7_nextPole 4 = .ok (.istore_n 2, 1) := by decide +kernel
theorem dX7_nextPole_5 : decode cX7_nextPole 5 = .ok (.iload_n 2, 1) := by decide +kernel
theorem dX7_nextPole_6 : decode cX7_nextPole 6 = .ok (.ifCond .eq 11, 3) := by decide +kernel
theorem dX7_nextPole_9 : decode cX7_nextPole 9 = .ok (.aload_n 0, 1) := by decide +kernel
theorem dX7_nextPole_10 : decode cX7_nextPole 10 = .ok (.iload_n 1, 1) := by decide +kernel
theorem dX7_nextPole_11 : decode cX7_nextPole 11 = .ok (.invokevirtual 293, 3) := by decide +kernel
theorem dX7_nextPole_14 : decode cX7_nextPole 14 = .ok (.goto 4, 3) := by decide +kernel
theorem dX7_nextPole_17 : decode cX7_nextPole 17 = .ok (.iconst 0, 1) := by decide +kernel
theorem dX7_nextPole_18 : decode cX7_nextPole 18 = .ok (.istore_n 3, 1) := by decide +kernel
theorem dX7_nextPole_19 : decode cX7_nextPole 19 = .ok (.aload_n 0, 1) := by decide +kernel
theorem dX7_nextPole_20 : decode cX7_nextPole 20 = .ok (.iload_n 2, 1) := by decide +kernel
theorem dX7_nextPole_21 : decode cX7_nextPole 21 = .ok (.iload_n 3, 1) := by decide +kernel
theorem dX7_nextPole_22 : decode cX7_nextPole 22 = .ok (.bipush 12, 2) := by decide +kernel
theorem dX7_nextPole_24 : decode cX7_nextPole 24 = .ok (.if_icmp .gt 7, 3) := by decide +kernel
theorem dX7_nextPole_27 : decode cX7_nextPole 27 = .ok (.iconst 1, 1) := by decide +kernel
theorem dX7_nextPole_28 : decode cX7_nextPole 28 = .ok (.goto 4, 3) := by decide +kernel
theorem dX7_nextPole_31 : decode cX7_nextPole 31 = .ok (.iconst 0, 1) := by decide +kernel
theorem dX7_nextPole_32 : decode cX7_nextPole 32 = .ok (.invokevirtual 187, 3) := by decide +kernel
theorem dX7_nextPole_35 : decode cX7_nextPole 35 = .ok (.ifCond .eq 7, 3) := by decide +kernel
theorem dX7_nextPole_38 : decode cX7_nextPole 38 = .ok (.iload_n 3, 1) := by decide +kernel
theorem dX7_nextPole_39 : decode cX7_nextPole 39 = .ok (.goto 4, 3) := by decide +kernel
theorem dX7_nextPole_42 : decode cX7_nextPole 42 = .ok (.iconst 0, 1) := by decide +kernel
theorem dX7_nextPole_43 : decode cX7_nextPole 43 = .ok (.ireturn, 1) := by decide +kernel
theorem dX7_extreme_0 : decode cX7_extreme 0 = .ok (.aload_n 0, 1) := by decide +kernel
theorem dX7_extreme_1 : decode cX7_extreme 1 = .ok (.invokevirtual 243, 3) := by decide +kernel
theorem dX7_extreme_4 : decode cX7_extreme 4 = .ok (.bipush 13, 2) := by decide +kernel
theorem dX7_extreme_6 : decode cX7_extreme 6 = .ok (.istore_n 2, 1) := by decide +kernel
theorem dX7_extreme_7 : decode cX7_extreme 7 = .ok (.lconst 0, 1) := by decide +kernel
theorem dX7_extreme_8 : decode cX7_extreme 8 = .ok (.lstore_n 3, 1) := by decide +kernel
theorem dX7_extreme_9 : decode cX7_extreme 9 = .ok (.lconst 1, 1) := by decide +kernel
theorem dX7_extreme_10 : decode cX7_extreme 10 = .ok (.lstore 5, 2) := by decide +kernel
theorem dX7_extreme_12 : decode cX7_extreme 12 = .ok (.bipush (-12), 2) := by decide +kernel
theorem dX7_extreme_14 : decode cX7_extreme 14 = .ok (.istore 7, 2) := by decide +kernel
theorem dX7_extreme_16 : decode cX7_extreme 16 = .ok (.iload 7, 2) := by decide +kernel
theorem dX7_extreme_18 : decode cX7_extreme 18 = .ok (.bipush 12, 2) := by decide +kernel
theorem dX7_extreme_20 : decode cX7_extreme 20 = .ok (.if_icmp .gt 83, 3) := by decide +kernel
theorem dX7_extreme_23 : decode cX7_extreme 23 = .ok (.aload_n 0, 1) := by decide +kernel
theorem dX7_extreme_24 : decode cX7_extreme 24 = .ok (.iload 7, 2) := by decide +kernel
theorem dX7_extreme_26 : decode cX7_extreme 26 = .ok (.invokevirtual 276, 3) := by decide +kernel
theorem dX7_extreme_29 : decode cX7_extreme 29 = .ok (.iconst 1, 1) := by decide +kernel
theorem dX7_extreme_30 : decode cX7_extreme 30 = .ok (.if_icmp .le 6, 3) := by decide +kernel
theorem dX7_extreme_33 : decode cX7_extreme 33 = .ok (.goto 64, 3) := by decide +kernel
theorem dX7_extreme_36 : decode cX7_extreme 36 = .ok (.iload_n 2, 1) := by decide +kernel
theorem dX7_extreme_37 : decode cX7_extreme 37 = .ok (.bipush 12, 2) := by decide +kernel
theorem dX7_extreme_39 : decode cX7_extreme 39 = .ok (.if_icmp .gt 44, 3) := by decide +kernel
theorem dX7_extreme_42 : decode cX7_extreme 42 = .ok (.iload_n 1, 1) := by decide +kernel
theorem dX7_extreme_43 : decode cX7_extreme 43 = .ok (.ifCond .eq 23, 3) := by decide +kernel
theorem dX7_extreme_46 : decode cX7_extreme 46 = .ok (.aload_n 0, 1) := by decide +kernel
theorem dX7_extreme_47 : decode cX7_extreme 47 = .ok (.getfield 206, 3) := by decide +kernel
theorem dX7_extreme_50 : decode cX7_extreme 50 = .ok (.aload_n 0, 1) := by decide +kernel
theorem dX7_extreme_51 : decode cX7_extreme 51 = .ok (.getfield 210, 3) := by decide +kernel
theorem dX7_extreme_54 : decode cX7_extreme 54 = .ok (.lload_n 3, 1) := by decide +kernel
theorem dX7_extreme_55 : decode cX7_extreme 55 = .ok (.lload 5, 2) := by decide +kernel
theorem dX7_extreme_57 : decode cX7_extreme 57 = .ok (.invokestatic 296, 3) := by decide +kernel
theorem dX7_extreme_60 : decode cX7_extreme 60 = .ok (.ifCond .eq 37, 3) := by decide +kernel
theorem dX7_extreme_63 : decode cX7_extreme 63 = .ok (.goto 20, 3) := by decide +kernel
theorem dX7_extreme_66 : decode cX7_extreme 66 = .ok (.lload_n 3, 1) := by decide +kernel
theorem dX7_extreme_67 : decode cX7_extreme 67 = .ok (.lload 5, 2) := by decide +kernel
theorem dX7_extreme_69 : decode cX7_extreme 69 = .ok (.aload_n 0, 1) := by decide +kernel
theorem dX7_extreme_70 : decode cX7_extreme 70 = .ok (.getfield 206, 3) := by decide +kernel
theorem dX7_extreme_73 : decode cX7_extreme 73 = .ok (.aload_n 0, 1) := by decide +kernel
theorem dX7_extreme_74 : decode cX7_extreme 74 = .ok (.getfield 210, 3) := by decide +kernel
theorem dX7_extreme_77 : decode cX7_extreme 77 = .ok (.invokestatic 296, 3) := by decide +kernel
theorem dX7_extreme_80 : decode cX7_extreme 80 = .ok (.ifCond .eq 17, 3) := by decide +kernel
theorem dX7_extreme_83 : decode cX7_extreme 83 = .ok (.iload 7, 2) := by decide +kernel
theorem dX7_extreme_85 : decode cX7_extreme 85 = .ok (.istore_n 2, 1) := by decide +kernel
theorem dX7_extreme_86 : decode cX7_extreme 86 = .ok (.aload_n 0, 1) := by decide +kernel
theorem dX7_extreme_87 : decode cX7_extreme 87 = .ok (.getfield 206, 3) := by decide +kernel
theorem dX7_extreme_90 : decode cX7_extreme 90 = .ok (.lstore_n 3, 1) := by decide +kernel
theorem dX7_extreme_91 : decode cX7_extreme 91 = .ok (.aload_n 0, 1) := by decide +kernel
theorem dX7_extreme_92 : decode cX7_extreme 92 = .ok (.getfield 210, 3) := by decide +kernel
theorem dX7_extreme_95 : decode cX7_extreme 95 = .ok (.lstore 5, 2) := by decide +kernel
theorem dX7_extreme_97 : decode cX7_extreme 97 = .ok (.iinc 7 1, 3) := by decide +kernel
theorem dX7_extreme_100 : decode cX7_extreme 100 = .ok (.goto (-84), 3) := by decide +kernel
theorem dX7_extreme_103 : decode cX7_extreme 103 = .ok (.aload_n 0, 1) := by decide +kernel
theorem dX7_extreme_104 : decode cX7_extreme 104 = .ok (.iload_n 2, 1) := by decide +kernel
theorem dX7_extreme_105 : decode cX7_extreme 105 = .ok (.bipush 12, 2) := by decide +kernel
theorem dX7_extreme_107 : decode cX7_extreme 107 = .ok (.if_icmp .gt 7, 3) := by decide +kernel
theorem dX7_extreme_110 : decode cX7_extreme 110 = .ok (.iconst 1, 1) := by decide +kernel
theorem dX7_extreme_111 : decode cX7_extreme 111 = .ok (.goto 4, 3) := by decide +kernel
theorem dX7_extreme_114 : decode cX7_extreme 114 = .ok (.iconst 0, 1) := by decide +kernel
theorem dX7_extreme_115 : decode cX7_extreme 115 = .ok (.invokevirtual 163, 3) := by decide +kernel
theorem dX7_extreme_118 : decode cX7_extreme 118 = .ok (.ifCond .eq 7, 3) := by decide +kernel
theorem dX7_extreme_121 : decode cX7_extreme 121 = .ok (.iload_n 2, 1) := by decide +kernel
theorem dX7_extreme_122 : decode cX7_extreme 122 = .ok (.goto 4, 3) := by decide +kernel
theorem dX7_extreme_125 : decode cX7_extreme 125 = .ok (.iconst 0, 1) := by decide +kernel
theorem dX7_extreme_126 : decode cX7_extreme 126 = .ok (.ireturn, 1) := by decide +kernel
theorem dX7_laysRow_0 : decode cX7_laysRow 0 = .ok (.iload_n 1, 1) := by decide +kernel
theorem dX7_laysRow_1 : decode cX7_laysRow 1 = .ok (.iload_n 2, 1) := by decide +kernel
theorem dX7_laysRow_2 : decode cX7_laysRow 2 = .ok (.if_icmp .eq 39, 3) := by decide +kernel
theorem dX7_laysRow_5 : decode cX7_laysRow 5 = .ok (.aload_n 0, 1) := by decide +kernel
theorem dX7_laysRow_6 : decode cX7_laysRow 6 = .ok (.aload_n 0, 1) := by decide +kernel
theorem dX7_laysRow_7 : decode cX7_laysRow 7 = .ok (.getfield 26, 3) := by decide +kernel
theorem dX7_laysRow_10 : decode cX7_laysRow 10 = .ok (.iload_n 2, 1) := by decide +kernel
theorem dX7_laysRow_11 : decode cX7_laysRow 11 = .ok (.laload, 1) := by decide +kernel
theorem dX7_laysRow_12 : decode cX7_laysRow 12 = .ok (.aload_n 0, 1) := by decide +kernel
theorem dX7_laysRow_13 : decode cX7_laysRow 13 = .ok (.getfield 26, 3) := by decide +kernel
theorem dX7_laysRow_16 : decode cX7_laysRow 16 = .ok (.iload_n 1, 1) := by decide +kernel
theorem dX7_laysRow_17 : decode cX7_laysRow 17 = .ok (.laload, 1) := by decide +kernel
theorem dX7_laysRow_18 : decode cX7_laysRow 18 = .ok (.aload_n 0, 1) := by decide +kernel
theorem dX7_laysRow_19 : decode cX7_laysRow 19 = .ok (.getfield 7, 3) := by decide +kernel
theorem dX7_laysRow_22 : decode cX7_laysRow 22 = .ok (.iconst 3, 1) := by decide +kernel
theorem dX7_laysRow_23 : decode cX7_laysRow 23 = .ok (.iload_n 1, 1) := by decide +kernel
theorem dX7_laysRow_24 : decode cX7_laysRow 24 = .ok (.iadd, 1) := by decide +kernel
theorem dX7_laysRow_25 : decode cX7_laysRow 25 = .ok (.iaload, 1) := by decide +kernel
theorem dX7_laysRow_26 : decode cX7_laysRow 26 = .ok (.aload_n 0, 1) := by decide +kernel
theorem dX7_laysRow_27 : decode cX7_laysRow 27 = .ok (.getfield 7, 3) := by decide +kernel
theorem dX7_laysRow_30 : decode cX7_laysRow 30 = .ok (.iconst 3, 1) := by decide +kernel
theorem dX7_laysRow_31 : decode cX7_laysRow 31 = .ok (.iload_n 2, 1) := by decide +kernel
theorem dX7_laysRow_32 : decode cX7_laysRow 32 = .ok (.iadd, 1) := by decide +kernel
theorem dX7_laysRow_33 : decode cX7_laysRow 33 = .ok (.iaload, 1) := by decide +kernel
theorem dX7_laysRow_34 : decode cX7_laysRow 34 = .ok (.isub, 1) := by decide +kernel
theorem dX7_laysRow_35 : decode cX7_laysRow 35 = .ok (.i2l, 1) := by decide +kernel
theorem dX7_laysRow_36 : decode cX7_laysRow 36 = .ok (.lmul, 1) := by decide +kernel
theorem dX7_laysRow_37 : decode cX7_laysRow 37 = .ok (.invokevirtual 269, 3) := by decide +kernel
theorem dX7_laysRow_40 : decode cX7_laysRow 40 = .ok (.return_, 1) := by decide +kernel
theorem dX7_laysRow_41 : decode cX7_laysRow 41 = .ok (.aload_n 0, 1) := by decide +kernel
theorem dX7_laysRow_42 : decode cX7_laysRow 42 = .ok (.iload_n 1, 1) := by decide +kernel
theorem dX7_laysRow_43 : decode cX7_laysRow 43 = .ok (.iconst 0, 1) := by decide +kernel
theorem dX7_laysRow_44 : decode cX7_laysRow 44 = .ok (.invokevirtual 300, 3) := by decide +kernel
theorem dX7_laysRow_47 : decode cX7_laysRow 47 = .ok (.aload_n 0, 1) := by decide +kernel
theorem dX7_laysRow_48 : decode cX7_laysRow 48 = .ok (.aload_n 0, 1) := by decide +kernel
theorem dX7_laysRow_49 : decode cX7_laysRow 49 = .ok (.getfield 206, 3) := by decide +kernel
theorem dX7_laysRow_52 : decode cX7_laysRow 52 = .ok (.lneg, 1) := by decide +kernel
theorem dX7_laysRow_53 : decode cX7_laysRow 53 = .ok (.putfield 206, 3) := by decide +kernel
theorem dX7_laysRow_56 : decode cX7_laysRow 56 = .ok (.return_, 1) := by decide +kernel
theorem dX7_laysOthers_0 : decode cX7_laysOthers 0 = .ok (.lconst 1, 1) := by decide +kernel
theorem dX7_laysOthers_1 : decode cX7_laysOthers 1 = .ok (.lstore_n 3, 1) := by decide +kernel
theorem dX7_laysOthers_2 : decode cX7_laysOthers 2 = .ok (.iconst 0, 1) := by decide +kernel
theorem dX7_laysOthers_3 : decode cX7_laysOthers 3 = .ok (.istore 5, 2) := by decide +kernel
theorem dX7_laysOthers_5 : decode cX7_laysOthers 5 = .ok (.iload 5, 2) := by decide +kernel
theorem dX7_laysOthers_7 : decode cX7_laysOthers 7 = .ok (.aload_n 0, 1) := by decide +kernel
theorem dX7_laysOthers_8 : decode cX7_laysOthers 8 = .ok (.getfield 7, 3) := by decide +kernel
theorem dX7_laysOthers_11 : decode cX7_laysOthers 11 = .ok (.iconst 2, 1) := by decide +kernel
theorem dX7_laysOthers_12 : decode cX7_laysOthers 12 = .ok (.iaload, 1) := by decide +kernel
theorem dX7_laysOthers_13 : decode cX7_laysOthers 13 = .ok (.if_icmp .ge 41, 3) := by decide +kernel
theorem dX7_laysOthers_16 : decode cX7_laysOthers 16 = .ok (.lload_n 3, 1) := by decide +kernel
theorem dX7_laysOthers_17 : decode cX7_laysOthers 17 = .ok (.iload 5, 2) := by decide +kernel
theorem dX7_laysOthers_19 : decode cX7_laysOthers 19 = .ok (.iload_n 1, 1) := by decide +kernel
theorem dX7_laysOthers_20 : decode cX7_laysOthers 20 = .ok (.if_icmp .ne 7, 3) := by decide +kernel
theorem dX7_laysOthers_23 : decode cX7_laysOthers 23 = .ok (.lconst 1, 1) := by decide +kernel
theorem dX7_laysOthers_24 : decode cX7_laysOthers 24 = .ok (.goto 22, 3) := by decide +kernel
theorem dX7_laysOthers_27 : decode cX7_laysOthers 27 = .ok (.aload_n 0, 1) := by decide +kernel
theorem dX7_laysOthers_28 : decode cX7_laysOthers 28 = .ok (.getfield 7, 3) := by decide +kernel
theorem dX7_laysOthers_31 : decode cX7_laysOthers 31 = .ok (.iconst 3, 1) := by decide +kernel
theorem dX7_laysOthers_32 : decode cX7_laysOthers 32 = .ok (.iload_n 1, 1) := by decide +kernel
theorem dX7_laysOthers_33 : decode cX7_laysOthers 33 = .ok (.iadd, 1) := by decide +kernel
theorem dX7_laysOthers_34 : decode cX7_laysOthers 34 = .ok (.iaload, 1) := by decide +kernel
theorem dX7_laysOthers_35 : decode cX7_laysOthers 35 = .ok (.aload_n 0, 1) := by decide +kernel
theorem dX7_laysOthers_36 : decode cX7_laysOthers 36 = .ok (.getfield 7, 3) := by decide +kernel
theorem dX7_laysOthers_39 : decode cX7_laysOthers 39 = .ok (.iconst 3, 1) := by decide +kernel
theorem dX7_laysOthers_40 : decode cX7_laysOthers 40 = .ok (.iload 5, 2) := by decide +kernel
theorem dX7_laysOthers_42 : decode cX7_laysOthers 42 = .ok (.iadd, 1) := by decide +kernel
theorem dX7_laysOthers_43 : decode cX7_laysOthers 43 = .ok (.iaload, 1) := by decide +kernel
theorem dX7_laysOthers_44 : decode cX7_laysOthers 44 = .ok (.isub, 1) := by decide +kernel
theorem dX7_laysOthers_45 : decode cX7_laysOthers 45 = .ok (.i2l, 1) := by decide +kernel
theorem dX7_laysOthers_46 : decode cX7_laysOthers 46 = .ok (.lmul, 1) := by decide +kernel
theorem dX7_laysOthers_47 : decode cX7_laysOthers 47 = .ok (.lstore_n 3, 1) := by decide +kernel
theorem dX7_laysOthers_48 : decode cX7_laysOthers 48 = .ok (.iinc 5 1, 3) := by decide +kernel
theorem dX7_laysOthers_51 : decode cX7_laysOthers 51 = .ok (.goto (-46), 3) := by decide +kernel
theorem dX7_laysOthers_54 : decode cX7_laysOthers 54 = .ok (.lconst 0, 1) := by decide +kernel
theorem dX7_laysOthers_55 : decode cX7_laysOthers 55 = .ok (.lstore 5, 2) := by decide +kernel
theorem dX7_laysOthers_57 : decode cX7_laysOthers 57 = .ok (.iconst 0, 1) := by decide +kernel
theorem dX7_laysOthers_58 : decode cX7_laysOthers 58 = .ok (.istore 7, 2) := by decide +kernel
theorem dX7_laysOthers_60 : decode cX7_laysOthers 60 = .ok (.iload 7, 2) := by decide +kernel
theorem dX7_laysOthers_62 : decode cX7_laysOthers 62 = .ok (.aload_n 0, 1) := by decide +kernel
theorem dX7_laysOthers_63 : decode cX7_laysOthers 63 = .ok (.getfield 7, 3) := by decide +kernel
theorem dX7_laysOthers_66 : decode cX7_laysOthers 66 = .ok (.iconst 2, 1) := by decide +kernel
theorem dX7_laysOthers_67 : decode cX7_laysOthers 67 = .ok (.iaload, 1) := by decide +kernel
theorem dX7_laysOthers_68 : decode cX7_laysOthers 68 = .ok (.if_icmp .ge 79, 3) := by decide +kernel
theorem dX7_laysOthers_71 : decode cX7_laysOthers 71 = .ok (.iload 7, 2) := by decide +kernel
theorem dX7_laysOthers_73 : decode cX7_laysOthers 73 = .ok (.iload_n 1, 1) := by decide +kernel
theorem dX7_laysOthers_74 : decode cX7_laysOthers 74 = .ok (.if_icmp .eq 67, 3) := by decide +kernel
theorem dX7_laysOthers_77 : decode cX7_laysOthers 77 = .ok (.lload 5, 2) := by decide +kernel
theorem dX7_laysOthers_79 : decode cX7_laysOthers 79 = .ok (.aload_n 0, 1) := by decide +kernel
theorem dX7_laysOthers_80 : decode cX7_laysOthers 80 = .ok (.getfield 26, 3) := by decide +kernel
theorem dX7_laysOthers_83 : decode cX7_laysOthers 83 = .ok (.iload 7, 2) := by decide +kernel
theorem dX7_laysOthers_85 : decode cX7_laysOthers 85 = .ok (.laload, 1) := by decide +kernel
theorem dX7_laysOthers_86 : decode cX7_laysOthers 86 = .ok (.iload_n 2, 1) := by decide +kernel
theorem dX7_laysOthers_87 : decode cX7_laysOthers 87 = .ok (.ifCond .eq 26, 3) := by decide +kernel
theorem dX7_laysOthers_90 : decode cX7_laysOthers 90 = .ok (.aload_n 0, 1) := by decide +kernel
theorem dX7_laysOthers_91 : decode cX7_laysOthers 91 = .ok (.getfield 7, 3) := by decide +kernel
theorem dX7_laysOthers_94 : decode cX7_laysOthers 94 = .ok (.bipush 8, 2) := by decide +kernel
theorem dX7_laysOthers_96 : decode cX7_laysOthers 96 = .ok (.iload 7, 2) := by decide +kernel
theorem dX7_laysOthers_98 : decode cX7_laysOthers 98 = .ok (.iadd, 1) := by decide +kernel
theorem dX7_laysOthers_99 : decode cX7_laysOthers 99 = .ok (.iaload, 1) := by decide +kernel
theorem dX7_laysOthers_100 : decode cX7_laysOthers 100 = .ok (.aload_n 0, 1) := by decide +kernel
theorem dX7_laysOthers_101 : decode cX7_laysOthers 101 = .ok (.getfield 7, 3) := by decide +kernel
theorem dX7_laysOthers_104 : decode cX7_laysOthers 104 = .ok (.bipush 8, 2) := by decide +kernel
theorem dX7_laysOthers_106 : decode cX7_laysOthers 106 = .ok (.iload_n 1, 1) := by decide +kernel
theorem dX7_laysOthers_107 : decode cX7_laysOthers 107 = .ok (.iadd, 1) := by decide +kernel
theorem dX7_laysOthers_108 : decode cX7_laysOthers 108 = .ok (.iaload, 1) := by decide +kernel
theorem dX7_laysOthers_109 : decode cX7_laysOthers 109 = .ok (.isub, 1) := by decide +kernel
theorem dX7_laysOthers_110 : decode cX7_laysOthers 110 = .ok (.goto 4, 3) := by decide +kernel
theorem dX7_laysOthers_113 : decode cX7_laysOthers 113 = .ok (.iconst 1, 1) := by decide +kernel
theorem dX7_laysOthers_114 : decode cX7_laysOthers 114 = .ok (.i2l, 1) := by decide +kernel
theorem dX7_laysOthers_115 : decode cX7_laysOthers 115 = .ok (.lmul, 1) := by decide +kernel
theorem dX7_laysOthers_116 : decode cX7_laysOthers 116 = .ok (.lload_n 3, 1) := by decide +kernel
theorem dX7_laysOthers_117 : decode cX7_laysOthers 117 = .ok (.aload_n 0, 1) := by decide +kernel
theorem dX7_laysOthers_118 : decode cX7_laysOthers 118 = .ok (.getfield 7, 3) := by decide +kernel
theorem dX7_laysOthers_121 : decode cX7_laysOthers 121 = .ok (.iconst 3, 1) := by decide +kernel
theorem dX7_laysOthers_122 : decode cX7_laysOthers 122 = .ok (.iload_n 1, 1) := by decide +kernel
theorem dX7_laysOthers_123 : decode cX7_laysOthers 123 = .ok (.iadd, 1) := by decide +kernel
theorem dX7_laysOthers_124 : decode cX7_laysOthers 124 = .ok (.iaload, 1) := by decide +kernel
theorem dX7_laysOthers_125 : decode cX7_laysOthers 125 = .ok (.aload_n 0, 1) := by decide +kernel
theorem dX7_laysOthers_126 : decode cX7_laysOthers 126 = .ok (.getfield 7, 3) := by decide +kernel
theorem dX7_laysOthers_129 : decode cX7_laysOthers 129 = .ok (.iconst 3, 1) := by decide +kernel
theorem dX7_laysOthers_130 : decode cX7_laysOthers 130 = .ok (.iload 7, 2) := by decide +kernel
theorem dX7_laysOthers_132 : decode cX7_laysOthers 132 = .ok (.iadd, 1) := by decide +kernel
theorem dX7_laysOthers_133 : decode cX7_laysOthers 133 = .ok (.iaload, 1) := by decide +kernel
theorem dX7_laysOthers_134 : decode cX7_laysOthers 134 = .ok (.isub, 1) := by decide +kernel
theorem dX7_laysOthers_135 : decode cX7_laysOthers 135 = .ok (.i2l, 1) := by decide +kernel
theorem dX7_laysOthers_136 : decode cX7_laysOthers 136 = .ok (.ldiv, 1) := by decide +kernel
theorem dX7_laysOthers_137 : decode cX7_laysOthers 137 = .ok (.lmul, 1) := by decide +kernel
theorem dX7_laysOthers_138 : decode cX7_laysOthers 138 = .ok (.ladd, 1) := by decide +kernel
theorem dX7_laysOthers_139 : decode cX7_laysOthers 139 = .ok (.lstore 5, 2) := by decide +kernel
theorem dX7_laysOthers_141 : decode cX7_laysOthers 141 = .ok (.iinc 7 1, 3) := by decide +kernel
theorem dX7_laysOthers_144 : decode cX7_laysOthers 144 = .ok (.goto (-84), 3) := by decide +kernel
theorem dX7_laysOthers_147 : decode cX7_laysOthers 147 = .ok (.aload_n 0, 1) := by decide +kernel
theorem dX7_laysOthers_148 : decode cX7_laysOthers 148 = .ok (.lload 5, 2) := by decide +kernel
theorem dX7_laysOthers_150 : decode cX7_laysOthers 150 = .ok (.aload_n 0, 1) := by decide +kernel
theorem dX7_laysOthers_151 : decode cX7_laysOthers 151 = .ok (.getfield 26, 3) := by decide +kernel
theorem dX7_laysOthers_154 : decode cX7_laysOthers 154 = .ok (.iload_n 1, 1) := by decide +kernel
theorem dX7_laysOthers_155 : decode cX7_laysOthers 155 = .ok (.laload, 1) := by decide +kernel
theorem dX7_laysOthers_156 : decode cX7_laysOthers 156 = .ok (.lload_n 3, 1) := by decide +kernel
theorem dX7_laysOthers_157 : decode cX7_laysOthers 157 = .ok (.lmul, 1) := by decide +kernel
theorem dX7_laysOthers_158 : decode cX7_laysOthers 158 = .ok (.invokevirtual 269, 3) := by decide +kernel
theorem dX7_laysOthers_161 : decode cX7_laysOthers 161 = .ok (.return_, 1) := by decide +kernel
theorem dX7_hasRow_0 : decode cX7_hasRow 0 = .ok (.aload_n 0, 1) := by decide +kernel
theorem dX7_hasRow_1 : decode cX7_hasRow 1 = .ok (.invokevirtual 243, 3) := by decide +kernel
theorem dX7_hasRow_4 : decode cX7_hasRow 4 = .ok (.aload_n 0, 1) := by decide +kernel
theorem dX7_hasRow_5 : decode cX7_hasRow 5 = .ok (.getfield 26, 3) := by decide +kernel
theorem dX7_hasRow_8 : decode cX7_hasRow 8 = .ok (.iload_n 1, 1) := by decide +kernel
theorem dX7_hasRow_9 : decode cX7_hasRow 9 = .ok (.laload, 1) := by decide +kernel
theorem dX7_hasRow_10 : decode cX7_hasRow 10 = .ok (.lconst 0, 1) := by decide +kernel
theorem dX7_hasRow_11 : decode cX7_hasRow 11 = .ok (.lcmp, 1) := by decide +kernel
theorem dX7_hasRow_12 : decode cX7_hasRow 12 = .ok (.ifCond .eq 7, 3) := by decide +kernel
theorem dX7_hasRow_15 : decode cX7_hasRow 15 = .ok (.iconst 1, 1) := by decide +kernel
theorem dX7_hasRow_16 : decode cX7_hasRow 16 = .ok (.goto 4, 3) := by decide +kernel
theorem dX7_hasRow_19 : decode cX7_hasRow 19 = .ok (.iconst 0, 1) := by decide +kernel
theorem dX7_hasRow_20 : decode cX7_hasRow 20 = .ok (.ireturn, 1) := by decide +kernel
theorem dX7_row_0 : decode cX7_row 0 = .ok (.aload_n 0, 1) := by decide +kernel
theorem dX7_row_1 : decode cX7_row 1 = .ok (.iload_n 1, 1) := by decide +kernel
theorem dX7_row_2 : decode cX7_row 2 = .ok (.invokevirtual 182, 3) := by decide +kernel
theorem dX7_row_5 : decode cX7_row 5 = .ok (.ifCond .eq 15, 3) := by decide +kernel
theorem dX7_row_8 : decode cX7_row 8 = .ok (.aload_n 0, 1) := by decide +kernel
theorem dX7_row_9 : decode cX7_row 9 = .ok (.iload_n 2, 1) := by decide +kernel
theorem dX7_row_10 : decode cX7_row 10 = .ok (.invokevirtual 182, 3) := by decide +kernel
theorem dX7_row_13 : decode cX7_row 13 = .ok (.ifCond .eq 7, 3) := by decide +kernel
theorem dX7_row_16 : decode cX7_row 16 = .ok (.iconst 1, 1) := by decide +kernel
theorem dX7_row_17 : decode cX7_row 17 = .ok (.goto 4, 3) := by decide +kernel
theorem dX7_row_20 : decode cX7_row 20 = .ok (.iconst 0, 1) := by decide +kernel
theorem dX7_row_21 : decode cX7_row 21 = .ok (.istore 4, 2) := by decide +kernel
theorem dX7_row_23 : decode cX7_row 23 = .ok (.aload_n 0, 1) := by decide +kernel
theorem dX7_row_24 : decode cX7_row 24 = .ok (.iload 4, 2) := by decide +kernel
theorem dX7_row_26 : decode cX7_row 26 = .ok (.iload_n 3, 1) := by decide +kernel
theorem dX7_row_27 : decode cX7_row 27 = .ok (.invokestatic 279, 3) := by decide +kernel
theorem dX7_row_30 : decode cX7_row 30 = .ok (.iload 4, 2) := by decide +kernel
theorem dX7_row_32 : decode cX7_row 32 = .ok (.ifCond .eq 15, 3) := by decide +kernel
theorem dX7_row_35 : decode cX7_row 35 = .ok (.aload_n 0, 1) := by decide +kernel
theorem dX7_row_36 : decode cX7_row 36 = .ok (.iload_n 1, 1) := by decide +kernel
theorem dX7_row_37 : decode cX7_row 37 = .ok (.invokevirtual 304, 3) := by decide +kernel
theorem dX7_row_40 : decode cX7_row 40 = .ok (.ifCond .eq 7, 3) := by decide +kernel
theorem dX7_row_43 : decode cX7_row 43 = .ok (.iconst 1, 1) := by decide +kernel
theorem dX7_row_44 : decode cX7_row 44 = .ok (.goto 4, 3) := by decide +kernel
theorem dX7_row_47 : decode cX7_row 47 = .ok (.iconst 0, 1) := by decide +kernel
theorem dX7_row_48 : decode cX7_row 48 = .ok (.invokevirtual 45, 3) := by decide +kernel
theorem dX7_row_51 : decode cX7_row 51 = .ok (.ifCond .ne 5, 3) := by decide +kernel
theorem dX7_row_54 : decode cX7_row 54 = .ok (.lconst 0, 1) := by decide +kernel
theorem dX7_row_55 : decode cX7_row 55 = .ok (.lreturn, 1) := by decide +kernel
theorem dX7_row_56 : decode cX7_row 56 = .ok (.aload_n 0, 1) := by decide +kernel
theorem dX7_row_57 : decode cX7_row 57 = .ok (.iload_n 1, 1) := by decide +kernel
theorem dX7_row_58 : decode cX7_row 58 = .ok (.iload_n 2, 1) := by decide +kernel
theorem dX7_row_59 : decode cX7_row 59 = .ok (.invokevirtual 307, 3) := by decide +kernel
theorem dX7_row_62 : decode cX7_row 62 = .ok (.aload_n 0, 1) := by decide +kernel
theorem dX7_row_63 : decode cX7_row 63 = .ok (.iload_n 3, 1) := by decide +kernel
theorem dX7_row_64 : decode cX7_row 64 = .ok (.invokevirtual 285, 3) := by decide +kernel
theorem dX7_row_67 : decode cX7_row 67 = .ok (.lreturn, 1) := by decide +kernel
theorem dX7_slope_0 : decode cX7_slope 0 = .ok (.aload_n 0, 1) := by decide +kernel
theorem dX7_slope_1 : decode cX7_slope 1 = .ok (.iload_n 1, 1) := by decide +kernel
theorem dX7_slope_2 : decode cX7_slope 2 = .ok (.invokevirtual 182, 3) := by decide +kernel
theorem dX7_slope_5 : decode cX7_slope 5 = .ok (.istore_n 3, 1) := by decide +kernel
theorem dX7_slope_6 : decode cX7_slope 6 = .ok (.aload_n 0, 1) := by decide +kernel
theorem dX7_slope_7 : decode cX7_slope 7 = .ok (.iload_n 3, 1) := by decide +kernel
theorem dX7_slope_8 : decode cX7_slope 8 = .ok (.iload_n 2, 1) := by decide +kernel
theorem dX7_slope_9 : decode cX7_slope 9 = .ok (.invokestatic 279, 3) := by decide +kernel
theorem dX7_slope_12 : decode cX7_slope 12 = .ok (.iload_n 3, 1) := by decide +kernel
theorem dX7_slope_13 : decode cX7_slope 13 = .ok (.ifCond .eq 15, 3) := by decide +kernel
theorem dX7_slope_16 : decode cX7_slope 16 = .ok (.aload_n 0, 1) := by decide +kernel
theorem dX7_slope_17 : decode cX7_slope 17 = .ok (.iload_n 1, 1) := by decide +kernel
theorem dX7_slope_18 : decode cX7_slope 18 = .ok (.invokevirtual 304, 3) := by decide +kernel
theorem dX7_slope_21 : decode cX7_slope 21 = .ok (.ifCond .eq 7, 3) := by decide +kernel
theorem dX7_slope_24 : decode cX7_slope 24 = .ok (.iconst 1, 1) := by decide +kernel
theorem dX7_slope_25 : decode cX7_slope 25 = .ok (.goto 4, 3) := by decide +kernel
theorem dX7_slope_28 : decode cX7_slope 28 = .ok (.iconst 0, 1) := by decide +kernel
theorem dX7_slope_29 : decode cX7_slope 29 = .ok (.invokevirtual 45, 3) := by decide +kernel
theorem dX7_slope_32 : decode cX7_slope 32 = .ok (.ifCond .ne 5, 3) := by decide +kernel
theorem dX7_slope_35 : decode cX7_slope 35 = .ok (.lconst 0, 1) := by decide +kernel
theorem dX7_slope_36 : decode cX7_slope 36 = .ok (.lreturn, 1) := by decide +kernel
theorem dX7_slope_37 : decode cX7_slope 37 = .ok (.aload_n 0, 1) := by decide +kernel
theorem dX7_slope_38 : decode cX7_slope 38 = .ok (.iload_n 1, 1) := by decide +kernel
theorem dX7_slope_39 : decode cX7_slope 39 = .ok (.iconst 1, 1) := by decide +kernel
theorem dX7_slope_40 : decode cX7_slope 40 = .ok (.invokevirtual 300, 3) := by decide +kernel
theorem dX7_slope_43 : decode cX7_slope 43 = .ok (.aload_n 0, 1) := by decide +kernel
theorem dX7_slope_44 : decode cX7_slope 44 = .ok (.iload_n 2, 1) := by decide +kernel
theorem dX7_slope_45 : decode cX7_slope 45 = .ok (.invokevirtual 285, 3) := by decide +kernel
theorem dX7_slope_48 : decode cX7_slope 48 = .ok (.lreturn, 1) := by decide +kernel
theorem dX7_steepest_0 : decode cX7_steepest 0 = .ok (.aload_n 0, 1) := by decide +kernel
theorem dX7_steepest_1 : decode cX7_steepest 1 = .ok (.invokevirtual 243, 3) := by decide +kernel
theorem dX7_steepest_4 : decode cX7_steepest 4 = .ok (.iconst (-1), 1) := by decide +kernel
theorem dX7_steepest_5 : decode cX7_steepest 5 = .ok (.istore_n 1, 1) := by decide +kernel
theorem dX7_steepest_6 : decode cX7_steepest 6 = .ok (.lconst 0, 1) := by decide +kernel
theorem dX7_steepest_7 : decode cX7_steepest 7 = .ok (.lstore_n 2, 1) := by decide +kernel
theorem dX7_steepest_8 : decode cX7_steepest 8 = .ok (.lconst 1, 1) := by decide +kernel
theorem dX7_steepest_9 : decode cX7_steepest 9 = .ok (.lstore 4, 2) := by decide +kernel
theorem dX7_steepest_11 : decode cX7_steepest 11 = .ok (.iconst 0, 1) := by decide +kernel
theorem dX7_steepest_12 : decode cX7_steepest 12 = .ok (.istore 6, 2) := by decide +kernel
theorem dX7_steepest_14 : decode cX7_steepest 14 = .ok (.iload 6, 2) := by decide +kernel
theorem dX7_steepest_16 : decode cX7_steepest 16 = .ok (.aload_n 0, 1) := by decide +kernel
theorem dX7_steepest_17 : decode cX7_steepest 17 = .ok (.getfield 7, 3) := by decide +kernel
theorem dX7_steepest_20 : decode cX7_steepest 20 = .ok (.iconst 2, 1) := by decide +kernel
theorem dX7_steepest_21 : decode cX7_steepest 21 = .ok (.iaload, 1) := by decide +kernel
theorem dX7_steepest_22 : decode cX7_steepest 22 = .ok (.if_icmp .ge 67, 3) := by decide +kernel
theorem dX7_steepest_25 : decode cX7_steepest 25 = .ok (.aload_n 0, 1) := by decide +kernel
theorem dX7_steepest_26 : decode cX7_steepest 26 = .ok (.getfield 26, 3) := by decide +kernel
theorem dX7_steepest_29 : decode cX7_steepest 29 = .ok (.iload 6, 2) := by decide +kernel
theorem dX7_steepest_31 : decode cX7_steepest 31 = .ok (.laload, 1) := by decide +kernel
theorem dX7_steepest_32 : decode cX7_steepest 32 = .ok (.lconst 0, 1) := by decide +kernel
theorem dX7_steepest_33 : decode cX7_steepest 33 = .ok (.lcmp, 1) := by decide +kernel
theorem dX7_steepest_34 : decode cX7_steepest 34 = .ok (.ifCond .ne 6, 3) := by decide +kernel
theorem dX7_steepest_37 : decode cX7_steepest 37 = .ok (.goto 46, 3) := by decide +kernel
theorem dX7_steepest_40 : decode cX7_steepest 40 = .ok (.aload_n 0, 1) := by decide +kernel
theorem dX7_steepest_41 : decode cX7_steepest 41 = .ok (.iload 6, 2) := by decide +kernel
theorem dX7_steepest_43 : decode cX7_steepest 43 = .ok (.iconst 1, 1) := by decide +kernel
theorem dX7_steepest_44 : decode cX7_steepest 44 = .ok (.invokevirtual 300, 3) := by decide +kernel
theorem dX7_steepest_47 : decode cX7_steepest 47 = .ok (.iload_n 1, 1) := by decide +kernel
theorem dX7_steepest_48 : decode cX7_steepest 48 = .ok (.iconst (-1), 1) := by decide +kernel
theorem dX7_steepest_49 : decode cX7_steepest 49 = .ok (.if_icmp .eq 20, 3) := by decide +kernel
theorem dX7_steepest_52 : decode cX7_steepest 52 = .ok (.aload_n 0, 1) := by decide +kernel
theorem dX7_steepest_53 : decode cX7_steepest 53 = .ok (.getfield 206, 3) := by decide +kernel
theorem dX7_steepest_56 : decode cX7_steepest 56 = .ok (.aload_n 0, 1) := by decide +kernel
theorem dX7_steepest_57 : decode cX7_steepest 57 = .ok (.getfield 210, 3) := by decide +kernel
theorem dX7_steepest_60 : decode cX7_steepest 60 = .ok (.lload_n 2, 1) := by decide +kernel
theorem dX7_steepest_61 : decode cX7_steepest 61 = .ok (.lload 4, 2) := by decide +kernel
theorem dX7_steepest_63 : decode cX7_steepest 63 = .ok (.invokestatic 296, 3) := by decide +kernel
theorem dX7_steepest_66 : decode cX7_steepest 66 = .ok (.ifCond .eq 17, 3) := by decide +kernel
theorem dX7_steepest_69 : decode cX7_steepest 69 = .ok (.iload 6, 2) := by decide +kernel
theorem dX7_steepest_71 : decode cX7_steepest 71 = .ok (.istore_n 1, 1) := by decide +kernel
theorem dX7_steepest_72 : decode cX7_steepest 72 = .ok (.aload_n 0, 1) := by decide +kernel
theorem dX7_steepest_73 : decode cX7_steepest 73 = .ok (.getfield 206, 3) := by decide +kernel
theorem dX7_steepest_76 : decode cX7_steepest 76 = .ok (.lstore_n 2, 1) := by decide +kernel
theorem dX7_steepest_77 : decode cX7_steepest 77 = .ok (.aload_n 0, 1) := by decide +kernel
theorem dX7_steepest_78 : decode cX7_steepest 78 = .ok (.getfield 210, 3) := by decide +kernel
theorem dX7_steepest_81 : decode cX7_steepest 81 = .ok (.lstore 4, 2) := by decide +kernel
theorem dX7_steepest_83 : decode cX7_steepest 83 = .ok (.iinc 6 1, 3) := by decide +kernel
theorem dX7_steepest_86 : decode cX7_steepest 86 = .ok (.goto (-72), 3) := by decide +kernel
theorem dX7_steepest_89 : decode cX7_steepest 89 = .ok (.aload_n 0, 1) := by decide +kernel
theorem dX7_steepest_90 : decode cX7_steepest 90 = .ok (.iload_n 1, 1) := by decide +kernel
theorem dX7_steepest_91 : decode cX7_steepest 91 = .ok (.iconst (-1), 1) := by decide +kernel
theorem dX7_steepest_92 : decode cX7_steepest 92 = .ok (.if_icmp .eq 7, 3) := by decide +kernel
theorem dX7_steepest_95 : decode cX7_steepest 95 = .ok (.iconst 1, 1) := by decide +kernel
theorem dX7_steepest_96 : decode cX7_steepest 96 = .ok (.goto 4, 3) := by decide +kernel
theorem dX7_steepest_99 : decode cX7_steepest 99 = .ok (.iconst 0, 1) := by decide +kernel
theorem dX7_steepest_100 : decode cX7_steepest 100 = .ok (.invokevirtual 163, 3) := by decide +kernel
theorem dX7_steepest_103 : decode cX7_steepest 103 = .ok (.ifCond .eq 7, 3) := by decide +kernel
theorem dX7_steepest_106 : decode cX7_steepest 106 = .ok (.iload_n 1, 1) := by decide +kernel
theorem dX7_steepest_107 : decode cX7_steepest 107 = .ok (.goto 4, 3) := by decide +kernel
theorem dX7_steepest_110 : decode cX7_steepest 110 = .ok (.iconst 0, 1) := by decide +kernel
theorem dX7_steepest_111 : decode cX7_steepest 111 = .ok (.ireturn, 1) := by decide +kernel
theorem dX7_laysDivided_0 : decode cX7_laysDivided 0 = .ok (.aload_n 0, 1) := by decide +kernel
theorem dX7_laysDivided_1 : decode cX7_laysDivided 1 = .ok (.iload_n 1, 1) := by decide +kernel
theorem dX7_laysDivided_2 : decode cX7_laysDivided 2 = .ok (.iload_n 2, 1) := by decide +kernel
theorem dX7_laysDivided_3 : decode cX7_laysDivided 3 = .ok (.invokevirtual 225, 3) := by decide +kernel
theorem dX7_laysDivided_6 : decode cX7_laysDivided 6 = .ok (.lstore_n 3, 1) := by decide +kernel
theorem dX7_laysDivided_7 : decode cX7_laysDivided 7 = .ok (.lconst 0, 1) := by decide +kernel
theorem dX7_laysDivided_8 : decode cX7_laysDivided 8 = .ok (.lstore 5, 2) := by decide +kernel
theorem dX7_laysDivided_10 : decode cX7_laysDivided 10 = .ok (.iload_n 1, 1) := by decide +kernel
theorem dX7_laysDivided_11 : decode cX7_laysDivided 11 = .ok (.istore 7, 2) := by decide +kernel
theorem dX7_laysDivided_13 : decode cX7_laysDivided 13 = .ok (.iload 7, 2) := by decide +kernel
theorem dX7_laysDivided_15 : decode cX7_laysDivided 15 = .ok (.iload_n 2, 1) := by decide +kernel
theorem dX7_laysDivided_16 : decode cX7_laysDivided 16 = .ok (.if_icmp .ge 82, 3) := by decide +kernel
theorem dX7_laysDivided_19 : decode cX7_laysDivided 19 = .ok (.lload_n 3, 1) := by decide +kernel
theorem dX7_laysDivided_20 : decode cX7_laysDivided 20 = .ok (.lstore 8, 2) := by decide +kernel
theorem dX7_laysDivided_22 : decode cX7_laysDivided 22 = .ok (.iload_n 1, 1) := by decide +kernel
theorem dX7_laysDivided_23 : decode cX7_laysDivided 23 = .ok (.istore 10, 2) := by decide +kernel
theorem dX7_laysDivided_25 : decode cX7_laysDivided 25 = .ok (.iload 10, 2) := by decide +kernel
theorem dX7_laysDivided_27 : decode cX7_laysDivided 27 = .ok (.iload_n 2, 1) := by decide +kernel
theorem dX7_laysDivided_28 : decode cX7_laysDivided 28 = .ok (.if_icmp .ge 45, 3) := by decide +kernel
theorem dX7_laysDivided_31 : decode cX7_laysDivided 31 = .ok (.lload 8, 2) := by decide +kernel
theorem dX7_laysDivided_33 : decode cX7_laysDivided 33 = .ok (.iload 10, 2) := by decide +kernel
theorem dX7_laysDivided_35 : decode cX7_laysDivided 35 = .ok (.iload 7, 2) := by decide +kernel
theorem dX7_laysDivided_37 : decode cX7_laysDivided 37 = .ok (.if_icmp .ne 7, 3) := by decide +kernel
theorem dX7_laysDivided_40 : decode cX7_laysDivided 40 = .ok (.lconst 1, 1) := by decide +kernel
theorem dX7_laysDivided_41 : decode cX7_laysDivided 41 = .ok (.goto 23, 3) := by decide +kernel
theorem dX7_laysDivided_44 : decode cX7_laysDivided 44 = .ok (.aload_n 0, 1) := by decide +kernel
theorem dX7_laysDivided_45 : decode cX7_laysDivided 45 = .ok (.getfield 7, 3) := by decide +kernel
theorem dX7_laysDivided_48 : decode cX7_laysDivided 48 = .ok (.iconst 3, 1) := by decide +kernel
theorem dX7_laysDivided_49 : decode cX7_laysDivided 49 = .ok (.iload 7, 2) := by decide +kernel
theorem dX7_laysDivided_51 : decode cX7_laysDivided 51 = .ok (.iadd, 1) := by decide +kernel
theorem dX7_laysDivided_52 : decode cX7_laysDivided 52 = .ok (.iaload, 1) := by decide +kernel
theorem dX7_laysDivided_53 : decode cX7_laysDivided 53 = .ok (.aload_n 0, 1) := by decide +kernel
theorem dX7_laysDivided_54 : decode cX7_laysDivided 54 = .ok (.getfield 7, 3) := by decide +kernel
theorem dX7_laysDivided_57 : decode cX7_laysDivided 57 = .ok (.iconst 3, 1) := by decide +kernel
theorem dX7_laysDivided_58 : decode cX7_laysDivided 58 = .ok (.iload 10, 2) := by decide +kernel
theorem dX7_laysDivided_60 : decode cX7_laysDivided 60 = .ok (.iadd, 1) := by decide +kernel
theorem dX7_laysDivided_61 : decode cX7_laysDivided 61 = .ok (.iaload, 1) := by decide +kernel
theorem dX7_laysDivided_62 : decode cX7_laysDivided 62 = .ok (.isub, 1) := by decide +kernel
theorem dX7_laysDivided_63 : decode cX7_laysDivided 63 = .ok (.i2l, 1) := by decide +kernel
theorem dX7_laysDivided_64 : decode cX7_laysDivided 64 = .ok (.ldiv, 1) := by decide +kernel
theorem dX7_laysDivided_65 : decode cX7_laysDivided 65 = .ok (.lstore 8, 2) := by decide +kernel
theorem dX7_laysDivided_67 : decode cX7_laysDivided 67 = .ok (.iinc 10 1, 3) := by decide +kernel
theorem dX7_laysDivided_70 : decode cX7_laysDivided 70 = .ok (.goto (-45), 3) := by decide +kernel
theorem dX7_laysDivided_73 : decode cX7_laysDivided 73 = .ok (.lload 5, 2) := by decide +kernel
theorem dX7_laysDivided_75 : decode cX7_laysDivided 75 = .ok (.aload_n 0, 1) := by decide +kernel
theorem dX7_laysDivided_76 : decode cX7_laysDivided 76 = .ok (.getfield 7, 3) := by decide +kernel
theorem dX7_laysDivided_79 : decode cX7_laysDivided 79 = .ok (.bipush 8, 2) := by decide +kernel
theorem dX7_laysDivided_81 : decode cX7_laysDivided 81 = .ok (.iload 7, 2) := by decide +kernel
theorem dX7_laysDivided_83 : decode cX7_laysDivided 83 = .ok (.iadd, 1) := by decide +kernel
theorem dX7_laysDivided_84 : decode cX7_laysDivided 84 = .ok (.iaload, 1) := by decide +kernel
theorem dX7_laysDivided_85 : decode cX7_laysDivided 85 = .ok (.i2l, 1) := by decide +kernel
theorem dX7_laysDivided_86 : decode cX7_laysDivided 86 = .ok (.lload 8, 2) := by decide +kernel
theorem dX7_laysDivided_88 : decode cX7_laysDivided 88 = .ok (.lmul, 1) := by decide +kernel
theorem dX7_laysDivided_89 : decode cX7_laysDivided 89 = .ok (.ladd, 1) := by decide +kernel
theorem dX7_laysDivided_90 : decode cX7_laysDivided 90 = .ok (.lstore 5, 2) := by decide +kernel
theorem dX7_laysDivided_92 : decode cX7_laysDivided 92 = .ok (.iinc 7 1, 3) := by decide +kernel
theorem dX7_laysDivided_95 : decode cX7_laysDivided 95 = .ok (.goto (-82), 3) := by decide +kernel
theorem dX7_laysDivided_98 : decode cX7_laysDivided 98 = .ok (.aload_n 0, 1) := by decide +kernel
theorem dX7_laysDivided_99 : decode cX7_laysDivided 99 = .ok (.lload 5, 2) := by decide +kernel
theorem dX7_laysDivided_101 : decode cX7_laysDivided 101 = .ok (.lload_n 3, 1) := by decide +kernel
theorem dX7_laysDivided_102 : decode cX7_laysDivided 102 = .ok (.invokevirtual 269, 3) := by decide +kernel
theorem dX7_laysDivided_105 : decode cX7_laysDivided 105 = .ok (.return_, 1) := by decide +kernel
theorem dX7_divided_0 : decode cX7_divided 0 = .ok (.aload_n 0, 1) := by decide +kernel
theorem dX7_divided_1 : decode cX7_divided 1 = .ok (.aload_n 0, 1) := by decide +kernel
theorem dX7_divided_2 : decode cX7_divided 2 = .ok (.iload_n 1, 1) := by decide +kernel
theorem dX7_divided_3 : decode cX7_divided 3 = .ok (.invokevirtual 182, 3) := by decide +kernel
theorem dX7_divided_6 : decode cX7_divided 6 = .ok (.ifCond .eq 15, 3) := by decide +kernel
theorem dX7_divided_9 : decode cX7_divided 9 = .ok (.aload_n 0, 1) := by decide +kernel
theorem dX7_divided_10 : decode cX7_divided 10 = .ok (.iload_n 2, 1) := by decide +kernel
theorem dX7_divided_11 : decode cX7_divided 11 = .ok (.invokevirtual 182, 3) := by decide +kernel
theorem dX7_divided_14 : decode cX7_divided 14 = .ok (.ifCond .eq 7, 3) := by decide +kernel
theorem dX7_divided_17 : decode cX7_divided 17 = .ok (.iconst 1, 1) := by decide +kernel
theorem dX7_divided_18 : decode cX7_divided 18 = .ok (.goto 4, 3) := by decide +kernel
theorem dX7_divided_21 : decode cX7_divided 21 = .ok (.iconst 0, 1) := by decide +kernel
theorem dX7_divided_22 : decode cX7_divided 22 = .ok (.iload_n 3, 1) := by decide +kernel
theorem dX7_divided_23 : decode cX7_divided 23 = .ok (.invokestatic 279, 3) := by decide +kernel
theorem dX7_divided_26 : decode cX7_divided 26 = .ok (.ifCond .eq 12, 3) := by decide +kernel
theorem dX7_divided_29 : decode cX7_divided 29 = .ok (.iload_n 1, 1) := by decide +kernel
theorem dX7_divided_30 : decode cX7_divided 30 = .ok (.iload_n 2, 1) := by decide +kernel
theorem dX7_divided_31 : decode cX7_divided 31 = .ok (.if_icmp .gt 7, 3) := by decide +kernel
theorem dX7_divided_34 : decode cX7_divided 34 = .ok (.iconst 1, 1) := by decide +kernel
theorem dX7_divided_35 : decode cX7_divided 35 = .ok (.goto 4, 3) := by decide +kernel
theorem dX7_divided_38 : decode cX7_divided 38 = .ok (.iconst 0, 1) := by decide +kernel
theorem dX7_divided_39 : decode cX7_divided 39 = .ok (.invokevirtual 187, 3) := by decide +kernel
theorem dX7_divided_42 : decode cX7_divided 42 = .ok (.ifCond .ne 5, 3) := by decide +kernel
theorem dX7_divided_45 : decode cX7_divided 45 = .ok (.lconst 0, 1) := by decide +kernel
theorem dX7_divided_46 : decode cX7_divided 46 = .ok (.lreturn, 1) := by decide +kernel
theorem dX7_divided_47 : decode cX7_divided 47 = .ok (.aload_n 0, 1) := by decide +kernel
theorem dX7_divided_48 : decode cX7_divided 48 = .ok (.iload_n 1, 1) := by decide +kernel
theorem dX7_divided_49 : decode cX7_divided 49 = .ok (.iload_n 2, 1) := by decide +kernel
theorem dX7_divided_50 : decode cX7_divided 50 = .ok (.iconst 1, 1) := by decide +kernel
theorem dX7_divided_51 : decode cX7_divided 51 = .ok (.iadd, 1) := by decide +kernel
theorem dX7_divided_52 : decode cX7_divided 52 = .ok (.invokevirtual 311, 3) := by decide +kernel
theorem dX7_divided_55 : decode cX7_divided 55 = .ok (.aload_n 0, 1) := by decide +kernel
theorem dX7_divided_56 : decode cX7_divided 56 = .ok (.iload_n 3, 1) := by decide +kernel
theorem dX7_divided_57 : decode cX7_divided 57 = .ok (.invokevirtual 285, 3) := by decide +kernel
theorem dX7_divided_60 : decode cX7_divided 60 = .ok (.lreturn, 1) := by decide +kernel
theorem dX7_plainValue_0 : decode cX7_plainValue 0 = .ok (.aload_n 0, 1) := by decide +kernel
theorem dX7_plainValue_1 : decode cX7_plainValue 1 = .ok (.iload_n 1, 1) := by decide +kernel
theorem dX7_plainValue_2 : decode cX7_plainValue 2 = .ok (.invokestatic 193, 3) := by decide +kernel
theorem dX7_plainValue_5 : decode cX7_plainValue 5 = .ok (.ifCond .eq 14, 3) := by decide +kernel
theorem dX7_plainValue_8 : decode cX7_plainValue 8 = .ok (.iload_n 2, 1) := by decide +kernel
theorem dX7_plainValue_9 : decode cX7_plainValue 9 = .ok (.invokestatic 279, 3) := by decide +kernel
theorem dX7_plainValue_12 : decode cX7_plainValue 12 = .ok (.ifCond .eq 7, 3) := by decide +kernel
theorem dX7_plainValue_15 : decode cX7_plainValue 15 = .ok (.iconst 1, 1) := by decide +kernel
theorem dX7_plainValue_16 : decode cX7_plainValue 16 = .ok (.goto 4, 3) := by decide +kernel
theorem dX7_plainValue_19 : decode cX7_plainValue 19 = .ok (.iconst 0, 1) := by decide +kernel
theorem dX7_plainValue_20 : decode cX7_plainValue 20 = .ok (.aload_n 0, 1) := by decide +kernel
theorem dX7_plainValue_21 : decode cX7_plainValue 21 = .ok (.getfield 7, 3) := by decide +kernel
theorem dX7_plainValue_24 : decode cX7_plainValue 24 = .ok (.iconst 2, 1) := by decide +kernel
theorem dX7_plainValue_25 : decode cX7_plainValue 25 = .ok (.iaload, 1) := by decide +kernel
theorem dX7_plainValue_26 : decode cX7_plainValue 26 = .ok (.ifCond .le 7, 3) := by decide +kernel
theorem dX7_plainValue_29 : decode cX7_plainValue 29 = .ok (.iconst 1, 1) := by decide +kernel
theorem dX7_plainValue_30 : decode cX7_plainValue 30 = .ok (.goto 4, 3) := by decide +kernel
theorem dX7_plainValue_33 : decode cX7_plainValue 33 = .ok (.iconst 0, 1) := by decide +kernel
theorem dX7_plainValue_34 : decode cX7_plainValue 34 = .ok (.invokevirtual 187, 3) := by decide +kernel
theorem dX7_plainValue_37 : decode cX7_plainValue 37 = .ok (.ifCond .ne 5, 3) := by decide +kernel
theorem dX7_plainValue_40 : decode cX7_plainValue 40 = .ok (.lconst 0, 1) := by decide +kernel
theorem dX7_plainValue_41 : decode cX7_plainValue 41 = .ok (.lreturn, 1) := by decide +kernel
theorem dX7_plainValue_42 : decode cX7_plainValue 42 = .ok (.aload_n 0, 1) := by decide +kernel
theorem dX7_plainValue_43 : decode cX7_plainValue 43 = .ok (.iconst 0, 1) := by decide +kernel
theorem dX7_plainValue_44 : decode cX7_plainValue 44 = .ok (.aload_n 0, 1) := by decide +kernel
theorem dX7_plainValue_45 : decode cX7_plainValue 45 = .ok (.getfield 7, 3) := by decide +kernel
theorem dX7_plainValue_48 : decode cX7_plainValue 48 = .ok (.iconst 2, 1) := by decide +kernel
theorem dX7_plainValue_49 : decode cX7_plainValue 49 = .ok (.iaload, 1) := by decide +kernel
theorem dX7_plainValue_50 : decode cX7_plainValue 50 = .ok (.invokevirtual 225, 3) := by decide +kernel
theorem dX7_plainValue_53 : decode cX7_plainValue 53 = .ok (.lstore_n 3, 1) := by decide +kernel
theorem dX7_plainValue_54 : decode cX7_plainValue 54 = .ok (.lconst 0, 1) := by decide +kernel
theorem dX7_plainValue_55 : decode cX7_plainValue 55 = .ok (.lstore 5, 2) := by decide +kernel
theorem dX7_plainValue_57 : decode cX7_plainValue 57 = .ok (.iconst 0, 1) := by decide +kernel
theorem dX7_plainValue_58 : decode cX7_plainValue 58 = .ok (.istore 7, 2) := by decide +kernel
theorem dX7_plainValue_60 : decode cX7_plainValue 60 = .ok (.iload 7, 2) := by decide +kernel
theorem dX7_plainValue_62 : decode cX7_plainValue 62 = .ok (.aload_n 0, 1) := by decide +kernel
theorem dX7_plainValue_63 : decode cX7_plainValue 63 = .ok (.getfield 7, 3) := by decide +kernel
theorem dX7_plainValue_66 : decode cX7_plainValue 66 = .ok (.iconst 2, 1) := by decide +kernel
theorem dX7_plainValue_67 : decode cX7_plainValue 67 = .ok (.iaload, 1) := by decide +kernel
theorem dX7_plainValue_68 : decode cX7_plainValue 68 = .ok (.if_icmp .ge 95, 3) := by decide +kernel
theorem dX7_plainValue_71 : decode cX7_plainValue 71 = .ok (.lload_n 3, 1) := by decide +kernel
theorem dX7_plainValue_72 : decode cX7_plainValue 72 = .ok (.lstore 8, 2) := by decide +kernel
theorem dX7_plainValue_74 : decode cX7_plainValue 74 = .ok (.iconst 0, 1) := by decide +kernel
theorem dX7_plainValue_75 : decode cX7_plainValue 75 = .ok (.istore 10, 2) := by decide +kernel
theorem dX7_plainValue_77 : decode cX7_plainValue 77 = .ok (.iload 10, 2) := by decide +kernel
theorem dX7_plainValue_79 : decode cX7_plainValue 79 = .ok (.aload_n 0, 1) := by decide +kernel
theorem dX7_plainValue_80 : decode cX7_plainValue 80 = .ok (.getfield 7, 3) := by decide +kernel
theorem dX7_plainValue_83 : decode cX7_plainValue 83 = .ok (.iconst 2, 1) := by decide +kernel
theorem dX7_plainValue_84 : decode cX7_plainValue 84 = .ok (.iaload, 1) := by decide +kernel
theorem dX7_plainValue_85 : decode cX7_plainValue 85 = .ok (.if_icmp .ge 45, 3) := by decide +kernel
theorem dX7_plainValue_88 : decode cX7_plainValue 88 = .ok (.lload 8, 2) := by decide +kernel
theorem dX7_plainValue_90 : decode cX7_plainValue 90 = .ok (.iload 10, 2) := by decide +kernel
theorem dX7_plainValue_92 : decode cX7_plainValue 92 = .ok (.iload 7, 2) := by decide +kernel
theorem dX7_plainValue_94 : decode cX7_plainValue 94 = .ok (.if_icmp .ne 7, 3) := by decide +kernel
theorem dX7_plainValue_97 : decode cX7_plainValue 97 = .ok (.lconst 1, 1) := by decide +kernel
theorem dX7_plainValue_98 : decode cX7_plainValue 98 = .ok (.goto 23, 3) := by decide +kernel
theorem dX7_plainValue_101 : decode cX7_plainValue 101 = .ok (.aload_n 0, 1) := by decide +kernel
theorem dX7_plainValue_102 : decode cX7_plainValue 102 = .ok (.getfield 7, 3) := by decide +kernel
theorem dX7_plainValue_105 : decode cX7_plainValue 105 = .ok (.iconst 3, 1) := by decide +kernel
theorem dX7_plainValue_106 : decode cX7_plainValue 106 = .ok (.iload 7, 2) := by decide +kernel
theorem dX7_plainValue_108 : decode cX7_plainValue 108 = .ok (.iadd, 1) := by decide +kernel
theorem dX7_plainValue_109 : decode cX7_plainValue 109 = .ok (.iaload, 1) := by decide +kernel
theorem dX7_plainValue_110 : decode cX7_plainValue 110 = .ok (.aload_n 0, 1) := by decide +kernel
theorem dX7_plainValue_111 : decode cX7_plainValue 111 = .ok (.getfield 7, 3) := by decide +kernel
theorem dX7_plainValue_114 : decode cX7_plainValue 114 = .ok (.iconst 3, 1) := by decide +kernel
theorem dX7_plainValue_115 : decode cX7_plainValue 115 = .ok (.iload 10, 2) := by decide +kernel
theorem dX7_plainValue_117 : decode cX7_plainValue 117 = .ok (.iadd, 1) := by decide +kernel
theorem dX7_plainValue_118 : decode cX7_plainValue 118 = .ok (.iaload, 1) := by decide +kernel
theorem dX7_plainValue_119 : decode cX7_plainValue 119 = .ok (.isub, 1) := by decide +kernel
theorem dX7_plainValue_120 : decode cX7_plainValue 120 = .ok (.i2l, 1) := by decide +kernel
theorem dX7_plainValue_121 : decode cX7_plainValue 121 = .ok (.ldiv, 1) := by decide +kernel
theorem dX7_plainValue_122 : decode cX7_plainValue 122 = .ok (.lstore 8, 2) := by decide +kernel
theorem dX7_plainValue_124 : decode cX7_plainValue 124 = .ok (.iinc 10 1, 3) := by decide +kernel
theorem dX7_plainValue_127 : decode cX7_plainValue 127 = .ok (.goto (-50), 3) := by decide +kernel
theorem dX7_plainValue_130 : decode cX7_plainValue 130 = .ok (.lload 5, 2) := by decide +kernel
theorem dX7_plainValue_132 : decode cX7_plainValue 132 = .ok (.aload_n 0, 1) := by decide +kernel
theorem dX7_plainValue_133 : decode cX7_plainValue 133 = .ok (.getfield 7, 3) := by decide +kernel
theorem dX7_plainValue_136 : decode cX7_plainValue 136 = .ok (.bipush 8, 2) := by decide +kernel
theorem dX7_plainValue_138 : decode cX7_plainValue 138 = .ok (.iload 7, 2) := by decide +kernel
theorem dX7_plainValue_140 : decode cX7_plainValue 140 = .ok (.iadd, 1) := by decide +kernel
theorem dX7_plainValue_141 : decode cX7_plainValue 141 = .ok (.iaload, 1) := by decide +kernel
theorem dX7_plainValue_142 : decode cX7_plainValue 142 = .ok (.i2l, 1) := by decide +kernel
theorem dX7_plainValue_143 : decode cX7_plainValue 143 = .ok (.lload 8, 2) := by decide +kernel
theorem dX7_plainValue_145 : decode cX7_plainValue 145 = .ok (.lmul, 1) := by decide +kernel
theorem dX7_plainValue_146 : decode cX7_plainValue 146 = .ok (.aload_n 0, 1) := by decide +kernel
theorem dX7_plainValue_147 : decode cX7_plainValue 147 = .ok (.iload 7, 2) := by decide +kernel
theorem dX7_plainValue_149 : decode cX7_plainValue 149 = .ok (.iload_n 1, 1) := by decide +kernel
theorem dX7_plainValue_150 : decode cX7_plainValue 150 = .ok (.invokevirtual 250, 3) := by decide +kernel
theorem dX7_plainValue_153 : decode cX7_plainValue 153 = .ok (.lmul, 1) := by decide +kernel
theorem dX7_plainValue_154 : decode cX7_plainValue 154 = .ok (.ladd, 1) := by decide +kernel
theorem dX7_plainValue_155 : decode cX7_plainValue 155 = .ok (.lstore 5, 2) := by decide +kernel
theorem dX7_plainValue_157 : decode cX7_plainValue 157 = .ok (.iinc 7 1, 3) := by decide +kernel
theorem dX7_plainValue_160 : decode cX7_plainValue 160 = .ok (.goto (-100), 3) := by decide +kernel
theorem dX7_plainValue_163 : decode cX7_plainValue 163 = .ok (.aload_n 0, 1) := by decide +kernel
theorem dX7_plainValue_164 : decode cX7_plainValue 164 = .ok (.lload 5, 2) := by decide +kernel
theorem dX7_plainValue_166 : decode cX7_plainValue 166 = .ok (.lload_n 3, 1) := by decide +kernel
theorem dX7_plainValue_167 : decode cX7_plainValue 167 = .ok (.invokevirtual 269, 3) := by decide +kernel
theorem dX7_plainValue_170 : decode cX7_plainValue 170 = .ok (.aload_n 0, 1) := by decide +kernel
theorem dX7_plainValue_171 : decode cX7_plainValue 171 = .ok (.iload_n 2, 1) := by decide +kernel
theorem dX7_plainValue_172 : decode cX7_plainValue 172 = .ok (.invokevirtual 285, 3) := by decide +kernel
theorem dX7_plainValue_175 : decode cX7_plainValue 175 = .ok (.lreturn, 1) := by decide +kernel
theorem dX7_isX_0 : decode cX7_isX 0 = .ok (.iload_n 0, 1) := by decide +kernel
theorem dX7_isX_1 : decode cX7_isX 1 = .ok (.i2l, 1) := by decide +kernel
theorem dX7_isX_2 : decode cX7_isX 2 = .ok (.ldc2_w 314, 3) := by decide +kernel
theorem dX7_isX_5 : decode cX7_isX 5 = .ok (.ldc2_w 316, 3) := by decide +kernel
theorem dX7_isX_8 : decode cX7_isX 8 = .ok (.invokestatic 119, 3) := by decide +kernel
theorem dX7_isX_11 : decode cX7_isX 11 = .ok (.ireturn, 1) := by decide +kernel
theorem dX7_isFree_0 : decode cX7_isFree 0 = .ok (.aload_n 0, 1) := by decide +kernel
theorem dX7_isFree_1 : decode cX7_isFree 1 = .ok (.iload_n 2, 1) := by decide +kernel
theorem dX7_isFree_2 : decode cX7_isFree 2 = .ok (.invokevirtual 127, 3) := by decide +kernel
theorem dX7_isFree_5 : decode cX7_isFree 5 = .ok (.iconst (-1), 1) := by decide +kernel
theorem dX7_isFree_6 : decode cX7_isFree 6 = .ok (.if_icmp .eq 12, 3) := by decide +kernel
theorem dX7_isFree_9 : decode cX7_isFree 9 = .ok (.aload_n 0, 1) := by decide +kernel
theorem dX7_isFree_10 : decode cX7_isFree 10 = .ok (.iload_n 2, 1) := by decide +kernel
theorem dX7_isFree_11 : decode cX7_isFree 11 = .ok (.invokevirtual 127, 3) := by decide +kernel
theorem dX7_isFree_14 : decode cX7_isFree 14 = .ok (.iload_n 1, 1) := by decide +kernel
theorem dX7_isFree_15 : decode cX7_isFree 15 = .ok (.if_icmp .ne 7, 3) := by decide +kernel
theorem dX7_isFree_18 : decode cX7_isFree 18 = .ok (.iconst 1, 1) := by decide +kernel
theorem dX7_isFree_19 : decode cX7_isFree 19 = .ok (.goto 4, 3) := by decide +kernel
theorem dX7_isFree_22 : decode cX7_isFree 22 = .ok (.iconst 0, 1) := by decide +kernel
theorem dX7_isFree_23 : decode cX7_isFree 23 = .ok (.ireturn, 1) := by decide +kernel
theorem dX7_hasValueIf_0 : decode cX7_hasValueIf 0 = .ok (.aload_n 0, 1) := by decide +kernel
theorem dX7_hasValueIf_1 : decode cX7_hasValueIf 1 = .ok (.getfield 7, 3) := by decide +kernel
theorem dX7_hasValueIf_4 : decode cX7_hasValueIf 4 = .ok (.iconst 3, 1) := by decide +kernel
theorem dX7_hasValueIf_5 : decode cX7_hasValueIf 5 = .ok (.iload_n 1, 1) := by decide +kernel
theorem dX7_hasValueIf_6 : decode cX7_hasValueIf 6 = .ok (.iadd, 1) := by decide +kernel
theorem dX7_hasValueIf_7 : decode cX7_hasValueIf 7 = .ok (.iaload, 1) := by decide +kernel
theorem dX7_hasValueIf_8 : decode cX7_hasValueIf 8 = .ok (.istore 4, 2) := by decide +kernel
theorem dX7_hasValueIf_10 : decode cX7_hasValueIf 10 = .ok (.aload_n 0, 1) := by decide +kernel
theorem dX7_hasValueIf_11 : decode cX7_hasValueIf 11 = .ok (.getfield 7, 3) := by decide +kernel
theorem dX7_hasValueIf_14 : decode cX7_hasValueIf 14 = .ok (.iconst 3, 1) := by decide +kernel
theorem dX7_hasValueIf_15 : decode cX7_hasValueIf 15 = .ok (.iload_n 1, 1) := by decide +kernel
theorem dX7_hasValueIf_16 : decode cX7_hasValueIf 16 = .ok (.iadd, 1) := by decide +kernel
theorem dX7_hasValueIf_17 : decode cX7_hasValueIf 17 = .ok (.iload_n 2, 1) := by decide +kernel
theorem dX7_hasValueIf_18 : decode cX7_hasValueIf 18 = .ok (.iastore, 1) := by decide +kernel
theorem dX7_hasValueIf_19 : decode cX7_hasValueIf 19 = .ok (.aload_n 0, 1) := by decide +kernel
theorem dX7_hasValueIf_20 : decode cX7_hasValueIf 20 = .ok (.iload_n 3, 1) := by decide +kernel
theorem dX7_hasValueIf_21 : decode cX7_hasValueIf 21 = .ok (.invokevirtual 282, 3) := by decide +kernel
theorem dX7_hasValueIf_24 : decode cX7_hasValueIf 24 = .ok (.istore 5, 2) := by decide +kernel
theorem dX7_hasValueIf_26 : decode cX7_hasValueIf 26 = .ok (.aload_n 0, 1) := by decide +kernel
theorem dX7_hasValueIf_27 : decode cX7_hasValueIf 27 = .ok (.getfield 7, 3) := by decide +kernel
theorem dX7_hasValueIf_30 : decode cX7_hasValueIf 30 = .ok (.iconst 3, 1) := by decide +kernel
theorem dX7_hasValueIf_31 : decode cX7_hasValueIf 31 = .ok (.iload_n 1, 1) := by decide +kernel
theorem dX7_hasValueIf_32 : decode cX7_hasValueIf 32 = .ok (.iadd, 1) := by decide +kernel
theorem dX7_hasValueIf_33 : decode cX7_hasValueIf 33 = .ok (.iload 4, 2) := by decide +kernel
theorem dX7_hasValueIf_35 : decode cX7_hasValueIf 35 = .ok (.iastore, 1) := by decide +kernel
theorem dX7_hasValueIf_36 : decode cX7_hasValueIf 36 = .ok (.iload 5, 2) := by decide +kernel
theorem dX7_hasValueIf_38 : decode cX7_hasValueIf 38 = .ok (.ireturn, 1) := by decide +kernel
theorem dX7_valueIf_0 : decode cX7_valueIf 0 = .ok (.aload_n 0, 1) := by decide +kernel
theorem dX7_valueIf_1 : decode cX7_valueIf 1 = .ok (.iload_n 1, 1) := by decide +kernel
theorem dX7_valueIf_2 : decode cX7_valueIf 2 = .ok (.invokevirtual 182, 3) := by decide +kernel
theorem dX7_valueIf_5 : decode cX7_valueIf 5 = .ok (.istore 5, 2) := by decide +kernel
theorem dX7_valueIf_7 : decode cX7_valueIf 7 = .ok (.aload_n 0, 1) := by decide +kernel
theorem dX7_valueIf_8 : decode cX7_valueIf 8 = .ok (.iload 5, 2) := by decide +kernel
theorem dX7_valueIf_10 : decode cX7_valueIf 10 = .ok (.iload_n 2, 1) := by decide +kernel
theorem dX7_valueIf_11 : decode cX7_valueIf 11 = .ok (.invokestatic 318, 3) := by decide +kernel
theorem dX7_valueIf_14 : decode cX7_valueIf 14 = .ok (.ifCond .eq 22, 3) := by decide +kernel
theorem dX7_valueIf_17 : decode cX7_valueIf 17 = .ok (.iload_n 3, 1) := by decide +kernel
theorem dX7_valueIf_18 : decode cX7_valueIf 18 = .ok (.invokestatic 193, 3) := by decide +kernel
theorem dX7_valueIf_21 : decode cX7_valueIf 21 = .ok (.ifCond .eq 15, 3) := by decide +kernel
theorem dX7_valueIf_24 : decode cX7_valueIf 24 = .ok (.iload 4, 2) := by decide +kernel
theorem dX7_valueIf_26 : decode cX7_valueIf 26 = .ok (.invokestatic 279, 3) := by decide +kernel
theorem dX7_valueIf_29 : decode cX7_valueIf 29 = .ok (.ifCond .eq 7, 3) := by decide +kernel
theorem dX7_valueIf_32 : decode cX7_valueIf 32 = .ok (.iconst 1, 1) := by decide +kernel
theorem dX7_valueIf_33 : decode cX7_valueIf 33 = .ok (.goto 4, 3) := by decide +kernel
theorem dX7_valueIf_36 : decode cX7_valueIf 36 = .ok (.iconst 0, 1) := by decide +kernel
theorem dX7_valueIf_37 : decode cX7_valueIf 37 = .ok (.iload 5, 2) := by decide +kernel
theorem dX7_valueIf_39 : decode cX7_valueIf 39 = .ok (.ifCond .eq 16, 3) := by decide +kernel
theorem dX7_valueIf_42 : decode cX7_valueIf 42 = .ok (.aload_n 0, 1) := by decide +kernel
theorem dX7_valueIf_43 : decode cX7_valueIf 43 = .ok (.iload_n 1, 1) := by decide +kernel
theorem dX7_valueIf_44 : decode cX7_valueIf 44 = .ok (.iload_n 2, 1) := by decide +kernel
theorem dX7_valueIf_45 : decode cX7_valueIf 45 = .ok (.invokevirtual 321, 3) := by decide +kernel
theorem dX7_valueIf_48 : decode cX7_valueIf 48 = .ok (.ifCond .eq 7, 3) := by decide +kernel
theorem dX7_valueIf_51 : decode cX7_valueIf 51 = .ok (.iconst 1, 1) := by decide +kernel
theorem dX7_valueIf_52 : decode cX7_valueIf 52 = .ok (.goto 4, 3) := by decide +kernel
theorem dX7_valueIf_55 : decode cX7_valueIf 55 = .ok (.iconst 0, 1) := by decide +kernel
theorem dX7_valueIf_56 : decode cX7_valueIf 56 = .ok (.invokevirtual 45, 3) := by decide +kernel
theorem dX7_valueIf_59 : decode cX7_valueIf 59 = .ok (.ifCond .ne 5, 3) := by decide +kernel
theorem dX7_valueIf_62 : decode cX7_valueIf 62 = .ok (.lconst 0, 1) := by decide +kernel
theorem dX7_valueIf_63 : decode cX7_valueIf 63 = .ok (.lreturn, 1) := by decide +kernel
theorem dX7_valueIf_64 : decode cX7_valueIf 64 = .ok (.aload_n 0, 1) := by decide +kernel
theorem dX7_valueIf_65 : decode cX7_valueIf 65 = .ok (.iload_n 1, 1) := by decide +kernel
theorem dX7_valueIf_66 : decode cX7_valueIf 66 = .ok (.iload_n 2, 1) := by decide +kernel
theorem dX7_valueIf_67 : decode cX7_valueIf 67 = .ok (.iload_n 3, 1) := by decide +kernel
theorem dX7_valueIf_68 : decode cX7_valueIf 68 = .ok (.invokevirtual 324, 3) := by decide +kernel
theorem dX7_valueIf_71 : decode cX7_valueIf 71 = .ok (.ifCond .ne 10, 3) := by decide +kernel
theorem dX7_valueIf_74 : decode cX7_valueIf 74 = .ok (.aload_n 0, 1) := by decide +kernel
theorem dX7_valueIf_75 : decode cX7_valueIf 75 = .ok (.iconst 4, 1) := by decide +kernel
theorem dX7_valueIf_76 : decode cX7_valueIf 76 = .ok (.putfield 42, 3) := by decide +kernel
theorem dX7_valueIf_79 : decode cX7_valueIf 79 = .ok (.lconst 0, 1) := by decide +kernel
theorem dX7_valueIf_80 : decode cX7_valueIf 80 = .ok (.lreturn, 1) := by decide +kernel
theorem dX7_valueIf_81 : decode cX7_valueIf 81 = .ok (.aload_n 0, 1) := by decide +kernel
theorem dX7_valueIf_82 : decode cX7_valueIf 82 = .ok (.iload 4, 2) := by decide +kernel
theorem dX7_valueIf_84 : decode cX7_valueIf 84 = .ok (.invokevirtual 285, 3) := by decide +kernel
theorem dX7_valueIf_87 : decode cX7_valueIf 87 = .ok (.lreturn, 1) := by decide +kernel
theorem dX7_closes_0 : decode cX7_closes 0 = .ok (.aload_n 0, 1) := by decide +kernel
theorem dX7_closes_1 : decode cX7_closes 1 = .ok (.getfield 7, 3) := by decide +kernel
theorem dX7_closes_4 : decode cX7_closes 4 = .ok (.iconst 2, 1) := by decide +kernel
theorem dX7_closes_5 : decode cX7_closes 5 = .ok (.dup2, 1) := by decide +kernel
theorem dX7_closes_6 : decode cX7_closes 6 = .ok (.iaload, 1) := by decide +kernel
theorem dX7_closes_7 : decode cX7_closes 7 = .ok (.iconst 1, 1) := by decide +kernel
theorem dX7_closes_8 : decode cX7_closes 8 = .ok (.isub, 1) := by decide +kernel
theorem dX7_closes_9 : decode cX7_closes 9 = .ok (.iastore, 1) := by decide +kernel
theorem dX7_closes_10 : decode cX7_closes 10 = .ok (.iload_n 1, 1) := by decide +kernel
theorem dX7_closes_11 : decode cX7_closes 11 = .ok (.istore_n 2, 1) := by decide +kernel
theorem dX7_closes_12 : decode cX7_closes 12 = .ok (.iload_n 2, 1) := by decide +kernel
theorem dX7_closes_13 : decode cX7_closes 13 = .ok (.aload_n 0, 1) := by decide +kernel
theorem dX7_closes_14 : decode cX7_closes 14 = .ok (.getfield 7, 3) := by decide +kernel
theorem dX7_closes_17 : decode cX7_closes 17 = .ok (.iconst 2, 1) := by decide +kernel
theorem dX7_closes_18 : decode cX7_closes 18 = .ok (.iaload, 1) := by decide +kernel
theorem dX7_closes_19 : decode cX7_closes 19 = .ok (.if_icmp .ge 67, 3) := by decide +kernel
theorem dX7_closes_22 : decode cX7_closes 22 = .ok (.aload_n 0, 1) := by decide +kernel
theorem dX7_closes_23 : decode cX7_closes 23 = .ok (.getfield 7, 3) := by decide +kernel
theorem dX7_closes_26 : decode cX7_closes 26 = .ok (.iconst 3, 1) := by decide +kernel
theorem dX7_closes_27 : decode cX7_closes 27 = .ok (.iload_n 2, 1) := by decide +kernel
theorem dX7_closes_28 : decode cX7_closes 28 = .ok (.iadd, 1) := by decide +kernel
theorem dX7_closes_29 : decode cX7_closes 29 = .ok (.aload_n 0, 1) := by decide +kernel
theorem dX7_closes_30 : decode cX7_closes 30 = .ok (.getfield 7, 3) := by decide +kernel
theorem dX7_closes_33 : decode cX7_closes 33 = .ok (.iconst 3, 1) := by decide +kernel
theorem dX7_closes_34 : decode cX7_closes 34 = .ok (.iload_n 2, 1) := by decide +kernel
theorem dX7_closes_35 : decode cX7_closes 35 = .ok (.iadd, 1) := by decide +kernel
theorem dX7_closes_36 : decode cX7_closes 36 = .ok (.iconst 1, 1) := by decide +kernel
theorem dX7_closes_37 : decode cX7_closes 37 = .ok (.iadd, 1) := by decide +kernel
theorem dX7_closes_38 : decode cX7_closes 38 = .ok (.iaload, 1) := by decide +kernel
theorem dX7_closes_39 : decode cX7_closes 39 = .ok (.iastore, 1) := by decide +kernel
theorem dX7_closes_40 : decode cX7_closes 40 = .ok (.aload_n 0, 1) := by decide +kernel
theorem dX7_closes_41 : decode cX7_closes 41 = .ok (.getfield 7, 3) := by decide +kernel
theorem dX7_closes_44 : decode cX7_closes 44 = .ok (.bipush 8, 2) := by decide +kernel
theorem dX7_closes_46 : decode cX7_closes 46 = .ok (.iload_n 2, 1) := by decide +kernel
theorem dX7_closes_47 : decode cX7_closes 47 = .ok (.iadd, 1) := by decide +kernel
theorem dX7_closes_48 : decode cX7_closes 48 = .ok (.aload_n 0, 1) := by decide +kernel
theorem dX7_closes_49 : decode cX7_closes 49 = .ok (.getfield 7, 3) := by decide +kernel
theorem dX7_closes_52 : decode cX7_closes 52 = .ok (.bipush 8, 2) := by decide +kernel
theorem dX7_closes_54 : decode cX7_closes 54 = .ok (.iload_n 2, 1) := by decide +kernel
theorem dX7_closes_55 : decode cX7_closes 55 = .ok (.iadd, 1) := by decide +kernel
theorem dX7_closes_56 : decode cX7_closes 56 = .ok (.iconst 1, 1) := by decide +kernel
theorem dX7_closes_57 : decode cX7_closes 57 = .ok (.iadd, 1) := by decide +kernel
theorem dX7_closes_58 : decode cX7_closes 58 = .ok (.iaload, 1) := by decide +kernel
theorem dX7_closes_59 : decode cX7_closes 59 = .ok (.iastore, 1) := by decide +kernel
theorem dX7_closes_60 : decode cX7_closes 60 = .ok (.aload_n 0, 1) := by decide +kernel
theorem dX7_closes_61 : decode cX7_closes 61 = .ok (.getfield 7, 3) := by decide +kernel
theorem dX7_closes_64 : decode cX7_closes 64 = .ok (.bipush 13, 2) := by decide +kernel
theorem dX7_closes_66 : decode cX7_closes 66 = .ok (.iload_n 2, 1) := by decide +kernel
theorem dX7_closes_67 : decode cX7_closes 67 = .ok (.iadd, 1) := by decide +kernel
theorem dX7_closes_68 : decode cX7_closes 68 = .ok (.aload_n 0, 1) := by decide +kernel
theorem dX7_closes_69 : decode cX7_closes 69 = .ok (.getfield 7, 3) := by decide +kernel
theorem dX7_closes_72 : decode cX7_closes 72 = .ok (.bipush 13, 2) := by decide +kernel
theorem dX7_closes_74 : decode cX7_closes 74 = .ok (.iload_n 2, 1) := by decide +kernel
theorem dX7_closes_75 : decode cX7_closes 75 = .ok (.iadd, 1) := by decide +kernel
theorem dX7_closes_76 : decode cX7_closes 76 = .ok (.iconst 1, 1) := by decide +kernel
theorem dX7_closes_77 : decode cX7_closes 77 = .ok (.iadd, 1) := by decide +kernel
theorem dX7_closes_78 : decode cX7_closes 78 = .ok (.iaload, 1) := by decide +kernel
theorem dX7_closes_79 : decode cX7_closes 79 = .ok (.iastore, 1) := by decide +kernel
theorem dX7_closes_80 : decode cX7_closes 80 = .ok (.iinc 2 1, 3) := by decide +kernel
theorem dX7_closes_83 : decode cX7_closes 83 = .ok (.goto (-71), 3) := by decide +kernel
theorem dX7_closes_86 : decode cX7_closes 86 = .ok (.return_, 1) := by decide +kernel
theorem dX7_valueWithout_0 : decode cX7_valueWithout 0 = .ok (.aload_n 0, 1) := by decide +kernel
theorem dX7_valueWithout_1 : decode cX7_valueWithout 1 = .ok (.aload_n 0, 1) := by decide +kernel
theorem dX7_valueWithout_2 : decode cX7_valueWithout 2 = .ok (.iload_n 1, 1) := by decide +kernel
theorem dX7_valueWithout_3 : decode cX7_valueWithout 3 = .ok (.invokevirtual 182, 3) := by decide +kernel
theorem dX7_valueWithout_6 : decode cX7_valueWithout 6 = .ok (.iload_n 2, 1) := by decide +kernel
theorem dX7_valueWithout_7 : decode cX7_valueWithout 7 = .ok (.invokestatic 193, 3) := by decide +kernel
theorem dX7_valueWithout_10 : decode cX7_valueWithout 10 = .ok (.ifCond .eq 14, 3) := by decide +kernel
theorem dX7_valueWithout_13 : decode cX7_valueWithout 13 = .ok (.iload_n 3, 1) := by decide +kernel
theorem dX7_valueWithout_14 : decode cX7_valueWithout 14 = .ok (.invokestatic 279, 3) := by decide +kernel
theorem dX7_valueWithout_17 : decode cX7_valueWithout 17 = .ok (.ifCond .eq 7, 3) := by decide +kernel
theorem dX7_valueWithout_20 : decode cX7_valueWithout 20 = .ok (.iconst 1, 1) := by decide +kernel
theorem dX7_valueWithout_21 : decode cX7_valueWithout 21 = .ok (.goto 4, 3) := by decide +kernel
theorem dX7_valueWithout_24 : decode cX7_valueWithout 24 = .ok (.iconst 0, 1) := by decide +kernel
theorem dX7_valueWithout_25 : decode cX7_valueWithout 25 = .ok (.invokevirtual 187, 3) := by decide +kernel
theorem dX7_valueWithout_28 : decode cX7_valueWithout 28 = .ok (.ifCond .ne 5, 3) := by decide +kernel
theorem dX7_valueWithout_31 : decode cX7_valueWithout 31 = .ok (.lconst 0, 1) := by decide +kernel
theorem dX7_valueWithout_32 : decode cX7_valueWithout 32 = .ok (.lreturn, 1) := by decide +kernel
theorem dX7_valueWithout_33 : decode cX7_valueWithout 33 = .ok (.aload_n 0, 1) := by decide +kernel
theorem dX7_valueWithout_34 : decode cX7_valueWithout 34 = .ok (.invokevirtual 166, 3) := by decide +kernel
theorem dX7_valueWithout_37 : decode cX7_valueWithout 37 = .ok (.aload_n 0, 1) := by decide +kernel
theorem dX7_valueWithout_38 : decode cX7_valueWithout 38 = .ok (.iload_n 1, 1) := by decide +kernel
theorem dX7_valueWithout_39 : decode cX7_valueWithout 39 = .ok (.invokevirtual 328, 3) := by decide +kernel
theorem dX7_valueWithout_42 : decode cX7_valueWithout 42 = .ok (.aload_n 0, 1) := by decide +kernel
theorem dX7_valueWithout_43 : decode cX7_valueWithout 43 = .ok (.iload_n 2, 1) := by decide +kernel
theorem dX7_valueWithout_44 : decode cX7_valueWithout 44 = .ok (.invokevirtual 282, 3) := by decide +kernel
theorem dX7_valueWithout_47 : decode cX7_valueWithout 47 = .ok (.istore 4, 2) := by decide +kernel
theorem dX7_valueWithout_49 : decode cX7_valueWithout 49 = .ok (.aload_n 0, 1) := by decide +kernel
theorem dX7_valueWithout_50 : decode cX7_valueWithout 50 = .ok (.invokevirtual 175, 3) := by decide +kernel
theorem dX7_valueWithout_53 : decode cX7_valueWithout 53 = .ok (.iload 4, 2) := by decide +kernel
theorem dX7_valueWithout_55 : decode cX7_valueWithout 55 = .ok (.ifCond .ne 10, 3) := by decide +kernel
theorem dX7_valueWithout_58 : decode cX7_valueWithout 58 = .ok (.aload_n 0, 1) := by decide +kernel
theorem dX7_valueWithout_59 : decode cX7_valueWithout 59 = .ok (.iconst 3, 1) := by decide +kernel
theorem dX7_valueWithout_60 : decode cX7_valueWithout 60 = .ok (.putfield 42, 3) := by decide +kernel
theorem dX7_valueWithout_63 : decode cX7_valueWithout 63 = .ok (.lconst 0, 1) := by decide +kernel
theorem dX7_valueWithout_64 : decode cX7_valueWithout 64 = .ok (.lreturn, 1) := by decide +kernel
theorem dX7_valueWithout_65 : decode cX7_valueWithout 65 = .ok (.aload_n 0, 1) := by decide +kernel
theorem dX7_valueWithout_66 : decode cX7_valueWithout 66 = .ok (.iload_n 3, 1) := by decide +kernel
theorem dX7_valueWithout_67 : decode cX7_valueWithout 67 = .ok (.invokevirtual 285, 3) := by decide +kernel
theorem dX7_valueWithout_70 : decode cX7_valueWithout 70 = .ok (.lreturn, 1) := by decide +kernel
theorem dX7_placeFor_0 : decode cX7_placeFor 0 = .ok (.bipush 12, 2) := by decide +kernel
theorem dX7_placeFor_2 : decode cX7_placeFor 2 = .ok (.istore_n 3, 1) := by decide +kernel
theorem dX7_placeFor_3 : decode cX7_placeFor 3 = .ok (.lconst 0, 1) := by decide +kernel
theorem dX7_placeFor_4 : decode cX7_placeFor 4 = .ok (.lstore 4, 2) := by decide +kernel
theorem dX7_placeFor_6 : decode cX7_placeFor 6 = .ok (.lconst 1, 1) := by decide +kernel
theorem dX7_placeFor_7 : decode cX7_placeFor 7 = .ok (.lstore 6, 2) := by decide +kernel
theorem dX7_placeFor_9 : decode cX7_placeFor 9 = .ok (.bipush (-9), 2) := by decide +kernel
theorem dX7_placeFor_11 : decode cX7_placeFor 11 = .ok (.istore 8, 2) := by decide +kernel
theorem dX7_placeFor_13 : decode cX7_placeFor 13 = .ok (.iload 8, 2) := by decide +kernel
theorem dX7_placeFor_15 : decode cX7_placeFor 15 = .ok (.bipush 9, 2) := by decide +kernel
theorem dX7_placeFor_17 : decode cX7_placeFor 17 = .ok (.if_icmp .gt 72, 3) := by decide +kernel
theorem dX7_placeFor_20 : decode cX7_placeFor 20 = .ok (.aload_n 0, 1) := by decide +kernel
theorem dX7_placeFor_21 : decode cX7_placeFor 21 = .ok (.iload_n 1, 1) := by decide +kernel
theorem dX7_placeFor_22 : decode cX7_placeFor 22 = .ok (.iload 8, 2) := by decide +kernel
theorem dX7_placeFor_24 : decode cX7_placeFor 24 = .ok (.invokevirtual 321, 3) := by decide +kernel
theorem dX7_placeFor_27 : decode cX7_placeFor 27 = .ok (.ifCond .eq 56, 3) := by decide +kernel
theorem dX7_placeFor_30 : decode cX7_placeFor 30 = .ok (.aload_n 0, 1) := by decide +kernel
theorem dX7_placeFor_31 : decode cX7_placeFor 31 = .ok (.iload_n 1, 1) := by decide +kernel
theorem dX7_placeFor_32 : decode cX7_placeFor 32 = .ok (.iload 8, 2) := by decide +kernel
theorem dX7_placeFor_34 : decode cX7_placeFor 34 = .ok (.iload_n 2, 1) := by decide +kernel
theorem dX7_placeFor_35 : decode cX7_placeFor 35 = .ok (.invokevirtual 324, 3) := by decide +kernel
theorem dX7_placeFor_38 : decode cX7_placeFor 38 = .ok (.ifCond .ne 6, 3) := by decide +kernel
theorem dX7_placeFor_41 : decode cX7_placeFor 41 = .ok (.goto 42, 3) := by decide +kernel
theorem dX7_placeFor_44 : decode cX7_placeFor 44 = .ok (.iload_n 3, 1) := by decide +kernel
theorem dX7_placeFor_45 : decode cX7_placeFor 45 = .ok (.bipush 12, 2) := by decide +kernel
theorem dX7_placeFor_47 : decode cX7_placeFor 47 = .ok (.if_icmp .eq 21, 3) := by decide +kernel
theorem dX7_placeFor_50 : decode cX7_placeFor 50 = .ok (.aload_n 0, 1) := by decide +kernel
theorem dX7_placeFor_51 : decode cX7_placeFor 51 = .ok (.getfield 206, 3) := by decide +kernel
theorem dX7_placeFor_54 : decode cX7_placeFor 54 = .ok (.aload_n 0, 1) := by decide +kernel
theorem dX7_placeFor_55 : decode cX7_placeFor 55 = .ok (.getfield 210, 3) := by decide +kernel
theorem dX7_placeFor_58 : decode cX7_placeFor 58 = .ok (.lload 4, 2) := by decide +kernel
theorem dX7_placeFor_60 : decode cX7_placeFor 60 = .ok (.lload 6, 2) := by decide +kernel
theorem dX7_placeFor_62 : decode cX7_placeFor 62 = .ok (.invokestatic 296, 3) := by decide +kernel
theorem dX7_placeFor_65 : decode cX7_placeFor 65 = .ok (.ifCond .eq 18, 3) := by decide +kernel
theorem dX7_placeFor_68 : decode cX7_placeFor 68 = .ok (.iload 8, 2) := by decide +kernel
theorem dX7_placeFor_70 : decode cX7_placeFor 70 = .ok (.istore_n 3, 1) := by decide +kernel
theorem dX7_placeFor_71 : decode cX7_placeFor 71 = .ok (.aload_n 0, 1) := by decide +kernel
theorem dX7_placeFor_72 : decode cX7_placeFor 72 = .ok (.getfield 206, 3) := by decide +kernel
theorem dX7_placeFor_75 : decode cX7_placeFor 75 = .ok (.lstore 4, 2) := by decide +kernel
theorem dX7_placeFor_77 : decode cX7_placeFor 77 = .ok (.aload_n 0, 1) := by decide +kernel
theorem dX7_placeFor_78 : decode cX7_placeFor 78 = .ok (.getfield 210, 3) := by decide +kernel
theorem dX7_placeFor_81 : decode cX7_placeFor 81 = .ok (.lstore 6, 2) := by decide +kernel
theorem dX7_placeFor_83 : decode cX7_placeFor 83 = .ok (.iinc 8 1, 3) := by decide +kernel
theorem dX7_placeFor_86 : decode cX7_placeFor 86 = .ok (.goto (-73), 3) := by decide +kernel
theorem dX7_placeFor_89 : decode cX7_placeFor 89 = .ok (.iload_n 3, 1) := by decide +kernel
theorem dX7_placeFor_90 : decode cX7_placeFor 90 = .ok (.ireturn, 1) := by decide +kernel
theorem dX7_bestPlace_0 : decode cX7_bestPlace 0 = .ok (.aload_n 0, 1) := by decide +kernel
theorem dX7_bestPlace_1 : decode cX7_bestPlace 1 = .ok (.iload_n 1, 1) := by decide +kernel
theorem dX7_bestPlace_2 : decode cX7_bestPlace 2 = .ok (.invokevirtual 182, 3) := by decide +kernel
theorem dX7_bestPlace_5 : decode cX7_bestPlace 5 = .ok (.ifCond .eq 14, 3) := by decide +kernel
theorem dX7_bestPlace_8 : decode cX7_bestPlace 8 = .ok (.iload_n 2, 1) := by decide +kernel
theorem dX7_bestPlace_9 : decode cX7_bestPlace 9 = .ok (.invokestatic 193, 3) := by decide +kernel
theorem dX7_bestPlace_12 : decode cX7_bestPlace 12 = .ok (.ifCond .eq 7, 3) := by decide +kernel
theorem dX7_bestPlace_15 : decode cX7_bestPlace 15 = .ok (.iconst 1, 1) := by decide +kernel
theorem dX7_bestPlace_16 : decode cX7_bestPlace 16 = .ok (.goto 4, 3) := by decide +kernel
theorem dX7_bestPlace_19 : decode cX7_bestPlace 19 = .ok (.iconst 0, 1) := by decide +kernel
theorem dX7_bestPlace_20 : decode cX7_bestPlace 20 = .ok (.istore_n 3, 1) := by decide +kernel
theorem dX7_bestPlace_21 : decode cX7_bestPlace 21 = .ok (.iload_n 3, 1) := by decide +kernel
theorem dX7_bestPlace_22 : decode cX7_bestPlace 22 = .ok (.ifCond .eq 12, 3) := by decide +kernel
theorem dX7_bestPlace_25 : decode cX7_bestPlace 25 = .ok (.aload_n 0, 1) := by decide +kernel
theorem dX7_bestPlace_26 : decode cX7_bestPlace 26 = .ok (.iload_n 1, 1) := by decide +kernel
theorem dX7_bestPlace_27 : decode cX7_bestPlace 27 = .ok (.iload_n 2, 1) := by decide +kernel
theorem dX7_bestPlace_28 : decode cX7_bestPlace 28 = .ok (.invokevirtual 331, 3) := by decide +kernel
theorem dX7_bestPlace_31 : decode cX7_bestPlace 31 = .ok (.goto 5, 3) := by decide +kernel
theorem dX7_bestPlace_34 : decode cX7_bestPlace 34 = .ok (.bipush 12, 2) := by decide +kernel
theorem dX7_bestPlace_36 : decode cX7_bestPlace 36 = .ok (.istore 4, 2) := by decide +kernel
theorem dX7_bestPlace_38 : decode cX7_bestPlace 38 = .ok (.aload_n 0, 1) := by decide +kernel
theorem dX7_bestPlace_39 : decode cX7_bestPlace 39 = .ok (.aload_n 0, 1) := by decide +kernel
theorem dX7_bestPlace_40 : decode cX7_bestPlace 40 = .ok (.iload_n 1, 1) := by decide +kernel
theorem dX7_bestPlace_41 : decode cX7_bestPlace 41 = .ok (.invokevirtual 182, 3) := by decide +kernel
theorem dX7_bestPlace_44 : decode cX7_bestPlace 44 = .ok (.iload_n 2, 1) := by decide +kernel
theorem dX7_bestPlace_45 : decode cX7_bestPlace 45 = .ok (.invokestatic 193, 3) := by decide +kernel
theorem dX7_bestPlace_48 : decode cX7_bestPlace 48 = .ok (.iload 4, 2) := by decide +kernel
theorem dX7_bestPlace_50 : decode cX7_bestPlace 50 = .ok (.bipush 12, 2) := by decide +kernel
theorem dX7_bestPlace_52 : decode cX7_bestPlace 52 = .ok (.if_icmp .ge 7, 3) := by decide +kernel
theorem dX7_bestPlace_55 : decode cX7_bestPlace 55 = .ok (.iconst 1, 1) := by decide +kernel
theorem dX7_bestPlace_56 : decode cX7_bestPlace 56 = .ok (.goto 4, 3) := by decide +kernel
theorem dX7_bestPlace_59 : decode cX7_bestPlace 59 = .ok (.iconst 0, 1) := by decide +kernel
theorem dX7_bestPlace_60 : decode cX7_bestPlace 60 = .ok (.invokevirtual 45, 3) := by decide +kernel
theorem dX7_bestPlace_63 : decode cX7_bestPlace 63 = .ok (.ifCond .eq 8, 3) := by decide +kernel
theorem dX7_bestPlace_66 : decode cX7_bestPlace 66 = .ok (.iload 4, 2) := by decide +kernel
theorem dX7_bestPlace_68 : decode cX7_bestPlace 68 = .ok (.goto 4, 3) := by decide +kernel
theorem dX7_bestPlace_71 : decode cX7_bestPlace 71 = .ok (.iconst 0, 1) := by decide +kernel
theorem dX7_bestPlace_72 : decode cX7_bestPlace 72 = .ok (.ireturn, 1) := by decide +kernel
theorem dX7_sets_0 : decode cX7_sets 0 = .ok (.aload_n 0, 1) := by decide +kernel
theorem dX7_sets_1 : decode cX7_sets 1 = .ok (.invokevirtual 334, 3) := by decide +kernel
theorem dX7_sets_4 : decode cX7_sets 4 = .ok (.aload_n 0, 1) := by decide +kernel
theorem dX7_sets_5 : decode cX7_sets 5 = .ok (.getfield 7, 3) := by decide +kernel
theorem dX7_sets_8 : decode cX7_sets 8 = .ok (.iload_n 1, 1) := by decide +kernel
theorem dX7_sets_9 : decode cX7_sets 9 = .ok (.iaload, 1) := by decide +kernel
theorem dX7_sets_10 : decode cX7_sets 10 = .ok (.istore_n 3, 1) := by decide +kernel
theorem dX7_sets_11 : decode cX7_sets 11 = .ok (.aload_n 0, 1) := by decide +kernel
theorem dX7_sets_12 : decode cX7_sets 12 = .ok (.getfield 7, 3) := by decide +kernel
theorem dX7_sets_15 : decode cX7_sets 15 = .ok (.iload_n 1, 1) := by decide +kernel
theorem dX7_sets_16 : decode cX7_sets 16 = .ok (.iload_n 2, 1) := by decide +kernel
theorem dX7_sets_17 : decode cX7_sets 17 = .ok (.iastore, 1) := by decide +kernel
theorem dX7_sets_18 : decode cX7_sets 18 = .ok (.iload_n 3, 1) := by decide +kernel
theorem dX7_sets_19 : decode cX7_sets 19 = .ok (.ireturn, 1) := by decide +kernel
theorem dX7_move_0 : decode cX7_move 0 = .ok (.aload_n 0, 1) := by decide +kernel
theorem dX7_move_1 : decode cX7_move 1 = .ok (.iload_n 1, 1) := by decide +kernel
theorem dX7_move_2 : decode cX7_move 2 = .ok (.invokevirtual 182, 3) := by decide +kernel
theorem dX7_move_5 : decode cX7_move 5 = .ok (.istore_n 3, 1) := by decide +kernel
theorem dX7_move_6 : decode cX7_move 6 = .ok (.aload_n 0, 1) := by decide +kernel
theorem dX7_move_7 : decode cX7_move 7 = .ok (.iload_n 3, 1) := by decide +kernel
theorem dX7_move_8 : decode cX7_move 8 = .ok (.iload_n 2, 1) := by decide +kernel
theorem dX7_move_9 : decode cX7_move 9 = .ok (.invokestatic 318, 3) := by decide +kernel
theorem dX7_move_12 : decode cX7_move 12 = .ok (.iload_n 3, 1) := by decide +kernel
theorem dX7_move_13 : decode cX7_move 13 = .ok (.ifCond .eq 16, 3) := by decide +kernel
theorem dX7_move_16 : decode cX7_move 16 = .ok (.aload_n 0, 1) := by decide +kernel
theorem dX7_move_17 : decode cX7_move 17 = .ok (.iload_n 1, 1) := by decide +kernel
theorem dX7_move_18 : decode cX7_move 18 = .ok (.iload_n 2, 1) := by decide +kernel
theorem dX7_move_19 : decode cX7_move 19 = .ok (.invokevirtual 321, 3) := by decide +kernel
theorem dX7_move_22 : decode cX7_move 22 = .ok (.ifCond .eq 7, 3) := by decide +kernel
theorem dX7_move_25 : decode cX7_move 25 = .ok (.iconst 1, 1) := by decide +kernel
theorem dX7_move_26 : decode cX7_move 26 = .ok (.goto 4, 3) := by decide +kernel
theorem dX7_move_29 : decode cX7_move 29 = .ok (.iconst 0, 1) := by decide +kernel
theorem dX7_move_30 : decode cX7_move 30 = .ok (.invokevirtual 45, 3) := by decide +kernel
theorem dX7_move_33 : decode cX7_move 33 = .ok (.ifCond .eq 14, 3) := by decide +kernel
theorem dX7_move_36 : decode cX7_move 36 = .ok (.aload_n 0, 1) := by decide +kernel
theorem dX7_move_37 : decode cX7_move 37 = .ok (.iconst 3, 1) := by decide +kernel
theorem dX7_move_38 : decode cX7_move 38 = .ok (.iload_n 1, 1) := by decide +kernel
theorem dX7_move_39 : decode cX7_move 39 = .ok (.iadd, 1) := by decide +kernel
theorem dX7_move_40 : decode cX7_move 40 = .ok (.iload_n 2, 1) := by decide +kernel
theorem dX7_move_41 : decode cX7_move 41 = .ok (.invokevirtual 337, 3) := by decide +kernel
theorem dX7_move_44 : decode cX7_move 44 = .ok (.goto 4, 3) := by decide +kernel
theorem dX7_move_47 : decode cX7_move 47 = .ok (.iconst 0, 1) := by decide +kernel
theorem dX7_move_48 : decode cX7_move 48 = .ok (.ireturn, 1) := by decide +kernel
theorem dX7_isY_0 : decode cX7_isY 0 = .ok (.iload_n 0, 1) := by decide +kernel
theorem dX7_isY_1 : decode cX7_isY 1 = .ok (.i2l, 1) := by decide +kernel
theorem dX7_isY_2 : decode cX7_isY 2 = .ok (.ldc2_w 340, 3) := by decide +kernel
theorem dX7_isY_5 : decode cX7_isY 5 = .ok (.ldc2_w 342, 3) := by decide +kernel
theorem dX7_isY_8 : decode cX7_isY 8 = .ok (.invokestatic 119, 3) := by decide +kernel
theorem dX7_isY_11 : decode cX7_isY 11 = .ok (.ireturn, 1) := by decide +kernel
theorem dX7_isW_0 : decode cX7_isW 0 = .ok (.iload_n 0, 1) := by decide +kernel
theorem dX7_isW_1 : decode cX7_isW 1 = .ok (.i2l, 1) := by decide +kernel
theorem dX7_isW_2 : decode cX7_isW 2 = .ok (.ldc2_w 314, 3) := by decide +kernel
theorem dX7_isW_5 : decode cX7_isW 5 = .ok (.ldc2_w 316, 3) := by decide +kernel
theorem dX7_isW_8 : decode cX7_isW 8 = .ok (.invokestatic 119, 3) := by decide +kernel
theorem dX7_isW_11 : decode cX7_isW 11 = .ok (.ireturn, 1) := by decide +kernel
theorem dX7_setValue_0 : decode cX7_setValue 0 = .ok (.aload_n 0, 1) := by decide +kernel
theorem dX7_setValue_1 : decode cX7_setValue 1 = .ok (.aload_n 0, 1) := by decide +kernel
theorem dX7_setValue_2 : decode cX7_setValue 2 = .ok (.iload_n 1, 1) := by decide +kernel
theorem dX7_setValue_3 : decode cX7_setValue 3 = .ok (.invokevirtual 182, 3) := by decide +kernel
theorem dX7_setValue_6 : decode cX7_setValue 6 = .ok (.iload_n 2, 1) := by decide +kernel
theorem dX7_setValue_7 : decode cX7_setValue 7 = .ok (.invokestatic 344, 3) := by decide +kernel
theorem dX7_setValue_10 : decode cX7_setValue 10 = .ok (.invokevirtual 187, 3) := by decide +kernel
theorem dX7_setValue_13 : decode cX7_setValue 13 = .ok (.ifCond .eq 15, 3) := by decide +kernel
theorem dX7_setValue_16 : decode cX7_setValue 16 = .ok (.aload_n 0, 1) := by decide +kernel
theorem dX7_setValue_17 : decode cX7_setValue 17 = .ok (.bipush 8, 2) := by decide +kernel
theorem dX7_setValue_19 : decode cX7_setValue 19 = .ok (.iload_n 1, 1) := by decide +kernel
theorem dX7_setValue_20 : decode cX7_setValue 20 = .ok (.iadd, 1) := by decide +kernel
theorem dX7_setValue_21 : decode cX7_setValue 21 = .ok (.iload_n 2, 1) := by decide +kernel
theorem dX7_setValue_22 : decode cX7_setValue 22 = .ok (.invokevirtual 337, 3) := by decide +kernel
theorem dX7_setValue_25 : decode cX7_setValue 25 = .ok (.goto 4, 3) := by decide +kernel
theorem dX7_setValue_28 : decode cX7_setValue 28 = .ok (.iconst 0, 1) := by decide +kernel
theorem dX7_setValue_29 : decode cX7_setValue 29 = .ok (.ireturn, 1) := by decide +kernel
theorem dX7_setWeight_0 : decode cX7_setWeight 0 = .ok (.aload_n 0, 1) := by decide +kernel
theorem dX7_setWeight_1 : decode cX7_setWeight 1 = .ok (.aload_n 0, 1) := by decide +kernel
theorem dX7_setWeight_2 : decode cX7_setWeight 2 = .ok (.iload_n 1, 1) := by decide +kernel
theorem dX7_setWeight_3 : decode cX7_setWeight 3 = .ok (.invokevirtual 182, 3) := by decide +kernel
theorem dX7_setWeight_6 : decode cX7_setWeight 6 = .ok (.iload_n 2, 1) := by decide +kernel
theorem dX7_setWeight_7 : decode cX7_setWeight 7 = .ok (.invokestatic 347, 3) := by decide +kernel
theorem dX7_setWeight_10 : decode cX7_setWeight 10 = .ok (.invokevirtual 187, 3) := by decide +kernel
theorem dX7_setWeight_13 : decode cX7_setWeight 13 = .ok (.ifCond .eq 15, 3) := by decide +kernel
theorem dX7_setWeight_16 : decode cX7_setWeight 16 = .ok (.aload_n 0, 1) := by decide +kernel
theorem dX7_setWeight_17 : decode cX7_setWeight 17 = .ok (.bipush 13, 2) := by decide +kernel
theorem dX7_setWeight_19 : decode cX7_setWeight 19 = .ok (.iload_n 1, 1) := by decide +kernel
theorem dX7_setWeight_20 : decode cX7_setWeight 20 = .ok (.iadd, 1) := by decide +kernel
theorem dX7_setWeight_21 : decode cX7_setWeight 21 = .ok (.iload_n 2, 1) := by decide +kernel
theorem dX7_setWeight_22 : decode cX7_setWeight 22 = .ok (.invokevirtual 337, 3) := by decide +kernel
theorem dX7_setWeight_25 : decode cX7_setWeight 25 = .ok (.goto 4, 3) := by decide +kernel
theorem dX7_setWeight_28 : decode cX7_setWeight 28 = .ok (.iconst 0, 1) := by decide +kernel
theorem dX7_setWeight_29 : decode cX7_setWeight 29 = .ok (.ireturn, 1) := by decide +kernel
theorem dX7_addPoint_0 : decode cX7_addPoint 0 = .ok (.aload_n 0, 1) := by decide +kernel
theorem dX7_addPoint_1 : decode cX7_addPoint 1 = .ok (.iload_n 1, 1) := by decide +kernel
theorem dX7_addPoint_2 : decode cX7_addPoint 2 = .ok (.invokestatic 318, 3) := by decide +kernel
theorem dX7_addPoint_5 : decode cX7_addPoint 5 = .ok (.ifCond .eq 21, 3) := by decide +kernel
theorem dX7_addPoint_8 : decode cX7_addPoint 8 = .ok (.iload_n 2, 1) := by decide +kernel
theorem dX7_addPoint_9 : decode cX7_addPoint 9 = .ok (.invokestatic 344, 3) := by decide +kernel
theorem dX7_addPoint_12 : decode cX7_addPoint 12 = .ok (.ifCond .eq 14, 3) := by decide +kernel
theorem dX7_addPoint_15 : decode cX7_addPoint 15 = .ok (.iload_n 3, 1) := by decide +kernel
theorem dX7_addPoint_16 : decode cX7_addPoint 16 = .ok (.invokestatic 347, 3) := by decide +kernel
theorem dX7_addPoint_19 : decode cX7_addPoint 19 = .ok (.ifCond .eq 7, 3) := by decide +kernel
theorem dX7_addPoint_22 : decode cX7_addPoint 22 = .ok (.iconst 1, 1) := by decide +kernel
theorem dX7_addPoint_23 : decode cX7_addPoint 23 = .ok (.goto 4, 3) := by decide +kernel
theorem dX7_addPoint_26 : decode cX7_addPoint 26 = .ok (.iconst 0, 1) := by decide +kernel
theorem dX7_addPoint_27 : decode cX7_addPoint 27 = .ok (.aload_n 0, 1) := by decide +kernel
theorem dX7_addPoint_28 : decode cX7_addPoint 28 = .ok (.iload_n 1, 1) := by decide +kernel
theorem dX7_addPoint_29 : decode cX7_addPoint 29 = .ok (.invokevirtual 127, 3) := by decide +kernel
theorem dX7_addPoint_32 : decode cX7_addPoint 32 = .ok (.iconst (-1), 1) := by decide +kernel
theorem dX7_addPoint_33 : decode cX7_addPoint 33 = .ok (.if_icmp .ne 17, 3) := by decide +kernel
theorem dX7_addPoint_36 : decode cX7_addPoint 36 = .ok (.aload_n 0, 1) := by decide +kernel
theorem dX7_addPoint_37 : decode cX7_addPoint 37 = .ok (.getfield 7, 3) := by decide +kernel
theorem dX7_addPoint_40 : decode cX7_addPoint 40 = .ok (.iconst 2, 1) := by decide +kernel
theorem dX7_addPoint_41 : decode cX7_addPoint 41 = .ok (.iaload, 1) := by decide +kernel
theorem dX7_addPoint_42 : decode cX7_addPoint 42 = .ok (.iconst 5, 1) := by decide +kernel
theorem dX7_addPoint_43 : decode cX7_addPoint 43 = .ok (.if_icmp .ge 7, 3) := by decide +kernel
theorem dX7_addPoint_46 : decode cX7_addPoint 46 = .ok (.iconst 1, 1) := by decide +kernel
theorem dX7_addPoint_47 : decode cX7_addPoint 47 = .ok (.goto 4, 3) := by decide +kernel
theorem dX7_addPoint_50 : decode cX7_addPoint 50 = .ok (.iconst 0, 1) := by decide +kernel
theorem dX7_addPoint_51 : decode cX7_addPoint 51 = .ok (.invokevirtual 187, 3) := by decide +kernel
theorem dX7_addPoint_54 : decode cX7_addPoint 54 = .ok (.ifCond .ne 5, 3) := by decide +kernel
theorem dX7_addPoint_57 : decode cX7_addPoint 57 = .ok (.iconst 0, 1) := by decide +kernel
theorem dX7_addPoint_58 : decode cX7_addPoint 58 = .ok (.ireturn, 1) := by decide +kernel
theorem dX7_addPoint_59 : decode cX7_addPoint 59 = .ok (.aload_n 0, 1) := by decide +kernel
theorem dX7_addPoint_60 : decode cX7_addPoint 60 = .ok (.invokevirtual 334, 3) := by decide +kernel
theorem dX7_addPoint_63 : decode cX7_addPoint 63 = .ok (.aload_n 0, 1) := by decide +kernel
theorem dX7_addPoint_64 : decode cX7_addPoint 64 = .ok (.getfield 7, 3) := by decide +kernel
theorem dX7_addPoint_67 : decode cX7_addPoint 67 = .ok (.iconst 2, 1) := by decide +kernel
theorem dX7_addPoint_68 : decode cX7_addPoint 68 = .ok (.iaload, 1) := by decide +kernel
theorem dX7_addPoint_69 : decode cX7_addPoint 69 = .ok (.istore 4, 2) := by decide +kernel
theorem dX7_addPoint_71 : decode cX7_addPoint 71 = .ok (.aload_n 0, 1) := by decide +kernel
theorem dX7_addPoint_72 : decode cX7_addPoint 72 = .ok (.getfield 7, 3) := by decide +kernel
theorem dX7_addPoint_75 : decode cX7_addPoint 75 = .ok (.iconst 3, 1) := by decide +kernel
theorem dX7_addPoint_76 : decode cX7_addPoint 76 = .ok (.iload 4, 2) := by decide +kernel
theorem dX7_addPoint_78 : decode cX7_addPoint 78 = .ok (.iadd, 1) := by decide +kernel
theorem dX7_addPoint_79 : decode cX7_addPoint 79 = .ok (.iload_n 1, 1) := by decide +kernel
theorem dX7_addPoint_80 : decode cX7_addPoint 80 = .ok (.iastore, 1) := by decide +kernel
theorem dX7_addPoint_81 : decode cX7_addPoint 81 = .ok (.aload_n 0, 1) := by decide +kernel
theorem dX7_addPoint_82 : decode cX7_addPoint 82 = .ok (.getfield 7, 3) := by decide +kernel
theorem dX7_addPoint_85 : decode cX7_addPoint 85 = .ok (.bipush 8, 2) := by decide +kernel
theorem dX7_addPoint_87 : decode cX7_addPoint 87 = .ok (.iload 4, 2) := by decide +kernel
theorem dX7_addPoint_89 : decode cX7_addPoint 89 = .ok (.iadd, 1) := by decide +kernel
theorem dX7_addPoint_90 : decode cX7_addPoint 90 = .ok (.iload_n 2, 1) := by decide +kernel
theorem dX7_addPoint_91 : decode cX7_addPoint 91 = .ok (.iastore, 1) := by decide +kernel
theorem dX7_addPoint_92 : decode cX7_addPoint 92 = .ok (.aload_n 0, 1) := by decide +kernel
theorem dX7_addPoint_93 : decode cX7_addPoint 93 = .ok (.getfield 7, 3) := by decide +kernel
theorem dX7_addPoint_96 : decode cX7_addPoint 96 = .ok (.bipush 13, 2) := by decide +kernel
theorem dX7_addPoint_98 : decode cX7_addPoint 98 = .ok (.iload 4, 2) := by decide +kernel
theorem dX7_addPoint_100 : decode cX7_addPoint 100 = .ok (.iadd, 1) := by decide +kernel
theorem dX7_addPoint_101 : decode cX7_addPoint 101 = .ok (.iload_n 3, 1) := by decide +kernel
theorem dX7_addPoint_102 : decode cX7_addPoint 102 = .ok (.iastore, 1) := by decide +kernel
theorem dX7_addPoint_103 : decode cX7_addPoint 103 = .ok (.aload_n 0, 1) := by decide +kernel
theorem dX7_addPoint_104 : decode cX7_addPoint 104 = .ok (.getfield 7, 3) := by decide +kernel
theorem dX7_addPoint_107 : decode cX7_addPoint 107 = .ok (.iconst 2, 1) := by decide +kernel
theorem dX7_addPoint_108 : decode cX7_addPoint 108 = .ok (.dup2, 1) := by decide +kernel
theorem dX7_addPoint_109 : decode cX7_addPoint 109 = .ok (.iaload, 1) := by decide +kernel
theorem dX7_addPoint_110 : decode cX7_addPoint 110 = .ok (.iconst 1, 1) := by decide +kernel
theorem dX7_addPoint_111 : decode cX7_addPoint 111 = .ok (.iadd, 1) := by decide +kernel
theorem dX7_addPoint_112 : decode cX7_addPoint 112 = .ok (.iastore, 1) := by decide +kernel
theorem dX7_addPoint_113 : decode cX7_addPoint 113 = .ok (.iload 4, 2) := by decide +kernel
theorem dX7_addPoint_115 : decode cX7_addPoint 115 = .ok (.ireturn, 1) := by decide +kernel
theorem dX7_removePoint_0 : decode cX7_removePoint 0 = .ok (.aload_n 0, 1) := by decide +kernel
theorem dX7_removePoint_1 : decode cX7_removePoint 1 = .ok (.aload_n 0, 1) := by decide +kernel
theorem dX7_removePoint_2 : decode cX7_removePoint 2 = .ok (.iload_n 1, 1) := by decide +kernel
theorem dX7_removePoint_3 : decode cX7_removePoint 3 = .ok (.invokevirtual 182, 3) := by decide +kernel
theorem dX7_removePoint_6 : decode cX7_removePoint 6 = .ok (.invokevirtual 163, 3) := by decide +kernel
theorem dX7_removePoint_9 : decode cX7_removePoint 9 = .ok (.ifCond .ne 5, 3) := by decide +kernel
theorem dX7_removePoint_12 : decode cX7_removePoint 12 = .ok (.iconst 0, 1) := by decide +kernel
theorem dX7_removePoint_13 : decode cX7_removePoint 13 = .ok (.ireturn, 1) := by decide +kernel
theorem dX7_removePoint_14 : decode cX7_removePoint 14 = .ok (.aload_n 0, 1) := by decide +kernel
theorem dX7_removePoint_15 : decode cX7_removePoint 15 = .ok (.invokevirtual 334, 3) := by decide +kernel
theorem dX7_removePoint_18 : decode cX7_removePoint 18 = .ok (.aload_n 0, 1) := by decide +kernel
theorem dX7_removePoint_19 : decode cX7_removePoint 19 = .ok (.iload_n 1, 1) := by decide +kernel
theorem dX7_removePoint_20 : decode cX7_removePoint 20 = .ok (.invokevirtual 328, 3) := by decide +kernel
theorem dX7_removePoint_23 : decode cX7_removePoint 23 = .ok (.aload_n 0, 1) := by decide +kernel
theorem dX7_removePoint_24 : decode cX7_removePoint 24 = .ok (.getfield 7, 3) := by decide +kernel
theorem dX7_removePoint_27 : decode cX7_removePoint 27 = .ok (.iconst 2, 1) := by decide +kernel
theorem dX7_removePoint_28 : decode cX7_removePoint 28 = .ok (.iaload, 1) := by decide +kernel
theorem dX7_removePoint_29 : decode cX7_removePoint 29 = .ok (.ireturn, 1) := by decide +kernel
theorem dX7_setMode_0 : decode cX7_setMode 0 = .ok (.aload_n 0, 1) := by decide +kernel
theorem dX7_setMode_1 : decode cX7_setMode 1 = .ok (.iload_n 1, 1) := by decide +kernel
theorem dX7_setMode_2 : decode cX7_setMode 2 = .ok (.i2l, 1) := by decide +kernel
theorem dX7_setMode_3 : decode cX7_setMode 3 = .ok (.lconst 0, 1) := by decide +kernel
theorem dX7_setMode_4 : decode cX7_setMode 4 = .ok (.ldc2_w 350, 3) := by decide +kernel
theorem dX7_setMode_7 : decode cX7_setMode 7 = .ok (.invokestatic 119, 3) := by decide +kernel
theorem dX7_setMode_10 : decode cX7_setMode 10 = .ok (.ifCond .eq 19, 3) := by decide +kernel
theorem dX7_setMode_13 : decode cX7_setMode 13 = .ok (.iload_n 2, 1) := by decide +kernel
theorem dX7_setMode_14 : decode cX7_setMode 14 = .ok (.i2l, 1) := by decide +kernel
theorem dX7_setMode_15 : decode cX7_setMode 15 = .ok (.lconst 0, 1) := by decide +kernel
theorem dX7_setMode_16 : decode cX7_setMode 16 = .ok (.ldc2_w 263, 3) := by decide +kernel
theorem dX7_setMode_19 : decode cX7_setMode 19 = .ok (.invokestatic 119, 3) := by decide +kernel
theorem dX7_setMode_22 : decode cX7_setMode 22 = .ok (.ifCond .eq 7, 3) := by decide +kernel
theorem dX7_setMode_25 : decode cX7_setMode 25 = .ok (.iconst 1, 1) := by decide +kernel
theorem dX7_setMode_26 : decode cX7_setMode 26 = .ok (.goto 4, 3) := by decide +kernel
theorem dX7_setMode_29 : decode cX7_setMode 29 = .ok (.iconst 0, 1) := by decide +kernel
theorem dX7_setMode_30 : decode cX7_setMode 30 = .ok (.invokevirtual 163, 3) := by decide +kernel
theorem dX7_setMode_33 : decode cX7_setMode 33 = .ok (.ifCond .ne 5, 3) := by decide +kernel
theorem dX7_setMode_36 : decode cX7_setMode 36 = .ok (.iconst 0, 1) := by decide +kernel
theorem dX7_setMode_37 : decode cX7_setMode 37 = .ok (.ireturn, 1) := by decide +kernel
theorem dX7_setMode_38 : decode cX7_setMode 38 = .ok (.aload_n 0, 1) := by decide +kernel
theorem dX7_setMode_39 : decode cX7_setMode 39 = .ok (.iconst 0, 1) := by decide +kernel
theorem dX7_setMode_40 : decode cX7_setMode 40 = .ok (.iload_n 1, 1) := by decide +kernel
theorem dX7_setMode_41 : decode cX7_setMode 41 = .ok (.invokevirtual 337, 3) := by decide +kernel
theorem dX7_setMode_44 : decode cX7_setMode 44 = .ok (.istore_n 3, 1) := by decide +kernel
theorem dX7_setMode_45 : decode cX7_setMode 45 = .ok (.iload_n 1, 1) := by decide +kernel
theorem dX7_setMode_46 : decode cX7_setMode 46 = .ok (.iconst 1, 1) := by decide +kernel
theorem dX7_setMode_47 : decode cX7_setMode 47 = .ok (.if_icmp .ne 10, 3) := by decide +kernel
theorem dX7_setMode_50 : decode cX7_setMode 50 = .ok (.aload_n 0, 1) := by decide +kernel
theorem dX7_setMode_51 : decode cX7_setMode 51 = .ok (.getfield 7, 3) := by decide +kernel
theorem dX7_setMode_54 : decode cX7_setMode 54 = .ok (.iconst 1, 1) := by decide +kernel
theorem dX7_setMode_55 : decode cX7_setMode 55 = .ok (.iload_n 2, 1) := by decide +kernel
theorem dX7_setMode_56 : decode cX7_setMode 56 = .ok (.iastore, 1) := by decide +kernel
theorem dX7_setMode_57 : decode cX7_setMode 57 = .ok (.iload_n 3, 1) := by decide +kernel
theorem dX7_setMode_58 : decode cX7_setMode 58 = .ok (.ireturn, 1) := by decide +kernel
theorem dX7_canShift_0 : decode cX7_canShift 0 = .ok (.iconst 1, 1) := by decide +kernel
theorem dX7_canShift_1 : decode cX7_canShift 1 = .ok (.istore_n 2, 1) := by decide +kernel
theorem dX7_canShift_2 : decode cX7_canShift 2 = .ok (.iconst 0, 1) := by decide +kernel
theorem dX7_canShift_3 : decode cX7_canShift 3 = .ok (.istore_n 3, 1) := by decide +kernel
theorem dX7_canShift_4 : decode cX7_canShift 4 = .ok (.iload_n 3, 1) := by decide +kernel
theorem dX7_canShift_5 : decode cX7_canShift 5 = .ok (.aload_n 0, 1) := by decide +kernel
theorem dX7_canShift_6 : decode cX7_canShift 6 = .ok (.getfield 7, 3) := by decide +kernel
theorem dX7_canShift_9 : decode cX7_canShift 9 = .ok (.iconst 2, 1) := by decide +kernel
theorem dX7_canShift_10 : decode cX7_canShift 10 = .ok (.iaload, 1) := by decide +kernel
theorem dX7_canShift_11 : decode cX7_canShift 11 = .ok (.if_icmp .ge 35, 3) := by decide +kernel
theorem dX7_canShift_14 : decode cX7_canShift 14 = .ok (.iload_n 2, 1) := by decide +kernel
theorem dX7_canShift_15 : decode cX7_canShift 15 = .ok (.ifCond .eq 23, 3) := by decide +kernel
theorem dX7_canShift_18 : decode cX7_canShift 18 = .ok (.aload_n 0, 1) := by decide +kernel
theorem dX7_canShift_19 : decode cX7_canShift 19 = .ok (.getfield 7, 3) := by decide +kernel
theorem dX7_canShift_22 : decode cX7_canShift 22 = .ok (.iconst 3, 1) := by decide +kernel
theorem dX7_canShift_23 : decode cX7_canShift 23 = .ok (.iload_n 3, 1) := by decide +kernel
theorem dX7_canShift_24 : decode cX7_canShift 24 = .ok (.iadd, 1) := by decide +kernel
theorem dX7_canShift_25 : decode cX7_canShift 25 = .ok (.iaload, 1) := by decide +kernel
theorem dX7_canShift_26 : decode cX7_canShift 26 = .ok (.iload_n 1, 1) := by decide +kernel
theorem dX7_canShift_27 : decode cX7_canShift 27 = .ok (.iadd, 1) := by decide +kernel
theorem dX7_canShift_28 : decode cX7_canShift 28 = .ok (.invokestatic 318, 3) := by decide +kernel
theorem dX7_canShift_31 : decode cX7_canShift 31 = .ok (.ifCond .eq 7, 3) := by decide +kernel
theorem dX7_canShift_34 : decode cX7_canShift 34 = .ok (.iconst 1, 1) := by decide +kernel
theorem dX7_canShift_35 : decode cX7_canShift 35 = .ok (.goto 4, 3) := by decide +kernel
theorem dX7_canShift_38 : decode cX7_canShift 38 = .ok (.iconst 0, 1) := by decide +kernel
theorem dX7_canShift_39 : decode cX7_canShift 39 = .ok (.istore_n 2, 1) := by decide +kernel
theorem dX7_canShift_40 : decode cX7_canShift 40 = .ok (.iinc 3 1, 3) := by decide +kernel
theorem dX7_canShift_43 : decode cX7_canShift 43 = .ok (.goto (-39), 3) := by decide +kernel
theorem dX7_canShift_46 : decode cX7_canShift 46 = .ok (.iload_n 2, 1) := by decide +kernel
theorem dX7_canShift_47 : decode cX7_canShift 47 = .ok (.ireturn, 1) := by decide +kernel
theorem dX7_shift_0 : decode cX7_shift 0 = .ok (.iload_n 1, 1) := by decide +kernel
theorem dX7_shift_1 : decode cX7_shift 1 = .ok (.i2l, 1) := by decide +kernel
theorem dX7_shift_2 : decode cX7_shift 2 = .ok (.ldc2_w 352, 3) := by decide +kernel
theorem dX7_shift_5 : decode cX7_shift 5 = .ok (.ldc2_w 354, 3) := by decide +kernel
theorem dX7_shift_8 : decode cX7_shift 8 = .ok (.invokestatic 119, 3) := by decide +kernel
theorem dX7_shift_11 : decode cX7_shift 11 = .ok (.istore_n 2, 1) := by decide +kernel
theorem dX7_shift_12 : decode cX7_shift 12 = .ok (.aload_n 0, 1) := by decide +kernel
theorem dX7_shift_13 : decode cX7_shift 13 = .ok (.iload_n 2, 1) := by decide +kernel
theorem dX7_shift_14 : decode cX7_shift 14 = .ok (.iload_n 2, 1) := by decide +kernel
theorem dX7_shift_15 : decode cX7_shift 15 = .ok (.ifCond .eq 15, 3) := by decide +kernel
theorem dX7_shift_18 : decode cX7_shift 18 = .ok (.aload_n 0, 1) := by decide +kernel
theorem dX7_shift_19 : decode cX7_shift 19 = .ok (.iload_n 1, 1) := by decide +kernel
theorem dX7_shift_20 : decode cX7_shift 20 = .ok (.invokevirtual 356, 3) := by decide +kernel
theorem dX7_shift_23 : decode cX7_shift 23 = .ok (.ifCond .eq 7, 3) := by decide +kernel
theorem dX7_shift_26 : decode cX7_shift 26 = .ok (.iconst 1, 1) := by decide +kernel
theorem dX7_shift_27 : decode cX7_shift 27 = .ok (.goto 4, 3) := by decide +kernel
theorem dX7_shift_30 : decode cX7_shift 30 = .ok (.iconst 0, 1) := by decide +kernel
theorem dX7_shift_31 : decode cX7_shift 31 = .ok (.invokevirtual 187, 3) := by decide +kernel
theorem dX7_shift_34 : decode cX7_shift 34 = .ok (.ifCond .ne 5, 3) := by decide +kernel
theorem dX7_shift_37 : decode cX7_shift 37 = .ok (.iconst 0, 1) := by decide +kernel
theorem dX7_shift_38 : decode cX7_shift 38 = .ok (.ireturn, 1) := by decide +kernel
theorem dX7_shift_39 : decode cX7_shift 39 = .ok (.aload_n 0, 1) := by decide +kernel
theorem dX7_shift_40 : decode cX7_shift 40 = .ok (.invokevirtual 334, 3) := by decide +kernel
theorem dX7_shift_43 : decode cX7_shift 43 = .ok (.iconst 0, 1) := by decide +kernel
theorem dX7_shift_44 : decode cX7_shift 44 = .ok (.istore_n 3, 1) := by decide +kernel
theorem dX7_shift_45 : decode cX7_shift 45 = .ok (.iload_n 3, 1) := by decide +kernel
theorem dX7_shift_46 : decode cX7_shift 46 = .ok (.aload_n 0, 1) := by decide +kernel
theorem dX7_shift_47 : decode cX7_shift 47 = .ok (.getfield 7, 3) := by decide +kernel
theorem dX7_shift_50 : decode cX7_shift 50 = .ok (.iconst 2, 1) := by decide +kernel
theorem dX7_shift_51 : decode cX7_shift 51 = .ok (.iaload, 1) := by decide +kernel
theorem dX7_shift_52 : decode cX7_shift 52 = .ok (.if_icmp .ge 21, 3) := by decide +kernel
theorem dX7_shift_55 : decode cX7_shift 55 = .ok (.aload_n 0, 1) := by decide +kernel
theorem dX7_shift_56 : decode cX7_shift 56 = .ok (.getfield 7, 3) := by decide +kernel
theorem dX7_shift_59 : decode cX7_shift 59 = .ok (.iconst 3, 1) := by decide +kernel
theorem dX7_shift_60 : decode cX7_shift 60 = .ok (.iload_n 3, 1) := by decide +kernel
theorem dX7_shift_61 : decode cX7_shift 61 = .ok (.iadd, 1) := by decide +kernel
theorem dX7_shift_62 : decode cX7_shift 62 = .ok (.dup2, 1) := by decide +kernel
theorem dX7_shift_63 : decode cX7_shift 63 = .ok (.iaload, 1) := by decide +kernel
theorem dX7_shift_64 : decode cX7_shift 64 = .ok (.iload_n 1, 1) := by decide +kernel
theorem dX7_shift_65 : decode cX7_shift 65 = .ok (.iadd, 1) := by decide +kernel
theorem dX7_shift_66 : decode cX7_shift 66 = .ok (.iastore, 1) := by decide +kernel
theorem dX7_shift_67 : decode cX7_shift 67 = .ok (.iinc 3 1, 3) := by decide +kernel
theorem dX7_shift_70 : decode cX7_shift 70 = .ok (.goto (-25), 3) := by decide +kernel
theorem dX7_shift_73 : decode cX7_shift 73 = .ok (.aload_n 0, 1) := by decide +kernel
theorem dX7_shift_74 : decode cX7_shift 74 = .ok (.getfield 7, 3) := by decide +kernel
theorem dX7_shift_77 : decode cX7_shift 77 = .ok (.iconst 2, 1) := by decide +kernel
theorem dX7_shift_78 : decode cX7_shift 78 = .ok (.iaload, 1) := by decide +kernel
theorem dX7_shift_79 : decode cX7_shift 79 = .ok (.ireturn, 1) := by decide +kernel
theorem dX7_mirror_0 : decode cX7_mirror 0 = .ok (.aload_n 0, 1) := by decide +kernel
theorem dX7_mirror_1 : decode cX7_mirror 1 = .ok (.iconst 0, 1) := by decide +kernel
theorem dX7_mirror_2 : decode cX7_mirror 2 = .ok (.putfield 42, 3) := by decide +kernel
theorem dX7_mirror_5 : decode cX7_mirror 5 = .ok (.aload_n 0, 1) := by decide +kernel
theorem dX7_mirror_6 : decode cX7_mirror 6 = .ok (.invokevirtual 334, 3) := by decide +kernel
theorem dX7_mirror_9 : decode cX7_mirror 9 = .ok (.iconst 0, 1) := by decide +kernel
theorem dX7_mirror_10 : decode cX7_mirror 10 = .ok (.istore_n 1, 1) := by decide +kernel
theorem dX7_mirror_11 : decode cX7_mirror 11 = .ok (.iload_n 1, 1) := by decide +kernel
theorem dX7_mirror_12 : decode cX7_mirror 12 = .ok (.aload_n 0, 1) := by decide +kernel
theorem dX7_mirror_13 : decode cX7_mirror 13 = .ok (.getfield 7, 3) := by decide +kernel
theorem dX7_mirror_16 : decode cX7_mirror 16 = .ok (.iconst 2, 1) := by decide +kernel
theorem dX7_mirror_17 : decode cX7_mirror 17 = .ok (.iaload, 1) := by decide +kernel
theorem dX7_mirror_18 : decode cX7_mirror 18 = .ok (.if_icmp .ge 26, 3) := by decide +kernel
theorem dX7_mirror_21 : decode cX7_mirror 21 = .ok (.aload_n 0, 1) := by decide +kernel
theorem dX7_mirror_22 : decode cX7_mirror 22 = .ok (.getfield 7, 3) := by decide +kernel
theorem dX7_mirror_25 : decode cX7_mirror 25 = .ok (.iconst 3, 1) := by decide +kernel
theorem dX7_mirror_26 : decode cX7_mirror 26 = .ok (.iload_n 1, 1) := by decide +kernel
theorem dX7_mirror_27 : decode cX7_mirror 27 = .ok (.iadd, 1) := by decide +kernel
theorem dX7_mirror_28 : decode cX7_mirror 28 = .ok (.aload_n 0, 1) := by decide +kernel
theorem dX7_mirror_29 : decode cX7_mirror 29 = .ok (.getfield 7, 3) := by decide +kernel
theorem dX7_mirror_32 : decode cX7_mirror 32 = .ok (.iconst 3, 1) := by decide +kernel
theorem dX7_mirror_33 : decode cX7_mirror 33 = .ok (.iload_n 1, 1) := by decide +kernel
theorem dX7_mirror_34 : decode cX7_mirror 34 = .ok (.iadd, 1) := by decide +kernel
theorem dX7_mirror_35 : decode cX7_mirror 35 = .ok (.iaload, 1) := by decide +kernel
theorem dX7_mirror_36 : decode cX7_mirror 36 = .ok (.ineg, 1) := by decide +kernel
theorem dX7_mirror_37 : decode cX7_mirror 37 = .ok (.iastore, 1) := by decide +kernel
theorem dX7_mirror_38 : decode cX7_mirror 38 = .ok (.iinc 1 1, 3) := by decide +kernel
theorem dX7_mirror_41 : decode cX7_mirror 41 = .ok (.goto (-30), 3) := by decide +kernel
theorem dX7_mirror_44 : decode cX7_mirror 44 = .ok (.aload_n 0, 1) := by decide +kernel
theorem dX7_mirror_45 : decode cX7_mirror 45 = .ok (.getfield 7, 3) := by decide +kernel
theorem dX7_mirror_48 : decode cX7_mirror 48 = .ok (.iconst 2, 1) := by decide +kernel
theorem dX7_mirror_49 : decode cX7_mirror 49 = .ok (.iaload, 1) := by decide +kernel
theorem dX7_mirror_50 : decode cX7_mirror 50 = .ok (.ireturn, 1) := by decide +kernel
theorem dX7_says_0 : decode cX7_says 0 = .ok (.aload_n 0, 1) := by decide +kernel
theorem dX7_says_1 : decode cX7_says 1 = .ok (.getfield 39, 3) := by decide +kernel
theorem dX7_says_4 : decode cX7_says 4 = .ok (.aload_n 0, 1) := by decide +kernel
theorem dX7_says_5 : decode cX7_says 5 = .ok (.getfield 359, 3) := by decide +kernel
theorem dX7_says_8 : decode cX7_says 8 = .ok (.iload_n 1, 1) := by decide +kernel
theorem dX7_says_9 : decode cX7_says 9 = .ok (.iastore, 1) := by decide +kernel
theorem dX7_says_10 : decode cX7_says 10 = .ok (.aload_n 0, 1) := by decide +kernel
theorem dX7_says_11 : decode cX7_says 11 = .ok (.dup, 1) := by decide +kernel
theorem dX7_says_12 : decode cX7_says 12 = .ok (.getfield 359, 3) := by decide +kernel
theorem dX7_says_15 : decode cX7_says 15 = .ok (.iconst 1, 1) := by decide +kernel
theorem dX7_says_16 : decode cX7_says 16 = .ok (.iadd, 1) := by decide +kernel
theorem dX7_says_17 : decode cX7_says 17 = .ok (.putfield 359, 3) := by decide +kernel
theorem dX7_says_20 : decode cX7_says 20 = .ok (.return_, 1) := by decide +kernel
theorem dX7_saysNumber_0 : decode cX7_saysNumber 0 = .ok (.lload_n 1, 1) := by decide +kernel
theorem dX7_saysNumber_1 : decode cX7_saysNumber 1 = .ok (.lconst 0, 1) := by decide +kernel
theorem dX7_saysNumber_2 : decode cX7_saysNumber 2 = .ok (.lcmp, 1) := by decide +kernel
theorem dX7_saysNumber_3 : decode cX7_saysNumber 3 = .ok (.ifCond .ge 16, 3) := by decide +kernel
theorem dX7_saysNumber_6 : decode cX7_saysNumber 6 = .ok (.aload_n 0, 1) := by decide +kernel
theorem dX7_saysNumber_7 : decode cX7_saysNumber 7 = .ok (.bipush 45, 2) := by decide +kernel
theorem dX7_saysNumber_9 : decode cX7_saysNumber 9 = .ok (.invokevirtual 362, 3) := by decide +kernel
theorem dX7_saysNumber_12 : decode cX7_saysNumber 12 = .ok (.aload_n 0, 1) := by decide +kernel
theorem dX7_saysNumber_13 : decode cX7_saysNumber 13 = .ok (.lload_n 1, 1) := by decide +kernel
theorem dX7_saysNumber_14 : decode cX7_saysNumber 14 = .ok (.lneg, 1) := by decide +kernel
theorem dX7_saysNumber_15 : decode cX7_saysNumber 15 = .ok (.invokevirtual 365, 3) := by decide +kernel
theorem dX7_saysNumber_18 : decode cX7_saysNumber 18 = .ok (.return_, 1) := by decide +kernel
theorem dX7_saysNumber_19 : decode cX7_saysNumber 19 = .ok (.lload_n 1, 1) := by decide +kernel
theorem dX7_saysNumber_20 : decode cX7_saysNumber 20 = .ok (.ldc2_w 316, 3) := by decide +kernel
theorem dX7_saysNumber_23 : decode cX7_saysNumber 23 = .ok (.lcmp, 1) := by decide +kernel
theorem dX7_saysNumber_24 : decode cX7_saysNumber 24 = .ok (.ifCond .le 12, 3) := by decide +kernel
theorem dX7_saysNumber_27 : decode cX7_saysNumber 27 = .ok (.aload_n 0, 1) := by decide +kernel
theorem dX7_saysNumber_28 : decode cX7_saysNumber 28 = .ok (.lload_n 1, 1) := by decide +kernel
theorem dX7_saysNumber_29 : decode cX7_saysNumber 29 = .ok (.ldc2_w 369, 3) := by decide +kernel
theorem dX7_saysNumber_32 : decode cX7_saysNumber 32 = .ok (.ldiv, 1) := by decide +kernel
theorem dX7_saysNumber_33 : decode cX7_saysNumber 33 = .ok (.invokevirtual 365, 3) := by decide +kernel
theorem dX7_saysNumber_36 : decode cX7_saysNumber 36 = .ok (.aload_n 0, 1) := by decide +kernel
theorem dX7_saysNumber_37 : decode cX7_saysNumber 37 = .ok (.bipush 48, 2) := by decide +kernel
theorem dX7_saysNumber_39 : decode cX7_saysNumber 39 = .ok (.lload_n 1, 1) := by decide +kernel
theorem dX7_saysNumber_40 : decode cX7_saysNumber 40 = .ok (.ldc2_w 369, 3) := by decide +kernel
theorem dX7_saysNumber_43 : decode cX7_saysNumber 43 = .ok (.lrem, 1) := by decide +kernel
theorem dX7_saysNumber_44 : decode cX7_saysNumber 44 = .ok (.l2i, 1) := by decide +kernel
theorem dX7_saysNumber_45 : decode cX7_saysNumber 45 = .ok (.iadd, 1) := by decide +kernel
theorem dX7_saysNumber_46 : decode cX7_saysNumber 46 = .ok (.invokevirtual 362, 3) := by decide +kernel
theorem dX7_saysNumber_49 : decode cX7_saysNumber 49 = .ok (.return_, 1) := by decide +kernel
theorem dX7_saysPower_0 : decode cX7_saysPower 0 = .ok (.aload_n 0, 1) := by decide +kernel
theorem dX7_saysPower_1 : decode cX7_saysPower 1 = .ok (.getfield 33, 3) := by decide +kernel
theorem dX7_saysPower_4 : decode cX7_saysPower 4 = .ok (.iload_n 1, 1) := by decide +kernel
theorem dX7_saysPower_5 : decode cX7_saysPower 5 = .ok (.laload, 1) := by decide +kernel
theorem dX7_saysPower_6 : decode cX7_saysPower 6 = .ok (.lstore_n 2, 1) := by decide +kernel
theorem dX7_saysPower_7 : decode cX7_saysPower 7 = .ok (.lload_n 2, 1) := by decide +kernel
theorem dX7_saysPower_8 : decode cX7_saysPower 8 = .ok (.lconst 0, 1) := by decide +kernel
theorem dX7_saysPower_9 : decode cX7_saysPower 9 = .ok (.lcmp, 1) := by decide +kernel
theorem dX7_saysPower_10 : decode cX7_saysPower 10 = .ok (.ifCond .ge 12, 3) := by decide +kernel
theorem dX7_saysPower_13 : decode cX7_saysPower 13 = .ok (.aload_n 0, 1) := by decide +kernel
theorem dX7_saysPower_14 : decode cX7_saysPower 14 = .ok (.bipush 45, 2) := by decide +kernel
theorem dX7_saysPower_16 : decode cX7_saysPower 16 = .ok (.invokevirtual 362, 3) := by decide +kernel
theorem dX7_saysPower_19 : decode cX7_saysPower 19 = .ok (.goto 16, 3) := by decide +kernel
theorem dX7_saysPower_22 : decode cX7_saysPower 22 = .ok (.aload_n 0, 1) := by decide +kernel
theorem dX7_saysPower_23 : decode cX7_saysPower 23 = .ok (.getfield 359, 3) := by decide +kernel
theorem dX7_saysPower_26 : decode cX7_saysPower 26 = .ok (.ifCond .le 9, 3) := by decide +kernel
theorem dX7_saysPower_29 : decode cX7_saysPower 29 = .ok (.aload_n 0, 1) := by decide +kernel
theorem dX7_saysPower_30 : decode cX7_saysPower 30 = .ok (.bipush 43, 2) := by decide +kernel
theorem dX7_saysPower_32 : decode cX7_saysPower 32 = .ok (.invokevirtual 362, 3) := by decide +kernel
theorem dX7_saysPower_35 : decode cX7_saysPower 35 = .ok (.iload_n 1, 1) := by decide +kernel
theorem dX7_saysPower_36 : decode cX7_saysPower 36 = .ok (.ifCond .eq 12, 3) := by decide +kernel
theorem dX7_saysPower_39 : decode cX7_saysPower 39 = .ok (.lload_n 2, 1) := by decide +kernel
theorem dX7_saysPower_40 : decode cX7_saysPower 40 = .ok (.invokestatic 196, 3) := by decide +kernel
theorem dX7_saysPower_43 : decode cX7_saysPower 43 = .ok (.lconst 1, 1) := by decide +kernel
theorem dX7_saysPower_44 : decode cX7_saysPower 44 = .ok (.lcmp, 1) := by decide +kernel
theorem dX7_saysPower_45 : decode cX7_saysPower 45 = .ok (.ifCond .eq 11, 3) := by decide +kernel
theorem dX7_saysPower_48 : decode cX7_saysPower 48 = .ok (.aload_n 0, 1) := by decide +kernel
theorem dX7_saysPower_49 : decode cX7_saysPower 49 = .ok (.lload_n 2, 1) := by decide +kernel
theorem dX7_saysPower_50 : decode cX7_saysPower 50 = .ok (.invokestatic 196, 3) := by decide +kernel
theorem dX7_saysPower_53 : decode cX7_saysPower 53 = .ok (.invokevirtual 365, 3) := by decide +kernel
theorem dX7_saysPower_56 : decode cX7_saysPower 56 = .ok (.iload_n 1, 1) := by decide +kernel
theorem dX7_saysPower_57 : decode cX7_saysPower 57 = .ok (.ifCond .le 9, 3) := by decide +kernel
theorem dX7_saysPower_60 : decode cX7_saysPower 60 = .ok (.aload_n 0, 1) := by decide +kernel
theorem dX7_saysPower_61 : decode cX7_saysPower 61 = .ok (.bipush 120, 2) := by decide +kernel
theorem dX7_saysPower_63 : decode cX7_saysPower 63 = .ok (.invokevirtual 362, 3) := by decide +kernel
theorem dX7_saysPower_66 : decode cX7_saysPower 66 = .ok (.iload_n 1, 1) := by decide +kernel
theorem dX7_saysPower_67 : decode cX7_saysPower 67 = .ok (.iconst 1, 1) := by decide +kernel
theorem dX7_saysPower_68 : decode cX7_saysPower 68 = .ok (.if_icmp .le 15, 3) := by decide +kernel
theorem dX7_saysPower_71 : decode cX7_saysPower 71 = .ok (.aload_n 0, 1) := by decide +kernel
theorem dX7_saysPower_72 : decode cX7_saysPower 72 = .ok (.bipush 94, 2) := by decide +kernel
theorem dX7_saysPower_74 : decode cX7_saysPower 74 = .ok (.invokevirtual 362, 3) := by decide +kernel
theorem dX7_saysPower_77 : decode cX7_saysPower 77 = .ok (.aload_n 0, 1) := by decide +kernel
theorem dX7_saysPower_78 : decode cX7_saysPower 78 = .ok (.iload_n 1, 1) := by decide +kernel
theorem dX7_saysPower_79 : decode cX7_saysPower 79 = .ok (.i2l, 1) := by decide +kernel
theorem dX7_saysPower_80 : decode cX7_saysPower 80 = .ok (.invokevirtual 365, 3) := by decide +kernel
theorem dX7_saysPower_83 : decode cX7_saysPower 83 = .ok (.return_, 1) := by decide +kernel
theorem dX7_write_0 : decode cX7_write 0 = .ok (.aload_n 0, 1) := by decide +kernel
theorem dX7_write_1 : decode cX7_write 1 = .ok (.iconst 0, 1) := by decide +kernel
theorem dX7_write_2 : decode cX7_write 2 = .ok (.putfield 42, 3) := by decide +kernel
theorem dX7_write_5 : decode cX7_write 5 = .ok (.aload_n 0, 1) := by decide +kernel
theorem dX7_write_6 : decode cX7_write 6 = .ok (.iload_n 1, 1) := by decide +kernel
theorem dX7_write_7 : decode cX7_write 7 = .ok (.invokevirtual 259, 3) := by decide +kernel
theorem dX7_write_10 : decode cX7_write 10 = .ok (.aload_n 0, 1) := by decide +kernel
theorem dX7_write_11 : decode cX7_write 11 = .ok (.iconst 0, 1) := by decide +kernel
theorem dX7_write_12 : decode cX7_write 12 = .ok (.putfield 359, 3) := by decide +kernel
theorem dX7_write_15 : decode cX7_write 15 = .ok (.iconst 4, 1) := by decide +kernel
theorem dX7_write_16 : decode cX7_write 16 = .ok (.istore_n 2, 1) := by decide +kernel
theorem dX7_write_17 : decode cX7_write 17 = .ok (.iload_n 2, 1) := by decide +kernel
theorem dX7_write_18 : decode cX7_write 18 = .ok (.ifCond .lt 25, 3) := by decide +kernel
theorem dX7_write_21 : decode cX7_write 21 = .ok (.aload_n 0, 1) := by decide +kernel
theorem dX7_write_22 : decode cX7_write 22 = .ok (.getfield 33, 3) := by decide +kernel
theorem dX7_write_25 : decode cX7_write 25 = .ok (.iload_n 2, 1) := by decide +kernel
theorem dX7_write_26 : decode cX7_write 26 = .ok (.laload, 1) := by decide +kernel
theorem dX7_write_27 : decode cX7_write 27 = .ok (.lconst 0, 1) := by decide +kernel
theorem dX7_write_28 : decode cX7_write 28 = .ok (.lcmp, 1) := by decide +kernel
theorem dX7_write_29 : decode cX7_write 29 = .ok (.ifCond .eq 8, 3) := by decide +kernel
theorem dX7_write_32 : decode cX7_write 32 = .ok (.aload_n 0, 1) := by decide +kernel
theorem dX7_write_33 : decode cX7_write 33 = .ok (.iload_n 2, 1) := by decide +kernel
theorem dX7_write_34 : decode cX7_write 34 = .ok (.invokevirtual 371, 3) := by decide +kernel
theorem dX7_write_37 : decode cX7_write 37 = .ok (.iinc 2 (-1), 3) := by decide +kernel
theorem dX7_write_40 : decode cX7_write 40 = .ok (.goto (-23), 3) := by decide +kernel
theorem dX7_write_43 : decode cX7_write 43 = .ok (.aload_n 0, 1) := by decide +kernel
theorem dX7_write_44 : decode cX7_write 44 = .ok (.getfield 359, 3) := by decide +kernel
theorem dX7_write_47 : decode cX7_write 47 = .ok (.ifCond .ne 9, 3) := by decide +kernel
theorem dX7_write_50 : decode cX7_write 50 = .ok (.aload_n 0, 1) := by decide +kernel
theorem dX7_write_51 : decode cX7_write 51 = .ok (.bipush 48, 2) := by decide +kernel
theorem dX7_write_53 : decode cX7_write 53 = .ok (.invokevirtual 362, 3) := by decide +kernel
theorem dX7_write_56 : decode cX7_write 56 = .ok (.aload_n 0, 1) := by decide +kernel
theorem dX7_write_57 : decode cX7_write 57 = .ok (.getfield 359, 3) := by decide +kernel
theorem dX7_write_60 : decode cX7_write 60 = .ok (.ireturn, 1) := by decide +kernel
theorem dX7_saysValue_0 : decode cX7_saysValue 0 = .ok (.aload_n 0, 1) := by decide +kernel
theorem dX7_saysValue_1 : decode cX7_saysValue 1 = .ok (.iload_n 1, 1) := by decide +kernel
theorem dX7_saysValue_2 : decode cX7_saysValue 2 = .ok (.invokevirtual 276, 3) := by decide +kernel
theorem dX7_saysValue_5 : decode cX7_saysValue 5 = .ok (.istore_n 2, 1) := by decide +kernel
theorem dX7_saysValue_6 : decode cX7_saysValue 6 = .ok (.iload_n 2, 1) := by decide +kernel
theorem dX7_saysValue_7 : decode cX7_saysValue 7 = .ok (.iconst 1, 1) := by decide +kernel
theorem dX7_saysValue_8 : decode cX7_saysValue 8 = .ok (.if_icmp .le 20, 3) := by decide +kernel
theorem dX7_saysValue_11 : decode cX7_saysValue 11 = .ok (.aload_n 0, 1) := by decide +kernel
theorem dX7_saysValue_12 : decode cX7_saysValue 12 = .ok (.iload_n 2, 1) := by decide +kernel
theorem dX7_saysValue_13 : decode cX7_saysValue 13 = .ok (.iconst 2, 1) := by decide +kernel
theorem dX7_saysValue_14 : decode cX7_saysValue 14 = .ok (.if_icmp .ne 8, 3) := by decide +kernel
theorem dX7_saysValue_17 : decode cX7_saysValue 17 = .ok (.bipush 33, 2) := by decide +kernel
theorem dX7_saysValue_19 : decode cX7_saysValue 19 = .ok (.goto 5, 3) := by decide +kernel
theorem dX7_saysValue_22 : decode cX7_saysValue 22 = .ok (.bipush 63, 2) := by decide +kernel
theorem dX7_saysValue_24 : decode cX7_saysValue 24 = .ok (.invokevirtual 362, 3) := by decide +kernel
theorem dX7_saysValue_27 : decode cX7_saysValue 27 = .ok (.return_, 1) := by decide +kernel
theorem dX7_saysValue_28 : decode cX7_saysValue 28 = .ok (.aload_n 0, 1) := by decide +kernel
theorem dX7_saysValue_29 : decode cX7_saysValue 29 = .ok (.aload_n 0, 1) := by decide +kernel
theorem dX7_saysValue_30 : decode cX7_saysValue 30 = .ok (.getfield 206, 3) := by decide +kernel
theorem dX7_saysValue_33 : decode cX7_saysValue 33 = .ok (.invokevirtual 365, 3) := by decide +kernel
theorem dX7_saysValue_36 : decode cX7_saysValue 36 = .ok (.aload_n 0, 1) := by decide +kernel
theorem dX7_saysValue_37 : decode cX7_saysValue 37 = .ok (.getfield 210, 3) := by decide +kernel
theorem dX7_saysValue_40 : decode cX7_saysValue 40 = .ok (.lconst 1, 1) := by decide +kernel
theorem dX7_saysValue_41 : decode cX7_saysValue 41 = .ok (.lcmp, 1) := by decide +kernel
theorem dX7_saysValue_42 : decode cX7_saysValue 42 = .ok (.ifCond .eq 17, 3) := by decide +kernel
theorem dX7_saysValue_45 : decode cX7_saysValue 45 = .ok (.aload_n 0, 1) := by decide +kernel
theorem dX7_saysValue_46 : decode cX7_saysValue 46 = .ok (.bipush 47, 2) := by decide +kernel
theorem dX7_saysValue_48 : decode cX7_saysValue 48 = .ok (.invokevirtual 362, 3) := by decide +kernel
theorem dX7_saysValue_51 : decode cX7_saysValue 51 = .ok (.aload_n 0, 1) := by decide +kernel
theorem dX7_saysValue_52 : decode cX7_saysValue 52 = .ok (.aload_n 0, 1) := by decide +kernel
theorem dX7_saysValue_53 : decode cX7_saysValue 53 = .ok (.getfield 210, 3) := by decide +kernel
theorem dX7_saysValue_56 : decode cX7_saysValue 56 = .ok (.invokevirtual 365, 3) := by decide +kernel
theorem dX7_saysValue_59 : decode cX7_saysValue 59 = .ok (.return_, 1) := by decide +kernel
theorem dX7_writeValues_0 : decode cX7_writeValues 0 = .ok (.aload_n 0, 1) := by decide +kernel
theorem dX7_writeValues_1 : decode cX7_writeValues 1 = .ok (.iconst 0, 1) := by decide +kernel
theorem dX7_writeValues_2 : decode cX7_writeValues 2 = .ok (.putfield 42, 3) := by decide +kernel
theorem dX7_writeValues_5 : decode cX7_writeValues 5 = .ok (.aload_n 0, 1) := by decide +kernel
theorem dX7_writeValues_6 : decode cX7_writeValues 6 = .ok (.invokevirtual 243, 3) := by decide +kernel
theorem dX7_writeValues_9 : decode cX7_writeValues 9 = .ok (.aload_n 0, 1) := by decide +kernel
theorem dX7_writeValues_10 : decode cX7_writeValues 10 = .ok (.iconst 0, 1) := by decide +kernel
theorem dX7_writeValues_11 : decode cX7_writeValues 11 = .ok (.putfield 359, 3) := by decide +kernel
theorem dX7_writeValues_14 : decode cX7_writeValues 14 = .ok (.bipush (-3), 2) := by decide +kernel
theorem dX7_writeValues_16 : decode cX7_writeValues 16 = .ok (.istore_n 1, 1) := by decide +kernel
theorem dX7_writeValues_17 : decode cX7_writeValues 17 = .ok (.iload_n 1, 1) := by decide +kernel
theorem dX7_writeValues_18 : decode cX7_writeValues 18 = .ok (.iconst 3, 1) := by decide +kernel
theorem dX7_writeValues_19 : decode cX7_writeValues 19 = .ok (.if_icmp .gt 26, 3) := by decide +kernel
theorem dX7_writeValues_22 : decode cX7_writeValues 22 = .ok (.iload_n 1, 1) := by decide +kernel
theorem dX7_writeValues_23 : decode cX7_writeValues 23 = .ok (.bipush (-3), 2) := by decide +kernel
theorem dX7_writeValues_25 : decode cX7_writeValues 25 = .ok (.if_icmp .le 9, 3) := by decide +kernel
theorem dX7_writeValues_28 : decode cX7_writeValues 28 = .ok (.aload_n 0, 1) := by decide +kernel
theorem dX7_writeValues_29 : decode cX7_writeValues 29 = .ok (.bipush 32, 2) := by decide +kernel
theorem dX7_writeValues_31 : decode cX7_writeValues 31 = .ok (.invokevirtual 362, 3) := by decide +kernel
theorem dX7_writeValues_34 : decode cX7_writeValues 34 = .ok (.aload_n 0, 1) := by decide +kernel
theorem dX7_writeValues_35 : decode cX7_writeValues 35 = .ok (.iload_n 1, 1) := by decide +kernel
theorem dX7_writeValues_36 : decode cX7_writeValues 36 = .ok (.invokevirtual 374, 3) := by decide +kernel
theorem dX7_writeValues_39 : decode cX7_writeValues 39 = .ok (.iinc 1 1, 3) := by decide +kernel
theorem dX7_writeValues_42 : decode cX7_writeValues 42 = .ok (.goto (-25), 3) := by decide +kernel
theorem dX7_writeValues_45 : decode cX7_writeValues 45 = .ok (.aload_n 0, 1) := by decide +kernel
theorem dX7_writeValues_46 : decode cX7_writeValues 46 = .ok (.getfield 359, 3) := by decide +kernel
theorem dX7_writeValues_49 : decode cX7_writeValues 49 = .ok (.ireturn, 1) := by decide +kernel
theorem dX7_written_0 : decode cX7_written 0 = .ok (.aload_n 0, 1) := by decide +kernel
theorem dX7_written_1 : decode cX7_written 1 = .ok (.iload_n 1, 1) := by decide +kernel
theorem dX7_written_2 : decode cX7_written 2 = .ok (.i2l, 1) := by decide +kernel
theorem dX7_written_3 : decode cX7_written 3 = .ok (.lconst 0, 1) := by decide +kernel
theorem dX7_written_4 : decode cX7_written 4 = .ok (.aload_n 0, 1) := by decide +kernel
theorem dX7_written_5 : decode cX7_written 5 = .ok (.getfield 359, 3) := by decide +kernel
theorem dX7_written_8 : decode cX7_written 8 = .ok (.iconst 1, 1) := by decide +kernel
theorem dX7_written_9 : decode cX7_written 9 = .ok (.isub, 1) := by decide +kernel
theorem dX7_written_10 : decode cX7_written 10 = .ok (.i2l, 1) := by decide +kernel
theorem dX7_written_11 : decode cX7_written 11 = .ok (.invokestatic 119, 3) := by decide +kernel
theorem dX7_written_14 : decode cX7_written 14 = .ok (.invokevirtual 163, 3) := by decide +kernel
theorem dX7_written_17 : decode cX7_written 17 = .ok (.ifCond .eq 13, 3) := by decide +kernel
theorem dX7_written_20 : decode cX7_written 20 = .ok (.aload_n 0, 1) := by decide +kernel
theorem dX7_written_21 : decode cX7_written 21 = .ok (.getfield 39, 3) := by decide +kernel
theorem dX7_written_24 : decode cX7_written 24 = .ok (.iload_n 1, 1) := by decide +kernel
theorem dX7_written_25 : decode cX7_written 25 = .ok (.iaload, 1) := by decide +kernel
theorem dX7_written_26 : decode cX7_written 26 = .ok (.i2c, 1) := by decide +kernel
theorem dX7_written_27 : decode cX7_written 27 = .ok (.goto 4, 3) := by decide +kernel
theorem dX7_written_30 : decode cX7_written 30 = .ok (.iconst 0, 1) := by decide +kernel
theorem dX7_written_31 : decode cX7_written 31 = .ok (.ireturn, 1) := by decide +kernel
