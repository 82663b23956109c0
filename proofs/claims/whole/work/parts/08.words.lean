theorem dJ13_compare_74951_0 : decode cJ13_compare_74951 0 = .ok (.lload_n 0, 1) := by decide +kernel
theorem dJ13_compare_74951_1 : decode cJ13_compare_74951 1 = .ok (.lload_n 2, 1) := by decide +kernel
theorem dJ13_compare_74951_2 : decode cJ13_compare_74951 2 = .ok (.lcmp, 1) := by decide +kernel
theorem dJ13_compare_74951_3 : decode cJ13_compare_74951 3 = .ok (.ifCond .ge 7, 3) := by decide +kernel
theorem dJ13_compare_74951_6 : decode cJ13_compare_74951 6 = .ok (.iconst (-1), 1) := by decide +kernel
theorem dJ13_compare_74951_7 : decode cJ13_compare_74951 7 = .ok (.goto 14, 3) := by decide +kernel
theorem dJ13_compare_74951_10 : decode cJ13_compare_74951 10 = .ok (.lload_n 0, 1) := by decide +kernel
theorem dJ13_compare_74951_11 : decode cJ13_compare_74951 11 = .ok (.lload_n 2, 1) := by decide +kernel
theorem dJ13_compare_74951_12 : decode cJ13_compare_74951 12 = .ok (.lcmp, 1) := by decide +kernel
theorem dJ13_compare_74951_13 : decode cJ13_compare_74951 13 = .ok (.ifCond .ne 7, 3) := by decide +kernel
theorem dJ13_compare_74951_16 : decode cJ13_compare_74951 16 = .ok (.iconst 0, 1) := by decide +kernel
theorem dJ13_compare_74951_17 : decode cJ13_compare_74951 17 = .ok (.goto 4, 3) := by decide +kernel
theorem dJ13_compare_74951_20 : decode cJ13_compare_74951 20 = .ok (.iconst 1, 1) := by decide +kernel
theorem dJ13_compare_74951_21 : decode cJ13_compare_74951 21 = .ok (.ireturn, 1) := by decide +kernel
theorem dJ9_floorDiv_f86c9_0 : decode cJ9_floorDiv_f86c9 0 = .ok (.lload_n 0, 1) := by decide +kernel
theorem dJ9_floorDiv_f86c9_1 : decode cJ9_floorDiv_f86c9 1 = .ok (.lload_n 2, 1) := by decide +kernel
theorem dJ9_floorDiv_f86c9_2 : decode cJ9_floorDiv_f86c9 2 = .ok (.ldiv, 1) := by decide +kernel
theorem dJ9_floorDiv_f86c9_3 : decode cJ9_floorDiv_f86c9 3 = .ok (.lstore 4, 2) := by decide +kernel
theorem dJ9_floorDiv_f86c9_5 : decode cJ9_floorDiv_f86c9 5 = .ok (.lload_n 0, 1) := by decide +kernel
theorem dJ9_floorDiv_f86c9_6 : decode cJ9_floorDiv_f86c9 6 = .ok (.lload_n 2, 1) := by decide +kernel
theorem dJ9_floorDiv_f86c9_7 : decode cJ9_floorDiv_f86c9 7 = .ok (.lxor, 1) := by decide +kernel
theorem dJ9_floorDiv_f86c9_8 : decode cJ9_floorDiv_f86c9 8 = .ok (.lconst 0, 1) := by decide +kernel
theorem dJ9_floorDiv_f86c9_9 : decode cJ9_floorDiv_f86c9 9 = .ok (.lcmp, 1) := by decide +kernel
theorem dJ9_floorDiv_f86c9_10 : decode cJ9_floorDiv_f86c9 10 = .ok (.ifCond .ge 17, 3) := by decide +kernel
theorem dJ9_floorDiv_f86c9_13 : decode cJ9_floorDiv_f86c9 13 = .ok (.lload 4, 2) := by decide +kernel
theorem dJ9_floorDiv_f86c9_15 : decode cJ9_floorDiv_f86c9 15 = .ok (.lload_n 2, 1) := by decide +kernel
theorem dJ9_floorDiv_f86c9_16 : decode cJ9_floorDiv_f86c9 16 = .ok (.lmul, 1) := by decide +kernel
theorem dJ9_floorDiv_f86c9_17 : decode cJ9_floorDiv_f86c9 17 = .ok (.lload_n 0, 1) := by decide +kernel
theorem dJ9_floorDiv_f86c9_18 : decode cJ9_floorDiv_f86c9 18 = .ok (.lcmp, 1) := by decide +kernel
theorem dJ9_floorDiv_f86c9_19 : decode cJ9_floorDiv_f86c9 19 = .ok (.ifCond .eq 8, 3) := by decide +kernel
theorem dJ9_floorDiv_f86c9_22 : decode cJ9_floorDiv_f86c9 22 = .ok (.lload 4, 2) := by decide +kernel
theorem dJ9_floorDiv_f86c9_24 : decode cJ9_floorDiv_f86c9 24 = .ok (.lconst 1, 1) := by decide +kernel
theorem dJ9_floorDiv_f86c9_25 : decode cJ9_floorDiv_f86c9 25 = .ok (.lsub, 1) := by decide +kernel
theorem dJ9_floorDiv_f86c9_26 : decode cJ9_floorDiv_f86c9 26 = .ok (.lreturn, 1) := by decide +kernel
theorem dJ9_floorDiv_f86c9_27 : decode cJ9_floorDiv_f86c9 27 = .ok (.lload 4, 2) := by decide +kernel
theorem dJ9_floorDiv_f86c9_29 : decode cJ9_floorDiv_f86c9 29 = .ok (.lreturn, 1) := by decide +kernel
theorem dJ0_length_8abf5_0 : decode cJ0_length_8abf5 0 = .ok (.aload_n 0, 1) := by decide +kernel
theorem dJ0_length_8abf5_1 : decode cJ0_length_8abf5 1 = .ok (.getfield 9, 3) := by decide +kernel
theorem dJ0_length_8abf5_4 : decode cJ0_length_8abf5 4 = .ok (.arraylength, 1) := by decide +kernel
theorem dJ0_length_8abf5_5 : decode cJ0_length_8abf5 5 = .ok (.aload_n 0, 1) := by decide +kernel
theorem dJ0_length_8abf5_6 : decode cJ0_length_8abf5 6 = .ok (.invokevirtual 335, 3) := by decide +kernel
theorem dJ0_length_8abf5_9 : decode cJ0_length_8abf5 9 = .ok (.ishr, 1) := by decide +kernel
theorem dJ0_length_8abf5_10 : decode cJ0_length_8abf5 10 = .ok (.ireturn, 1) := by decide +kernel
theorem dJ0_charAt_5068e_0 : decode cJ0_charAt_5068e 0 = .ok (.aload_n 0, 1) := by decide +kernel
theorem dJ0_charAt_5068e_1 : decode cJ0_charAt_5068e 1 = .ok (.invokevirtual 492, 3) := by decide +kernel
theorem dJ0_charAt_5068e_4 : decode cJ0_charAt_5068e 4 = .ok (.ifCond .eq 12, 3) := by decide +kernel
theorem dJ0_charAt_5068e_7 : decode cJ0_charAt_5068e 7 = .ok (.aload_n 0, 1) := by decide +kernel
theorem dJ0_charAt_5068e_8 : decode cJ0_charAt_5068e 8 = .ok (.getfield 9, 3) := by decide +kernel
theorem dJ0_charAt_5068e_11 : decode cJ0_charAt_5068e 11 = .ok (.iload_n 1, 1) := by decide +kernel
theorem dJ0_charAt_5068e_12 : decode cJ0_charAt_5068e 12 = .ok (.invokestatic 495, 3) := by decide +kernel
theorem dJ0_charAt_5068e_15 : decode cJ0_charAt_5068e 15 = .ok (.ireturn, 1) := by decide +kernel
theorem dJ0_charAt_5068e_16 : decode cJ0_charAt_5068e 16 = .ok (.aload_n 0, 1) := by decide +kernel
theorem dJ0_charAt_5068e_17 : decode cJ0_charAt_5068e 17 = .ok (.getfield 9, 3) := by decide +kernel
theorem dJ0_charAt_5068e_20 : decode cJ0_charAt_5068e 20 = .ok (.iload_n 1, 1) := by decide +kernel
theorem dJ0_charAt_5068e_21 : decode cJ0_charAt_5068e 21 = .ok (.invokestatic 498, 3) := by decide +kernel
theorem dJ0_charAt_5068e_24 : decode cJ0_charAt_5068e 24 = .ok (.ireturn, 1) := by decide +kernel
theorem dJ0_coder_7d493_0 : decode cJ0_coder_7d493 0 = .ok (.getstatic 38, 3) := by decide +kernel
theorem dJ0_coder_7d493_3 : decode cJ0_coder_7d493 3 = .ok (.ifCond .eq 10, 3) := by decide +kernel
theorem dJ0_coder_7d493_6 : decode cJ0_coder_7d493 6 = .ok (.aload_n 0, 1) := by decide +kernel
theorem dJ0_coder_7d493_7 : decode cJ0_coder_7d493 7 = .ok (.getfield 15, 3) := by decide +kernel
theorem dJ0_coder_7d493_10 : decode cJ0_coder_7d493 10 = .ok (.goto 4, 3) := by decide +kernel
theorem dJ0_coder_7d493_13 : decode cJ0_coder_7d493 13 = .ok (.iconst 1, 1) := by decide +kernel
theorem dJ0_coder_7d493_14 : decode cJ0_coder_7d493 14 = .ok (.ireturn, 1) := by decide +kernel
theorem dJ0_isLatin1_aae02_0 : decode cJ0_isLatin1_aae02 0 = .ok (.getstatic 38, 3) := by decide +kernel
theorem dJ0_isLatin1_aae02_3 : decode cJ0_isLatin1_aae02 3 = .ok (.ifCond .eq 14, 3) := by decide +kernel
theorem dJ0_isLatin1_aae02_6 : decode cJ0_isLatin1_aae02 6 = .ok (.aload_n 0, 1) := by decide +kernel
theorem dJ0_isLatin1_aae02_7 : decode cJ0_isLatin1_aae02 7 = .ok (.getfield 15, 3) := by decide +kernel
theorem dJ0_isLatin1_aae02_10 : decode cJ0_isLatin1_aae02 10 = .ok (.ifCond .ne 7, 3) := by decide +kernel
theorem dJ0_isLatin1_aae02_13 : decode cJ0_isLatin1_aae02 13 = .ok (.iconst 1, 1) := by decide +kernel
theorem dJ0_isLatin1_aae02_14 : decode cJ0_isLatin1_aae02 14 = .ok (.goto 4, 3) := by decide +kernel
theorem dJ0_isLatin1_aae02_17 : decode cJ0_isLatin1_aae02 17 = .ok (.iconst 0, 1) := by decide +kernel
theorem dJ0_isLatin1_aae02_18 : decode cJ0_isLatin1_aae02 18 = .ok (.ireturn, 1) := by decide +kernel
theorem dJ0_checkIndex_df160_0 : decode cJ0_checkIndex_df160 0 = .ok (.iload_n 0, 1) := by decide +kernel
theorem dJ0_checkIndex_df160_1 : decode cJ0_checkIndex_df160 1 = .ok (.iload_n 1, 1) := by decide +kernel
theorem dJ0_checkIndex_df160_2 : decode cJ0_checkIndex_df160 2 = .ok (.getstatic 1053, 3) := by decide +kernel
theorem dJ0_checkIndex_df160_5 : decode cJ0_checkIndex_df160 5 = .ok (.invokestatic 1059, 3) := by decide +kernel
theorem dJ0_checkIndex_df160_8 : decode cJ0_checkIndex_df160 8 = .ok (.pop, 1) := by decide +kernel
theorem dJ0_checkIndex_df160_9 : decode cJ0_checkIndex_df160 9 = .ok (.return_, 1) := by decide +kernel
theorem dJ1_charAt_3b067_0 : decode cJ1_charAt_3b067 0 = .ok (.iload_n 1, 1) := by decide +kernel
theorem dJ1_charAt_3b067_1 : decode cJ1_charAt_3b067 1 = .ok (.aload_n 0, 1) := by decide +kernel
theorem dJ1_charAt_3b067_2 : decode cJ1_charAt_3b067 2 = .ok (.arraylength, 1) := by decide +kernel
theorem dJ1_charAt_3b067_3 : decode cJ1_charAt_3b067 3 = .ok (.invokestatic 9, 3) := by decide +kernel
theorem dJ1_charAt_3b067_6 : decode cJ1_charAt_3b067 6 = .ok (.aload_n 0, 1) := by decide +kernel
theorem dJ1_charAt_3b067_7 : decode cJ1_charAt_3b067 7 = .ok (.iload_n 1, 1) := by decide +kernel
theorem dJ1_charAt_3b067_8 : decode cJ1_charAt_3b067 8 = .ok (.baload, 1) := by decide +kernel
theorem dJ1_charAt_3b067_9 : decode cJ1_charAt_3b067 9 = .ok (.sipush 255, 3) := by decide +kernel
theorem dJ1_charAt_3b067_12 : decode cJ1_charAt_3b067 12 = .ok (.iand, 1) := by decide +kernel
theorem dJ1_charAt_3b067_13 : decode cJ1_charAt_3b067 13 = .ok (.i2c, 1) := by decide +kernel
theorem dJ1_charAt_3b067_14 : decode cJ1_charAt_3b067 14 = .ok (.ireturn, 1) := by decide +kernel
theorem dJ2_getChar_3b067_0 : decode cJ2_getChar_3b067 0 = .ok (.getstatic 44, 3) := by decide +kernel
theorem dJ2_getChar_3b067_3 : decode cJ2_getChar_3b067 3 = .ok (.ifCond .ne 25, 3) := by decide +kernel
theorem dJ2_getChar_3b067_6 : decode cJ2_getChar_3b067 6 = .ok (.iload_n 1, 1) := by decide +kernel
theorem dJ2_getChar_3b067_7 : decode cJ2_getChar_3b067 7 = .ok (.ifCond .lt 11, 3) := by decide +kernel
theorem dJ2_getChar_3b067_10 : decode cJ2_getChar_3b067 10 = .ok (.iload_n 1, 1) := by decide +kernel
theorem dJ2_getChar_3b067_11 : decode cJ2_getChar_3b067 11 = .ok (.aload_n 0, 1) := by decide +kernel
theorem dJ2_getChar_3b067_12 : decode cJ2_getChar_3b067 12 = .ok (.invokestatic 48, 3) := by decide +kernel
theorem dJ2_getChar_3b067_15 : decode cJ2_getChar_3b067 15 = .ok (.if_icmp .lt 13, 3) := by decide +kernel
theorem dJ2_getChar_3b067_18 : decode cJ2_getChar_3b067 18 = .ok (.new 52, 3) := by decide +kernel
theorem dJ2_getChar_3b067_21 : decode cJ2_getChar_3b067 21 = .ok (.dup, 1) := by decide +kernel
theorem dJ2_getChar_3b067_22 : decode cJ2_getChar_3b067 22 = .ok (.ldc 54, 2) := by decide +kernel
theorem dJ2_getChar_3b067_24 : decode cJ2_getChar_3b067 24 = .ok (.invokespecial 56, 3) := by decide +kernel
theorem dJ2_getChar_3b067_27 : decode cJ2_getChar_3b067 27 = .ok (.athrow, 1) := by decide +kernel
theorem dJ2_getChar_3b067_28 : decode cJ2_getChar_3b067 28 = .ok (.iload_n 1, 1) := by decide +kernel
theorem dJ2_getChar_3b067_29 : decode cJ2_getChar_3b067 29 = .ok (.iconst 1, 1) := by decide +kernel
theorem dJ2_getChar_3b067_30 : decode cJ2_getChar_3b067 30 = .ok (.ishl, 1) := by decide +kernel
theorem dJ2_getChar_3b067_31 : decode cJ2_getChar_3b067 31 = .ok (.istore_n 1, 1) := by decide +kernel
theorem dJ2_getChar_3b067_32 : decode cJ2_getChar_3b067 32 = .ok (.aload_n 0, 1) := by decide +kernel
theorem dJ2_getChar_3b067_33 : decode cJ2_getChar_3b067 33 = .ok (.iload_n 1, 1) := by decide +kernel
theorem dJ2_getChar_3b067_34 : decode cJ2_getChar_3b067 34 = .ok (.iinc 1 1, 3) := by decide +kernel
theorem dJ2_getChar_3b067_37 : decode cJ2_getChar_3b067 37 = .ok (.baload, 1) := by decide +kernel
theorem dJ2_getChar_3b067_38 : decode cJ2_getChar_3b067 38 = .ok (.sipush 255, 3) := by decide +kernel
theorem dJ2_getChar_3b067_41 : decode cJ2_getChar_3b067 41 = .ok (.iand, 1) := by decide +kernel
theorem dJ2_getChar_3b067_42 : decode cJ2_getChar_3b067 42 = .ok (.getstatic 59, 3) := by decide +kernel
theorem dJ2_getChar_3b067_45 : decode cJ2_getChar_3b067 45 = .ok (.ishl, 1) := by decide +kernel
theorem dJ2_getChar_3b067_46 : decode cJ2_getChar_3b067 46 = .ok (.aload_n 0, 1) := by decide +kernel
theorem dJ2_getChar_3b067_47 : decode cJ2_getChar_3b067 47 = .ok (.iload_n 1, 1) := by decide +kernel
theorem dJ2_getChar_3b067_48 : decode cJ2_getChar_3b067 48 = .ok (.baload, 1) := by decide +kernel
theorem dJ2_getChar_3b067_49 : decode cJ2_getChar_3b067 49 = .ok (.sipush 255, 3) := by decide +kernel
theorem dJ2_getChar_3b067_52 : decode cJ2_getChar_3b067 52 = .ok (.iand, 1) := by decide +kernel
theorem dJ2_getChar_3b067_53 : decode cJ2_getChar_3b067 53 = .ok (.getstatic 63, 3) := by decide +kernel
theorem dJ2_getChar_3b067_56 : decode cJ2_getChar_3b067 56 = .ok (.ishl, 1) := by decide +kernel
theorem dJ2_getChar_3b067_57 : decode cJ2_getChar_3b067 57 = .ok (.ior, 1) := by decide +kernel
theorem dJ2_getChar_3b067_58 : decode cJ2_getChar_3b067 58 = .ok (.i2c, 1) := by decide +kernel
theorem dJ2_getChar_3b067_59 : decode cJ2_getChar_3b067 59 = .ok (.ireturn, 1) := by decide +kernel
theorem dJ2_length_9d52b_0 : decode cJ2_length_9d52b 0 = .ok (.aload_n 0, 1) := by decide +kernel
theorem dJ2_length_9d52b_1 : decode cJ2_length_9d52b 1 = .ok (.arraylength, 1) := by decide +kernel
theorem dJ2_length_9d52b_2 : decode cJ2_length_9d52b 2 = .ok (.iconst 1, 1) := by decide +kernel
theorem dJ2_length_9d52b_3 : decode cJ2_length_9d52b 3 = .ok (.ishr, 1) := by decide +kernel
theorem dJ2_length_9d52b_4 : decode cJ2_length_9d52b 4 = .ok (.ireturn, 1) := by decide +kernel
theorem dJ2_charAt_3b067_0 : decode cJ2_charAt_3b067 0 = .ok (.iload_n 1, 1) := by decide +kernel
theorem dJ2_charAt_3b067_1 : decode cJ2_charAt_3b067 1 = .ok (.aload_n 0, 1) := by decide +kernel
theorem dJ2_charAt_3b067_2 : decode cJ2_charAt_3b067 2 = .ok (.invokestatic 67, 3) := by decide +kernel
theorem dJ2_charAt_3b067_5 : decode cJ2_charAt_3b067 5 = .ok (.aload_n 0, 1) := by decide +kernel
theorem dJ2_charAt_3b067_6 : decode cJ2_charAt_3b067 6 = .ok (.iload_n 1, 1) := by decide +kernel
theorem dJ2_charAt_3b067_7 : decode cJ2_charAt_3b067 7 = .ok (.invokestatic 71, 3) := by decide +kernel
theorem dJ2_charAt_3b067_10 : decode cJ2_charAt_3b067 10 = .ok (.ireturn, 1) := by decide +kernel
theorem dJ2_checkIndex_2214a_0 : decode cJ2_checkIndex_2214a 0 = .ok (.iload_n 0, 1) := by decide +kernel
theorem dJ2_checkIndex_2214a_1 : decode cJ2_checkIndex_2214a 1 = .ok (.aload_n 1, 1) := by decide +kernel
theorem dJ2_checkIndex_2214a_2 : decode cJ2_checkIndex_2214a 2 = .ok (.invokestatic 48, 3) := by decide +kernel
theorem dJ2_checkIndex_2214a_5 : decode cJ2_checkIndex_2214a 5 = .ok (.invokestatic 414, 3) := by decide +kernel
theorem dJ2_checkIndex_2214a_8 : decode cJ2_checkIndex_2214a 8 = .ok (.return_, 1) := by decide +kernel
theorem cl_X4_39 : Cond.constantLong RX4 39 10 ∈ wG := wG_t 417 (by decide +kernel) (by decide +kernel)
theorem cl_X4_41 : Cond.constantLong RX4 41 48 ∈ wG := wG_t 418 (by decide +kernel) (by decide +kernel)
theorem cl_X7_178 : Cond.constantLong RX7 178 (-12) ∈ wG := wG_t 1221 (by decide +kernel) (by decide +kernel)
theorem cl_X7_180 : Cond.constantLong RX7 180 12 ∈ wG := wG_t 1222 (by decide +kernel) (by decide +kernel)
theorem cl_X7_185 : Cond.constantLong RX7 185 3 ∈ wG := wG_t 1201 (by decide +kernel) (by decide +kernel)
theorem cl_X7_263 : Cond.constantLong RX7 263 4 ∈ wG := wG_t 1288 (by decide +kernel) (by decide +kernel)
theorem cl_X7_314 : Cond.constantLong RX7 314 (-9) ∈ wG := wG_t 1421 (by decide +kernel) (by decide +kernel)
theorem cl_X7_316 : Cond.constantLong RX7 316 9 ∈ wG := wG_t 1422 (by decide +kernel) (by decide +kernel)
theorem cl_X7_340 : Cond.constantLong RX7 340 (-20) ∈ wG := wG_t 1466 (by decide +kernel) (by decide +kernel)
theorem cl_X7_342 : Cond.constantLong RX7 342 20 ∈ wG := wG_t 1467 (by decide +kernel) (by decide +kernel)
theorem cl_X7_350 : Cond.constantLong RX7 350 2 ∈ wG := wG_t 1487 (by decide +kernel) (by decide +kernel)
theorem cl_X7_352 : Cond.constantLong RX7 352 (-18) ∈ wG := wG_t 1492 (by decide +kernel) (by decide +kernel)
theorem cl_X7_354 : Cond.constantLong RX7 354 18 ∈ wG := wG_t 1493 (by decide +kernel) (by decide +kernel)
theorem cl_X7_369 : Cond.constantLong RX7 369 10 ∈ wG := wG_t 1518 (by decide +kernel) (by decide +kernel)
theorem cw_X0 : ∀ w ∈ u_ws RX0 TX0 7, w ∈ wG := by
  have h : ∀ w ∈ u_ws RX0 TX0 7, w ∈ lw_tbl ∧ goodWord w = true := by decide +kernel
  exact fun w hw => wG_in (h w hw).1 (h w hw).2
theorem fl_X0_12 : Fl RX0 12 0 0 true := ⟨RX0, TX0, 7, tyX0, rfl, by decide, cw_X0, Or.inl (wG_t 99 (by decide +kernel) (by decide +kernel)), tyX0_ok, nmX0, rfl⟩
theorem fl_X0_18 : Fl RX0 18 0 1 true := ⟨RX0, TX0, 7, tyX0, rfl, by decide, cw_X0, Or.inl (wG_t 101 (by decide +kernel) (by decide +kernel)), tyX0_ok, nmX0, rfl⟩
theorem fl_X0_22 : Fl RX0 22 0 2 true := ⟨RX0, TX0, 7, tyX0, rfl, by decide, cw_X0, Or.inl (wG_t 102 (by decide +kernel) (by decide +kernel)), tyX0_ok, nmX0, rfl⟩
theorem fl_X0_25 : Fl RX0 25 0 3 true := ⟨RX0, TX0, 7, tyX0, rfl, by decide, cw_X0, Or.inl (wG_t 103 (by decide +kernel) (by decide +kernel)), tyX0_ok, nmX0, rfl⟩
theorem fl_X0_29 : Fl RX0 29 0 4 true := ⟨RX0, TX0, 7, tyX0, rfl, by decide, cw_X0, Or.inl (wG_t 104 (by decide +kernel) (by decide +kernel)), tyX0_ok, nmX0, rfl⟩
theorem fl_X0_32 : Fl RX0 32 0 5 true := ⟨RX0, TX0, 7, tyX0, rfl, by decide, cw_X0, Or.inl (wG_t 105 (by decide +kernel) (by decide +kernel)), tyX0_ok, nmX0, rfl⟩
theorem fl_X0_35 : Fl RX0 35 0 6 true := ⟨RX0, TX0, 7, tyX0, rfl, by decide, cw_X0, Or.inl (wG_t 106 (by decide +kernel) (by decide +kernel)), tyX0_ok, nmX0, rfl⟩
theorem cw_X3 : ∀ w ∈ u_ws RX3 TX3 6, w ∈ wG := by
  have h : ∀ w ∈ u_ws RX3 TX3 6, w ∈ lw_tbl ∧ goodWord w = true := by decide +kernel
  exact fun w hw => wG_in (h w hw).1 (h w hw).2
theorem fl_X0_62 : Fl RX0 62 3 4 false := ⟨RX3, TX3, 6, tyX3, rfl, by decide, cw_X3, Or.inr ⟨"WeightedNodes", by decide +kernel⟩, tyX3_ok, nmX3, rfl⟩
theorem fl_X0_79 : Fl RX0 79 3 5 false := ⟨RX3, TX3, 6, tyX3, rfl, by decide, cw_X3, Or.inr ⟨"WeightedNodes", by decide +kernel⟩, tyX3_ok, nmX3, rfl⟩
theorem cw_X1 : ∀ w ∈ u_ws RX1 TX1 2, w ∈ wG := by
  have h : ∀ w ∈ u_ws RX1 TX1 2, w ∈ lw_tbl ∧ goodWord w = true := by decide +kernel
  exact fun w hw => wG_in (h w hw).1 (h w hw).2
theorem fl_X1_13 : Fl RX1 13 1 1 false := ⟨RX1, TX1, 2, tyX1, rfl, by decide, cw_X1, Or.inl (wG_t 160 (by decide +kernel) (by decide +kernel)), tyX1_ok, nmX1, rfl⟩
theorem fl_X1_7 : Fl RX1 7 1 0 false := ⟨RX1, TX1, 2, tyX1, rfl, by decide, cw_X1, Or.inl (wG_t 159 (by decide +kernel) (by decide +kernel)), tyX1_ok, nmX1, rfl⟩
theorem cw_X2 : ∀ w ∈ u_ws RX2 TX2 2, w ∈ wG := by
  have h : ∀ w ∈ u_ws RX2 TX2 2, w ∈ lw_tbl ∧ goodWord w = true := by decide +kernel
  exact fun w hw => wG_in (h w hw).1 (h w hw).2
theorem fl_X2_11 : Fl RX2 11 2 0 true := ⟨RX2, TX2, 2, tyX2, rfl, by decide, cw_X2, Or.inl (wG_t 132 (by decide +kernel) (by decide +kernel)), tyX2_ok, nmX2, rfl⟩
theorem fl_X2_17 : Fl RX2 17 2 1 false := ⟨RX2, TX2, 2, tyX2, rfl, by decide, cw_X2, Or.inl (wG_t 133 (by decide +kernel) (by decide +kernel)), tyX2_ok, nmX2, rfl⟩
theorem fl_X3_15 : Fl RX3 15 3 1 true := ⟨RX3, TX3, 6, tyX3, rfl, by decide, cw_X3, Or.inl (wG_t 75 (by decide +kernel) (by decide +kernel)), tyX3_ok, nmX3, rfl⟩
theorem fl_X3_18 : Fl RX3 18 3 2 true := ⟨RX3, TX3, 6, tyX3, rfl, by decide, cw_X3, Or.inl (wG_t 76 (by decide +kernel) (by decide +kernel)), tyX3_ok, nmX3, rfl⟩
theorem fl_X3_21 : Fl RX3 21 3 3 false := ⟨RX3, TX3, 6, tyX3, rfl, by decide, cw_X3, Or.inl (wG_t 77 (by decide +kernel) (by decide +kernel)), tyX3_ok, nmX3, rfl⟩
theorem fl_X3_25 : Fl RX3 25 3 4 false := ⟨RX3, TX3, 6, tyX3, rfl, by decide, cw_X3, Or.inl (wG_t 78 (by decide +kernel) (by decide +kernel)), tyX3_ok, nmX3, rfl⟩
theorem fl_X3_28 : Fl RX3 28 3 5 false := ⟨RX3, TX3, 6, tyX3, rfl, by decide, cw_X3, Or.inl (wG_t 82 (by decide +kernel) (by decide +kernel)), tyX3_ok, nmX3, rfl⟩
theorem fl_X3_9 : Fl RX3 9 3 0 true := ⟨RX3, TX3, 6, tyX3, rfl, by decide, cw_X3, Or.inl (wG_t 74 (by decide +kernel) (by decide +kernel)), tyX3_ok, nmX3, rfl⟩
theorem cw_X4 : ∀ w ∈ u_ws RX4 TX4 2, w ∈ wG := by
  have h : ∀ w ∈ u_ws RX4 TX4 2, w ∈ lw_tbl ∧ goodWord w = true := by decide +kernel
  exact fun w hw => wG_in (h w hw).1 (h w hw).2
theorem fl_X4_15 : Fl RX4 15 4 1 false := ⟨RX4, TX4, 2, tyX4, rfl, by decide, cw_X4, Or.inl (wG_t 146 (by decide +kernel) (by decide +kernel)), tyX4_ok, nmX4, rfl⟩
theorem fl_X4_9 : Fl RX4 9 4 0 true := ⟨RX4, TX4, 2, tyX4, rfl, by decide, cw_X4, Or.inl (wG_t 145 (by decide +kernel) (by decide +kernel)), tyX4_ok, nmX4, rfl⟩
theorem cw_X5 : ∀ w ∈ u_ws RX5 TX5 8, w ∈ wG := by
  have h : ∀ w ∈ u_ws RX5 TX5 8, w ∈ lw_tbl ∧ goodWord w = true := by decide +kernel
  exact fun w hw => wG_in (h w hw).1 (h w hw).2
theorem fl_X5_15 : Fl RX5 15 5 1 false := ⟨RX5, TX5, 8, tyX5, rfl, by decide, cw_X5, Or.inl (wG_t 37 (by decide +kernel) (by decide +kernel)), tyX5_ok, nmX5, rfl⟩
theorem fl_X5_19 : Fl RX5 19 5 2 false := ⟨RX5, TX5, 8, tyX5, rfl, by decide, cw_X5, Or.inl (wG_t 38 (by decide +kernel) (by decide +kernel)), tyX5_ok, nmX5, rfl⟩
theorem fl_X5_22 : Fl RX5 22 5 3 false := ⟨RX5, TX5, 8, tyX5, rfl, by decide, cw_X5, Or.inl (wG_t 39 (by decide +kernel) (by decide +kernel)), tyX5_ok, nmX5, rfl⟩
theorem fl_X5_25 : Fl RX5 25 5 4 false := ⟨RX5, TX5, 8, tyX5, rfl, by decide, cw_X5, Or.inl (wG_t 40 (by decide +kernel) (by decide +kernel)), tyX5_ok, nmX5, rfl⟩
theorem fl_X5_28 : Fl RX5 28 5 5 false := ⟨RX5, TX5, 8, tyX5, rfl, by decide, cw_X5, Or.inl (wG_t 41 (by decide +kernel) (by decide +kernel)), tyX5_ok, nmX5, rfl⟩
theorem fl_X5_31 : Fl RX5 31 5 6 false := ⟨RX5, TX5, 8, tyX5, rfl, by decide, cw_X5, Or.inl (wG_t 42 (by decide +kernel) (by decide +kernel)), tyX5_ok, nmX5, rfl⟩
theorem fl_X5_34 : Fl RX5 34 5 7 false := ⟨RX5, TX5, 8, tyX5, rfl, by decide, cw_X5, Or.inl (wG_t 43 (by decide +kernel) (by decide +kernel)), tyX5_ok, nmX5, rfl⟩
theorem fl_X5_60 : Fl RX5 60 3 4 false := ⟨RX3, TX3, 6, tyX3, rfl, by decide, cw_X3, Or.inr ⟨"WeightedNodes", by decide +kernel⟩, tyX3_ok, nmX3, rfl⟩
theorem fl_X5_71 : Fl RX5 71 3 5 false := ⟨RX3, TX3, 6, tyX3, rfl, by decide, cw_X3, Or.inr ⟨"WeightedNodes", by decide +kernel⟩, tyX3_ok, nmX3, rfl⟩
theorem fl_X5_9 : Fl RX5 9 5 0 true := ⟨RX5, TX5, 8, tyX5, rfl, by decide, cw_X5, Or.inl (wG_t 36 (by decide +kernel) (by decide +kernel)), tyX5_ok, nmX5, rfl⟩
theorem cw_X6 : ∀ w ∈ u_ws RX6 TX6 7, w ∈ wG := by
  have h : ∀ w ∈ u_ws RX6 TX6 7, w ∈ lw_tbl ∧ goodWord w = true := by decide +kernel
  exact fun w hw => wG_in (h w hw).1 (h w hw).2
theorem fl_X6_10 : Fl RX6 10 6 0 true := ⟨RX6, TX6, 7, tyX6, rfl, by decide, cw_X6, Or.inl (wG_t 166 (by decide +kernel) (by decide +kernel)), tyX6_ok, nmX6, rfl⟩
theorem fl_X6_100 : Fl RX6 100 3 5 false := ⟨RX3, TX3, 6, tyX3, rfl, by decide, cw_X3, Or.inr ⟨"WeightedNodes", by decide +kernel⟩, tyX3_ok, nmX3, rfl⟩
theorem fl_X6_19 : Fl RX6 19 6 1 true := ⟨RX6, TX6, 7, tyX6, rfl, by decide, cw_X6, Or.inl (wG_t 167 (by decide +kernel) (by decide +kernel)), tyX6_ok, nmX6, rfl⟩
theorem fl_X6_23 : Fl RX6 23 6 2 true := ⟨RX6, TX6, 7, tyX6, rfl, by decide, cw_X6, Or.inl (wG_t 168 (by decide +kernel) (by decide +kernel)), tyX6_ok, nmX6, rfl⟩
theorem fl_X6_29 : Fl RX6 29 6 3 true := ⟨RX6, TX6, 7, tyX6, rfl, by decide, cw_X6, Or.inl (wG_t 169 (by decide +kernel) (by decide +kernel)), tyX6_ok, nmX6, rfl⟩
theorem fl_X6_36 : Fl RX6 36 6 4 true := ⟨RX6, TX6, 7, tyX6, rfl, by decide, cw_X6, Or.inl (wG_t 170 (by decide +kernel) (by decide +kernel)), tyX6_ok, nmX6, rfl⟩
theorem fl_X6_43 : Fl RX6 43 6 5 true := ⟨RX6, TX6, 7, tyX6, rfl, by decide, cw_X6, Or.inl (wG_t 171 (by decide +kernel) (by decide +kernel)), tyX6_ok, nmX6, rfl⟩
theorem fl_X6_47 : Fl RX6 47 6 6 true := ⟨RX6, TX6, 7, tyX6, rfl, by decide, cw_X6, Or.inl (wG_t 172 (by decide +kernel) (by decide +kernel)), tyX6_ok, nmX6, rfl⟩
theorem fl_X6_66 : Fl RX6 66 0 0 true := ⟨RX0, TX0, 7, tyX0, rfl, by decide, cw_X0, Or.inr ⟨"WeightedNodes", by decide +kernel⟩, tyX0_ok, nmX0, rfl⟩
theorem fl_X6_96 : Fl RX6 96 3 4 false := ⟨RX3, TX3, 6, tyX3, rfl, by decide, cw_X3, Or.inr ⟨"WeightedNodes", by decide +kernel⟩, tyX3_ok, nmX3, rfl⟩
theorem cw_X7 : ∀ w ∈ u_ws RX7 TX7 25, w ∈ wG := by
  have h : ∀ w ∈ u_ws RX7 TX7 25, w ∈ lw_tbl ∧ goodWord w = true := by decide +kernel
  exact fun w hw => wG_in (h w hw).1 (h w hw).2
theorem fl_X7_103 : Fl RX7 103 7 14 false := ⟨RX7, TX7, 25, tyX7, rfl, by decide, cw_X7, Or.inl (wG_t 999 (by decide +kernel) (by decide +kernel)), tyX7_ok, nmX7, rfl⟩
theorem fl_X7_106 : Fl RX7 106 7 15 false := ⟨RX7, TX7, 25, tyX7, rfl, by decide, cw_X7, Or.inl (wG_t 1000 (by decide +kernel) (by decide +kernel)), tyX7_ok, nmX7, rfl⟩
theorem fl_X7_116 : Fl RX7 116 7 16 false := ⟨RX7, TX7, 25, tyX7, rfl, by decide, cw_X7, Or.inl (wG_t 1001 (by decide +kernel) (by decide +kernel)), tyX7_ok, nmX7, rfl⟩
theorem fl_X7_13 : Fl RX7 13 7 1 true := ⟨RX7, TX7, 25, tyX7, rfl, by decide, cw_X7, Or.inl (wG_t 986 (by decide +kernel) (by decide +kernel)), tyX7_ok, nmX7, rfl⟩
theorem fl_X7_16 : Fl RX7 16 7 2 true := ⟨RX7, TX7, 25, tyX7, rfl, by decide, cw_X7, Or.inl (wG_t 987 (by decide +kernel) (by decide +kernel)), tyX7_ok, nmX7, rfl⟩
theorem fl_X7_172 : Fl RX7 172 7 7 false := ⟨RX7, TX7, 25, tyX7, rfl, by decide, cw_X7, Or.inl (wG_t 992 (by decide +kernel) (by decide +kernel)), tyX7_ok, nmX7, rfl⟩
theorem fl_X7_19 : Fl RX7 19 7 5 true := ⟨RX7, TX7, 25, tyX7, rfl, by decide, cw_X7, Or.inl (wG_t 990 (by decide +kernel) (by decide +kernel)), tyX7_ok, nmX7, rfl⟩
theorem fl_X7_206 : Fl RX7 206 7 17 false := ⟨RX7, TX7, 25, tyX7, rfl, by decide, cw_X7, Or.inl (wG_t 1002 (by decide +kernel) (by decide +kernel)), tyX7_ok, nmX7, rfl⟩
theorem fl_X7_210 : Fl RX7 210 7 18 false := ⟨RX7, TX7, 25, tyX7, rfl, by decide, cw_X7, Or.inl (wG_t 1003 (by decide +kernel) (by decide +kernel)), tyX7_ok, nmX7, rfl⟩
theorem fl_X7_22 : Fl RX7 22 7 8 false := ⟨RX7, TX7, 25, tyX7, rfl, by decide, cw_X7, Or.inl (wG_t 993 (by decide +kernel) (by decide +kernel)), tyX7_ok, nmX7, rfl⟩
theorem fl_X7_26 : Fl RX7 26 7 19 true := ⟨RX7, TX7, 25, tyX7, rfl, by decide, cw_X7, Or.inl (wG_t 1004 (by decide +kernel) (by decide +kernel)), tyX7_ok, nmX7, rfl⟩
theorem fl_X7_30 : Fl RX7 30 7 20 true := ⟨RX7, TX7, 25, tyX7, rfl, by decide, cw_X7, Or.inl (wG_t 1005 (by decide +kernel) (by decide +kernel)), tyX7_ok, nmX7, rfl⟩
theorem fl_X7_33 : Fl RX7 33 7 21 true := ⟨RX7, TX7, 25, tyX7, rfl, by decide, cw_X7, Or.inl (wG_t 1006 (by decide +kernel) (by decide +kernel)), tyX7_ok, nmX7, rfl⟩
theorem fl_X7_359 : Fl RX7 359 7 24 false := ⟨RX7, TX7, 25, tyX7, rfl, by decide, cw_X7, Or.inl (wG_t 1009 (by decide +kernel) (by decide +kernel)), tyX7_ok, nmX7, rfl⟩
theorem fl_X7_36 : Fl RX7 36 7 22 true := ⟨RX7, TX7, 25, tyX7, rfl, by decide, cw_X7, Or.inl (wG_t 1007 (by decide +kernel) (by decide +kernel)), tyX7_ok, nmX7, rfl⟩
theorem fl_X7_39 : Fl RX7 39 7 23 true := ⟨RX7, TX7, 25, tyX7, rfl, by decide, cw_X7, Or.inl (wG_t 1008 (by decide +kernel) (by decide +kernel)), tyX7_ok, nmX7, rfl⟩
theorem fl_X7_42 : Fl RX7 42 7 4 false := ⟨RX7, TX7, 25, tyX7, rfl, by decide, cw_X7, Or.inl (wG_t 989 (by decide +kernel) (by decide +kernel)), tyX7_ok, nmX7, rfl⟩
theorem fl_X7_49 : Fl RX7 49 7 3 false := ⟨RX7, TX7, 25, tyX7, rfl, by decide, cw_X7, Or.inl (wG_t 988 (by decide +kernel) (by decide +kernel)), tyX7_ok, nmX7, rfl⟩
theorem fl_X7_52 : Fl RX7 52 7 6 false := ⟨RX7, TX7, 25, tyX7, rfl, by decide, cw_X7, Or.inl (wG_t 991 (by decide +kernel) (by decide +kernel)), tyX7_ok, nmX7, rfl⟩
theorem fl_X7_59 : Fl RX7 59 7 9 false := ⟨RX7, TX7, 25, tyX7, rfl, by decide, cw_X7, Or.inl (wG_t 994 (by decide +kernel) (by decide +kernel)), tyX7_ok, nmX7, rfl⟩
theorem fl_X7_62 : Fl RX7 62 7 11 false := ⟨RX7, TX7, 25, tyX7, rfl, by decide, cw_X7, Or.inl (wG_t 996 (by decide +kernel) (by decide +kernel)), tyX7_ok, nmX7, rfl⟩
theorem fl_X7_7 : Fl RX7 7 7 0 true := ⟨RX7, TX7, 25, tyX7, rfl, by decide, cw_X7, Or.inl (wG_t 985 (by decide +kernel) (by decide +kernel)), tyX7_ok, nmX7, rfl⟩
theorem fl_X7_73 : Fl RX7 73 7 10 false := ⟨RX7, TX7, 25, tyX7, rfl, by decide, cw_X7, Or.inl (wG_t 995 (by decide +kernel) (by decide +kernel)), tyX7_ok, nmX7, rfl⟩
theorem fl_X7_76 : Fl RX7 76 7 12 false := ⟨RX7, TX7, 25, tyX7, rfl, by decide, cw_X7, Or.inl (wG_t 997 (by decide +kernel) (by decide +kernel)), tyX7_ok, nmX7, rfl⟩
theorem fl_X7_79 : Fl RX7 79 7 13 false := ⟨RX7, TX7, 25, tyX7, rfl, by decide, cw_X7, Or.inl (wG_t 998 (by decide +kernel) (by decide +kernel)), tyX7_ok, nmX7, rfl⟩
theorem ml_X0_102 : Cond.methodLink RX0 102 yX0_factor ∈ wG := wG_t 286 (by decide +kernel) (by decide +kernel)
theorem ml_X0_106 : Cond.methodLink RX0 106 yX0_at ∈ wG := wG_t 282 (by decide +kernel) (by decide +kernel)
theorem ml_X0_109 : Cond.methodLink RX0 109 yX0_derivativeAt ∈ wG := wG_t 287 (by decide +kernel) (by decide +kernel)
theorem ml_X0_112 : Cond.methodLink RX0 112 yX0_kindOf ∈ wG := wG_t 278 (by decide +kernel) (by decide +kernel)
theorem ml_X0_115 : Cond.methodLink RX0 115 yX1_put ∈ wG := wG_t 291 (by decide +kernel) (by decide +kernel)
theorem ml_X0_119 : Cond.methodLink RX0 119 yX0_addToRow ∈ wG := wG_t 817 (by decide +kernel) (by decide +kernel)
theorem ml_X0_123 : Cond.methodLink RX0 123 yX1_add ∈ wG := wG_t 821 (by decide +kernel) (by decide +kernel)
theorem ml_X0_38 : Cond.methodLink RX0 38 yX0_sort ∈ wG := wG_t 342 (by decide +kernel) (by decide +kernel)
theorem ml_X0_41 : Cond.methodLink RX0 41 yX0_reckonWeights ∈ wG := wG_t 352 (by decide +kernel) (by decide +kernel)
theorem ml_X0_44 : Cond.methodLink RX0 44 yX0_reckonPolynomials ∈ wG := wG_t 375 (by decide +kernel) (by decide +kernel)
theorem ml_X0_47 : Cond.methodLink RX0 47 yX3_size ∈ wG := wG_t 244 (by decide +kernel) (by decide +kernel)
theorem ml_X0_51 : Cond.methodLink RX0 51 yX3_placeOf ∈ wG := wG_t 346 (by decide +kernel) (by decide +kernel)
theorem ml_X0_55 : Cond.methodLink RX0 55 yX3_xOf ∈ wG := wG_t 351 (by decide +kernel) (by decide +kernel)
theorem ml_X0_58 : Cond.methodLink RX0 58 yX0_pairProduct ∈ wG := wG_t 356 (by decide +kernel) (by decide +kernel)
theorem ml_X0_66 : Cond.methodLink RX0 66 yX3_wOf ∈ wG := wG_t 360 (by decide +kernel) (by decide +kernel)
theorem ml_X0_69 : Cond.methodLink RX0 69 yX0_scaledWeight ∈ wG := wG_t 364 (by decide +kernel) (by decide +kernel)
theorem ml_X0_73 : Cond.methodLink RX0 73 yX1_divisor ∈ wG := wG_t 374 (by decide +kernel) (by decide +kernel)
theorem ml_X0_82 : Cond.methodLink RX0 82 Lib.Math.min.name ∈ wG := wG_t 368 (by decide +kernel) (by decide +kernel)
theorem ml_X0_88 : Cond.methodLink RX0 88 Lib.Math.max.name ∈ wG := wG_t 371 (by decide +kernel) (by decide +kernel)
theorem ml_X0_91 : Cond.methodLink RX0 91 yX0_reckonProduct ∈ wG := wG_t 379 (by decide +kernel) (by decide +kernel)
theorem ml_X0_95 : Cond.methodLink RX0 95 yX0_weightOf ∈ wG := wG_t 245 (by decide +kernel) (by decide +kernel)
theorem ml_X0_99 : Cond.methodLink RX0 99 yX3_yOf ∈ wG := wG_t 383 (by decide +kernel) (by decide +kernel)
theorem ml_X1_16 : Cond.methodLink RX1 16 yX1_divisor ∈ wG := wG_t 295 (by decide +kernel) (by decide +kernel)
theorem ml_X1_20 : Cond.methodLink RX1 20 yX1_put ∈ wG := wG_t 825 (by decide +kernel) (by decide +kernel)
theorem ml_X1_24 : Cond.methodLink RX1 24 yJ13_compare_74951 ∈ wG := wG_t 778 (by decide +kernel) (by decide +kernel)
theorem ml_X1_30 : Cond.methodLink RX1 30 Lib.MathLoose.abs_long.x ∈ wG := wG_t 298 (by decide +kernel) (by decide +kernel)
theorem ml_X2_22 : Cond.methodLink RX2 22 yX3_copyFrom ∈ wG := wG_t 330 (by decide +kernel) (by decide +kernel)
theorem ml_X3_31 : Cond.methodLink RX3 31 yX3_isFull ∈ wG := wG_t 621 (by decide +kernel) (by decide +kernel)
theorem ml_X3_35 : Cond.methodLink RX3 35 yX3_putX ∈ wG := wG_t 622 (by decide +kernel) (by decide +kernel)
theorem ml_X3_39 : Cond.methodLink RX3 39 yX3_putY ∈ wG := wG_t 623 (by decide +kernel) (by decide +kernel)
theorem ml_X3_42 : Cond.methodLink RX3 42 yX3_putW ∈ wG := wG_t 627 (by decide +kernel) (by decide +kernel)
theorem ml_X3_45 : Cond.methodLink RX3 45 yX3_has ∈ wG := wG_t 898 (by decide +kernel) (by decide +kernel)
theorem ml_X3_49 : Cond.methodLink RX3 49 yX3_xOf ∈ wG := wG_t 350 (by decide +kernel) (by decide +kernel)
theorem ml_X3_53 : Cond.methodLink RX3 53 yX3_yOf ∈ wG := wG_t 857 (by decide +kernel) (by decide +kernel)
theorem ml_X3_56 : Cond.methodLink RX3 56 yX3_wOf ∈ wG := wG_t 899 (by decide +kernel) (by decide +kernel)
theorem ml_X3_59 : Cond.methodLink RX3 59 yX3_find ∈ wG := wG_t 881 (by decide +kernel) (by decide +kernel)
theorem ml_X3_62 : Cond.methodLink RX3 62 yX1_put ∈ wG := wG_t 856 (by decide +kernel) (by decide +kernel)
theorem ml_X3_68 : Cond.methodLink RX3 68 yX1_add ∈ wG := wG_t 858 (by decide +kernel) (by decide +kernel)
theorem ml_X4_19 : Cond.methodLink RX4 19 yX4_put ∈ wG := wG_t 408 (by decide +kernel) (by decide +kernel)
theorem ml_X4_23 : Cond.methodLink RX4 23 Lib.MathLoose.abs_long.x ∈ wG := wG_t 412 (by decide +kernel) (by decide +kernel)
theorem ml_X4_29 : Cond.methodLink RX4 29 yX4_putDigits ∈ wG := wG_t 413 (by decide +kernel) (by decide +kernel)
theorem ml_X4_33 : Cond.methodLink RX4 33 yX1_part ∈ wG := wG_t 432 (by decide +kernel) (by decide +kernel)
theorem ml_X5_109 : Cond.methodLink RX5 109 yX5_isLetter ∈ wG := wG_t 529 (by decide +kernel) (by decide +kernel)
theorem ml_X5_112 : Cond.methodLink RX5 112 yX5_isDigit ∈ wG := wG_t 532 (by decide +kernel) (by decide +kernel)
theorem ml_X5_37 : Cond.methodLink RX5 37 yX3_clear ∈ wG := wG_t 517 (by decide +kernel) (by decide +kernel)
theorem ml_X5_42 : Cond.methodLink RX5 42 yX5_step ∈ wG := wG_t 521 (by decide +kernel) (by decide +kernel)
theorem ml_X5_45 : Cond.methodLink RX5 45 yX5_readStatement ∈ wG := wG_t 535 (by decide +kernel) (by decide +kernel)
theorem ml_X5_51 : Cond.methodLink RX5 51 yX5_isWord ∈ wG := wG_t 540 (by decide +kernel) (by decide +kernel)
theorem ml_X5_55 : Cond.methodLink RX5 55 yX5_readPoint ∈ wG := wG_t 592 (by decide +kernel) (by decide +kernel)
theorem ml_X5_67 : Cond.methodLink RX5 67 yX5_readDigits ∈ wG := wG_t 608 (by decide +kernel) (by decide +kernel)
theorem ml_X5_74 : Cond.methodLink RX5 74 yX5_fail ∈ wG := wG_t 600 (by decide +kernel) (by decide +kernel)
theorem ml_X5_78 : Cond.methodLink RX5 78 yX5_readSemicolon ∈ wG := wG_t 634 (by decide +kernel) (by decide +kernel)
theorem ml_X5_82 : Cond.methodLink RX5 82 yX3_isFull ∈ wG := wG_t 596 (by decide +kernel) (by decide +kernel)
theorem ml_X5_85 : Cond.methodLink RX5 85 yX5_readSigned ∈ wG := wG_t 604 (by decide +kernel) (by decide +kernel)
theorem ml_X5_88 : Cond.methodLink RX5 88 yX3_find ∈ wG := wG_t 612 (by decide +kernel) (by decide +kernel)
theorem ml_X5_93 : Cond.methodLink RX5 93 yX3_append ∈ wG := wG_t 617 (by decide +kernel) (by decide +kernel)
theorem ml_X5_97 : Cond.methodLink RX5 97 yX5_byteAt ∈ wG := wG_t 525 (by decide +kernel) (by decide +kernel)
theorem ml_X6_103 : Cond.methodLink RX6 103 yX6_needPoint ∈ wG := wG_t 655 (by decide +kernel) (by decide +kernel)
theorem ml_X6_106 : Cond.methodLink RX6 106 yX3_xOf ∈ wG := wG_t 270 (by decide +kernel) (by decide +kernel)
theorem ml_X6_110 : Cond.methodLink RX6 110 yX3_yOf ∈ wG := wG_t 305 (by decide +kernel) (by decide +kernel)
theorem ml_X6_113 : Cond.methodLink RX6 113 yX3_wOf ∈ wG := wG_t 679 (by decide +kernel) (by decide +kernel)
theorem ml_X6_116 : Cond.methodLink RX6 116 yX3_placeOf ∈ wG := wG_t 680 (by decide +kernel) (by decide +kernel)
theorem ml_X6_119 : Cond.methodLink RX6 119 yX6_needWithin ∈ wG := wG_t 689 (by decide +kernel) (by decide +kernel)
theorem ml_X6_123 : Cond.methodLink RX6 123 yX3_find ∈ wG := wG_t 692 (by decide +kernel) (by decide +kernel)
theorem ml_X6_133 : Cond.methodLink RX6 133 yX0_weightOf ∈ wG := wG_t 253 (by decide +kernel) (by decide +kernel)
theorem ml_X6_137 : Cond.methodLink RX6 137 yX0_alternates ∈ wG := wG_t 240 (by decide +kernel) (by decide +kernel)
theorem ml_X6_141 : Cond.methodLink RX6 141 yX0_factor ∈ wG := wG_t 258 (by decide +kernel) (by decide +kernel)
theorem ml_X6_145 : Cond.methodLink RX6 145 yX0_kindOf ∈ wG := wG_t 313 (by decide +kernel) (by decide +kernel)
theorem ml_X6_148 : Cond.methodLink RX6 148 yX6_needPart ∈ wG := wG_t 737 (by decide +kernel) (by decide +kernel)
theorem ml_X6_151 : Cond.methodLink RX6 151 yX6_needValue ∈ wG := wG_t 740 (by decide +kernel) (by decide +kernel)
theorem ml_X6_155 : Cond.methodLink RX6 155 yX1_part ∈ wG := wG_t 301 (by decide +kernel) (by decide +kernel)
theorem ml_X6_158 : Cond.methodLink RX6 158 yX6_meets ∈ wG := wG_t 266 (by decide +kernel) (by decide +kernel)
theorem ml_X6_161 : Cond.methodLink RX6 161 yX0_hidesPoleBehind ∈ wG := wG_t 318 (by decide +kernel) (by decide +kernel)
theorem ml_X6_166 : Cond.methodLink RX6 166 yX0_putValue ∈ wG := wG_t 274 (by decide +kernel) (by decide +kernel)
theorem ml_X6_170 : Cond.methodLink RX6 170 yX1_compareWith ∈ wG := wG_t 774 (by decide +kernel) (by decide +kernel)
theorem ml_X6_174 : Cond.methodLink RX6 174 yX1_copyFrom ∈ wG := wG_t 781 (by decide +kernel) (by decide +kernel)
theorem ml_X6_179 : Cond.methodLink RX6 179 yX6_needWeight ∈ wG := wG_t 793 (by decide +kernel) (by decide +kernel)
theorem ml_X6_182 : Cond.methodLink RX6 182 yX0_putRow ∈ wG := wG_t 813 (by decide +kernel) (by decide +kernel)
theorem ml_X6_186 : Cond.methodLink RX6 186 yX0_putSlope ∈ wG := wG_t 833 (by decide +kernel) (by decide +kernel)
theorem ml_X6_192 : Cond.methodLink RX6 192 yX3_putDivided ∈ wG := wG_t 852 (by decide +kernel) (by decide +kernel)
theorem ml_X6_195 : Cond.methodLink RX6 195 yX6_needFree ∈ wG := wG_t 873 (by decide +kernel) (by decide +kernel)
theorem ml_X6_198 : Cond.methodLink RX6 198 yX6_tryPlace ∈ wG := wG_t 883 (by decide +kernel) (by decide +kernel)
theorem ml_X6_201 : Cond.methodLink RX6 201 yX3_drop ∈ wG := wG_t 894 (by decide +kernel) (by decide +kernel)
theorem ml_X6_204 : Cond.methodLink RX6 204 yX3_isFreeFor ∈ wG := wG_t 877 (by decide +kernel) (by decide +kernel)
theorem ml_X6_210 : Cond.methodLink RX6 210 yX2_remember ∈ wG := wG_t 326 (by decide +kernel) (by decide +kernel)
theorem ml_X6_213 : Cond.methodLink RX6 213 yX3_putX ∈ wG := wG_t 334 (by decide +kernel) (by decide +kernel)
theorem ml_X6_216 : Cond.methodLink RX6 216 yX3_putY ∈ wG := wG_t 922 (by decide +kernel) (by decide +kernel)
theorem ml_X6_219 : Cond.methodLink RX6 219 yX3_putW ∈ wG := wG_t 930 (by decide +kernel) (by decide +kernel)
theorem ml_X6_222 : Cond.methodLink RX6 222 yX3_isFull ∈ wG := wG_t 938 (by decide +kernel) (by decide +kernel)
theorem ml_X6_230 : Cond.methodLink RX6 230 yX3_append ∈ wG := wG_t 940 (by decide +kernel) (by decide +kernel)
theorem ml_X6_232 : Cond.methodLink RX6 232 yX3_allowsShift ∈ wG := wG_t 962 (by decide +kernel) (by decide +kernel)
theorem ml_X6_237 : Cond.methodLink RX6 237 yX2_recall ∈ wG := wG_t 388 (by decide +kernel) (by decide +kernel)
theorem ml_X6_241 : Cond.methodLink RX6 241 yX2_size ∈ wG := wG_t 392 (by decide +kernel) (by decide +kernel)
theorem ml_X6_242 : Cond.methodLink RX6 242 yX4_clear ∈ wG := wG_t 400 (by decide +kernel) (by decide +kernel)
theorem ml_X6_243 : Cond.methodLink RX6 243 yX4_putTerm ∈ wG := wG_t 404 (by decide +kernel) (by decide +kernel)
theorem ml_X6_247 : Cond.methodLink RX6 247 yX4_size ∈ wG := wG_t 419 (by decide +kernel) (by decide +kernel)
theorem ml_X6_248 : Cond.methodLink RX6 248 yX4_put ∈ wG := wG_t 423 (by decide +kernel) (by decide +kernel)
theorem ml_X6_252 : Cond.methodLink RX6 252 yX4_putFraction ∈ wG := wG_t 428 (by decide +kernel) (by decide +kernel)
theorem ml_X6_260 : Cond.methodLink RX6 260 yX4_signAt ∈ wG := wG_t 975 (by decide +kernel) (by decide +kernel)
theorem ml_X6_264 : Cond.methodLink RX6 264 yX3_has ∈ wG := wG_t 659 (by decide +kernel) (by decide +kernel)
theorem ml_X6_50 : Cond.methodLink RX6 50 yX5_hasRoomFor ∈ wG := wG_t 192 (by decide +kernel) (by decide +kernel)
theorem ml_X6_54 : Cond.methodLink RX6 54 yX5_append ∈ wG := wG_t 196 (by decide +kernel) (by decide +kernel)
theorem ml_X6_58 : Cond.methodLink RX6 58 yX5_filled ∈ wG := wG_t 200 (by decide +kernel) (by decide +kernel)
theorem ml_X6_62 : Cond.methodLink RX6 62 yX6_needBetween ∈ wG := wG_t 441 (by decide +kernel) (by decide +kernel)
theorem ml_X6_70 : Cond.methodLink RX6 70 yX5_read ∈ wG := wG_t 513 (by decide +kernel) (by decide +kernel)
theorem ml_X6_74 : Cond.methodLink RX6 74 yX5_clear ∈ wG := wG_t 638 (by decide +kernel) (by decide +kernel)
theorem ml_X6_77 : Cond.methodLink RX6 77 yX3_copyFrom ∈ wG := wG_t 642 (by decide +kernel) (by decide +kernel)
theorem ml_X6_83 : Cond.methodLink RX6 83 yX0_reckon ∈ wG := wG_t 338 (by decide +kernel) (by decide +kernel)
theorem ml_X6_86 : Cond.methodLink RX6 86 yX2_clear ∈ wG := wG_t 643 (by decide +kernel) (by decide +kernel)
theorem ml_X6_87 : Cond.methodLink RX6 87 yX3_size ∈ wG := wG_t 224 (by decide +kernel) (by decide +kernel)
theorem ml_X6_90 : Cond.methodLink RX6 90 yX5_faultKind ∈ wG := wG_t 208 (by decide +kernel) (by decide +kernel)
theorem ml_X6_93 : Cond.methodLink RX6 93 yX5_faultPosition ∈ wG := wG_t 216 (by decide +kernel) (by decide +kernel)
theorem ml_X7_109 : Cond.methodLink RX7 109 yX7_advance ∈ wG := wG_t 1096 (by decide +kernel) (by decide +kernel)
theorem ml_X7_113 : Cond.methodLink RX7 113 yX7_fail ∈ wG := wG_t 1137 (by decide +kernel) (by decide +kernel)
theorem ml_X7_119 : Cond.methodLink RX7 119 yX7_isIn ∈ wG := wG_t 1081 (by decide +kernel) (by decide +kernel)
theorem ml_X7_123 : Cond.methodLink RX7 123 yX7_seesNumber ∈ wG := wG_t 1141 (by decide +kernel) (by decide +kernel)
theorem ml_X7_127 : Cond.methodLink RX7 127 yX7_pointWith ∈ wG := wG_t 1145 (by decide +kernel) (by decide +kernel)
theorem ml_X7_130 : Cond.methodLink RX7 130 yX7_numberInto ∈ wG := wG_t 1149 (by decide +kernel) (by decide +kernel)
theorem ml_X7_136 : Cond.methodLink RX7 136 yX7_isWord ∈ wG := wG_t 1127 (by decide +kernel) (by decide +kernel)
theorem ml_X7_142 : Cond.methodLink RX7 142 yX7_pointStatement ∈ wG := wG_t 1133 (by decide +kernel) (by decide +kernel)
theorem ml_X7_147 : Cond.methodLink RX7 147 yX7_blendStatement ∈ wG := wG_t 1155 (by decide +kernel) (by decide +kernel)
theorem ml_X7_152 : Cond.methodLink RX7 152 yX7_modeStatement ∈ wG := wG_t 1160 (by decide +kernel) (by decide +kernel)
theorem ml_X7_157 : Cond.methodLink RX7 157 yX7_statement ∈ wG := wG_t 1122 (by decide +kernel) (by decide +kernel)
theorem ml_X7_160 : Cond.methodLink RX7 160 yX7_closed ∈ wG := wG_t 1165 (by decide +kernel) (by decide +kernel)
theorem ml_X7_163 : Cond.methodLink RX7 163 yX7_good ∈ wG := wG_t 1084 (by decide +kernel) (by decide +kernel)
theorem ml_X7_166 : Cond.methodLink RX7 166 yX7_putAside ∈ wG := wG_t 1088 (by decide +kernel) (by decide +kernel)
theorem ml_X7_169 : Cond.methodLink RX7 169 yX7_parse ∈ wG := wG_t 1092 (by decide +kernel) (by decide +kernel)
theorem ml_X7_175 : Cond.methodLink RX7 175 yX7_layBack ∈ wG := wG_t 1169 (by decide +kernel) (by decide +kernel)
theorem ml_X7_182 : Cond.methodLink RX7 182 yX7_isPoint ∈ wG := wG_t 1197 (by decide +kernel) (by decide +kernel)
theorem ml_X7_187 : Cond.methodLink RX7 187 yX7_good_ ∈ wG := wG_t 1202 (by decide +kernel) (by decide +kernel)
theorem ml_X7_190 : Cond.methodLink RX7 190 yX7_placeOf ∈ wG := wG_t 1210 (by decide +kernel) (by decide +kernel)
theorem ml_X7_193 : Cond.methodLink RX7 193 yX7_isWhole ∈ wG := wG_t 1218 (by decide +kernel) (by decide +kernel)
theorem ml_X7_196 : Cond.methodLink RX7 196 Lib.MathLoose.abs_long.x ∈ wG := wG_t 1259 (by decide +kernel) (by decide +kernel)
theorem ml_X7_202 : Cond.methodLink RX7 202 yX7_common ∈ wG := wG_t 1256 (by decide +kernel) (by decide +kernel)
theorem ml_X7_213 : Cond.methodLink RX7 213 yJ9_floorDiv_f86c9 ∈ wG := wG_t 1375 (by decide +kernel) (by decide +kernel)
theorem ml_X7_216 : Cond.methodLink RX7 216 Lib.Math.abs.name ∈ wG := wG_t 1249 (by decide +kernel) (by decide +kernel)
theorem ml_X7_218 : Cond.methodLink RX7 218 Lib.Math.min.name ∈ wG := wG_t 1243 (by decide +kernel) (by decide +kernel)
theorem ml_X7_222 : Cond.methodLink RX7 222 Lib.Math.max.name ∈ wG := wG_t 1244 (by decide +kernel) (by decide +kernel)
theorem ml_X7_225 : Cond.methodLink RX7 225 yX7_span ∈ wG := wG_t 1245 (by decide +kernel) (by decide +kernel)
theorem ml_X7_229 : Cond.methodLink RX7 229 yX7_productIn ∈ wG := wG_t 1252 (by decide +kernel) (by decide +kernel)
theorem ml_X7_233 : Cond.methodLink RX7 233 yX7_blended ∈ wG := wG_t 1239 (by decide +kernel) (by decide +kernel)
theorem ml_X7_237 : Cond.methodLink RX7 237 yX7_laysOrder ∈ wG := wG_t 1231 (by decide +kernel) (by decide +kernel)
theorem ml_X7_240 : Cond.methodLink RX7 240 yX7_rawOf ∈ wG := wG_t 1235 (by decide +kernel) (by decide +kernel)
theorem ml_X7_243 : Cond.methodLink RX7 243 yX7_laysWeights ∈ wG := wG_t 1227 (by decide +kernel) (by decide +kernel)
theorem ml_X7_246 : Cond.methodLink RX7 246 yX7_timesOf ∈ wG := wG_t 1280 (by decide +kernel) (by decide +kernel)
theorem ml_X7_250 : Cond.methodLink RX7 250 yX7_withoutAt ∈ wG := wG_t 1301 (by decide +kernel) (by decide +kernel)
theorem ml_X7_253 : Cond.methodLink RX7 253 yX7_slopeWithoutAt ∈ wG := wG_t 1313 (by decide +kernel) (by decide +kernel)
theorem ml_X7_256 : Cond.methodLink RX7 256 yX7_laysProduct ∈ wG := wG_t 1276 (by decide +kernel) (by decide +kernel)
theorem ml_X7_259 : Cond.methodLink RX7 259 yX7_laysCoefficients ∈ wG := wG_t 1272 (by decide +kernel) (by decide +kernel)
theorem ml_X7_265 : Cond.methodLink RX7 265 yX7_polynomialAt ∈ wG := wG_t 1297 (by decide +kernel) (by decide +kernel)
theorem ml_X7_269 : Cond.methodLink RX7 269 yX7_lays ∈ wG := wG_t 1305 (by decide +kernel) (by decide +kernel)
theorem ml_X7_273 : Cond.methodLink RX7 273 yX7_slopeAt ∈ wG := wG_t 1309 (by decide +kernel) (by decide +kernel)
theorem ml_X7_276 : Cond.methodLink RX7 276 yX7_kindNow ∈ wG := wG_t 1293 (by decide +kernel) (by decide +kernel)
theorem ml_X7_279 : Cond.methodLink RX7 279 yX7_isPart ∈ wG := wG_t 1321 (by decide +kernel) (by decide +kernel)
theorem ml_X7_282 : Cond.methodLink RX7 282 yX7_hasValue ∈ wG := wG_t 1324 (by decide +kernel) (by decide +kernel)
theorem ml_X7_285 : Cond.methodLink RX7 285 yX7_told ∈ wG := wG_t 1328 (by decide +kernel) (by decide +kernel)
theorem ml_X7_287 : Cond.methodLink RX7 287 yX7_isMetNow ∈ wG := wG_t 1340 (by decide +kernel) (by decide +kernel)
theorem ml_X7_290 : Cond.methodLink RX7 290 yX7_isHiddenBehind ∈ wG := wG_t 1356 (by decide +kernel) (by decide +kernel)
theorem ml_X7_293 : Cond.methodLink RX7 293 yX7_poleFrom ∈ wG := wG_t 1364 (by decide +kernel) (by decide +kernel)
theorem ml_X7_296 : Cond.methodLink RX7 296 yX7_isGreater ∈ wG := wG_t 1372 (by decide +kernel) (by decide +kernel)
theorem ml_X7_300 : Cond.methodLink RX7 300 yX7_laysOthers ∈ wG := wG_t 1390 (by decide +kernel) (by decide +kernel)
theorem ml_X7_304 : Cond.methodLink RX7 304 yX7_hasRow ∈ wG := wG_t 1382 (by decide +kernel) (by decide +kernel)
theorem ml_X7_307 : Cond.methodLink RX7 307 yX7_laysRow ∈ wG := wG_t 1386 (by decide +kernel) (by decide +kernel)
theorem ml_X7_311 : Cond.methodLink RX7 311 yX7_laysDivided ∈ wG := wG_t 1406 (by decide +kernel) (by decide +kernel)
theorem ml_X7_318 : Cond.methodLink RX7 318 yX7_isX ∈ wG := wG_t 1418 (by decide +kernel) (by decide +kernel)
theorem ml_X7_321 : Cond.methodLink RX7 321 yX7_isFree ∈ wG := wG_t 1423 (by decide +kernel) (by decide +kernel)
theorem ml_X7_324 : Cond.methodLink RX7 324 yX7_hasValueIf ∈ wG := wG_t 1427 (by decide +kernel) (by decide +kernel)
theorem ml_X7_328 : Cond.methodLink RX7 328 yX7_closes ∈ wG := wG_t 1435 (by decide +kernel) (by decide +kernel)
theorem ml_X7_331 : Cond.methodLink RX7 331 yX7_placeFor ∈ wG := wG_t 1443 (by decide +kernel) (by decide +kernel)
theorem ml_X7_334 : Cond.methodLink RX7 334 yX7_remember ∈ wG := wG_t 1455 (by decide +kernel) (by decide +kernel)
theorem ml_X7_337 : Cond.methodLink RX7 337 yX7_sets ∈ wG := wG_t 1451 (by decide +kernel) (by decide +kernel)
theorem ml_X7_344 : Cond.methodLink RX7 344 yX7_isY ∈ wG := wG_t 1463 (by decide +kernel) (by decide +kernel)
theorem ml_X7_347 : Cond.methodLink RX7 347 yX7_isW ∈ wG := wG_t 1472 (by decide +kernel) (by decide +kernel)
theorem ml_X7_356 : Cond.methodLink RX7 356 yX7_canShift ∈ wG := wG_t 1494 (by decide +kernel) (by decide +kernel)
theorem ml_X7_362 : Cond.methodLink RX7 362 yX7_says ∈ wG := wG_t 1510 (by decide +kernel) (by decide +kernel)
theorem ml_X7_365 : Cond.methodLink RX7 365 yX7_saysNumber ∈ wG := wG_t 1514 (by decide +kernel) (by decide +kernel)
theorem ml_X7_371 : Cond.methodLink RX7 371 yX7_saysPower ∈ wG := wG_t 1506 (by decide +kernel) (by decide +kernel)
theorem ml_X7_374 : Cond.methodLink RX7 374 yX7_saysValue ∈ wG := wG_t 1523 (by decide +kernel) (by decide +kernel)
theorem ml_X7_45 : Cond.methodLink RX7 45 yX7_good__ ∈ wG := wG_t 1206 (by decide +kernel) (by decide +kernel)
theorem ml_X7_55 : Cond.methodLink RX7 55 yX7_append ∈ wG := wG_t 1073 (by decide +kernel) (by decide +kernel)
theorem ml_X7_65 : Cond.methodLink RX7 65 yX7_byteAt ∈ wG := wG_t 1100 (by decide +kernel) (by decide +kernel)
theorem ml_X7_69 : Cond.methodLink RX7 69 yX7_isLetter ∈ wG := wG_t 1104 (by decide +kernel) (by decide +kernel)
theorem ml_X7_82 : Cond.methodLink RX7 82 yX7_isDigit ∈ wG := wG_t 1111 (by decide +kernel) (by decide +kernel)
theorem ml_X7_85 : Cond.methodLink RX7 85 yX7_readWord ∈ wG := wG_t 1107 (by decide +kernel) (by decide +kernel)
theorem ml_X7_88 : Cond.methodLink RX7 88 yX7_readNumber ∈ wG := wG_t 1114 (by decide +kernel) (by decide +kernel)
theorem ml_X7_91 : Cond.methodLink RX7 91 yX7_readSign ∈ wG := wG_t 1118 (by decide +kernel) (by decide +kernel)
theorem mw_J13_compare_74951 : MwS yJ13_compare_74951 cJ13_compare_74951 4 (some .int) 2 := ⟨wG_t 779 (by decide +kernel) (by decide +kernel), wG_t 20 (by decide +kernel) (by decide +kernel), wG_t 780 (by decide +kernel) (by decide +kernel), ⟨by decide, by decide, by decide +kernel⟩⟩
theorem mw_J9_floorDiv_f86c9 : MwS yJ9_floorDiv_f86c9 cJ9_floorDiv_f86c9 6 (some .long) 2 := ⟨wG_t 1376 (by decide +kernel) (by decide +kernel), wG_t 17 (by decide +kernel) (by decide +kernel), wG_t 1377 (by decide +kernel) (by decide +kernel), ⟨by decide, by decide, by decide +kernel⟩⟩
theorem mw_X0_addToRow : MwV yX0_addToRow cX0_addToRow 7 none 4 := ⟨wG_t 819 (by decide +kernel) (by decide +kernel), wG_in (List.mem_append_left _ (List.mem_of_getElem? (i := 23) (by decide +kernel))) (by decide +kernel), wG_t 3 (by decide +kernel) (by decide +kernel), wG_t 820 (by decide +kernel) (by decide +kernel), ⟨by decide, by decide, by decide +kernel⟩⟩
theorem mw_X0_alternates : MwV yX0_alternates cX0_alternates 6 (some .boolean) 0 := ⟨wG_t 241 (by decide +kernel) (by decide +kernel), wG_t 242 (by decide +kernel) (by decide +kernel), wG_t 3 (by decide +kernel) (by decide +kernel), wG_t 243 (by decide +kernel) (by decide +kernel), ⟨by decide, by decide, by decide +kernel⟩⟩
theorem mw_X0_at : MwV yX0_at cX0_at 6 (some .long) 2 := ⟨wG_t 284 (by decide +kernel) (by decide +kernel), wG_in (List.mem_append_left _ (List.mem_of_getElem? (i := 1) (by decide +kernel))) (by decide +kernel), wG_t 3 (by decide +kernel) (by decide +kernel), wG_t 285 (by decide +kernel) (by decide +kernel), ⟨by decide, by decide, by decide +kernel⟩⟩
theorem mw_X0_derivativeAt : MwV yX0_derivativeAt cX0_derivativeAt 6 (some .long) 2 := ⟨wG_t 289 (by decide +kernel) (by decide +kernel), wG_in (List.mem_append_left _ (List.mem_of_getElem? (i := 2) (by decide +kernel))) (by decide +kernel), wG_t 3 (by decide +kernel) (by decide +kernel), wG_t 290 (by decide +kernel) (by decide +kernel), ⟨by decide, by decide, by decide +kernel⟩⟩
theorem mw_X0_factor : MwV yX0_factor cX0_factor 3 (some .long) 2 := ⟨wG_t 259 (by decide +kernel) (by decide +kernel), wG_t 260 (by decide +kernel) (by decide +kernel), wG_t 3 (by decide +kernel) (by decide +kernel), wG_t 261 (by decide +kernel) (by decide +kernel), ⟨by decide, by decide, by decide +kernel⟩⟩
theorem mw_X0_hidesPoleBehind : MwV yX0_hidesPoleBehind cX0_hidesPoleBehind 6 (some .boolean) 1 := ⟨wG_t 319 (by decide +kernel) (by decide +kernel), wG_t 320 (by decide +kernel) (by decide +kernel), wG_t 3 (by decide +kernel) (by decide +kernel), wG_t 321 (by decide +kernel) (by decide +kernel), ⟨by decide, by decide, by decide +kernel⟩⟩
theorem mw_X0_kindOf : MwV yX0_kindOf cX0_kindOf 2 (some .int) 1 := ⟨wG_t 279 (by decide +kernel) (by decide +kernel), wG_t 280 (by decide +kernel) (by decide +kernel), wG_t 3 (by decide +kernel) (by decide +kernel), wG_t 281 (by decide +kernel) (by decide +kernel), ⟨by decide, by decide, by decide +kernel⟩⟩
theorem mw_X0_pairProduct : MwV yX0_pairProduct cX0_pairProduct 5 (some .long) 0 := ⟨wG_t 358 (by decide +kernel) (by decide +kernel), wG_in (List.mem_append_left _ (List.mem_of_getElem? (i := 5) (by decide +kernel))) (by decide +kernel), wG_t 3 (by decide +kernel) (by decide +kernel), wG_t 359 (by decide +kernel) (by decide +kernel), ⟨by decide, by decide, by decide +kernel⟩⟩
theorem mw_X0_putRow : MwV yX0_putRow cX0_putRow 5 none 3 := ⟨wG_t 814 (by decide +kernel) (by decide +kernel), wG_t 815 (by decide +kernel) (by decide +kernel), wG_t 3 (by decide +kernel) (by decide +kernel), wG_t 816 (by decide +kernel) (by decide +kernel), ⟨by decide, by decide, by decide +kernel⟩⟩
theorem mw_X0_putSlope : MwV yX0_putSlope cX0_putSlope 4 none 2 := ⟨wG_t 834 (by decide +kernel) (by decide +kernel), wG_t 835 (by decide +kernel) (by decide +kernel), wG_t 3 (by decide +kernel) (by decide +kernel), wG_t 836 (by decide +kernel) (by decide +kernel), ⟨by decide, by decide, by decide +kernel⟩⟩
theorem mw_X0_putValue : MwV yX0_putValue cX0_putValue 4 (some .boolean) 2 := ⟨wG_t 275 (by decide +kernel) (by decide +kernel), wG_t 276 (by decide +kernel) (by decide +kernel), wG_t 3 (by decide +kernel) (by decide +kernel), wG_t 277 (by decide +kernel) (by decide +kernel), ⟨by decide, by decide, by decide +kernel⟩⟩
theorem mw_X0_reckon : MwV yX0_reckon cX0_reckon 1 none 0 := ⟨wG_t 339 (by decide +kernel) (by decide +kernel), wG_t 340 (by decide +kernel) (by decide +kernel), wG_t 3 (by decide +kernel) (by decide +kernel), wG_t 341 (by decide +kernel) (by decide +kernel), ⟨by decide, by decide, by decide +kernel⟩⟩
theorem mw_X0_reckonPolynomials : MwV yX0_reckonPolynomials cX0_reckonPolynomials 5 none 0 := ⟨wG_t 377 (by decide +kernel) (by decide +kernel), wG_in (List.mem_append_left _ (List.mem_of_getElem? (i := 7) (by decide +kernel))) (by decide +kernel), wG_t 3 (by decide +kernel) (by decide +kernel), wG_t 378 (by decide +kernel) (by decide +kernel), ⟨by decide, by decide, by decide +kernel⟩⟩
theorem mw_X0_reckonProduct : MwV yX0_reckonProduct cX0_reckonProduct 6 none 1 := ⟨wG_t 381 (by decide +kernel) (by decide +kernel), wG_in (List.mem_append_left _ (List.mem_of_getElem? (i := 8) (by decide +kernel))) (by decide +kernel), wG_t 3 (by decide +kernel) (by decide +kernel), wG_t 382 (by decide +kernel) (by decide +kernel), ⟨by decide, by decide, by decide +kernel⟩⟩
theorem mw_X0_reckonWeights : MwV yX0_reckonWeights cX0_reckonWeights 6 none 0 := ⟨wG_t 354 (by decide +kernel) (by decide +kernel), wG_in (List.mem_append_left _ (List.mem_of_getElem? (i := 4) (by decide +kernel))) (by decide +kernel), wG_t 3 (by decide +kernel) (by decide +kernel), wG_t 355 (by decide +kernel) (by decide +kernel), ⟨by decide, by decide, by decide +kernel⟩⟩
theorem mw_X0_scaledWeight : MwV yX0_scaledWeight cX0_scaledWeight 14 (some .long) 2 := ⟨wG_t 366 (by decide +kernel) (by decide +kernel), wG_in (List.mem_append_left _ (List.mem_of_getElem? (i := 6) (by decide +kernel))) (by decide +kernel), wG_t 3 (by decide +kernel) (by decide +kernel), wG_t 367 (by decide +kernel) (by decide +kernel), ⟨by decide, by decide, by decide +kernel⟩⟩
theorem mw_X0_sort : MwV yX0_sort cX0_sort 3 none 0 := ⟨wG_t 344 (by decide +kernel) (by decide +kernel), wG_in (List.mem_append_left _ (List.mem_of_getElem? (i := 3) (by decide +kernel))) (by decide +kernel), wG_t 3 (by decide +kernel) (by decide +kernel), wG_t 345 (by decide +kernel) (by decide +kernel), ⟨by decide, by decide, by decide +kernel⟩⟩
theorem mw_X0_weightOf : MwV yX0_weightOf cX0_weightOf 2 (some .long) 1 := ⟨wG_t 246 (by decide +kernel) (by decide +kernel), wG_t 247 (by decide +kernel) (by decide +kernel), wG_t 3 (by decide +kernel) (by decide +kernel), wG_t 248 (by decide +kernel) (by decide +kernel), ⟨by decide, by decide, by decide +kernel⟩⟩
theorem mw_X1_add : MwV yX1_add cX1_add 9 none 2 := ⟨wG_t 822 (by decide +kernel) (by decide +kernel), wG_t 823 (by decide +kernel) (by decide +kernel), wG_t 7 (by decide +kernel) (by decide +kernel), wG_t 824 (by decide +kernel) (by decide +kernel), ⟨by decide, by decide, by decide +kernel⟩⟩
theorem mw_X1_compareWith : MwV yX1_compareWith cX1_compareWith 2 (some .int) 1 := ⟨wG_t 775 (by decide +kernel) (by decide +kernel), wG_t 776 (by decide +kernel) (by decide +kernel), wG_t 7 (by decide +kernel) (by decide +kernel), wG_t 777 (by decide +kernel) (by decide +kernel), ⟨by decide, by decide, by decide +kernel⟩⟩
theorem mw_X1_copyFrom : MwV yX1_copyFrom cX1_copyFrom 2 none 1 := ⟨wG_t 782 (by decide +kernel) (by decide +kernel), wG_t 783 (by decide +kernel) (by decide +kernel), wG_t 7 (by decide +kernel) (by decide +kernel), wG_t 784 (by decide +kernel) (by decide +kernel), ⟨by decide, by decide, by decide +kernel⟩⟩
theorem mw_X1_divisor : MwS yX1_divisor cX1_divisor 11 (some .long) 2 := ⟨wG_t 296 (by decide +kernel) (by decide +kernel), wG_t 7 (by decide +kernel) (by decide +kernel), wG_t 297 (by decide +kernel) (by decide +kernel), ⟨by decide, by decide, by decide +kernel⟩⟩
theorem mw_X1_part : MwV yX1_part cX1_part 2 (some .long) 1 := ⟨wG_t 302 (by decide +kernel) (by decide +kernel), wG_t 303 (by decide +kernel) (by decide +kernel), wG_t 7 (by decide +kernel) (by decide +kernel), wG_t 304 (by decide +kernel) (by decide +kernel), ⟨by decide, by decide, by decide +kernel⟩⟩
theorem mw_X1_put : MwV yX1_put cX1_put 9 none 2 := ⟨wG_t 292 (by decide +kernel) (by decide +kernel), wG_t 293 (by decide +kernel) (by decide +kernel), wG_t 7 (by decide +kernel) (by decide +kernel), wG_t 294 (by decide +kernel) (by decide +kernel), ⟨by decide, by decide, by decide +kernel⟩⟩
theorem mw_X2_clear : MwV yX2_clear cX2_clear 1 none 0 := ⟨wG_t 644 (by decide +kernel) (by decide +kernel), wG_t 645 (by decide +kernel) (by decide +kernel), wG_t 5 (by decide +kernel) (by decide +kernel), wG_t 646 (by decide +kernel) (by decide +kernel), ⟨by decide, by decide, by decide +kernel⟩⟩
theorem mw_X2_recall : MwV yX2_recall cX2_recall 2 (some .boolean) 1 := ⟨wG_t 389 (by decide +kernel) (by decide +kernel), wG_t 390 (by decide +kernel) (by decide +kernel), wG_t 5 (by decide +kernel) (by decide +kernel), wG_t 391 (by decide +kernel) (by decide +kernel), ⟨by decide, by decide, by decide +kernel⟩⟩
theorem mw_X2_remember : MwV yX2_remember cX2_remember 3 none 1 := ⟨wG_t 327 (by decide +kernel) (by decide +kernel), wG_t 328 (by decide +kernel) (by decide +kernel), wG_t 5 (by decide +kernel) (by decide +kernel), wG_t 329 (by decide +kernel) (by decide +kernel), ⟨by decide, by decide, by decide +kernel⟩⟩
theorem mw_X2_size : MwV yX2_size cX2_size 1 (some .int) 0 := ⟨wG_t 393 (by decide +kernel) (by decide +kernel), wG_t 394 (by decide +kernel) (by decide +kernel), wG_t 5 (by decide +kernel) (by decide +kernel), wG_t 395 (by decide +kernel) (by decide +kernel), ⟨by decide, by decide, by decide +kernel⟩⟩
theorem mw_X3_allowsShift : MwV yX3_allowsShift cX3_allowsShift 3 (some .boolean) 1 := ⟨wG_t 963 (by decide +kernel) (by decide +kernel), wG_t 964 (by decide +kernel) (by decide +kernel), wG_t 4 (by decide +kernel) (by decide +kernel), wG_t 965 (by decide +kernel) (by decide +kernel), ⟨by decide, by decide, by decide +kernel⟩⟩
theorem mw_X3_append : MwV yX3_append cX3_append 4 none 3 := ⟨wG_t 618 (by decide +kernel) (by decide +kernel), wG_t 619 (by decide +kernel) (by decide +kernel), wG_t 4 (by decide +kernel) (by decide +kernel), wG_t 620 (by decide +kernel) (by decide +kernel), ⟨by decide, by decide, by decide +kernel⟩⟩
theorem mw_X3_clear : MwV yX3_clear cX3_clear 1 none 0 := ⟨wG_t 518 (by decide +kernel) (by decide +kernel), wG_t 519 (by decide +kernel) (by decide +kernel), wG_t 4 (by decide +kernel) (by decide +kernel), wG_t 520 (by decide +kernel) (by decide +kernel), ⟨by decide, by decide, by decide +kernel⟩⟩
theorem mw_X3_copyFrom : MwV yX3_copyFrom cX3_copyFrom 3 none 1 := ⟨wG_t 331 (by decide +kernel) (by decide +kernel), wG_t 332 (by decide +kernel) (by decide +kernel), wG_t 4 (by decide +kernel) (by decide +kernel), wG_t 333 (by decide +kernel) (by decide +kernel), ⟨by decide, by decide, by decide +kernel⟩⟩
theorem mw_X3_drop : MwV yX3_drop cX3_drop 3 none 1 := ⟨wG_t 895 (by decide +kernel) (by decide +kernel), wG_t 896 (by decide +kernel) (by decide +kernel), wG_t 4 (by decide +kernel) (by decide +kernel), wG_t 897 (by decide +kernel) (by decide +kernel), ⟨by decide, by decide, by decide +kernel⟩⟩
theorem mw_X3_find : MwV yX3_find cX3_find 3 (some .int) 1 := ⟨wG_t 613 (by decide +kernel) (by decide +kernel), wG_t 614 (by decide +kernel) (by decide +kernel), wG_t 4 (by decide +kernel) (by decide +kernel), wG_t 615 (by decide +kernel) (by decide +kernel), ⟨by decide, by decide, by decide +kernel⟩⟩
theorem mw_X3_has : MwV yX3_has cX3_has 2 (some .boolean) 1 := ⟨wG_t 660 (by decide +kernel) (by decide +kernel), wG_t 661 (by decide +kernel) (by decide +kernel), wG_t 4 (by decide +kernel) (by decide +kernel), wG_t 662 (by decide +kernel) (by decide +kernel), ⟨by decide, by decide, by decide +kernel⟩⟩
theorem mw_X3_isFreeFor : MwV yX3_isFreeFor cX3_isFreeFor 4 (some .boolean) 2 := ⟨wG_t 878 (by decide +kernel) (by decide +kernel), wG_t 879 (by decide +kernel) (by decide +kernel), wG_t 4 (by decide +kernel) (by decide +kernel), wG_t 880 (by decide +kernel) (by decide +kernel), ⟨by decide, by decide, by decide +kernel⟩⟩
theorem mw_X3_isFull : MwV yX3_isFull cX3_isFull 1 (some .boolean) 0 := ⟨wG_t 597 (by decide +kernel) (by decide +kernel), wG_t 598 (by decide +kernel) (by decide +kernel), wG_t 4 (by decide +kernel) (by decide +kernel), wG_t 599 (by decide +kernel) (by decide +kernel), ⟨by decide, by decide, by decide +kernel⟩⟩
theorem mw_X3_placeOf : MwV yX3_placeOf cX3_placeOf 4 (some .int) 1 := ⟨wG_t 347 (by decide +kernel) (by decide +kernel), wG_t 348 (by decide +kernel) (by decide +kernel), wG_t 4 (by decide +kernel) (by decide +kernel), wG_t 349 (by decide +kernel) (by decide +kernel), ⟨by decide, by decide, by decide +kernel⟩⟩
theorem mw_X3_putDivided : MwV yX3_putDivided cX3_putDivided 8 none 3 := ⟨wG_t 853 (by decide +kernel) (by decide +kernel), wG_t 854 (by decide +kernel) (by decide +kernel), wG_t 4 (by decide +kernel) (by decide +kernel), wG_t 855 (by decide +kernel) (by decide +kernel), ⟨by decide, by decide, by decide +kernel⟩⟩
theorem mw_X3_putW : MwV yX3_putW cX3_putW 3 none 2 := ⟨wG_t 628 (by decide +kernel) (by decide +kernel), wG_t 629 (by decide +kernel) (by decide +kernel), wG_t 4 (by decide +kernel) (by decide +kernel), wG_t 630 (by decide +kernel) (by decide +kernel), ⟨by decide, by decide, by decide +kernel⟩⟩
theorem mw_X3_putX : MwV yX3_putX cX3_putX 3 none 2 := ⟨wG_t 335 (by decide +kernel) (by decide +kernel), wG_t 336 (by decide +kernel) (by decide +kernel), wG_t 4 (by decide +kernel) (by decide +kernel), wG_t 337 (by decide +kernel) (by decide +kernel), ⟨by decide, by decide, by decide +kernel⟩⟩
theorem mw_X3_putY : MwV yX3_putY cX3_putY 3 none 2 := ⟨wG_t 624 (by decide +kernel) (by decide +kernel), wG_t 625 (by decide +kernel) (by decide +kernel), wG_t 4 (by decide +kernel) (by decide +kernel), wG_t 626 (by decide +kernel) (by decide +kernel), ⟨by decide, by decide, by decide +kernel⟩⟩
theorem mw_X3_size : MwV yX3_size cX3_size 1 (some .int) 0 := ⟨wG_t 225 (by decide +kernel) (by decide +kernel), wG_t 226 (by decide +kernel) (by decide +kernel), wG_t 4 (by decide +kernel) (by decide +kernel), wG_t 227 (by decide +kernel) (by decide +kernel), ⟨by decide, by decide, by decide +kernel⟩⟩
theorem mw_X3_wOf : MwV yX3_wOf cX3_wOf 2 (some .int) 1 := ⟨wG_t 361 (by decide +kernel) (by decide +kernel), wG_t 362 (by decide +kernel) (by decide +kernel), wG_t 4 (by decide +kernel) (by decide +kernel), wG_t 363 (by decide +kernel) (by decide +kernel), ⟨by decide, by decide, by decide +kernel⟩⟩
theorem mw_X3_xOf : MwV yX3_xOf cX3_xOf 2 (some .int) 1 := ⟨wG_t 271 (by decide +kernel) (by decide +kernel), wG_t 272 (by decide +kernel) (by decide +kernel), wG_t 4 (by decide +kernel) (by decide +kernel), wG_t 273 (by decide +kernel) (by decide +kernel), ⟨by decide, by decide, by decide +kernel⟩⟩
theorem mw_X3_yOf : MwV yX3_yOf cX3_yOf 2 (some .int) 1 := ⟨wG_t 306 (by decide +kernel) (by decide +kernel), wG_t 307 (by decide +kernel) (by decide +kernel), wG_t 4 (by decide +kernel) (by decide +kernel), wG_t 308 (by decide +kernel) (by decide +kernel), ⟨by decide, by decide, by decide +kernel⟩⟩
theorem mw_X4_clear : MwV yX4_clear cX4_clear 1 none 0 := ⟨wG_t 401 (by decide +kernel) (by decide +kernel), wG_t 402 (by decide +kernel) (by decide +kernel), wG_t 6 (by decide +kernel) (by decide +kernel), wG_t 403 (by decide +kernel) (by decide +kernel), ⟨by decide, by decide, by decide +kernel⟩⟩
theorem mw_X4_put : MwV yX4_put cX4_put 2 none 1 := ⟨wG_t 409 (by decide +kernel) (by decide +kernel), wG_t 410 (by decide +kernel) (by decide +kernel), wG_t 6 (by decide +kernel) (by decide +kernel), wG_t 411 (by decide +kernel) (by decide +kernel), ⟨by decide, by decide, by decide +kernel⟩⟩
theorem mw_X4_putDigits : MwV yX4_putDigits cX4_putDigits 6 none 1 := ⟨wG_t 415 (by decide +kernel) (by decide +kernel), wG_in (List.mem_append_left _ (List.mem_of_getElem? (i := 9) (by decide +kernel))) (by decide +kernel), wG_t 6 (by decide +kernel) (by decide +kernel), wG_t 416 (by decide +kernel) (by decide +kernel), ⟨by decide, by decide, by decide +kernel⟩⟩
theorem mw_X4_putFraction : MwV yX4_putFraction cX4_putFraction 2 none 1 := ⟨wG_t 429 (by decide +kernel) (by decide +kernel), wG_t 430 (by decide +kernel) (by decide +kernel), wG_t 6 (by decide +kernel) (by decide +kernel), wG_t 431 (by decide +kernel) (by decide +kernel), ⟨by decide, by decide, by decide +kernel⟩⟩
theorem mw_X4_putTerm : MwV yX4_putTerm cX4_putTerm 6 none 2 := ⟨wG_t 405 (by decide +kernel) (by decide +kernel), wG_t 406 (by decide +kernel) (by decide +kernel), wG_t 6 (by decide +kernel) (by decide +kernel), wG_t 407 (by decide +kernel) (by decide +kernel), ⟨by decide, by decide, by decide +kernel⟩⟩
theorem mw_X4_signAt : MwV yX4_signAt cX4_signAt 2 (some .char) 1 := ⟨wG_t 976 (by decide +kernel) (by decide +kernel), wG_t 977 (by decide +kernel) (by decide +kernel), wG_t 6 (by decide +kernel) (by decide +kernel), wG_t 978 (by decide +kernel) (by decide +kernel), ⟨by decide, by decide, by decide +kernel⟩⟩
theorem mw_X4_size : MwV yX4_size cX4_size 1 (some .int) 0 := ⟨wG_t 420 (by decide +kernel) (by decide +kernel), wG_t 421 (by decide +kernel) (by decide +kernel), wG_t 6 (by decide +kernel) (by decide +kernel), wG_t 422 (by decide +kernel) (by decide +kernel), ⟨by decide, by decide, by decide +kernel⟩⟩
theorem mw_X5_append : MwV yX5_append cX5_append 3 none 1 := ⟨wG_t 197 (by decide +kernel) (by decide +kernel), wG_t 198 (by decide +kernel) (by decide +kernel), wG_t 2 (by decide +kernel) (by decide +kernel), wG_t 199 (by decide +kernel) (by decide +kernel), ⟨by decide, by decide, by decide +kernel⟩⟩
theorem mw_X5_byteAt : MwV yX5_byteAt cX5_byteAt 2 (some .int) 1 := ⟨wG_t 527 (by decide +kernel) (by decide +kernel), wG_in (List.mem_append_left _ (List.mem_of_getElem? (i := 12) (by decide +kernel))) (by decide +kernel), wG_t 2 (by decide +kernel) (by decide +kernel), wG_t 528 (by decide +kernel) (by decide +kernel), ⟨by decide, by decide, by decide +kernel⟩⟩
theorem mw_X5_clear : MwV yX5_clear cX5_clear 1 none 0 := ⟨wG_t 639 (by decide +kernel) (by decide +kernel), wG_t 640 (by decide +kernel) (by decide +kernel), wG_t 2 (by decide +kernel) (by decide +kernel), wG_t 641 (by decide +kernel) (by decide +kernel), ⟨by decide, by decide, by decide +kernel⟩⟩
theorem mw_X5_fail : MwV yX5_fail cX5_fail 2 (some .boolean) 1 := ⟨wG_t 602 (by decide +kernel) (by decide +kernel), wG_in (List.mem_append_left _ (List.mem_of_getElem? (i := 16) (by decide +kernel))) (by decide +kernel), wG_t 2 (by decide +kernel) (by decide +kernel), wG_t 603 (by decide +kernel) (by decide +kernel), ⟨by decide, by decide, by decide +kernel⟩⟩
theorem mw_X5_faultKind : MwV yX5_faultKind cX5_faultKind 1 (some .int) 0 := ⟨wG_t 209 (by decide +kernel) (by decide +kernel), wG_t 210 (by decide +kernel) (by decide +kernel), wG_t 2 (by decide +kernel) (by decide +kernel), wG_t 211 (by decide +kernel) (by decide +kernel), ⟨by decide, by decide, by decide +kernel⟩⟩
theorem mw_X5_faultPosition : MwV yX5_faultPosition cX5_faultPosition 1 (some .int) 0 := ⟨wG_t 217 (by decide +kernel) (by decide +kernel), wG_t 218 (by decide +kernel) (by decide +kernel), wG_t 2 (by decide +kernel) (by decide +kernel), wG_t 219 (by decide +kernel) (by decide +kernel), ⟨by decide, by decide, by decide +kernel⟩⟩
theorem mw_X5_filled : MwV yX5_filled cX5_filled 1 (some .int) 0 := ⟨wG_t 201 (by decide +kernel) (by decide +kernel), wG_t 202 (by decide +kernel) (by decide +kernel), wG_t 2 (by decide +kernel) (by decide +kernel), wG_t 203 (by decide +kernel) (by decide +kernel), ⟨by decide, by decide, by decide +kernel⟩⟩
theorem mw_X5_hasRoomFor : MwV yX5_hasRoomFor cX5_hasRoomFor 2 (some .boolean) 1 := ⟨wG_t 193 (by decide +kernel) (by decide +kernel), wG_t 194 (by decide +kernel) (by decide +kernel), wG_t 2 (by decide +kernel) (by decide +kernel), wG_t 195 (by decide +kernel) (by decide +kernel), ⟨by decide, by decide, by decide +kernel⟩⟩
theorem mw_X5_isDigit : MwS yX5_isDigit cX5_isDigit 1 (some .boolean) 1 := ⟨wG_t 533 (by decide +kernel) (by decide +kernel), wG_t 2 (by decide +kernel) (by decide +kernel), wG_t 534 (by decide +kernel) (by decide +kernel), ⟨by decide, by decide, by decide +kernel⟩⟩
theorem mw_X5_isLetter : MwS yX5_isLetter cX5_isLetter 1 (some .boolean) 1 := ⟨wG_t 530 (by decide +kernel) (by decide +kernel), wG_t 2 (by decide +kernel) (by decide +kernel), wG_t 531 (by decide +kernel) (by decide +kernel), ⟨by decide, by decide, by decide +kernel⟩⟩
theorem mw_X5_isWord : MwV yX5_isWord cX5_isWord 3 (some .boolean) 1 := ⟨wG_t 542 (by decide +kernel) (by decide +kernel), wG_in (List.mem_append_left _ (List.mem_of_getElem? (i := 14) (by decide +kernel))) (by decide +kernel), wG_t 2 (by decide +kernel) (by decide +kernel), wG_t 543 (by decide +kernel) (by decide +kernel), ⟨by decide, by decide, by decide +kernel⟩⟩
theorem mw_X5_read : MwV yX5_read cX5_read 5 (some .boolean) 2 := ⟨wG_t 514 (by decide +kernel) (by decide +kernel), wG_t 515 (by decide +kernel) (by decide +kernel), wG_t 2 (by decide +kernel) (by decide +kernel), wG_t 516 (by decide +kernel) (by decide +kernel), ⟨by decide, by decide, by decide +kernel⟩⟩
theorem mw_X5_readDigits : MwV yX5_readDigits cX5_readDigits 4 (some .int) 1 := ⟨wG_t 610 (by decide +kernel) (by decide +kernel), wG_in (List.mem_append_left _ (List.mem_of_getElem? (i := 18) (by decide +kernel))) (by decide +kernel), wG_t 2 (by decide +kernel) (by decide +kernel), wG_t 611 (by decide +kernel) (by decide +kernel), ⟨by decide, by decide, by decide +kernel⟩⟩
theorem mw_X5_readPoint : MwV yX5_readPoint cX5_readPoint 5 (some .boolean) 1 := ⟨wG_t 594 (by decide +kernel) (by decide +kernel), wG_in (List.mem_append_left _ (List.mem_of_getElem? (i := 15) (by decide +kernel))) (by decide +kernel), wG_t 2 (by decide +kernel) (by decide +kernel), wG_t 595 (by decide +kernel) (by decide +kernel), ⟨by decide, by decide, by decide +kernel⟩⟩
theorem mw_X5_readSemicolon : MwV yX5_readSemicolon cX5_readSemicolon 1 (some .boolean) 0 := ⟨wG_t 636 (by decide +kernel) (by decide +kernel), wG_in (List.mem_append_left _ (List.mem_of_getElem? (i := 19) (by decide +kernel))) (by decide +kernel), wG_t 2 (by decide +kernel) (by decide +kernel), wG_t 637 (by decide +kernel) (by decide +kernel), ⟨by decide, by decide, by decide +kernel⟩⟩
theorem mw_X5_readSigned : MwV yX5_readSigned cX5_readSigned 2 (some .int) 1 := ⟨wG_t 606 (by decide +kernel) (by decide +kernel), wG_in (List.mem_append_left _ (List.mem_of_getElem? (i := 17) (by decide +kernel))) (by decide +kernel), wG_t 2 (by decide +kernel) (by decide +kernel), wG_t 607 (by decide +kernel) (by decide +kernel), ⟨by decide, by decide, by decide +kernel⟩⟩
theorem mw_X5_readStatement : MwV yX5_readStatement cX5_readStatement 2 (some .boolean) 1 := ⟨wG_t 537 (by decide +kernel) (by decide +kernel), wG_in (List.mem_append_left _ (List.mem_of_getElem? (i := 13) (by decide +kernel))) (by decide +kernel), wG_t 2 (by decide +kernel) (by decide +kernel), wG_t 538 (by decide +kernel) (by decide +kernel), ⟨by decide, by decide, by decide +kernel⟩⟩
theorem mw_X5_step : MwV yX5_step cX5_step 5 none 0 := ⟨wG_t 523 (by decide +kernel) (by decide +kernel), wG_in (List.mem_append_left _ (List.mem_of_getElem? (i := 11) (by decide +kernel))) (by decide +kernel), wG_t 2 (by decide +kernel) (by decide +kernel), wG_t 524 (by decide +kernel) (by decide +kernel), ⟨by decide, by decide, by decide +kernel⟩⟩
theorem mw_X6_meets : MwV yX6_meets cX6_meets 2 (some .boolean) 1 := ⟨wG_t 268 (by decide +kernel) (by decide +kernel), wG_in (List.mem_append_left _ (List.mem_of_getElem? (i := 0) (by decide +kernel))) (by decide +kernel), wG_t 1 (by decide +kernel) (by decide +kernel), wG_t 269 (by decide +kernel) (by decide +kernel), ⟨by decide, by decide, by decide +kernel⟩⟩
theorem mw_X6_needBetween : MwS yX6_needBetween cX6_needBetween 3 none 3 := ⟨wG_t 442 (by decide +kernel) (by decide +kernel), wG_t 1 (by decide +kernel) (by decide +kernel), wG_t 443 (by decide +kernel) (by decide +kernel), ⟨by decide, by decide, by decide +kernel⟩⟩
theorem mw_X6_needFree : MwV yX6_needFree cX6_needFree 3 none 2 := ⟨wG_t 875 (by decide +kernel) (by decide +kernel), wG_in (List.mem_append_left _ (List.mem_of_getElem? (i := 24) (by decide +kernel))) (by decide +kernel), wG_t 1 (by decide +kernel) (by decide +kernel), wG_t 876 (by decide +kernel) (by decide +kernel), ⟨by decide, by decide, by decide +kernel⟩⟩
theorem mw_X6_needPart : MwS yX6_needPart cX6_needPart 1 none 1 := ⟨wG_t 738 (by decide +kernel) (by decide +kernel), wG_t 1 (by decide +kernel) (by decide +kernel), wG_t 739 (by decide +kernel) (by decide +kernel), ⟨by decide, by decide, by decide +kernel⟩⟩
theorem mw_X6_needPoint : MwV yX6_needPoint cX6_needPoint 2 none 1 := ⟨wG_t 657 (by decide +kernel) (by decide +kernel), wG_in (List.mem_append_left _ (List.mem_of_getElem? (i := 20) (by decide +kernel))) (by decide +kernel), wG_t 1 (by decide +kernel) (by decide +kernel), wG_t 658 (by decide +kernel) (by decide +kernel), ⟨by decide, by decide, by decide +kernel⟩⟩
theorem mw_X6_needValue : MwV yX6_needValue cX6_needValue 3 none 2 := ⟨wG_t 742 (by decide +kernel) (by decide +kernel), wG_in (List.mem_append_left _ (List.mem_of_getElem? (i := 21) (by decide +kernel))) (by decide +kernel), wG_t 1 (by decide +kernel) (by decide +kernel), wG_t 743 (by decide +kernel) (by decide +kernel), ⟨by decide, by decide, by decide +kernel⟩⟩
theorem mw_X6_needWeight : MwV yX6_needWeight cX6_needWeight 2 none 1 := ⟨wG_t 795 (by decide +kernel) (by decide +kernel), wG_in (List.mem_append_left _ (List.mem_of_getElem? (i := 22) (by decide +kernel))) (by decide +kernel), wG_t 1 (by decide +kernel) (by decide +kernel), wG_t 796 (by decide +kernel) (by decide +kernel), ⟨by decide, by decide, by decide +kernel⟩⟩
theorem mw_X6_needWithin : MwS yX6_needWithin cX6_needWithin 2 none 2 := ⟨wG_t 690 (by decide +kernel) (by decide +kernel), wG_t 1 (by decide +kernel) (by decide +kernel), wG_t 691 (by decide +kernel) (by decide +kernel), ⟨by decide, by decide, by decide +kernel⟩⟩
theorem mw_X6_tryPlace : MwV yX6_tryPlace cX6_tryPlace 3 none 2 := ⟨wG_t 885 (by decide +kernel) (by decide +kernel), wG_in (List.mem_append_left _ (List.mem_of_getElem? (i := 25) (by decide +kernel))) (by decide +kernel), wG_t 1 (by decide +kernel) (by decide +kernel), wG_t 886 (by decide +kernel) (by decide +kernel), ⟨by decide, by decide, by decide +kernel⟩⟩
theorem mw_X7_advance : MwV yX7_advance cX7_advance 2 (some .boolean) 0 := ⟨wG_t 1098 (by decide +kernel) (by decide +kernel), wG_in (List.mem_append_left _ (List.mem_of_getElem? (i := 30) (by decide +kernel))) (by decide +kernel), wG_t 8 (by decide +kernel) (by decide +kernel), wG_t 1099 (by decide +kernel) (by decide +kernel), ⟨by decide, by decide, by decide +kernel⟩⟩
theorem mw_X7_append : MwV yX7_append cX7_append 3 none 1 := ⟨wG_t 1075 (by decide +kernel) (by decide +kernel), wG_in (List.mem_append_left _ (List.mem_of_getElem? (i := 26) (by decide +kernel))) (by decide +kernel), wG_t 8 (by decide +kernel) (by decide +kernel), wG_t 1076 (by decide +kernel) (by decide +kernel), ⟨by decide, by decide, by decide +kernel⟩⟩
theorem mw_X7_blendStatement : MwV yX7_blendStatement cX7_blendStatement 1 (some .boolean) 0 := ⟨wG_t 1157 (by decide +kernel) (by decide +kernel), wG_in (List.mem_append_left _ (List.mem_of_getElem? (i := 42) (by decide +kernel))) (by decide +kernel), wG_t 8 (by decide +kernel) (by decide +kernel), wG_t 1158 (by decide +kernel) (by decide +kernel), ⟨by decide, by decide, by decide +kernel⟩⟩
theorem mw_X7_blended : MwV yX7_blended cX7_blended 10 (some .long) 1 := ⟨wG_t 1241 (by decide +kernel) (by decide +kernel), wG_in (List.mem_append_left _ (List.mem_of_getElem? (i := 53) (by decide +kernel))) (by decide +kernel), wG_t 8 (by decide +kernel) (by decide +kernel), wG_t 1242 (by decide +kernel) (by decide +kernel), ⟨by decide, by decide, by decide +kernel⟩⟩
theorem mw_X7_byteAt : MwV yX7_byteAt cX7_byteAt 2 (some .int) 1 := ⟨wG_t 1102 (by decide +kernel) (by decide +kernel), wG_in (List.mem_append_left _ (List.mem_of_getElem? (i := 31) (by decide +kernel))) (by decide +kernel), wG_t 8 (by decide +kernel) (by decide +kernel), wG_t 1103 (by decide +kernel) (by decide +kernel), ⟨by decide, by decide, by decide +kernel⟩⟩
theorem mw_X7_canShift : MwV yX7_canShift cX7_canShift 4 (some .boolean) 1 := ⟨wG_t 1496 (by decide +kernel) (by decide +kernel), wG_in (List.mem_append_left _ (List.mem_of_getElem? (i := 80) (by decide +kernel))) (by decide +kernel), wG_t 8 (by decide +kernel) (by decide +kernel), wG_t 1497 (by decide +kernel) (by decide +kernel), ⟨by decide, by decide, by decide +kernel⟩⟩
theorem mw_X7_closed : MwV yX7_closed cX7_closed 1 (some .boolean) 0 := ⟨wG_t 1167 (by decide +kernel) (by decide +kernel), wG_in (List.mem_append_left _ (List.mem_of_getElem? (i := 44) (by decide +kernel))) (by decide +kernel), wG_t 8 (by decide +kernel) (by decide +kernel), wG_t 1168 (by decide +kernel) (by decide +kernel), ⟨by decide, by decide, by decide +kernel⟩⟩
theorem mw_X7_closes : MwV yX7_closes cX7_closes 3 none 1 := ⟨wG_t 1437 (by decide +kernel) (by decide +kernel), wG_in (List.mem_append_left _ (List.mem_of_getElem? (i := 76) (by decide +kernel))) (by decide +kernel), wG_t 8 (by decide +kernel) (by decide +kernel), wG_t 1438 (by decide +kernel) (by decide +kernel), ⟨by decide, by decide, by decide +kernel⟩⟩
theorem mw_X7_common : MwS yX7_common cX7_common 10 (some .long) 2 := ⟨wG_t 1257 (by decide +kernel) (by decide +kernel), wG_t 8 (by decide +kernel) (by decide +kernel), wG_t 1258 (by decide +kernel) (by decide +kernel), ⟨by decide, by decide, by decide +kernel⟩⟩
theorem mw_X7_fail : MwV yX7_fail cX7_fail 2 (some .boolean) 1 := ⟨wG_t 1139 (by decide +kernel) (by decide +kernel), wG_in (List.mem_append_left _ (List.mem_of_getElem? (i := 38) (by decide +kernel))) (by decide +kernel), wG_t 8 (by decide +kernel) (by decide +kernel), wG_t 1140 (by decide +kernel) (by decide +kernel), ⟨by decide, by decide, by decide +kernel⟩⟩
theorem mw_X7_good : MwV yX7_good cX7_good 2 (some .boolean) 1 := ⟨wG_t 1086 (by decide +kernel) (by decide +kernel), wG_in (List.mem_append_left _ (List.mem_of_getElem? (i := 27) (by decide +kernel))) (by decide +kernel), wG_t 8 (by decide +kernel) (by decide +kernel), wG_t 1087 (by decide +kernel) (by decide +kernel), ⟨by decide, by decide, by decide +kernel⟩⟩
theorem mw_X7_good_ : MwV yX7_good_ cX7_good_ 3 (some .boolean) 2 := ⟨wG_t 1204 (by decide +kernel) (by decide +kernel), wG_in (List.mem_append_left _ (List.mem_of_getElem? (i := 47) (by decide +kernel))) (by decide +kernel), wG_t 8 (by decide +kernel) (by decide +kernel), wG_t 1205 (by decide +kernel) (by decide +kernel), ⟨by decide, by decide, by decide +kernel⟩⟩
theorem mw_X7_good__ : MwV yX7_good__ cX7_good__ 4 (some .boolean) 3 := ⟨wG_t 1208 (by decide +kernel) (by decide +kernel), wG_in (List.mem_append_left _ (List.mem_of_getElem? (i := 48) (by decide +kernel))) (by decide +kernel), wG_t 8 (by decide +kernel) (by decide +kernel), wG_t 1209 (by decide +kernel) (by decide +kernel), ⟨by decide, by decide, by decide +kernel⟩⟩
theorem mw_X7_hasRow : MwV yX7_hasRow cX7_hasRow 2 (some .boolean) 1 := ⟨wG_t 1384 (by decide +kernel) (by decide +kernel), wG_in (List.mem_append_left _ (List.mem_of_getElem? (i := 70) (by decide +kernel))) (by decide +kernel), wG_t 8 (by decide +kernel) (by decide +kernel), wG_t 1385 (by decide +kernel) (by decide +kernel), ⟨by decide, by decide, by decide +kernel⟩⟩
theorem mw_X7_hasValue : MwV yX7_hasValue cX7_hasValue 2 (some .boolean) 1 := ⟨wG_t 1326 (by decide +kernel) (by decide +kernel), wG_in (List.mem_append_left _ (List.mem_of_getElem? (i := 65) (by decide +kernel))) (by decide +kernel), wG_t 8 (by decide +kernel) (by decide +kernel), wG_t 1327 (by decide +kernel) (by decide +kernel), ⟨by decide, by decide, by decide +kernel⟩⟩
theorem mw_X7_hasValueIf : MwV yX7_hasValueIf cX7_hasValueIf 6 (some .boolean) 3 := ⟨wG_t 1429 (by decide +kernel) (by decide +kernel), wG_in (List.mem_append_left _ (List.mem_of_getElem? (i := 75) (by decide +kernel))) (by decide +kernel), wG_t 8 (by decide +kernel) (by decide +kernel), wG_t 1430 (by decide +kernel) (by decide +kernel), ⟨by decide, by decide, by decide +kernel⟩⟩
theorem mw_X7_isDigit : MwS yX7_isDigit cX7_isDigit 1 (some .boolean) 1 := ⟨wG_t 1112 (by decide +kernel) (by decide +kernel), wG_t 8 (by decide +kernel) (by decide +kernel), wG_t 1113 (by decide +kernel) (by decide +kernel), ⟨by decide, by decide, by decide +kernel⟩⟩
theorem mw_X7_isFree : MwV yX7_isFree cX7_isFree 3 (some .boolean) 2 := ⟨wG_t 1425 (by decide +kernel) (by decide +kernel), wG_in (List.mem_append_left _ (List.mem_of_getElem? (i := 74) (by decide +kernel))) (by decide +kernel), wG_t 8 (by decide +kernel) (by decide +kernel), wG_t 1426 (by decide +kernel) (by decide +kernel), ⟨by decide, by decide, by decide +kernel⟩⟩
theorem mw_X7_isGreater : MwS yX7_isGreater cX7_isGreater 24 (some .boolean) 4 := ⟨wG_t 1373 (by decide +kernel) (by decide +kernel), wG_t 8 (by decide +kernel) (by decide +kernel), wG_t 1374 (by decide +kernel) (by decide +kernel), ⟨by decide, by decide, by decide +kernel⟩⟩
theorem mw_X7_isHiddenBehind : MwV yX7_isHiddenBehind cX7_isHiddenBehind 6 (some .boolean) 1 := ⟨wG_t 1358 (by decide +kernel) (by decide +kernel), wG_in (List.mem_append_left _ (List.mem_of_getElem? (i := 68) (by decide +kernel))) (by decide +kernel), wG_t 8 (by decide +kernel) (by decide +kernel), wG_t 1359 (by decide +kernel) (by decide +kernel), ⟨by decide, by decide, by decide +kernel⟩⟩
theorem mw_X7_isIn : MwS yX7_isIn cX7_isIn 6 (some .boolean) 3 := ⟨wG_t 1082 (by decide +kernel) (by decide +kernel), wG_t 8 (by decide +kernel) (by decide +kernel), wG_t 1083 (by decide +kernel) (by decide +kernel), ⟨by decide, by decide, by decide +kernel⟩⟩
theorem mw_X7_isLetter : MwS yX7_isLetter cX7_isLetter 1 (some .boolean) 1 := ⟨wG_t 1105 (by decide +kernel) (by decide +kernel), wG_t 8 (by decide +kernel) (by decide +kernel), wG_t 1106 (by decide +kernel) (by decide +kernel), ⟨by decide, by decide, by decide +kernel⟩⟩
theorem mw_X7_isMetNow : MwV yX7_isMetNow cX7_isMetNow 2 (some .boolean) 1 := ⟨wG_t 1342 (by decide +kernel) (by decide +kernel), wG_in (List.mem_append_left _ (List.mem_of_getElem? (i := 67) (by decide +kernel))) (by decide +kernel), wG_t 8 (by decide +kernel) (by decide +kernel), wG_t 1343 (by decide +kernel) (by decide +kernel), ⟨by decide, by decide, by decide +kernel⟩⟩
theorem mw_X7_isPart : MwS yX7_isPart cX7_isPart 1 (some .boolean) 1 := ⟨wG_t 1322 (by decide +kernel) (by decide +kernel), wG_t 8 (by decide +kernel) (by decide +kernel), wG_t 1323 (by decide +kernel) (by decide +kernel), ⟨by decide, by decide, by decide +kernel⟩⟩
theorem mw_X7_isPoint : MwV yX7_isPoint cX7_isPoint 2 (some .boolean) 1 := ⟨wG_t 1199 (by decide +kernel) (by decide +kernel), wG_in (List.mem_append_left _ (List.mem_of_getElem? (i := 46) (by decide +kernel))) (by decide +kernel), wG_t 8 (by decide +kernel) (by decide +kernel), wG_t 1200 (by decide +kernel) (by decide +kernel), ⟨by decide, by decide, by decide +kernel⟩⟩
theorem mw_X7_isW : MwS yX7_isW cX7_isW 1 (some .boolean) 1 := ⟨wG_t 1473 (by decide +kernel) (by decide +kernel), wG_t 8 (by decide +kernel) (by decide +kernel), wG_t 1474 (by decide +kernel) (by decide +kernel), ⟨by decide, by decide, by decide +kernel⟩⟩
theorem mw_X7_isWhole : MwS yX7_isWhole cX7_isWhole 1 (some .boolean) 1 := ⟨wG_t 1219 (by decide +kernel) (by decide +kernel), wG_t 8 (by decide +kernel) (by decide +kernel), wG_t 1220 (by decide +kernel) (by decide +kernel), ⟨by decide, by decide, by decide +kernel⟩⟩
theorem mw_X7_isWord : MwV yX7_isWord cX7_isWord 3 (some .boolean) 1 := ⟨wG_t 1129 (by decide +kernel) (by decide +kernel), wG_in (List.mem_append_left _ (List.mem_of_getElem? (i := 36) (by decide +kernel))) (by decide +kernel), wG_t 8 (by decide +kernel) (by decide +kernel), wG_t 1130 (by decide +kernel) (by decide +kernel), ⟨by decide, by decide, by decide +kernel⟩⟩
theorem mw_X7_isX : MwS yX7_isX cX7_isX 1 (some .boolean) 1 := ⟨wG_t 1419 (by decide +kernel) (by decide +kernel), wG_t 8 (by decide +kernel) (by decide +kernel), wG_t 1420 (by decide +kernel) (by decide +kernel), ⟨by decide, by decide, by decide +kernel⟩⟩
theorem mw_X7_isY : MwS yX7_isY cX7_isY 1 (some .boolean) 1 := ⟨wG_t 1464 (by decide +kernel) (by decide +kernel), wG_t 8 (by decide +kernel) (by decide +kernel), wG_t 1465 (by decide +kernel) (by decide +kernel), ⟨by decide, by decide, by decide +kernel⟩⟩
theorem mw_X7_kindNow : MwV yX7_kindNow cX7_kindNow 8 (some .int) 1 := ⟨wG_t 1295 (by decide +kernel) (by decide +kernel), wG_in (List.mem_append_left _ (List.mem_of_getElem? (i := 59) (by decide +kernel))) (by decide +kernel), wG_t 8 (by decide +kernel) (by decide +kernel), wG_t 1296 (by decide +kernel) (by decide +kernel), ⟨by decide, by decide, by decide +kernel⟩⟩
theorem mw_X7_layBack : MwV yX7_layBack cX7_layBack 2 none 0 := ⟨wG_t 1171 (by decide +kernel) (by decide +kernel), wG_in (List.mem_append_left _ (List.mem_of_getElem? (i := 45) (by decide +kernel))) (by decide +kernel), wG_t 8 (by decide +kernel) (by decide +kernel), wG_t 1172 (by decide +kernel) (by decide +kernel), ⟨by decide, by decide, by decide +kernel⟩⟩
theorem mw_X7_lays : MwV yX7_lays cX7_lays 7 none 2 := ⟨wG_t 1307 (by decide +kernel) (by decide +kernel), wG_in (List.mem_append_left _ (List.mem_of_getElem? (i := 62) (by decide +kernel))) (by decide +kernel), wG_t 8 (by decide +kernel) (by decide +kernel), wG_t 1308 (by decide +kernel) (by decide +kernel), ⟨by decide, by decide, by decide +kernel⟩⟩
theorem mw_X7_laysCoefficients : MwV yX7_laysCoefficients cX7_laysCoefficients 4 none 1 := ⟨wG_t 1274 (by decide +kernel) (by decide +kernel), wG_in (List.mem_append_left _ (List.mem_of_getElem? (i := 56) (by decide +kernel))) (by decide +kernel), wG_t 8 (by decide +kernel) (by decide +kernel), wG_t 1275 (by decide +kernel) (by decide +kernel), ⟨by decide, by decide, by decide +kernel⟩⟩
theorem mw_X7_laysDivided : MwV yX7_laysDivided cX7_laysDivided 11 none 2 := ⟨wG_t 1408 (by decide +kernel) (by decide +kernel), wG_in (List.mem_append_left _ (List.mem_of_getElem? (i := 73) (by decide +kernel))) (by decide +kernel), wG_t 8 (by decide +kernel) (by decide +kernel), wG_t 1409 (by decide +kernel) (by decide +kernel), ⟨by decide, by decide, by decide +kernel⟩⟩
theorem mw_X7_laysOrder : MwV yX7_laysOrder cX7_laysOrder 2 none 0 := ⟨wG_t 1233 (by decide +kernel) (by decide +kernel), wG_in (List.mem_append_left _ (List.mem_of_getElem? (i := 51) (by decide +kernel))) (by decide +kernel), wG_t 8 (by decide +kernel) (by decide +kernel), wG_t 1234 (by decide +kernel) (by decide +kernel), ⟨by decide, by decide, by decide +kernel⟩⟩
theorem mw_X7_laysOthers : MwV yX7_laysOthers cX7_laysOthers 8 none 2 := ⟨wG_t 1392 (by decide +kernel) (by decide +kernel), wG_in (List.mem_append_left _ (List.mem_of_getElem? (i := 72) (by decide +kernel))) (by decide +kernel), wG_t 8 (by decide +kernel) (by decide +kernel), wG_t 1393 (by decide +kernel) (by decide +kernel), ⟨by decide, by decide, by decide +kernel⟩⟩
theorem mw_X7_laysProduct : MwV yX7_laysProduct cX7_laysProduct 4 none 1 := ⟨wG_t 1278 (by decide +kernel) (by decide +kernel), wG_in (List.mem_append_left _ (List.mem_of_getElem? (i := 57) (by decide +kernel))) (by decide +kernel), wG_t 8 (by decide +kernel) (by decide +kernel), wG_t 1279 (by decide +kernel) (by decide +kernel), ⟨by decide, by decide, by decide +kernel⟩⟩
theorem mw_X7_laysRow : MwV yX7_laysRow cX7_laysRow 3 none 2 := ⟨wG_t 1388 (by decide +kernel) (by decide +kernel), wG_in (List.mem_append_left _ (List.mem_of_getElem? (i := 71) (by decide +kernel))) (by decide +kernel), wG_t 8 (by decide +kernel) (by decide +kernel), wG_t 1389 (by decide +kernel) (by decide +kernel), ⟨by decide, by decide, by decide +kernel⟩⟩
theorem mw_X7_laysWeights : MwV yX7_laysWeights cX7_laysWeights 4 none 0 := ⟨wG_t 1229 (by decide +kernel) (by decide +kernel), wG_in (List.mem_append_left _ (List.mem_of_getElem? (i := 50) (by decide +kernel))) (by decide +kernel), wG_t 8 (by decide +kernel) (by decide +kernel), wG_t 1230 (by decide +kernel) (by decide +kernel), ⟨by decide, by decide, by decide +kernel⟩⟩
theorem mw_X7_modeStatement : MwV yX7_modeStatement cX7_modeStatement 2 (some .boolean) 1 := ⟨wG_t 1162 (by decide +kernel) (by decide +kernel), wG_in (List.mem_append_left _ (List.mem_of_getElem? (i := 43) (by decide +kernel))) (by decide +kernel), wG_t 8 (by decide +kernel) (by decide +kernel), wG_t 1163 (by decide +kernel) (by decide +kernel), ⟨by decide, by decide, by decide +kernel⟩⟩
theorem mw_X7_numberInto : MwV yX7_numberInto cX7_numberInto 3 (some .boolean) 2 := ⟨wG_t 1151 (by decide +kernel) (by decide +kernel), wG_in (List.mem_append_left _ (List.mem_of_getElem? (i := 41) (by decide +kernel))) (by decide +kernel), wG_t 8 (by decide +kernel) (by decide +kernel), wG_t 1152 (by decide +kernel) (by decide +kernel), ⟨by decide, by decide, by decide +kernel⟩⟩
theorem mw_X7_parse : MwV yX7_parse cX7_parse 3 (some .boolean) 1 := ⟨wG_t 1094 (by decide +kernel) (by decide +kernel), wG_in (List.mem_append_left _ (List.mem_of_getElem? (i := 29) (by decide +kernel))) (by decide +kernel), wG_t 8 (by decide +kernel) (by decide +kernel), wG_t 1095 (by decide +kernel) (by decide +kernel), ⟨by decide, by decide, by decide +kernel⟩⟩
theorem mw_X7_placeFor : MwV yX7_placeFor cX7_placeFor 9 (some .int) 2 := ⟨wG_t 1445 (by decide +kernel) (by decide +kernel), wG_in (List.mem_append_left _ (List.mem_of_getElem? (i := 77) (by decide +kernel))) (by decide +kernel), wG_t 8 (by decide +kernel) (by decide +kernel), wG_t 1446 (by decide +kernel) (by decide +kernel), ⟨by decide, by decide, by decide +kernel⟩⟩
theorem mw_X7_placeOf : MwV yX7_placeOf cX7_placeOf 4 (some .int) 1 := ⟨wG_t 1212 (by decide +kernel) (by decide +kernel), wG_in (List.mem_append_left _ (List.mem_of_getElem? (i := 49) (by decide +kernel))) (by decide +kernel), wG_t 8 (by decide +kernel) (by decide +kernel), wG_t 1213 (by decide +kernel) (by decide +kernel), ⟨by decide, by decide, by decide +kernel⟩⟩
theorem mw_X7_pointStatement : MwV yX7_pointStatement cX7_pointStatement 2 (some .boolean) 0 := ⟨wG_t 1135 (by decide +kernel) (by decide +kernel), wG_in (List.mem_append_left _ (List.mem_of_getElem? (i := 37) (by decide +kernel))) (by decide +kernel), wG_t 8 (by decide +kernel) (by decide +kernel), wG_t 1136 (by decide +kernel) (by decide +kernel), ⟨by decide, by decide, by decide +kernel⟩⟩
theorem mw_X7_pointWith : MwV yX7_pointWith cX7_pointWith 3 (some .int) 1 := ⟨wG_t 1147 (by decide +kernel) (by decide +kernel), wG_in (List.mem_append_left _ (List.mem_of_getElem? (i := 40) (by decide +kernel))) (by decide +kernel), wG_t 8 (by decide +kernel) (by decide +kernel), wG_t 1148 (by decide +kernel) (by decide +kernel), ⟨by decide, by decide, by decide +kernel⟩⟩
theorem mw_X7_poleFrom : MwV yX7_poleFrom cX7_poleFrom 3 (some .int) 1 := ⟨wG_t 1366 (by decide +kernel) (by decide +kernel), wG_in (List.mem_append_left _ (List.mem_of_getElem? (i := 69) (by decide +kernel))) (by decide +kernel), wG_t 8 (by decide +kernel) (by decide +kernel), wG_t 1367 (by decide +kernel) (by decide +kernel), ⟨by decide, by decide, by decide +kernel⟩⟩
theorem mw_X7_polynomialAt : MwV yX7_polynomialAt cX7_polynomialAt 6 (some .long) 2 := ⟨wG_t 1299 (by decide +kernel) (by decide +kernel), wG_in (List.mem_append_left _ (List.mem_of_getElem? (i := 60) (by decide +kernel))) (by decide +kernel), wG_t 8 (by decide +kernel) (by decide +kernel), wG_t 1300 (by decide +kernel) (by decide +kernel), ⟨by decide, by decide, by decide +kernel⟩⟩
theorem mw_X7_productIn : MwV yX7_productIn cX7_productIn 7 (some .long) 3 := ⟨wG_t 1254 (by decide +kernel) (by decide +kernel), wG_in (List.mem_append_left _ (List.mem_of_getElem? (i := 55) (by decide +kernel))) (by decide +kernel), wG_t 8 (by decide +kernel) (by decide +kernel), wG_t 1255 (by decide +kernel) (by decide +kernel), ⟨by decide, by decide, by decide +kernel⟩⟩
theorem mw_X7_putAside : MwV yX7_putAside cX7_putAside 2 none 0 := ⟨wG_t 1090 (by decide +kernel) (by decide +kernel), wG_in (List.mem_append_left _ (List.mem_of_getElem? (i := 28) (by decide +kernel))) (by decide +kernel), wG_t 8 (by decide +kernel) (by decide +kernel), wG_t 1091 (by decide +kernel) (by decide +kernel), ⟨by decide, by decide, by decide +kernel⟩⟩
theorem mw_X7_rawOf : MwV yX7_rawOf cX7_rawOf 2 (some .long) 1 := ⟨wG_t 1237 (by decide +kernel) (by decide +kernel), wG_in (List.mem_append_left _ (List.mem_of_getElem? (i := 52) (by decide +kernel))) (by decide +kernel), wG_t 8 (by decide +kernel) (by decide +kernel), wG_t 1238 (by decide +kernel) (by decide +kernel), ⟨by decide, by decide, by decide +kernel⟩⟩
theorem mw_X7_readNumber : MwV yX7_readNumber cX7_readNumber 1 none 0 := ⟨wG_t 1116 (by decide +kernel) (by decide +kernel), wG_in (List.mem_append_left _ (List.mem_of_getElem? (i := 33) (by decide +kernel))) (by decide +kernel), wG_t 8 (by decide +kernel) (by decide +kernel), wG_t 1117 (by decide +kernel) (by decide +kernel), ⟨by decide, by decide, by decide +kernel⟩⟩
theorem mw_X7_readSign : MwV yX7_readSign cX7_readSign 2 none 1 := ⟨wG_t 1120 (by decide +kernel) (by decide +kernel), wG_in (List.mem_append_left _ (List.mem_of_getElem? (i := 34) (by decide +kernel))) (by decide +kernel), wG_t 8 (by decide +kernel) (by decide +kernel), wG_t 1121 (by decide +kernel) (by decide +kernel), ⟨by decide, by decide, by decide +kernel⟩⟩
theorem mw_X7_readWord : MwV yX7_readWord cX7_readWord 1 none 0 := ⟨wG_t 1109 (by decide +kernel) (by decide +kernel), wG_in (List.mem_append_left _ (List.mem_of_getElem? (i := 32) (by decide +kernel))) (by decide +kernel), wG_t 8 (by decide +kernel) (by decide +kernel), wG_t 1110 (by decide +kernel) (by decide +kernel), ⟨by decide, by decide, by decide +kernel⟩⟩
theorem mw_X7_remember : MwV yX7_remember cX7_remember 2 none 0 := ⟨wG_t 1457 (by decide +kernel) (by decide +kernel), wG_in (List.mem_append_left _ (List.mem_of_getElem? (i := 79) (by decide +kernel))) (by decide +kernel), wG_t 8 (by decide +kernel) (by decide +kernel), wG_t 1458 (by decide +kernel) (by decide +kernel), ⟨by decide, by decide, by decide +kernel⟩⟩
theorem mw_X7_says : MwV yX7_says cX7_says 2 none 1 := ⟨wG_t 1512 (by decide +kernel) (by decide +kernel), wG_in (List.mem_append_left _ (List.mem_of_getElem? (i := 82) (by decide +kernel))) (by decide +kernel), wG_t 8 (by decide +kernel) (by decide +kernel), wG_t 1513 (by decide +kernel) (by decide +kernel), ⟨by decide, by decide, by decide +kernel⟩⟩
theorem mw_X7_saysNumber : MwV yX7_saysNumber cX7_saysNumber 3 none 1 := ⟨wG_t 1516 (by decide +kernel) (by decide +kernel), wG_in (List.mem_append_left _ (List.mem_of_getElem? (i := 83) (by decide +kernel))) (by decide +kernel), wG_t 8 (by decide +kernel) (by decide +kernel), wG_t 1517 (by decide +kernel) (by decide +kernel), ⟨by decide, by decide, by decide +kernel⟩⟩
theorem mw_X7_saysPower : MwV yX7_saysPower cX7_saysPower 4 none 1 := ⟨wG_t 1508 (by decide +kernel) (by decide +kernel), wG_in (List.mem_append_left _ (List.mem_of_getElem? (i := 81) (by decide +kernel))) (by decide +kernel), wG_t 8 (by decide +kernel) (by decide +kernel), wG_t 1509 (by decide +kernel) (by decide +kernel), ⟨by decide, by decide, by decide +kernel⟩⟩
theorem mw_X7_saysValue : MwV yX7_saysValue cX7_saysValue 3 none 1 := ⟨wG_t 1525 (by decide +kernel) (by decide +kernel), wG_in (List.mem_append_left _ (List.mem_of_getElem? (i := 84) (by decide +kernel))) (by decide +kernel), wG_t 8 (by decide +kernel) (by decide +kernel), wG_t 1526 (by decide +kernel) (by decide +kernel), ⟨by decide, by decide, by decide +kernel⟩⟩
theorem mw_X7_seesNumber : MwV yX7_seesNumber cX7_seesNumber 5 (some .boolean) 3 := ⟨wG_t 1143 (by decide +kernel) (by decide +kernel), wG_in (List.mem_append_left _ (List.mem_of_getElem? (i := 39) (by decide +kernel))) (by decide +kernel), wG_t 8 (by decide +kernel) (by decide +kernel), wG_t 1144 (by decide +kernel) (by decide +kernel), ⟨by decide, by decide, by decide +kernel⟩⟩
theorem mw_X7_sets : MwV yX7_sets cX7_sets 4 (some .int) 2 := ⟨wG_t 1453 (by decide +kernel) (by decide +kernel), wG_in (List.mem_append_left _ (List.mem_of_getElem? (i := 78) (by decide +kernel))) (by decide +kernel), wG_t 8 (by decide +kernel) (by decide +kernel), wG_t 1454 (by decide +kernel) (by decide +kernel), ⟨by decide, by decide, by decide +kernel⟩⟩
theorem mw_X7_slopeAt : MwV yX7_slopeAt cX7_slopeAt 6 (some .long) 2 := ⟨wG_t 1311 (by decide +kernel) (by decide +kernel), wG_in (List.mem_append_left _ (List.mem_of_getElem? (i := 63) (by decide +kernel))) (by decide +kernel), wG_t 8 (by decide +kernel) (by decide +kernel), wG_t 1312 (by decide +kernel) (by decide +kernel), ⟨by decide, by decide, by decide +kernel⟩⟩
theorem mw_X7_slopeWithoutAt : MwV yX7_slopeWithoutAt cX7_slopeWithoutAt 9 (some .long) 2 := ⟨wG_t 1315 (by decide +kernel) (by decide +kernel), wG_in (List.mem_append_left _ (List.mem_of_getElem? (i := 64) (by decide +kernel))) (by decide +kernel), wG_t 8 (by decide +kernel) (by decide +kernel), wG_t 1316 (by decide +kernel) (by decide +kernel), ⟨by decide, by decide, by decide +kernel⟩⟩
theorem mw_X7_span : MwV yX7_span cX7_span 7 (some .long) 2 := ⟨wG_t 1247 (by decide +kernel) (by decide +kernel), wG_in (List.mem_append_left _ (List.mem_of_getElem? (i := 54) (by decide +kernel))) (by decide +kernel), wG_t 8 (by decide +kernel) (by decide +kernel), wG_t 1248 (by decide +kernel) (by decide +kernel), ⟨by decide, by decide, by decide +kernel⟩⟩
theorem mw_X7_statement : MwV yX7_statement cX7_statement 1 (some .boolean) 0 := ⟨wG_t 1124 (by decide +kernel) (by decide +kernel), wG_in (List.mem_append_left _ (List.mem_of_getElem? (i := 35) (by decide +kernel))) (by decide +kernel), wG_t 8 (by decide +kernel) (by decide +kernel), wG_t 1125 (by decide +kernel) (by decide +kernel), ⟨by decide, by decide, by decide +kernel⟩⟩
theorem mw_X7_timesOf : MwV yX7_timesOf cX7_timesOf 3 (some .long) 2 := ⟨wG_t 1282 (by decide +kernel) (by decide +kernel), wG_in (List.mem_append_left _ (List.mem_of_getElem? (i := 58) (by decide +kernel))) (by decide +kernel), wG_t 8 (by decide +kernel) (by decide +kernel), wG_t 1283 (by decide +kernel) (by decide +kernel), ⟨by decide, by decide, by decide +kernel⟩⟩
theorem mw_X7_told : MwV yX7_told cX7_told 2 (some .long) 1 := ⟨wG_t 1330 (by decide +kernel) (by decide +kernel), wG_in (List.mem_append_left _ (List.mem_of_getElem? (i := 66) (by decide +kernel))) (by decide +kernel), wG_t 8 (by decide +kernel) (by decide +kernel), wG_t 1331 (by decide +kernel) (by decide +kernel), ⟨by decide, by decide, by decide +kernel⟩⟩
theorem mw_X7_withoutAt : MwV yX7_withoutAt cX7_withoutAt 6 (some .long) 2 := ⟨wG_t 1303 (by decide +kernel) (by decide +kernel), wG_in (List.mem_append_left _ (List.mem_of_getElem? (i := 61) (by decide +kernel))) (by decide +kernel), wG_t 8 (by decide +kernel) (by decide +kernel), wG_t 1304 (by decide +kernel) (by decide +kernel), ⟨by decide, by decide, by decide +kernel⟩⟩
