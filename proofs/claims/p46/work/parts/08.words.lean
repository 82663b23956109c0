theorem cw_L : ∀ w ∈ u_ws RL TL 6, w ∈ wG := by
  have h : ∀ w ∈ u_ws RL TL 6, w ∈ lw_tbl ∧ goodWord w = true := by decide +kernel
  exact fun w hw => wG_in (h w hw).1 (h w hw).2
theorem fl_L_13 : Fl RL 13 9 3 true := ⟨RL, TL, 6, tyL, rfl, by decide, cw_L, Or.inl (wG_t 361 (by decide +kernel) (by decide +kernel)), tyL_ok, nmL, rfl⟩
theorem fl_L_16 : Fl RL 16 9 4 true := ⟨RL, TL, 6, tyL, rfl, by decide, cw_L, Or.inl (wG_t 362 (by decide +kernel) (by decide +kernel)), tyL_ok, nmL, rfl⟩
theorem fl_L_19 : Fl RL 19 9 5 true := ⟨RL, TL, 6, tyL, rfl, by decide, cw_L, Or.inl (wG_t 363 (by decide +kernel) (by decide +kernel)), tyL_ok, nmL, rfl⟩
theorem fl_L_64 : Fl RL 64 9 2 false := ⟨RL, TL, 6, tyL, rfl, by decide, cw_L, Or.inl (wG_t 360 (by decide +kernel) (by decide +kernel)), tyL_ok, nmL, rfl⟩
theorem cw_X0 : ∀ w ∈ u_ws RX0 TX0 7, w ∈ wG := by
  have h : ∀ w ∈ u_ws RX0 TX0 7, w ∈ lw_tbl ∧ goodWord w = true := by decide +kernel
  exact fun w hw => wG_in (h w hw).1 (h w hw).2
theorem fl_X0_12 : Fl RX0 12 0 0 true := ⟨RX0, TX0, 7, tyX0, rfl, by decide, cw_X0, Or.inl (wG_t 103 (by decide +kernel) (by decide +kernel)), tyX0_ok, nmX0, rfl⟩
theorem fl_X0_18 : Fl RX0 18 0 1 true := ⟨RX0, TX0, 7, tyX0, rfl, by decide, cw_X0, Or.inl (wG_t 105 (by decide +kernel) (by decide +kernel)), tyX0_ok, nmX0, rfl⟩
theorem fl_X0_22 : Fl RX0 22 0 2 true := ⟨RX0, TX0, 7, tyX0, rfl, by decide, cw_X0, Or.inl (wG_t 106 (by decide +kernel) (by decide +kernel)), tyX0_ok, nmX0, rfl⟩
theorem fl_X0_25 : Fl RX0 25 0 3 true := ⟨RX0, TX0, 7, tyX0, rfl, by decide, cw_X0, Or.inl (wG_t 107 (by decide +kernel) (by decide +kernel)), tyX0_ok, nmX0, rfl⟩
theorem fl_X0_29 : Fl RX0 29 0 4 true := ⟨RX0, TX0, 7, tyX0, rfl, by decide, cw_X0, Or.inl (wG_t 108 (by decide +kernel) (by decide +kernel)), tyX0_ok, nmX0, rfl⟩
theorem fl_X0_32 : Fl RX0 32 0 5 true := ⟨RX0, TX0, 7, tyX0, rfl, by decide, cw_X0, Or.inl (wG_t 109 (by decide +kernel) (by decide +kernel)), tyX0_ok, nmX0, rfl⟩
theorem fl_X0_35 : Fl RX0 35 0 6 true := ⟨RX0, TX0, 7, tyX0, rfl, by decide, cw_X0, Or.inl (wG_t 110 (by decide +kernel) (by decide +kernel)), tyX0_ok, nmX0, rfl⟩
theorem cw_X3 : ∀ w ∈ u_ws RX3 TX3 6, w ∈ wG := by
  have h : ∀ w ∈ u_ws RX3 TX3 6, w ∈ lw_tbl ∧ goodWord w = true := by decide +kernel
  exact fun w hw => wG_in (h w hw).1 (h w hw).2
theorem fl_X0_62 : Fl RX0 62 3 4 false := ⟨RX3, TX3, 6, tyX3, rfl, by decide, cw_X3, Or.inr ⟨"WeightedNodes", by decide +kernel⟩, tyX3_ok, nmX3, rfl⟩
theorem fl_X0_79 : Fl RX0 79 3 5 false := ⟨RX3, TX3, 6, tyX3, rfl, by decide, cw_X3, Or.inr ⟨"WeightedNodes", by decide +kernel⟩, tyX3_ok, nmX3, rfl⟩
theorem cw_X1 : ∀ w ∈ u_ws RX1 TX1 2, w ∈ wG := by
  have h : ∀ w ∈ u_ws RX1 TX1 2, w ∈ lw_tbl ∧ goodWord w = true := by decide +kernel
  exact fun w hw => wG_in (h w hw).1 (h w hw).2
theorem fl_X1_13 : Fl RX1 13 1 1 false := ⟨RX1, TX1, 2, tyX1, rfl, by decide, cw_X1, Or.inl (wG_t 164 (by decide +kernel) (by decide +kernel)), tyX1_ok, nmX1, rfl⟩
theorem fl_X1_7 : Fl RX1 7 1 0 false := ⟨RX1, TX1, 2, tyX1, rfl, by decide, cw_X1, Or.inl (wG_t 163 (by decide +kernel) (by decide +kernel)), tyX1_ok, nmX1, rfl⟩
theorem cw_X2 : ∀ w ∈ u_ws RX2 TX2 2, w ∈ wG := by
  have h : ∀ w ∈ u_ws RX2 TX2 2, w ∈ lw_tbl ∧ goodWord w = true := by decide +kernel
  exact fun w hw => wG_in (h w hw).1 (h w hw).2
theorem fl_X2_11 : Fl RX2 11 2 0 true := ⟨RX2, TX2, 2, tyX2, rfl, by decide, cw_X2, Or.inl (wG_t 136 (by decide +kernel) (by decide +kernel)), tyX2_ok, nmX2, rfl⟩
theorem fl_X2_17 : Fl RX2 17 2 1 false := ⟨RX2, TX2, 2, tyX2, rfl, by decide, cw_X2, Or.inl (wG_t 137 (by decide +kernel) (by decide +kernel)), tyX2_ok, nmX2, rfl⟩
theorem fl_X3_15 : Fl RX3 15 3 1 true := ⟨RX3, TX3, 6, tyX3, rfl, by decide, cw_X3, Or.inl (wG_t 79 (by decide +kernel) (by decide +kernel)), tyX3_ok, nmX3, rfl⟩
theorem fl_X3_18 : Fl RX3 18 3 2 true := ⟨RX3, TX3, 6, tyX3, rfl, by decide, cw_X3, Or.inl (wG_t 80 (by decide +kernel) (by decide +kernel)), tyX3_ok, nmX3, rfl⟩
theorem fl_X3_21 : Fl RX3 21 3 3 false := ⟨RX3, TX3, 6, tyX3, rfl, by decide, cw_X3, Or.inl (wG_t 81 (by decide +kernel) (by decide +kernel)), tyX3_ok, nmX3, rfl⟩
theorem fl_X3_25 : Fl RX3 25 3 4 false := ⟨RX3, TX3, 6, tyX3, rfl, by decide, cw_X3, Or.inl (wG_t 82 (by decide +kernel) (by decide +kernel)), tyX3_ok, nmX3, rfl⟩
theorem fl_X3_28 : Fl RX3 28 3 5 false := ⟨RX3, TX3, 6, tyX3, rfl, by decide, cw_X3, Or.inl (wG_t 86 (by decide +kernel) (by decide +kernel)), tyX3_ok, nmX3, rfl⟩
theorem fl_X3_9 : Fl RX3 9 3 0 true := ⟨RX3, TX3, 6, tyX3, rfl, by decide, cw_X3, Or.inl (wG_t 78 (by decide +kernel) (by decide +kernel)), tyX3_ok, nmX3, rfl⟩
theorem cw_X5 : ∀ w ∈ u_ws RX5 TX5 8, w ∈ wG := by
  have h : ∀ w ∈ u_ws RX5 TX5 8, w ∈ lw_tbl ∧ goodWord w = true := by decide +kernel
  exact fun w hw => wG_in (h w hw).1 (h w hw).2
theorem fl_X5_15 : Fl RX5 15 5 1 false := ⟨RX5, TX5, 8, tyX5, rfl, by decide, cw_X5, Or.inl (wG_t 41 (by decide +kernel) (by decide +kernel)), tyX5_ok, nmX5, rfl⟩
theorem fl_X5_19 : Fl RX5 19 5 2 false := ⟨RX5, TX5, 8, tyX5, rfl, by decide, cw_X5, Or.inl (wG_t 42 (by decide +kernel) (by decide +kernel)), tyX5_ok, nmX5, rfl⟩
theorem fl_X5_22 : Fl RX5 22 5 3 false := ⟨RX5, TX5, 8, tyX5, rfl, by decide, cw_X5, Or.inl (wG_t 43 (by decide +kernel) (by decide +kernel)), tyX5_ok, nmX5, rfl⟩
theorem fl_X5_25 : Fl RX5 25 5 4 false := ⟨RX5, TX5, 8, tyX5, rfl, by decide, cw_X5, Or.inl (wG_t 44 (by decide +kernel) (by decide +kernel)), tyX5_ok, nmX5, rfl⟩
theorem fl_X5_28 : Fl RX5 28 5 5 false := ⟨RX5, TX5, 8, tyX5, rfl, by decide, cw_X5, Or.inl (wG_t 45 (by decide +kernel) (by decide +kernel)), tyX5_ok, nmX5, rfl⟩
theorem fl_X5_31 : Fl RX5 31 5 6 false := ⟨RX5, TX5, 8, tyX5, rfl, by decide, cw_X5, Or.inl (wG_t 46 (by decide +kernel) (by decide +kernel)), tyX5_ok, nmX5, rfl⟩
theorem fl_X5_34 : Fl RX5 34 5 7 false := ⟨RX5, TX5, 8, tyX5, rfl, by decide, cw_X5, Or.inl (wG_t 47 (by decide +kernel) (by decide +kernel)), tyX5_ok, nmX5, rfl⟩
theorem fl_X5_60 : Fl RX5 60 3 4 false := ⟨RX3, TX3, 6, tyX3, rfl, by decide, cw_X3, Or.inr ⟨"WeightedNodes", by decide +kernel⟩, tyX3_ok, nmX3, rfl⟩
theorem fl_X5_71 : Fl RX5 71 3 5 false := ⟨RX3, TX3, 6, tyX3, rfl, by decide, cw_X3, Or.inr ⟨"WeightedNodes", by decide +kernel⟩, tyX3_ok, nmX3, rfl⟩
theorem fl_X5_9 : Fl RX5 9 5 0 true := ⟨RX5, TX5, 8, tyX5, rfl, by decide, cw_X5, Or.inl (wG_t 40 (by decide +kernel) (by decide +kernel)), tyX5_ok, nmX5, rfl⟩
theorem cw_X6 : ∀ w ∈ u_ws RX6 TX6 7, w ∈ wG := by
  have h : ∀ w ∈ u_ws RX6 TX6 7, w ∈ lw_tbl ∧ goodWord w = true := by decide +kernel
  exact fun w hw => wG_in (h w hw).1 (h w hw).2
theorem fl_X6_10 : Fl RX6 10 6 0 true := ⟨RX6, TX6, 7, tyX6, rfl, by decide, cw_X6, Or.inl (wG_t 170 (by decide +kernel) (by decide +kernel)), tyX6_ok, nmX6, rfl⟩
theorem fl_X6_100 : Fl RX6 100 3 5 false := ⟨RX3, TX3, 6, tyX3, rfl, by decide, cw_X3, Or.inr ⟨"WeightedNodes", by decide +kernel⟩, tyX3_ok, nmX3, rfl⟩
theorem fl_X6_19 : Fl RX6 19 6 1 true := ⟨RX6, TX6, 7, tyX6, rfl, by decide, cw_X6, Or.inl (wG_t 171 (by decide +kernel) (by decide +kernel)), tyX6_ok, nmX6, rfl⟩
theorem fl_X6_23 : Fl RX6 23 6 2 true := ⟨RX6, TX6, 7, tyX6, rfl, by decide, cw_X6, Or.inl (wG_t 172 (by decide +kernel) (by decide +kernel)), tyX6_ok, nmX6, rfl⟩
theorem fl_X6_29 : Fl RX6 29 6 3 true := ⟨RX6, TX6, 7, tyX6, rfl, by decide, cw_X6, Or.inl (wG_t 173 (by decide +kernel) (by decide +kernel)), tyX6_ok, nmX6, rfl⟩
theorem fl_X6_43 : Fl RX6 43 6 5 true := ⟨RX6, TX6, 7, tyX6, rfl, by decide, cw_X6, Or.inl (wG_t 175 (by decide +kernel) (by decide +kernel)), tyX6_ok, nmX6, rfl⟩
theorem fl_X6_66 : Fl RX6 66 0 0 true := ⟨RX0, TX0, 7, tyX0, rfl, by decide, cw_X0, Or.inr ⟨"WeightedNodes", by decide +kernel⟩, tyX0_ok, nmX0, rfl⟩
theorem fl_X6_96 : Fl RX6 96 3 4 false := ⟨RX3, TX3, 6, tyX3, rfl, by decide, cw_X3, Or.inr ⟨"WeightedNodes", by decide +kernel⟩, tyX3_ok, nmX3, rfl⟩
theorem ml_L_113 : Cond.methodLink RL 113 yX6_point ∈ wG := wG_t 948 (by decide +kernel) (by decide +kernel)
theorem ml_L_116 : Cond.methodLink RL 116 yX6_many ∈ wG := wG_t 833 (by decide +kernel) (by decide +kernel)
theorem ml_L_159 : Cond.methodLink RL 159 yX6_missed ∈ wG := wG_t 794 (by decide +kernel) (by decide +kernel)
theorem ml_L_162 : Cond.methodLink RL 162 yX6_hiddenPoles ∈ wG := wG_t 838 (by decide +kernel) (by decide +kernel)
theorem ml_L_165 : Cond.methodLink RL 165 yX6_degreeOf ∈ wG := wG_t 846 (by decide +kernel) (by decide +kernel)
theorem ml_L_168 : Cond.methodLink RL 168 yX6_isAlternating ∈ wG := wG_t 851 (by decide +kernel) (by decide +kernel)
theorem ml_L_171 : Cond.methodLink RL 171 yX6_value ∈ wG := wG_t 859 (by decide +kernel) (by decide +kernel)
theorem ml_L_175 : Cond.methodLink RL 175 yX6_plainValue ∈ wG := wG_t 889 (by decide +kernel) (by decide +kernel)
theorem ml_L_178 : Cond.methodLink RL 178 yL_isByNewton ∈ wG := wG_t 893 (by decide +kernel) (by decide +kernel)
theorem ml_L_181 : Cond.methodLink RL 181 yX6_divided ∈ wG := wG_t 897 (by decide +kernel) (by decide +kernel)
theorem ml_L_185 : Cond.methodLink RL 185 Lib.Math.abs.name ∈ wG := wG_t 940 (by decide +kernel) (by decide +kernel)
theorem ml_L_190 : Cond.methodLink RL 190 yX6_weight ∈ wG := wG_t 943 (by decide +kernel) (by decide +kernel)
theorem ml_L_194 : Cond.methodLink RL 194 yX6_weightSum ∈ wG := wG_t 954 (by decide +kernel) (by decide +kernel)
theorem ml_L_198 : Cond.methodLink RL 198 yX6_coefficient ∈ wG := wG_t 962 (by decide +kernel) (by decide +kernel)
theorem ml_L_202 : Cond.methodLink RL 202 yX6_kindAt ∈ wG := wG_t 966 (by decide +kernel) (by decide +kernel)
theorem ml_X0_102 : Cond.methodLink RX0 102 yX0_factor ∈ wG := wG_t 815 (by decide +kernel) (by decide +kernel)
theorem ml_X0_106 : Cond.methodLink RX0 106 yX0_at ∈ wG := wG_t 811 (by decide +kernel) (by decide +kernel)
theorem ml_X0_109 : Cond.methodLink RX0 109 yX0_derivativeAt ∈ wG := wG_t 819 (by decide +kernel) (by decide +kernel)
theorem ml_X0_112 : Cond.methodLink RX0 112 yX0_kindOf ∈ wG := wG_t 807 (by decide +kernel) (by decide +kernel)
theorem ml_X0_115 : Cond.methodLink RX0 115 yX1_put ∈ wG := wG_t 823 (by decide +kernel) (by decide +kernel)
theorem ml_X0_38 : Cond.methodLink RX0 38 yX0_sort ∈ wG := wG_t 291 (by decide +kernel) (by decide +kernel)
theorem ml_X0_41 : Cond.methodLink RX0 41 yX0_reckonWeights ∈ wG := wG_t 308 (by decide +kernel) (by decide +kernel)
theorem ml_X0_44 : Cond.methodLink RX0 44 yX0_reckonPolynomials ∈ wG := wG_t 336 (by decide +kernel) (by decide +kernel)
theorem ml_X0_47 : Cond.methodLink RX0 47 yX3_size ∈ wG := wG_t 295 (by decide +kernel) (by decide +kernel)
theorem ml_X0_51 : Cond.methodLink RX0 51 yX3_placeOf ∈ wG := wG_t 299 (by decide +kernel) (by decide +kernel)
theorem ml_X0_55 : Cond.methodLink RX0 55 yX3_xOf ∈ wG := wG_t 307 (by decide +kernel) (by decide +kernel)
theorem ml_X0_58 : Cond.methodLink RX0 58 yX0_pairProduct ∈ wG := wG_t 312 (by decide +kernel) (by decide +kernel)
theorem ml_X0_66 : Cond.methodLink RX0 66 yX3_wOf ∈ wG := wG_t 316 (by decide +kernel) (by decide +kernel)
theorem ml_X0_69 : Cond.methodLink RX0 69 yX0_scaledWeight ∈ wG := wG_t 320 (by decide +kernel) (by decide +kernel)
theorem ml_X0_73 : Cond.methodLink RX0 73 yX1_divisor ∈ wG := wG_t 330 (by decide +kernel) (by decide +kernel)
theorem ml_X0_82 : Cond.methodLink RX0 82 Lib.Math.min.name ∈ wG := wG_t 324 (by decide +kernel) (by decide +kernel)
theorem ml_X0_88 : Cond.methodLink RX0 88 Lib.Math.max.name ∈ wG := wG_t 327 (by decide +kernel) (by decide +kernel)
theorem ml_X0_91 : Cond.methodLink RX0 91 yX0_reckonProduct ∈ wG := wG_t 340 (by decide +kernel) (by decide +kernel)
theorem ml_X0_95 : Cond.methodLink RX0 95 yX0_weightOf ∈ wG := wG_t 344 (by decide +kernel) (by decide +kernel)
theorem ml_X0_99 : Cond.methodLink RX0 99 yX3_yOf ∈ wG := wG_t 348 (by decide +kernel) (by decide +kernel)
theorem ml_X1_16 : Cond.methodLink RX1 16 yX1_divisor ∈ wG := wG_t 827 (by decide +kernel) (by decide +kernel)
theorem ml_X1_20 : Cond.methodLink RX1 20 yX1_put ∈ wG := wG_t 935 (by decide +kernel) (by decide +kernel)
theorem ml_X1_30 : Cond.methodLink RX1 30 Lib.MathLoose.abs_long.x ∈ wG := wG_t 333 (by decide +kernel) (by decide +kernel)
theorem ml_X2_22 : Cond.methodLink RX2 22 yX3_copyFrom ∈ wG := wG_t 283 (by decide +kernel) (by decide +kernel)
theorem ml_X3_31 : Cond.methodLink RX3 31 yX3_isFull ∈ wG := wG_t 513 (by decide +kernel) (by decide +kernel)
theorem ml_X3_35 : Cond.methodLink RX3 35 yX3_putX ∈ wG := wG_t 514 (by decide +kernel) (by decide +kernel)
theorem ml_X3_39 : Cond.methodLink RX3 39 yX3_putY ∈ wG := wG_t 518 (by decide +kernel) (by decide +kernel)
theorem ml_X3_42 : Cond.methodLink RX3 42 yX3_putW ∈ wG := wG_t 522 (by decide +kernel) (by decide +kernel)
theorem ml_X3_49 : Cond.methodLink RX3 49 yX3_xOf ∈ wG := wG_t 303 (by decide +kernel) (by decide +kernel)
theorem ml_X3_53 : Cond.methodLink RX3 53 yX3_yOf ∈ wG := wG_t 930 (by decide +kernel) (by decide +kernel)
theorem ml_X3_62 : Cond.methodLink RX3 62 yX1_put ∈ wG := wG_t 929 (by decide +kernel) (by decide +kernel)
theorem ml_X3_68 : Cond.methodLink RX3 68 yX1_add ∈ wG := wG_t 931 (by decide +kernel) (by decide +kernel)
theorem ml_X5_109 : Cond.methodLink RX5 109 yX5_isLetter ∈ wG := wG_t 467 (by decide +kernel) (by decide +kernel)
theorem ml_X5_112 : Cond.methodLink RX5 112 yX5_isDigit ∈ wG := wG_t 470 (by decide +kernel) (by decide +kernel)
theorem ml_X5_37 : Cond.methodLink RX5 37 yX3_clear ∈ wG := wG_t 455 (by decide +kernel) (by decide +kernel)
theorem ml_X5_42 : Cond.methodLink RX5 42 yX5_step ∈ wG := wG_t 459 (by decide +kernel) (by decide +kernel)
theorem ml_X5_45 : Cond.methodLink RX5 45 yX5_readStatement ∈ wG := wG_t 473 (by decide +kernel) (by decide +kernel)
theorem ml_X5_51 : Cond.methodLink RX5 51 yX5_isWord ∈ wG := wG_t 478 (by decide +kernel) (by decide +kernel)
theorem ml_X5_55 : Cond.methodLink RX5 55 yX5_readPoint ∈ wG := wG_t 484 (by decide +kernel) (by decide +kernel)
theorem ml_X5_67 : Cond.methodLink RX5 67 yX5_readDigits ∈ wG := wG_t 500 (by decide +kernel) (by decide +kernel)
theorem ml_X5_74 : Cond.methodLink RX5 74 yX5_fail ∈ wG := wG_t 492 (by decide +kernel) (by decide +kernel)
theorem ml_X5_78 : Cond.methodLink RX5 78 yX5_readSemicolon ∈ wG := wG_t 529 (by decide +kernel) (by decide +kernel)
theorem ml_X5_82 : Cond.methodLink RX5 82 yX3_isFull ∈ wG := wG_t 488 (by decide +kernel) (by decide +kernel)
theorem ml_X5_85 : Cond.methodLink RX5 85 yX5_readSigned ∈ wG := wG_t 496 (by decide +kernel) (by decide +kernel)
theorem ml_X5_88 : Cond.methodLink RX5 88 yX3_find ∈ wG := wG_t 504 (by decide +kernel) (by decide +kernel)
theorem ml_X5_93 : Cond.methodLink RX5 93 yX3_append ∈ wG := wG_t 509 (by decide +kernel) (by decide +kernel)
theorem ml_X5_97 : Cond.methodLink RX5 97 yX5_byteAt ∈ wG := wG_t 463 (by decide +kernel) (by decide +kernel)
theorem ml_X6_103 : Cond.methodLink RX6 103 yX6_needPoint ∈ wG := wG_t 901 (by decide +kernel) (by decide +kernel)
theorem ml_X6_106 : Cond.methodLink RX6 106 yX3_xOf ∈ wG := wG_t 802 (by decide +kernel) (by decide +kernel)
theorem ml_X6_110 : Cond.methodLink RX6 110 yX3_yOf ∈ wG := wG_t 832 (by decide +kernel) (by decide +kernel)
theorem ml_X6_113 : Cond.methodLink RX6 113 yX3_wOf ∈ wG := wG_t 952 (by decide +kernel) (by decide +kernel)
theorem ml_X6_116 : Cond.methodLink RX6 116 yX3_placeOf ∈ wG := wG_t 953 (by decide +kernel) (by decide +kernel)
theorem ml_X6_119 : Cond.methodLink RX6 119 yX6_needWithin ∈ wG := wG_t 863 (by decide +kernel) (by decide +kernel)
theorem ml_X6_133 : Cond.methodLink RX6 133 yX0_weightOf ∈ wG := wG_t 947 (by decide +kernel) (by decide +kernel)
theorem ml_X6_137 : Cond.methodLink RX6 137 yX0_alternates ∈ wG := wG_t 855 (by decide +kernel) (by decide +kernel)
theorem ml_X6_141 : Cond.methodLink RX6 141 yX0_factor ∈ wG := wG_t 850 (by decide +kernel) (by decide +kernel)
theorem ml_X6_145 : Cond.methodLink RX6 145 yX0_kindOf ∈ wG := wG_t 837 (by decide +kernel) (by decide +kernel)
theorem ml_X6_148 : Cond.methodLink RX6 148 yX6_needPart ∈ wG := wG_t 866 (by decide +kernel) (by decide +kernel)
theorem ml_X6_151 : Cond.methodLink RX6 151 yX6_needValue ∈ wG := wG_t 869 (by decide +kernel) (by decide +kernel)
theorem ml_X6_155 : Cond.methodLink RX6 155 yX1_part ∈ wG := wG_t 828 (by decide +kernel) (by decide +kernel)
theorem ml_X6_158 : Cond.methodLink RX6 158 yX6_meets ∈ wG := wG_t 798 (by decide +kernel) (by decide +kernel)
theorem ml_X6_161 : Cond.methodLink RX6 161 yX0_hidesPoleBehind ∈ wG := wG_t 842 (by decide +kernel) (by decide +kernel)
theorem ml_X6_166 : Cond.methodLink RX6 166 yX0_putValue ∈ wG := wG_t 803 (by decide +kernel) (by decide +kernel)
theorem ml_X6_192 : Cond.methodLink RX6 192 yX3_putDivided ∈ wG := wG_t 925 (by decide +kernel) (by decide +kernel)
theorem ml_X6_210 : Cond.methodLink RX6 210 yX2_remember ∈ wG := wG_t 279 (by decide +kernel) (by decide +kernel)
theorem ml_X6_264 : Cond.methodLink RX6 264 yX3_has ∈ wG := wG_t 905 (by decide +kernel) (by decide +kernel)
theorem ml_X6_50 : Cond.methodLink RX6 50 yX5_hasRoomFor ∈ wG := wG_t 435 (by decide +kernel) (by decide +kernel)
theorem ml_X6_54 : Cond.methodLink RX6 54 yX5_append ∈ wG := wG_t 439 (by decide +kernel) (by decide +kernel)
theorem ml_X6_58 : Cond.methodLink RX6 58 yX5_filled ∈ wG := wG_t 443 (by decide +kernel) (by decide +kernel)
theorem ml_X6_62 : Cond.methodLink RX6 62 yX6_needBetween ∈ wG := wG_t 208 (by decide +kernel) (by decide +kernel)
theorem ml_X6_70 : Cond.methodLink RX6 70 yX5_read ∈ wG := wG_t 451 (by decide +kernel) (by decide +kernel)
theorem ml_X6_74 : Cond.methodLink RX6 74 yX5_clear ∈ wG := wG_t 533 (by decide +kernel) (by decide +kernel)
theorem ml_X6_77 : Cond.methodLink RX6 77 yX3_copyFrom ∈ wG := wG_t 537 (by decide +kernel) (by decide +kernel)
theorem ml_X6_83 : Cond.methodLink RX6 83 yX0_reckon ∈ wG := wG_t 287 (by decide +kernel) (by decide +kernel)
theorem ml_X6_86 : Cond.methodLink RX6 86 yX2_clear ∈ wG := wG_t 538 (by decide +kernel) (by decide +kernel)
theorem ml_X6_87 : Cond.methodLink RX6 87 yX3_size ∈ wG := wG_t 542 (by decide +kernel) (by decide +kernel)
theorem ml_X6_90 : Cond.methodLink RX6 90 yX5_faultKind ∈ wG := wG_t 196 (by decide +kernel) (by decide +kernel)
theorem mw_L_isByNewton : MwV yL_isByNewton cL_isByNewton 10 (some .boolean) 2 := ⟨wG_t 895 (by decide +kernel) (by decide +kernel), wG_in (List.mem_append_left _ (List.mem_of_getElem? (i := 25) (by decide +kernel))) (by decide +kernel), wG_t 0 (by decide +kernel) (by decide +kernel), wG_t 896 (by decide +kernel) (by decide +kernel), ⟨by decide, by decide, by decide +kernel⟩⟩
theorem mw_X0_alternates : MwV yX0_alternates cX0_alternates 6 (some .boolean) 0 := ⟨wG_t 856 (by decide +kernel) (by decide +kernel), wG_t 857 (by decide +kernel) (by decide +kernel), wG_t 3 (by decide +kernel) (by decide +kernel), wG_t 858 (by decide +kernel) (by decide +kernel), ⟨by decide, by decide, by decide +kernel⟩⟩
theorem mw_X0_at : MwV yX0_at cX0_at 6 (some .long) 2 := ⟨wG_t 813 (by decide +kernel) (by decide +kernel), wG_in (List.mem_append_left _ (List.mem_of_getElem? (i := 22) (by decide +kernel))) (by decide +kernel), wG_t 3 (by decide +kernel) (by decide +kernel), wG_t 814 (by decide +kernel) (by decide +kernel), ⟨by decide, by decide, by decide +kernel⟩⟩
theorem mw_X0_derivativeAt : MwV yX0_derivativeAt cX0_derivativeAt 6 (some .long) 2 := ⟨wG_t 821 (by decide +kernel) (by decide +kernel), wG_in (List.mem_append_left _ (List.mem_of_getElem? (i := 23) (by decide +kernel))) (by decide +kernel), wG_t 3 (by decide +kernel) (by decide +kernel), wG_t 822 (by decide +kernel) (by decide +kernel), ⟨by decide, by decide, by decide +kernel⟩⟩
theorem mw_X0_factor : MwV yX0_factor cX0_factor 3 (some .long) 2 := ⟨wG_t 816 (by decide +kernel) (by decide +kernel), wG_t 817 (by decide +kernel) (by decide +kernel), wG_t 3 (by decide +kernel) (by decide +kernel), wG_t 818 (by decide +kernel) (by decide +kernel), ⟨by decide, by decide, by decide +kernel⟩⟩
theorem mw_X0_hidesPoleBehind : MwV yX0_hidesPoleBehind cX0_hidesPoleBehind 6 (some .boolean) 1 := ⟨wG_t 843 (by decide +kernel) (by decide +kernel), wG_t 844 (by decide +kernel) (by decide +kernel), wG_t 3 (by decide +kernel) (by decide +kernel), wG_t 845 (by decide +kernel) (by decide +kernel), ⟨by decide, by decide, by decide +kernel⟩⟩
theorem mw_X0_kindOf : MwV yX0_kindOf cX0_kindOf 2 (some .int) 1 := ⟨wG_t 808 (by decide +kernel) (by decide +kernel), wG_t 809 (by decide +kernel) (by decide +kernel), wG_t 3 (by decide +kernel) (by decide +kernel), wG_t 810 (by decide +kernel) (by decide +kernel), ⟨by decide, by decide, by decide +kernel⟩⟩
theorem mw_X0_pairProduct : MwV yX0_pairProduct cX0_pairProduct 5 (some .long) 0 := ⟨wG_t 314 (by decide +kernel) (by decide +kernel), wG_in (List.mem_append_left _ (List.mem_of_getElem? (i := 3) (by decide +kernel))) (by decide +kernel), wG_t 3 (by decide +kernel) (by decide +kernel), wG_t 315 (by decide +kernel) (by decide +kernel), ⟨by decide, by decide, by decide +kernel⟩⟩
theorem mw_X0_putValue : MwV yX0_putValue cX0_putValue 4 (some .boolean) 2 := ⟨wG_t 804 (by decide +kernel) (by decide +kernel), wG_t 805 (by decide +kernel) (by decide +kernel), wG_t 3 (by decide +kernel) (by decide +kernel), wG_t 806 (by decide +kernel) (by decide +kernel), ⟨by decide, by decide, by decide +kernel⟩⟩
theorem mw_X0_reckon : MwV yX0_reckon cX0_reckon 1 none 0 := ⟨wG_t 288 (by decide +kernel) (by decide +kernel), wG_t 289 (by decide +kernel) (by decide +kernel), wG_t 3 (by decide +kernel) (by decide +kernel), wG_t 290 (by decide +kernel) (by decide +kernel), ⟨by decide, by decide, by decide +kernel⟩⟩
theorem mw_X0_reckonPolynomials : MwV yX0_reckonPolynomials cX0_reckonPolynomials 5 none 0 := ⟨wG_t 338 (by decide +kernel) (by decide +kernel), wG_in (List.mem_append_left _ (List.mem_of_getElem? (i := 5) (by decide +kernel))) (by decide +kernel), wG_t 3 (by decide +kernel) (by decide +kernel), wG_t 339 (by decide +kernel) (by decide +kernel), ⟨by decide, by decide, by decide +kernel⟩⟩
theorem mw_X0_reckonProduct : MwV yX0_reckonProduct cX0_reckonProduct 6 none 1 := ⟨wG_t 342 (by decide +kernel) (by decide +kernel), wG_in (List.mem_append_left _ (List.mem_of_getElem? (i := 6) (by decide +kernel))) (by decide +kernel), wG_t 3 (by decide +kernel) (by decide +kernel), wG_t 343 (by decide +kernel) (by decide +kernel), ⟨by decide, by decide, by decide +kernel⟩⟩
theorem mw_X0_reckonWeights : MwV yX0_reckonWeights cX0_reckonWeights 6 none 0 := ⟨wG_t 310 (by decide +kernel) (by decide +kernel), wG_in (List.mem_append_left _ (List.mem_of_getElem? (i := 2) (by decide +kernel))) (by decide +kernel), wG_t 3 (by decide +kernel) (by decide +kernel), wG_t 311 (by decide +kernel) (by decide +kernel), ⟨by decide, by decide, by decide +kernel⟩⟩
theorem mw_X0_scaledWeight : MwV yX0_scaledWeight cX0_scaledWeight 14 (some .long) 2 := ⟨wG_t 322 (by decide +kernel) (by decide +kernel), wG_in (List.mem_append_left _ (List.mem_of_getElem? (i := 4) (by decide +kernel))) (by decide +kernel), wG_t 3 (by decide +kernel) (by decide +kernel), wG_t 323 (by decide +kernel) (by decide +kernel), ⟨by decide, by decide, by decide +kernel⟩⟩
theorem mw_X0_sort : MwV yX0_sort cX0_sort 3 none 0 := ⟨wG_t 293 (by decide +kernel) (by decide +kernel), wG_in (List.mem_append_left _ (List.mem_of_getElem? (i := 1) (by decide +kernel))) (by decide +kernel), wG_t 3 (by decide +kernel) (by decide +kernel), wG_t 294 (by decide +kernel) (by decide +kernel), ⟨by decide, by decide, by decide +kernel⟩⟩
theorem mw_X0_weightOf : MwV yX0_weightOf cX0_weightOf 2 (some .long) 1 := ⟨wG_t 345 (by decide +kernel) (by decide +kernel), wG_t 346 (by decide +kernel) (by decide +kernel), wG_t 3 (by decide +kernel) (by decide +kernel), wG_t 347 (by decide +kernel) (by decide +kernel), ⟨by decide, by decide, by decide +kernel⟩⟩
theorem mw_X1_add : MwV yX1_add cX1_add 9 none 2 := ⟨wG_t 932 (by decide +kernel) (by decide +kernel), wG_t 933 (by decide +kernel) (by decide +kernel), wG_t 7 (by decide +kernel) (by decide +kernel), wG_t 934 (by decide +kernel) (by decide +kernel), ⟨by decide, by decide, by decide +kernel⟩⟩
theorem mw_X1_divisor : MwS yX1_divisor cX1_divisor 11 (some .long) 2 := ⟨wG_t 331 (by decide +kernel) (by decide +kernel), wG_t 7 (by decide +kernel) (by decide +kernel), wG_t 332 (by decide +kernel) (by decide +kernel), ⟨by decide, by decide, by decide +kernel⟩⟩
theorem mw_X1_part : MwV yX1_part cX1_part 2 (some .long) 1 := ⟨wG_t 829 (by decide +kernel) (by decide +kernel), wG_t 830 (by decide +kernel) (by decide +kernel), wG_t 7 (by decide +kernel) (by decide +kernel), wG_t 831 (by decide +kernel) (by decide +kernel), ⟨by decide, by decide, by decide +kernel⟩⟩
theorem mw_X1_put : MwV yX1_put cX1_put 9 none 2 := ⟨wG_t 824 (by decide +kernel) (by decide +kernel), wG_t 825 (by decide +kernel) (by decide +kernel), wG_t 7 (by decide +kernel) (by decide +kernel), wG_t 826 (by decide +kernel) (by decide +kernel), ⟨by decide, by decide, by decide +kernel⟩⟩
theorem mw_X2_clear : MwV yX2_clear cX2_clear 1 none 0 := ⟨wG_t 539 (by decide +kernel) (by decide +kernel), wG_t 540 (by decide +kernel) (by decide +kernel), wG_t 5 (by decide +kernel) (by decide +kernel), wG_t 541 (by decide +kernel) (by decide +kernel), ⟨by decide, by decide, by decide +kernel⟩⟩
theorem mw_X2_remember : MwV yX2_remember cX2_remember 3 none 1 := ⟨wG_t 280 (by decide +kernel) (by decide +kernel), wG_t 281 (by decide +kernel) (by decide +kernel), wG_t 5 (by decide +kernel) (by decide +kernel), wG_t 282 (by decide +kernel) (by decide +kernel), ⟨by decide, by decide, by decide +kernel⟩⟩
theorem mw_X3_append : MwV yX3_append cX3_append 4 none 3 := ⟨wG_t 510 (by decide +kernel) (by decide +kernel), wG_t 511 (by decide +kernel) (by decide +kernel), wG_t 4 (by decide +kernel) (by decide +kernel), wG_t 512 (by decide +kernel) (by decide +kernel), ⟨by decide, by decide, by decide +kernel⟩⟩
theorem mw_X3_clear : MwV yX3_clear cX3_clear 1 none 0 := ⟨wG_t 456 (by decide +kernel) (by decide +kernel), wG_t 457 (by decide +kernel) (by decide +kernel), wG_t 4 (by decide +kernel) (by decide +kernel), wG_t 458 (by decide +kernel) (by decide +kernel), ⟨by decide, by decide, by decide +kernel⟩⟩
theorem mw_X3_copyFrom : MwV yX3_copyFrom cX3_copyFrom 3 none 1 := ⟨wG_t 284 (by decide +kernel) (by decide +kernel), wG_t 285 (by decide +kernel) (by decide +kernel), wG_t 4 (by decide +kernel) (by decide +kernel), wG_t 286 (by decide +kernel) (by decide +kernel), ⟨by decide, by decide, by decide +kernel⟩⟩
theorem mw_X3_find : MwV yX3_find cX3_find 3 (some .int) 1 := ⟨wG_t 505 (by decide +kernel) (by decide +kernel), wG_t 506 (by decide +kernel) (by decide +kernel), wG_t 4 (by decide +kernel) (by decide +kernel), wG_t 507 (by decide +kernel) (by decide +kernel), ⟨by decide, by decide, by decide +kernel⟩⟩
theorem mw_X3_has : MwV yX3_has cX3_has 2 (some .boolean) 1 := ⟨wG_t 906 (by decide +kernel) (by decide +kernel), wG_t 907 (by decide +kernel) (by decide +kernel), wG_t 4 (by decide +kernel) (by decide +kernel), wG_t 908 (by decide +kernel) (by decide +kernel), ⟨by decide, by decide, by decide +kernel⟩⟩
theorem mw_X3_isFull : MwV yX3_isFull cX3_isFull 1 (some .boolean) 0 := ⟨wG_t 489 (by decide +kernel) (by decide +kernel), wG_t 490 (by decide +kernel) (by decide +kernel), wG_t 4 (by decide +kernel) (by decide +kernel), wG_t 491 (by decide +kernel) (by decide +kernel), ⟨by decide, by decide, by decide +kernel⟩⟩
theorem mw_X3_placeOf : MwV yX3_placeOf cX3_placeOf 4 (some .int) 1 := ⟨wG_t 300 (by decide +kernel) (by decide +kernel), wG_t 301 (by decide +kernel) (by decide +kernel), wG_t 4 (by decide +kernel) (by decide +kernel), wG_t 302 (by decide +kernel) (by decide +kernel), ⟨by decide, by decide, by decide +kernel⟩⟩
theorem mw_X3_putDivided : MwV yX3_putDivided cX3_putDivided 8 none 3 := ⟨wG_t 926 (by decide +kernel) (by decide +kernel), wG_t 927 (by decide +kernel) (by decide +kernel), wG_t 4 (by decide +kernel) (by decide +kernel), wG_t 928 (by decide +kernel) (by decide +kernel), ⟨by decide, by decide, by decide +kernel⟩⟩
theorem mw_X3_putW : MwV yX3_putW cX3_putW 3 none 2 := ⟨wG_t 523 (by decide +kernel) (by decide +kernel), wG_t 524 (by decide +kernel) (by decide +kernel), wG_t 4 (by decide +kernel) (by decide +kernel), wG_t 525 (by decide +kernel) (by decide +kernel), ⟨by decide, by decide, by decide +kernel⟩⟩
theorem mw_X3_putX : MwV yX3_putX cX3_putX 3 none 2 := ⟨wG_t 515 (by decide +kernel) (by decide +kernel), wG_t 516 (by decide +kernel) (by decide +kernel), wG_t 4 (by decide +kernel) (by decide +kernel), wG_t 517 (by decide +kernel) (by decide +kernel), ⟨by decide, by decide, by decide +kernel⟩⟩
theorem mw_X3_putY : MwV yX3_putY cX3_putY 3 none 2 := ⟨wG_t 519 (by decide +kernel) (by decide +kernel), wG_t 520 (by decide +kernel) (by decide +kernel), wG_t 4 (by decide +kernel) (by decide +kernel), wG_t 521 (by decide +kernel) (by decide +kernel), ⟨by decide, by decide, by decide +kernel⟩⟩
theorem mw_X3_size : MwV yX3_size cX3_size 1 (some .int) 0 := ⟨wG_t 296 (by decide +kernel) (by decide +kernel), wG_t 297 (by decide +kernel) (by decide +kernel), wG_t 4 (by decide +kernel) (by decide +kernel), wG_t 298 (by decide +kernel) (by decide +kernel), ⟨by decide, by decide, by decide +kernel⟩⟩
theorem mw_X3_wOf : MwV yX3_wOf cX3_wOf 2 (some .int) 1 := ⟨wG_t 317 (by decide +kernel) (by decide +kernel), wG_t 318 (by decide +kernel) (by decide +kernel), wG_t 4 (by decide +kernel) (by decide +kernel), wG_t 319 (by decide +kernel) (by decide +kernel), ⟨by decide, by decide, by decide +kernel⟩⟩
theorem mw_X3_xOf : MwV yX3_xOf cX3_xOf 2 (some .int) 1 := ⟨wG_t 304 (by decide +kernel) (by decide +kernel), wG_t 305 (by decide +kernel) (by decide +kernel), wG_t 4 (by decide +kernel) (by decide +kernel), wG_t 306 (by decide +kernel) (by decide +kernel), ⟨by decide, by decide, by decide +kernel⟩⟩
theorem mw_X3_yOf : MwV yX3_yOf cX3_yOf 2 (some .int) 1 := ⟨wG_t 349 (by decide +kernel) (by decide +kernel), wG_t 350 (by decide +kernel) (by decide +kernel), wG_t 4 (by decide +kernel) (by decide +kernel), wG_t 351 (by decide +kernel) (by decide +kernel), ⟨by decide, by decide, by decide +kernel⟩⟩
theorem mw_X5_append : MwV yX5_append cX5_append 3 none 1 := ⟨wG_t 440 (by decide +kernel) (by decide +kernel), wG_t 441 (by decide +kernel) (by decide +kernel), wG_t 2 (by decide +kernel) (by decide +kernel), wG_t 442 (by decide +kernel) (by decide +kernel), ⟨by decide, by decide, by decide +kernel⟩⟩
theorem mw_X5_byteAt : MwV yX5_byteAt cX5_byteAt 2 (some .int) 1 := ⟨wG_t 465 (by decide +kernel) (by decide +kernel), wG_in (List.mem_append_left _ (List.mem_of_getElem? (i := 8) (by decide +kernel))) (by decide +kernel), wG_t 2 (by decide +kernel) (by decide +kernel), wG_t 466 (by decide +kernel) (by decide +kernel), ⟨by decide, by decide, by decide +kernel⟩⟩
theorem mw_X5_clear : MwV yX5_clear cX5_clear 1 none 0 := ⟨wG_t 534 (by decide +kernel) (by decide +kernel), wG_t 535 (by decide +kernel) (by decide +kernel), wG_t 2 (by decide +kernel) (by decide +kernel), wG_t 536 (by decide +kernel) (by decide +kernel), ⟨by decide, by decide, by decide +kernel⟩⟩
theorem mw_X5_fail : MwV yX5_fail cX5_fail 2 (some .boolean) 1 := ⟨wG_t 494 (by decide +kernel) (by decide +kernel), wG_in (List.mem_append_left _ (List.mem_of_getElem? (i := 12) (by decide +kernel))) (by decide +kernel), wG_t 2 (by decide +kernel) (by decide +kernel), wG_t 495 (by decide +kernel) (by decide +kernel), ⟨by decide, by decide, by decide +kernel⟩⟩
theorem mw_X5_faultKind : MwV yX5_faultKind cX5_faultKind 1 (some .int) 0 := ⟨wG_t 197 (by decide +kernel) (by decide +kernel), wG_t 198 (by decide +kernel) (by decide +kernel), wG_t 2 (by decide +kernel) (by decide +kernel), wG_t 199 (by decide +kernel) (by decide +kernel), ⟨by decide, by decide, by decide +kernel⟩⟩
theorem mw_X5_filled : MwV yX5_filled cX5_filled 1 (some .int) 0 := ⟨wG_t 444 (by decide +kernel) (by decide +kernel), wG_t 445 (by decide +kernel) (by decide +kernel), wG_t 2 (by decide +kernel) (by decide +kernel), wG_t 446 (by decide +kernel) (by decide +kernel), ⟨by decide, by decide, by decide +kernel⟩⟩
theorem mw_X5_hasRoomFor : MwV yX5_hasRoomFor cX5_hasRoomFor 2 (some .boolean) 1 := ⟨wG_t 436 (by decide +kernel) (by decide +kernel), wG_t 437 (by decide +kernel) (by decide +kernel), wG_t 2 (by decide +kernel) (by decide +kernel), wG_t 438 (by decide +kernel) (by decide +kernel), ⟨by decide, by decide, by decide +kernel⟩⟩
theorem mw_X5_isDigit : MwS yX5_isDigit cX5_isDigit 1 (some .boolean) 1 := ⟨wG_t 471 (by decide +kernel) (by decide +kernel), wG_t 2 (by decide +kernel) (by decide +kernel), wG_t 472 (by decide +kernel) (by decide +kernel), ⟨by decide, by decide, by decide +kernel⟩⟩
theorem mw_X5_isLetter : MwS yX5_isLetter cX5_isLetter 1 (some .boolean) 1 := ⟨wG_t 468 (by decide +kernel) (by decide +kernel), wG_t 2 (by decide +kernel) (by decide +kernel), wG_t 469 (by decide +kernel) (by decide +kernel), ⟨by decide, by decide, by decide +kernel⟩⟩
theorem mw_X5_isWord : MwV yX5_isWord cX5_isWord 3 (some .boolean) 1 := ⟨wG_t 480 (by decide +kernel) (by decide +kernel), wG_in (List.mem_append_left _ (List.mem_of_getElem? (i := 10) (by decide +kernel))) (by decide +kernel), wG_t 2 (by decide +kernel) (by decide +kernel), wG_t 481 (by decide +kernel) (by decide +kernel), ⟨by decide, by decide, by decide +kernel⟩⟩
theorem mw_X5_read : MwV yX5_read cX5_read 5 (some .boolean) 2 := ⟨wG_t 452 (by decide +kernel) (by decide +kernel), wG_t 453 (by decide +kernel) (by decide +kernel), wG_t 2 (by decide +kernel) (by decide +kernel), wG_t 454 (by decide +kernel) (by decide +kernel), ⟨by decide, by decide, by decide +kernel⟩⟩
theorem mw_X5_readDigits : MwV yX5_readDigits cX5_readDigits 4 (some .int) 1 := ⟨wG_t 502 (by decide +kernel) (by decide +kernel), wG_in (List.mem_append_left _ (List.mem_of_getElem? (i := 14) (by decide +kernel))) (by decide +kernel), wG_t 2 (by decide +kernel) (by decide +kernel), wG_t 503 (by decide +kernel) (by decide +kernel), ⟨by decide, by decide, by decide +kernel⟩⟩
theorem mw_X5_readPoint : MwV yX5_readPoint cX5_readPoint 5 (some .boolean) 1 := ⟨wG_t 486 (by decide +kernel) (by decide +kernel), wG_in (List.mem_append_left _ (List.mem_of_getElem? (i := 11) (by decide +kernel))) (by decide +kernel), wG_t 2 (by decide +kernel) (by decide +kernel), wG_t 487 (by decide +kernel) (by decide +kernel), ⟨by decide, by decide, by decide +kernel⟩⟩
theorem mw_X5_readSemicolon : MwV yX5_readSemicolon cX5_readSemicolon 1 (some .boolean) 0 := ⟨wG_t 531 (by decide +kernel) (by decide +kernel), wG_in (List.mem_append_left _ (List.mem_of_getElem? (i := 15) (by decide +kernel))) (by decide +kernel), wG_t 2 (by decide +kernel) (by decide +kernel), wG_t 532 (by decide +kernel) (by decide +kernel), ⟨by decide, by decide, by decide +kernel⟩⟩
theorem mw_X5_readSigned : MwV yX5_readSigned cX5_readSigned 2 (some .int) 1 := ⟨wG_t 498 (by decide +kernel) (by decide +kernel), wG_in (List.mem_append_left _ (List.mem_of_getElem? (i := 13) (by decide +kernel))) (by decide +kernel), wG_t 2 (by decide +kernel) (by decide +kernel), wG_t 499 (by decide +kernel) (by decide +kernel), ⟨by decide, by decide, by decide +kernel⟩⟩
theorem mw_X5_readStatement : MwV yX5_readStatement cX5_readStatement 2 (some .boolean) 1 := ⟨wG_t 475 (by decide +kernel) (by decide +kernel), wG_in (List.mem_append_left _ (List.mem_of_getElem? (i := 9) (by decide +kernel))) (by decide +kernel), wG_t 2 (by decide +kernel) (by decide +kernel), wG_t 476 (by decide +kernel) (by decide +kernel), ⟨by decide, by decide, by decide +kernel⟩⟩
theorem mw_X5_step : MwV yX5_step cX5_step 5 none 0 := ⟨wG_t 461 (by decide +kernel) (by decide +kernel), wG_in (List.mem_append_left _ (List.mem_of_getElem? (i := 7) (by decide +kernel))) (by decide +kernel), wG_t 2 (by decide +kernel) (by decide +kernel), wG_t 462 (by decide +kernel) (by decide +kernel), ⟨by decide, by decide, by decide +kernel⟩⟩
theorem mw_X6_coefficient : MwV yX6_coefficient cX6_coefficient 3 (some .long) 2 := ⟨wG_t 963 (by decide +kernel) (by decide +kernel), wG_t 964 (by decide +kernel) (by decide +kernel), wG_t 1 (by decide +kernel) (by decide +kernel), wG_t 965 (by decide +kernel) (by decide +kernel), ⟨by decide, by decide, by decide +kernel⟩⟩
theorem mw_X6_degreeOf : MwV yX6_degreeOf cX6_degreeOf 3 (some .int) 1 := ⟨wG_t 847 (by decide +kernel) (by decide +kernel), wG_t 848 (by decide +kernel) (by decide +kernel), wG_t 1 (by decide +kernel) (by decide +kernel), wG_t 849 (by decide +kernel) (by decide +kernel), ⟨by decide, by decide, by decide +kernel⟩⟩
theorem mw_X6_divided : MwV yX6_divided cX6_divided 4 (some .long) 3 := ⟨wG_t 898 (by decide +kernel) (by decide +kernel), wG_t 899 (by decide +kernel) (by decide +kernel), wG_t 1 (by decide +kernel) (by decide +kernel), wG_t 900 (by decide +kernel) (by decide +kernel), ⟨by decide, by decide, by decide +kernel⟩⟩
theorem mw_X6_hiddenPoles : MwV yX6_hiddenPoles cX6_hiddenPoles 3 (some .int) 0 := ⟨wG_t 839 (by decide +kernel) (by decide +kernel), wG_t 840 (by decide +kernel) (by decide +kernel), wG_t 1 (by decide +kernel) (by decide +kernel), wG_t 841 (by decide +kernel) (by decide +kernel), ⟨by decide, by decide, by decide +kernel⟩⟩
theorem mw_X6_isAlternating : MwV yX6_isAlternating cX6_isAlternating 1 (some .boolean) 0 := ⟨wG_t 852 (by decide +kernel) (by decide +kernel), wG_t 853 (by decide +kernel) (by decide +kernel), wG_t 1 (by decide +kernel) (by decide +kernel), wG_t 854 (by decide +kernel) (by decide +kernel), ⟨by decide, by decide, by decide +kernel⟩⟩
theorem mw_X6_kindAt : MwV yX6_kindAt cX6_kindAt 2 (some .int) 1 := ⟨wG_t 967 (by decide +kernel) (by decide +kernel), wG_t 968 (by decide +kernel) (by decide +kernel), wG_t 1 (by decide +kernel) (by decide +kernel), wG_t 969 (by decide +kernel) (by decide +kernel), ⟨by decide, by decide, by decide +kernel⟩⟩
theorem mw_X6_many : MwV yX6_many cX6_many 4 (some .int) 1 := ⟨wG_t 834 (by decide +kernel) (by decide +kernel), wG_t 835 (by decide +kernel) (by decide +kernel), wG_t 1 (by decide +kernel) (by decide +kernel), wG_t 836 (by decide +kernel) (by decide +kernel), ⟨by decide, by decide, by decide +kernel⟩⟩
theorem mw_X6_meets : MwV yX6_meets cX6_meets 2 (some .boolean) 1 := ⟨wG_t 800 (by decide +kernel) (by decide +kernel), wG_in (List.mem_append_left _ (List.mem_of_getElem? (i := 21) (by decide +kernel))) (by decide +kernel), wG_t 1 (by decide +kernel) (by decide +kernel), wG_t 801 (by decide +kernel) (by decide +kernel), ⟨by decide, by decide, by decide +kernel⟩⟩
theorem mw_X6_missed : MwV yX6_missed cX6_missed 3 (some .int) 0 := ⟨wG_t 795 (by decide +kernel) (by decide +kernel), wG_t 796 (by decide +kernel) (by decide +kernel), wG_t 1 (by decide +kernel) (by decide +kernel), wG_t 797 (by decide +kernel) (by decide +kernel), ⟨by decide, by decide, by decide +kernel⟩⟩
theorem mw_X6_needBetween : MwS yX6_needBetween cX6_needBetween 3 none 3 := ⟨wG_t 209 (by decide +kernel) (by decide +kernel), wG_t 1 (by decide +kernel) (by decide +kernel), wG_t 210 (by decide +kernel) (by decide +kernel), ⟨by decide, by decide, by decide +kernel⟩⟩
theorem mw_X6_needPart : MwS yX6_needPart cX6_needPart 1 none 1 := ⟨wG_t 867 (by decide +kernel) (by decide +kernel), wG_t 1 (by decide +kernel) (by decide +kernel), wG_t 868 (by decide +kernel) (by decide +kernel), ⟨by decide, by decide, by decide +kernel⟩⟩
theorem mw_X6_needPoint : MwV yX6_needPoint cX6_needPoint 2 none 1 := ⟨wG_t 903 (by decide +kernel) (by decide +kernel), wG_in (List.mem_append_left _ (List.mem_of_getElem? (i := 26) (by decide +kernel))) (by decide +kernel), wG_t 1 (by decide +kernel) (by decide +kernel), wG_t 904 (by decide +kernel) (by decide +kernel), ⟨by decide, by decide, by decide +kernel⟩⟩
theorem mw_X6_needValue : MwV yX6_needValue cX6_needValue 3 none 2 := ⟨wG_t 871 (by decide +kernel) (by decide +kernel), wG_in (List.mem_append_left _ (List.mem_of_getElem? (i := 24) (by decide +kernel))) (by decide +kernel), wG_t 1 (by decide +kernel) (by decide +kernel), wG_t 872 (by decide +kernel) (by decide +kernel), ⟨by decide, by decide, by decide +kernel⟩⟩
theorem mw_X6_needWithin : MwS yX6_needWithin cX6_needWithin 2 none 2 := ⟨wG_t 864 (by decide +kernel) (by decide +kernel), wG_t 1 (by decide +kernel) (by decide +kernel), wG_t 865 (by decide +kernel) (by decide +kernel), ⟨by decide, by decide, by decide +kernel⟩⟩
theorem mw_X6_plainValue : MwV yX6_plainValue cX6_plainValue 3 (some .long) 2 := ⟨wG_t 890 (by decide +kernel) (by decide +kernel), wG_t 891 (by decide +kernel) (by decide +kernel), wG_t 1 (by decide +kernel) (by decide +kernel), wG_t 892 (by decide +kernel) (by decide +kernel), ⟨by decide, by decide, by decide +kernel⟩⟩
theorem mw_X6_point : MwV yX6_point cX6_point 3 (some .int) 2 := ⟨wG_t 949 (by decide +kernel) (by decide +kernel), wG_t 950 (by decide +kernel) (by decide +kernel), wG_t 1 (by decide +kernel) (by decide +kernel), wG_t 951 (by decide +kernel) (by decide +kernel), ⟨by decide, by decide, by decide +kernel⟩⟩
theorem mw_X6_value : MwV yX6_value cX6_value 3 (some .long) 2 := ⟨wG_t 860 (by decide +kernel) (by decide +kernel), wG_t 861 (by decide +kernel) (by decide +kernel), wG_t 1 (by decide +kernel) (by decide +kernel), wG_t 862 (by decide +kernel) (by decide +kernel), ⟨by decide, by decide, by decide +kernel⟩⟩
theorem mw_X6_weight : MwV yX6_weight cX6_weight 2 (some .long) 1 := ⟨wG_t 944 (by decide +kernel) (by decide +kernel), wG_t 945 (by decide +kernel) (by decide +kernel), wG_t 1 (by decide +kernel) (by decide +kernel), wG_t 946 (by decide +kernel) (by decide +kernel), ⟨by decide, by decide, by decide +kernel⟩⟩
theorem mw_X6_weightSum : MwV yX6_weightSum cX6_weightSum 4 (some .long) 0 := ⟨wG_t 955 (by decide +kernel) (by decide +kernel), wG_t 956 (by decide +kernel) (by decide +kernel), wG_t 1 (by decide +kernel) (by decide +kernel), wG_t 957 (by decide +kernel) (by decide +kernel), ⟨by decide, by decide, by decide +kernel⟩⟩
