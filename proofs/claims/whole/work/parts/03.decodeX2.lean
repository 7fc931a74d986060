theorem dX2_init_0 : decode cX2_init 0 = .ok (.aload_n 0, 1) := by decide +kernel
theorem dX2_init_1 : decode cX2_init 1 = .ok (.invokespecial 3, 3) := by decide +kernel
theorem dX2_init_4 : decode cX2_init 4 = .ok (.aload_n 0, 1) := by decide +kernel
theorem dX2_init_5 : decode cX2_init 5 = .ok (.iload_n 1, 1) := by decide +kernel
theorem dX2_init_6 : decode cX2_init 6 = .ok (.iconst 1, 1) := by decide +kernel
theorem dX2_init_7 : decode cX2_init 7 = .ok (.iadd, 1) := by decide +kernel
theorem dX2_init_8 : decode cX2_init 8 = .ok (.anewarray 9, 3) := by decide +kernel
theorem dX2_init_11 : decode cX2_init 11 = .ok (.putfield 11, 3) := by decide +kernel
theorem dX2_init_14 : decode cX2_init 14 = .ok (.iconst 0, 1) := by decide +kernel
theorem dX2_init_15 : decode cX2_init 15 = .ok (.istore_n 3, 1) := by decide +kernel
theorem dX2_init_16 : decode cX2_init 16 = .ok (.iload_n 3, 1) := by decide +kernel
theorem dX2_init_17 : decode cX2_init 17 = .ok (.iload_n 1, 1) := by decide +kernel
theorem dX2_init_18 : decode cX2_init 18 = .ok (.if_icmp .gt 23, 3) := by decide +kernel
theorem dX2_init_21 : decode cX2_init 21 = .ok (.aload_n 0, 1) := by decide +kernel
theorem dX2_init_22 : decode cX2_init 22 = .ok (.getfield 11, 3) := by decide +kernel
theorem dX2_init_25 : decode cX2_init 25 = .ok (.iload_n 3, 1) := by decide +kernel
theorem dX2_init_26 : decode cX2_init 26 = .ok (.new 9, 3) := by decide +kernel
theorem dX2_init_29 : decode cX2_init 29 = .ok (.dup, 1) := by decide +kernel
theorem dX2_init_30 : decode cX2_init 30 = .ok (.iload_n 2, 1) := by decide +kernel
theorem dX2_init_31 : decode cX2_init 31 = .ok (.invokespecial 17, 3) := by decide +kernel
theorem dX2_init_34 : decode cX2_init 34 = .ok (.aastore, 1) := by decide +kernel
theorem dX2_init_35 : decode cX2_init 35 = .ok (.iinc 3 1, 3) := by decide +kernel
theorem dX2_init_38 : decode cX2_init 38 = .ok (.goto (-22), 3) := by decide +kernel
theorem dX2_init_41 : decode cX2_init 41 = .ok (.aload_n 0, 1) := by decide +kernel
theorem dX2_init_42 : decode cX2_init 42 = .ok (.iconst (-1), 1) := by decide +kernel
theorem dX2_init_43 : decode cX2_init 43 = .ok (.putfield 20, 3) := by decide +kernel
theorem dX2_init_46 : decode cX2_init 46 = .ok (.return_, 1) := by decide +kernel
theorem dX2_clear_0 : decode cX2_clear 0 = .ok (.iconst 0, 1) := by decide +kernel
theorem dX2_clear_1 : decode cX2_clear 1 = .ok (.istore_n 1, 1) := by decide +kernel
theorem dX2_clear_2 : decode cX2_clear 2 = .ok (.iload_n 1, 1) := by decide +kernel
theorem dX2_clear_3 : decode cX2_clear 3 = .ok (.aload_n 0, 1) := by decide +kernel
theorem dX2_clear_4 : decode cX2_clear 4 = .ok (.getfield 11, 3) := by decide +kernel
theorem dX2_clear_7 : decode cX2_clear 7 = .ok (.arraylength, 1) := by decide +kernel
theorem dX2_clear_8 : decode cX2_clear 8 = .ok (.if_icmp .ge 18, 3) := by decide +kernel
theorem dX2_clear_11 : decode cX2_clear 11 = .ok (.aload_n 0, 1) := by decide +kernel
theorem dX2_clear_12 : decode cX2_clear 12 = .ok (.getfield 11, 3) := by decide +kernel
theorem dX2_clear_15 : decode cX2_clear 15 = .ok (.iload_n 1, 1) := by decide +kernel
theorem dX2_clear_16 : decode cX2_clear 16 = .ok (.aaload, 1) := by decide +kernel
theorem dX2_clear_17 : decode cX2_clear 17 = .ok (.invokevirtual 24, 3) := by decide +kernel
theorem dX2_clear_20 : decode cX2_clear 20 = .ok (.iinc 1 1, 3) := by decide +kernel
theorem dX2_clear_23 : decode cX2_clear 23 = .ok (.goto (-21), 3) := by decide +kernel
theorem dX2_clear_26 : decode cX2_clear 26 = .ok (.aload_n 0, 1) := by decide +kernel
theorem dX2_clear_27 : decode cX2_clear 27 = .ok (.iconst (-1), 1) := by decide +kernel
theorem dX2_clear_28 : decode cX2_clear 28 = .ok (.putfield 20, 3) := by decide +kernel
theorem dX2_clear_31 : decode cX2_clear 31 = .ok (.return_, 1) := by decide +kernel
theorem dX2_setOne_0 : decode cX2_setOne 0 = .ok (.aload_n 0, 1) := by decide +kernel
theorem dX2_setOne_1 : decode cX2_setOne 1 = .ok (.invokevirtual 27, 3) := by decide +kernel
theorem dX2_setOne_4 : decode cX2_setOne 4 = .ok (.aload_n 0, 1) := by decide +kernel
theorem dX2_setOne_5 : decode cX2_setOne 5 = .ok (.getfield 11, 3) := by decide +kernel
theorem dX2_setOne_8 : decode cX2_setOne 8 = .ok (.iconst 0, 1) := by decide +kernel
theorem dX2_setOne_9 : decode cX2_setOne 9 = .ok (.aaload, 1) := by decide +kernel
theorem dX2_setOne_10 : decode cX2_setOne 10 = .ok (.invokevirtual 28, 3) := by decide +kernel
theorem dX2_setOne_13 : decode cX2_setOne 13 = .ok (.aload_n 0, 1) := by decide +kernel
theorem dX2_setOne_14 : decode cX2_setOne 14 = .ok (.iconst 0, 1) := by decide +kernel
theorem dX2_setOne_15 : decode cX2_setOne 15 = .ok (.putfield 20, 3) := by decide +kernel
theorem dX2_setOne_18 : decode cX2_setOne 18 = .ok (.return_, 1) := by decide +kernel
theorem dX2_load_0 : decode cX2_load 0 = .ok (.iconst 0, 1) := by decide +kernel
theorem dX2_load_1 : decode cX2_load 1 = .ok (.istore_n 2, 1) := by decide +kernel
theorem dX2_load_2 : decode cX2_load 2 = .ok (.iload_n 2, 1) := by decide +kernel
theorem dX2_load_3 : decode cX2_load 3 = .ok (.aload_n 0, 1) := by decide +kernel
theorem dX2_load_4 : decode cX2_load 4 = .ok (.getfield 11, 3) := by decide +kernel
theorem dX2_load_7 : decode cX2_load 7 = .ok (.arraylength, 1) := by decide +kernel
theorem dX2_load_8 : decode cX2_load 8 = .ok (.if_icmp .ge 44, 3) := by decide +kernel
theorem dX2_load_11 : decode cX2_load 11 = .ok (.iload_n 2, 1) := by decide +kernel
theorem dX2_load_12 : decode cX2_load 12 = .ok (.aload_n 1, 1) := by decide +kernel
theorem dX2_load_13 : decode cX2_load 13 = .ok (.getfield 20, 3) := by decide +kernel
theorem dX2_load_16 : decode cX2_load 16 = .ok (.if_icmp .gt 21, 3) := by decide +kernel
theorem dX2_load_19 : decode cX2_load 19 = .ok (.aload_n 0, 1) := by decide +kernel
theorem dX2_load_20 : decode cX2_load 20 = .ok (.getfield 11, 3) := by decide +kernel
theorem dX2_load_23 : decode cX2_load 23 = .ok (.iload_n 2, 1) := by decide +kernel
theorem dX2_load_24 : decode cX2_load 24 = .ok (.aaload, 1) := by decide +kernel
theorem dX2_load_25 : decode cX2_load 25 = .ok (.aload_n 1, 1) := by decide +kernel
theorem dX2_load_26 : decode cX2_load 26 = .ok (.getfield 11, 3) := by decide +kernel
theorem dX2_load_29 : decode cX2_load 29 = .ok (.iload_n 2, 1) := by decide +kernel
theorem dX2_load_30 : decode cX2_load 30 = .ok (.aaload, 1) := by decide +kernel
theorem dX2_load_31 : decode cX2_load 31 = .ok (.invokevirtual 31, 3) := by decide +kernel
theorem dX2_load_34 : decode cX2_load 34 = .ok (.goto 12, 3) := by decide +kernel
theorem dX2_load_37 : decode cX2_load 37 = .ok (.aload_n 0, 1) := by decide +kernel
theorem dX2_load_38 : decode cX2_load 38 = .ok (.getfield 11, 3) := by decide +kernel
theorem dX2_load_41 : decode cX2_load 41 = .ok (.iload_n 2, 1) := by decide +kernel
theorem dX2_load_42 : decode cX2_load 42 = .ok (.aaload, 1) := by decide +kernel
theorem dX2_load_43 : decode cX2_load 43 = .ok (.invokevirtual 24, 3) := by decide +kernel
theorem dX2_load_46 : decode cX2_load 46 = .ok (.iinc 2 1, 3) := by decide +kernel
theorem dX2_load_49 : decode cX2_load 49 = .ok (.goto (-47), 3) := by decide +kernel
theorem dX2_load_52 : decode cX2_load 52 = .ok (.aload_n 0, 1) := by decide +kernel
theorem dX2_load_53 : decode cX2_load 53 = .ok (.invokevirtual 35, 3) := by decide +kernel
theorem dX2_load_56 : decode cX2_load 56 = .ok (.return_, 1) := by decide +kernel
theorem dX2_slopeOf_0 : decode cX2_slopeOf 0 = .ok (.iconst 0, 1) := by decide +kernel
theorem dX2_slopeOf_1 : decode cX2_slopeOf 1 = .ok (.istore_n 2, 1) := by decide +kernel
theorem dX2_slopeOf_2 : decode cX2_slopeOf 2 = .ok (.iload_n 2, 1) := by decide +kernel
theorem dX2_slopeOf_3 : decode cX2_slopeOf 3 = .ok (.aload_n 0, 1) := by decide +kernel
theorem dX2_slopeOf_4 : decode cX2_slopeOf 4 = .ok (.getfield 11, 3) := by decide +kernel
theorem dX2_slopeOf_7 : decode cX2_slopeOf 7 = .ok (.arraylength, 1) := by decide +kernel
theorem dX2_slopeOf_8 : decode cX2_slopeOf 8 = .ok (.if_icmp .ge 59, 3) := by decide +kernel
theorem dX2_slopeOf_11 : decode cX2_slopeOf 11 = .ok (.iload_n 2, 1) := by decide +kernel
theorem dX2_slopeOf_12 : decode cX2_slopeOf 12 = .ok (.aload_n 1, 1) := by decide +kernel
theorem dX2_slopeOf_13 : decode cX2_slopeOf 13 = .ok (.getfield 20, 3) := by decide +kernel
theorem dX2_slopeOf_16 : decode cX2_slopeOf 16 = .ok (.if_icmp .ge 36, 3) := by decide +kernel
theorem dX2_slopeOf_19 : decode cX2_slopeOf 19 = .ok (.aload_n 0, 1) := by decide +kernel
theorem dX2_slopeOf_20 : decode cX2_slopeOf 20 = .ok (.getfield 11, 3) := by decide +kernel
theorem dX2_slopeOf_23 : decode cX2_slopeOf 23 = .ok (.iload_n 2, 1) := by decide +kernel
theorem dX2_slopeOf_24 : decode cX2_slopeOf 24 = .ok (.aaload, 1) := by decide +kernel
theorem dX2_slopeOf_25 : decode cX2_slopeOf 25 = .ok (.aload_n 1, 1) := by decide +kernel
theorem dX2_slopeOf_26 : decode cX2_slopeOf 26 = .ok (.getfield 11, 3) := by decide +kernel
theorem dX2_slopeOf_29 : decode cX2_slopeOf 29 = .ok (.iload_n 2, 1) := by decide +kernel
theorem dX2_slopeOf_30 : decode cX2_slopeOf 30 = .ok (.iconst 1, 1) := by decide +kernel
theorem dX2_slopeOf_31 : decode cX2_slopeOf 31 = .ok (.iadd, 1) := by decide +kernel
theorem dX2_slopeOf_32 : decode cX2_slopeOf 32 = .ok (.aaload, 1) := by decide +kernel
theorem dX2_slopeOf_33 : decode cX2_slopeOf 33 = .ok (.invokevirtual 31, 3) := by decide +kernel
theorem dX2_slopeOf_36 : decode cX2_slopeOf 36 = .ok (.aload_n 0, 1) := by decide +kernel
theorem dX2_slopeOf_37 : decode cX2_slopeOf 37 = .ok (.getfield 11, 3) := by decide +kernel
theorem dX2_slopeOf_40 : decode cX2_slopeOf 40 = .ok (.iload_n 2, 1) := by decide +kernel
theorem dX2_slopeOf_41 : decode cX2_slopeOf 41 = .ok (.aaload, 1) := by decide +kernel
theorem dX2_slopeOf_42 : decode cX2_slopeOf 42 = .ok (.iload_n 2, 1) := by decide +kernel
theorem dX2_slopeOf_43 : decode cX2_slopeOf 43 = .ok (.iconst 1, 1) := by decide +kernel
theorem dX2_slopeOf_44 : decode cX2_slopeOf 44 = .ok (.iadd, 1) := by decide +kernel
theorem dX2_slopeOf_45 : decode cX2_slopeOf 45 = .ok (.i2l, 1) := by decide +kernel
theorem dX2_slopeOf_46 : decode cX2_slopeOf 46 = .ok (.invokevirtual 38, 3) := by decide +kernel
theorem dX2_slopeOf_49 : decode cX2_slopeOf 49 = .ok (.goto 12, 3) := by decide +kernel
theorem dX2_slopeOf_52 : decode cX2_slopeOf 52 = .ok (.aload_n 0, 1) := by decide +kernel
theorem dX2_slopeOf_53 : decode cX2_slopeOf 53 = .ok (.getfield 11, 3) := by decide +kernel
theorem dX2_slopeOf_56 : decode cX2_slopeOf 56 = .ok (.iload_n 2, 1) := by decide +kernel
theorem dX2_slopeOf_57 : decode cX2_slopeOf 57 = .ok (.aaload, 1) := by decide +kernel
theorem dX2_slopeOf_58 : decode cX2_slopeOf 58 = .ok (.invokevirtual 24, 3) := by decide +kernel
theorem dX2_slopeOf_61 : decode cX2_slopeOf 61 = .ok (.iinc 2 1, 3) := by decide +kernel
theorem dX2_slopeOf_64 : decode cX2_slopeOf 64 = .ok (.goto (-62), 3) := by decide +kernel
theorem dX2_slopeOf_67 : decode cX2_slopeOf 67 = .ok (.aload_n 0, 1) := by decide +kernel
theorem dX2_slopeOf_68 : decode cX2_slopeOf 68 = .ok (.invokevirtual 35, 3) := by decide +kernel
theorem dX2_slopeOf_71 : decode cX2_slopeOf 71 = .ok (.return_, 1) := by decide +kernel
theorem dX2_negate_0 : decode cX2_negate 0 = .ok (.iconst 0, 1) := by decide +kernel
theorem dX2_negate_1 : decode cX2_negate 1 = .ok (.istore_n 1, 1) := by decide +kernel
theorem dX2_negate_2 : decode cX2_negate 2 = .ok (.iload_n 1, 1) := by decide +kernel
theorem dX2_negate_3 : decode cX2_negate 3 = .ok (.aload_n 0, 1) := by decide +kernel
theorem dX2_negate_4 : decode cX2_negate 4 = .ok (.getfield 20, 3) := by decide +kernel
theorem dX2_negate_7 : decode cX2_negate 7 = .ok (.if_icmp .gt 18, 3) := by decide +kernel
theorem dX2_negate_10 : decode cX2_negate 10 = .ok (.aload_n 0, 1) := by decide +kernel
theorem dX2_negate_11 : decode cX2_negate 11 = .ok (.getfield 11, 3) := by decide +kernel
theorem dX2_negate_14 : decode cX2_negate 14 = .ok (.iload_n 1, 1) := by decide +kernel
theorem dX2_negate_15 : decode cX2_negate 15 = .ok (.aaload, 1) := by decide +kernel
theorem dX2_negate_16 : decode cX2_negate 16 = .ok (.invokevirtual 42, 3) := by decide +kernel
theorem dX2_negate_19 : decode cX2_negate 19 = .ok (.iinc 1 1, 3) := by decide +kernel
theorem dX2_negate_22 : decode cX2_negate 22 = .ok (.goto (-20), 3) := by decide +kernel
theorem dX2_negate_25 : decode cX2_negate 25 = .ok (.return_, 1) := by decide +kernel
theorem dX2_measure_0 : decode cX2_measure 0 = .ok (.aload_n 0, 1) := by decide +kernel
theorem dX2_measure_1 : decode cX2_measure 1 = .ok (.getfield 11, 3) := by decide +kernel
theorem dX2_measure_4 : decode cX2_measure 4 = .ok (.arraylength, 1) := by decide +kernel
theorem dX2_measure_5 : decode cX2_measure 5 = .ok (.iconst 1, 1) := by decide +kernel
theorem dX2_measure_6 : decode cX2_measure 6 = .ok (.isub, 1) := by decide +kernel
theorem dX2_measure_7 : decode cX2_measure 7 = .ok (.istore_n 1, 1) := by decide +kernel
theorem dX2_measure_8 : decode cX2_measure 8 = .ok (.iload_n 1, 1) := by decide +kernel
theorem dX2_measure_9 : decode cX2_measure 9 = .ok (.ifCond .lt 21, 3) := by decide +kernel
theorem dX2_measure_12 : decode cX2_measure 12 = .ok (.aload_n 0, 1) := by decide +kernel
theorem dX2_measure_13 : decode cX2_measure 13 = .ok (.getfield 11, 3) := by decide +kernel
theorem dX2_measure_16 : decode cX2_measure 16 = .ok (.iload_n 1, 1) := by decide +kernel
theorem dX2_measure_17 : decode cX2_measure 17 = .ok (.aaload, 1) := by decide +kernel
theorem dX2_measure_18 : decode cX2_measure 18 = .ok (.getfield 45, 3) := by decide +kernel
theorem dX2_measure_21 : decode cX2_measure 21 = .ok (.ifCond .ne 9, 3) := by decide +kernel
theorem dX2_measure_24 : decode cX2_measure 24 = .ok (.iinc 1 (-1), 3) := by decide +kernel
theorem dX2_measure_27 : decode cX2_measure 27 = .ok (.goto (-19), 3) := by decide +kernel
theorem dX2_measure_30 : decode cX2_measure 30 = .ok (.aload_n 0, 1) := by decide +kernel
theorem dX2_measure_31 : decode cX2_measure 31 = .ok (.iload_n 1, 1) := by decide +kernel
theorem dX2_measure_32 : decode cX2_measure 32 = .ok (.putfield 20, 3) := by decide +kernel
theorem dX2_measure_35 : decode cX2_measure 35 = .ok (.return_, 1) := by decide +kernel
theorem dX2_leadSign_0 : decode cX2_leadSign 0 = .ok (.aload_n 0, 1) := by decide +kernel
theorem dX2_leadSign_1 : decode cX2_leadSign 1 = .ok (.getfield 20, 3) := by decide +kernel
theorem dX2_leadSign_4 : decode cX2_leadSign 4 = .ok (.ifCond .ge 7, 3) := by decide +kernel
theorem dX2_leadSign_7 : decode cX2_leadSign 7 = .ok (.iconst 0, 1) := by decide +kernel
theorem dX2_leadSign_8 : decode cX2_leadSign 8 = .ok (.goto 15, 3) := by decide +kernel
theorem dX2_leadSign_11 : decode cX2_leadSign 11 = .ok (.aload_n 0, 1) := by decide +kernel
theorem dX2_leadSign_12 : decode cX2_leadSign 12 = .ok (.getfield 11, 3) := by decide +kernel
theorem dX2_leadSign_15 : decode cX2_leadSign 15 = .ok (.aload_n 0, 1) := by decide +kernel
theorem dX2_leadSign_16 : decode cX2_leadSign 16 = .ok (.getfield 20, 3) := by decide +kernel
theorem dX2_leadSign_19 : decode cX2_leadSign 19 = .ok (.aaload, 1) := by decide +kernel
theorem dX2_leadSign_20 : decode cX2_leadSign 20 = .ok (.getfield 45, 3) := by decide +kernel
theorem dX2_leadSign_23 : decode cX2_leadSign 23 = .ok (.ireturn, 1) := by decide +kernel
theorem dX2_signBeyond_0 : decode cX2_signBeyond 0 = .ok (.lload_n 1, 1) := by decide +kernel
theorem dX2_signBeyond_1 : decode cX2_signBeyond 1 = .ok (.lconst 0, 1) := by decide +kernel
theorem dX2_signBeyond_2 : decode cX2_signBeyond 2 = .ok (.lcmp, 1) := by decide +kernel
theorem dX2_signBeyond_3 : decode cX2_signBeyond 3 = .ok (.ifCond .ge 20, 3) := by decide +kernel
theorem dX2_signBeyond_6 : decode cX2_signBeyond 6 = .ok (.aload_n 0, 1) := by decide +kernel
theorem dX2_signBeyond_7 : decode cX2_signBeyond 7 = .ok (.getfield 20, 3) := by decide +kernel
theorem dX2_signBeyond_10 : decode cX2_signBeyond 10 = .ok (.iconst 2, 1) := by decide +kernel
theorem dX2_signBeyond_11 : decode cX2_signBeyond 11 = .ok (.irem, 1) := by decide +kernel
theorem dX2_signBeyond_12 : decode cX2_signBeyond 12 = .ok (.ifCond .eq 11, 3) := by decide +kernel
theorem dX2_signBeyond_15 : decode cX2_signBeyond 15 = .ok (.aload_n 0, 1) := by decide +kernel
theorem dX2_signBeyond_16 : decode cX2_signBeyond 16 = .ok (.invokevirtual 48, 3) := by decide +kernel
theorem dX2_signBeyond_19 : decode cX2_signBeyond 19 = .ok (.ineg, 1) := by decide +kernel
theorem dX2_signBeyond_20 : decode cX2_signBeyond 20 = .ok (.goto 7, 3) := by decide +kernel
theorem dX2_signBeyond_23 : decode cX2_signBeyond 23 = .ok (.aload_n 0, 1) := by decide +kernel
theorem dX2_signBeyond_24 : decode cX2_signBeyond 24 = .ok (.invokevirtual 48, 3) := by decide +kernel
theorem dX2_signBeyond_27 : decode cX2_signBeyond 27 = .ok (.ireturn, 1) := by decide +kernel
theorem dX2_fits_0 : decode cX2_fits 0 = .ok (.iconst 0, 1) := by decide +kernel
theorem dX2_fits_1 : decode cX2_fits 1 = .ok (.istore_n 1, 1) := by decide +kernel
theorem dX2_fits_2 : decode cX2_fits 2 = .ok (.iload_n 1, 1) := by decide +kernel
theorem dX2_fits_3 : decode cX2_fits 3 = .ok (.aload_n 0, 1) := by decide +kernel
theorem dX2_fits_4 : decode cX2_fits 4 = .ok (.getfield 20, 3) := by decide +kernel
theorem dX2_fits_7 : decode cX2_fits 7 = .ok (.if_icmp .gt 31, 3) := by decide +kernel
theorem dX2_fits_10 : decode cX2_fits 10 = .ok (.iload_n 1, 1) := by decide +kernel
theorem dX2_fits_11 : decode cX2_fits 11 = .ok (.bipush 8, 2) := by decide +kernel
theorem dX2_fits_13 : decode cX2_fits 13 = .ok (.if_icmp .gt 17, 3) := by decide +kernel
theorem dX2_fits_16 : decode cX2_fits 16 = .ok (.aload_n 0, 1) := by decide +kernel
theorem dX2_fits_17 : decode cX2_fits 17 = .ok (.getfield 11, 3) := by decide +kernel
theorem dX2_fits_20 : decode cX2_fits 20 = .ok (.iload_n 1, 1) := by decide +kernel
theorem dX2_fits_21 : decode cX2_fits 21 = .ok (.aaload, 1) := by decide +kernel
theorem dX2_fits_22 : decode cX2_fits 22 = .ok (.getfield 52, 3) := by decide +kernel
theorem dX2_fits_25 : decode cX2_fits 25 = .ok (.bipush 6, 2) := by decide +kernel
theorem dX2_fits_27 : decode cX2_fits 27 = .ok (.if_icmp .le 5, 3) := by decide +kernel
theorem dX2_fits_30 : decode cX2_fits 30 = .ok (.iconst 0, 1) := by decide +kernel
theorem dX2_fits_31 : decode cX2_fits 31 = .ok (.ireturn, 1) := by decide +kernel
theorem dX2_fits_32 : decode cX2_fits 32 = .ok (.iinc 1 1, 3) := by decide +kernel
theorem dX2_fits_35 : decode cX2_fits 35 = .ok (.goto (-33), 3) := by decide +kernel
theorem dX2_fits_38 : decode cX2_fits 38 = .ok (.iconst 1, 1) := by decide +kernel
theorem dX2_fits_39 : decode cX2_fits 39 = .ok (.ireturn, 1) := by decide +kernel
theorem dX2_isLike_0 : decode cX2_isLike 0 = .ok (.aload_n 0, 1) := by decide +kernel
theorem dX2_isLike_1 : decode cX2_isLike 1 = .ok (.getfield 20, 3) := by decide +kernel
theorem dX2_isLike_4 : decode cX2_isLike 4 = .ok (.aload_n 1, 1) := by decide +kernel
theorem dX2_isLike_5 : decode cX2_isLike 5 = .ok (.getfield 20, 3) := by decide +kernel
theorem dX2_isLike_8 : decode cX2_isLike 8 = .ok (.if_icmp .eq 5, 3) := by decide +kernel
theorem dX2_isLike_11 : decode cX2_isLike 11 = .ok (.iconst 0, 1) := by decide +kernel
theorem dX2_isLike_12 : decode cX2_isLike 12 = .ok (.ireturn, 1) := by decide +kernel
theorem dX2_isLike_13 : decode cX2_isLike 13 = .ok (.iconst 0, 1) := by decide +kernel
theorem dX2_isLike_14 : decode cX2_isLike 14 = .ok (.istore_n 2, 1) := by decide +kernel
theorem dX2_isLike_15 : decode cX2_isLike 15 = .ok (.iload_n 2, 1) := by decide +kernel
theorem dX2_isLike_16 : decode cX2_isLike 16 = .ok (.aload_n 0, 1) := by decide +kernel
theorem dX2_isLike_17 : decode cX2_isLike 17 = .ok (.getfield 20, 3) := by decide +kernel
theorem dX2_isLike_20 : decode cX2_isLike 20 = .ok (.if_icmp .gt 29, 3) := by decide +kernel
theorem dX2_isLike_23 : decode cX2_isLike 23 = .ok (.aload_n 0, 1) := by decide +kernel
theorem dX2_isLike_24 : decode cX2_isLike 24 = .ok (.getfield 11, 3) := by decide +kernel
theorem dX2_isLike_27 : decode cX2_isLike 27 = .ok (.iload_n 2, 1) := by decide +kernel
theorem dX2_isLike_28 : decode cX2_isLike 28 = .ok (.aaload, 1) := by decide +kernel
theorem dX2_isLike_29 : decode cX2_isLike 29 = .ok (.aload_n 1, 1) := by decide +kernel
theorem dX2_isLike_30 : decode cX2_isLike 30 = .ok (.getfield 11, 3) := by decide +kernel
theorem dX2_isLike_33 : decode cX2_isLike 33 = .ok (.iload_n 2, 1) := by decide +kernel
theorem dX2_isLike_34 : decode cX2_isLike 34 = .ok (.aaload, 1) := by decide +kernel
theorem dX2_isLike_35 : decode cX2_isLike 35 = .ok (.invokevirtual 55, 3) := by decide +kernel
theorem dX2_isLike_38 : decode cX2_isLike 38 = .ok (.ifCond .ne 5, 3) := by decide +kernel
theorem dX2_isLike_41 : decode cX2_isLike 41 = .ok (.iconst 0, 1) := by decide +kernel
theorem dX2_isLike_42 : decode cX2_isLike 42 = .ok (.ireturn, 1) := by decide +kernel
theorem dX2_isLike_43 : decode cX2_isLike 43 = .ok (.iinc 2 1, 3) := by decide +kernel
theorem dX2_isLike_46 : decode cX2_isLike 46 = .ok (.goto (-31), 3) := by decide +kernel
theorem dX2_isLike_49 : decode cX2_isLike 49 = .ok (.iconst 1, 1) := by decide +kernel
theorem dX2_isLike_50 : decode cX2_isLike 50 = .ok (.ireturn, 1) := by decide +kernel
