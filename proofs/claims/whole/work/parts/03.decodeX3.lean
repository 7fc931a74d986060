theorem dX3_init_0 : decode cX3_init 0 = .ok (.aload_n 0, 1) := by decide +kernel
theorem dX3_init_1 : decode cX3_init 1 = .ok (.invokespecial 3, 3) := by decide +kernel
theorem dX3_init_4 : decode cX3_init 4 = .ok (.aload_n 0, 1) := by decide +kernel
theorem dX3_init_5 : decode cX3_init 5 = .ok (.iload_n 1, 1) := by decide +kernel
theorem dX3_init_6 : decode cX3_init 6 = .ok (.newarray .int, 2) := by decide +kernel
theorem dX3_init_8 : decode cX3_init 8 = .ok (.putfield 9, 3) := by decide +kernel
theorem dX3_init_11 : decode cX3_init 11 = .ok (.return_, 1) := by decide +kernel
theorem dX3_clear_0 : decode cX3_clear 0 = .ok (.aload_n 0, 1) := by decide +kernel
theorem dX3_clear_1 : decode cX3_clear 1 = .ok (.iconst 0, 1) := by decide +kernel
theorem dX3_clear_2 : decode cX3_clear 2 = .ok (.putfield 15, 3) := by decide +kernel
theorem dX3_clear_5 : decode cX3_clear 5 = .ok (.aload_n 0, 1) := by decide +kernel
theorem dX3_clear_6 : decode cX3_clear 6 = .ok (.iconst 0, 1) := by decide +kernel
theorem dX3_clear_7 : decode cX3_clear 7 = .ok (.putfield 19, 3) := by decide +kernel
theorem dX3_clear_10 : decode cX3_clear 10 = .ok (.return_, 1) := by decide +kernel
theorem dX3_setOne_0 : decode cX3_setOne 0 = .ok (.aload_n 0, 1) := by decide +kernel
theorem dX3_setOne_1 : decode cX3_setOne 1 = .ok (.invokevirtual 22, 3) := by decide +kernel
theorem dX3_setOne_4 : decode cX3_setOne 4 = .ok (.aload_n 0, 1) := by decide +kernel
theorem dX3_setOne_5 : decode cX3_setOne 5 = .ok (.iconst 0, 1) := by decide +kernel
theorem dX3_setOne_6 : decode cX3_setOne 6 = .ok (.iconst 1, 1) := by decide +kernel
theorem dX3_setOne_7 : decode cX3_setOne 7 = .ok (.iconst 1, 1) := by decide +kernel
theorem dX3_setOne_8 : decode cX3_setOne 8 = .ok (.invokevirtual 25, 3) := by decide +kernel
theorem dX3_setOne_11 : decode cX3_setOne 11 = .ok (.return_, 1) := by decide +kernel
theorem dX3_put_0 : decode cX3_put 0 = .ok (.iload_n 1, 1) := by decide +kernel
theorem dX3_put_1 : decode cX3_put 1 = .ok (.ifCond .lt 12, 3) := by decide +kernel
theorem dX3_put_4 : decode cX3_put 4 = .ok (.iload_n 1, 1) := by decide +kernel
theorem dX3_put_5 : decode cX3_put 5 = .ok (.aload_n 0, 1) := by decide +kernel
theorem dX3_put_6 : decode cX3_put 6 = .ok (.getfield 9, 3) := by decide +kernel
theorem dX3_put_9 : decode cX3_put 9 = .ok (.arraylength, 1) := by decide +kernel
theorem dX3_put_10 : decode cX3_put 10 = .ok (.if_icmp .lt 4, 3) := by decide +kernel
theorem dX3_put_13 : decode cX3_put 13 = .ok (.return_, 1) := by decide +kernel
theorem dX3_put_14 : decode cX3_put 14 = .ok (.aload_n 0, 1) := by decide +kernel
theorem dX3_put_15 : decode cX3_put 15 = .ok (.getfield 9, 3) := by decide +kernel
theorem dX3_put_18 : decode cX3_put 18 = .ok (.iload_n 1, 1) := by decide +kernel
theorem dX3_put_19 : decode cX3_put 19 = .ok (.iload_n 2, 1) := by decide +kernel
theorem dX3_put_20 : decode cX3_put 20 = .ok (.iastore, 1) := by decide +kernel
theorem dX3_put_21 : decode cX3_put 21 = .ok (.iload_n 2, 1) := by decide +kernel
theorem dX3_put_22 : decode cX3_put 22 = .ok (.ifCond .eq 15, 3) := by decide +kernel
theorem dX3_put_25 : decode cX3_put 25 = .ok (.aload_n 0, 1) := by decide +kernel
theorem dX3_put_26 : decode cX3_put 26 = .ok (.iload_n 1, 1) := by decide +kernel
theorem dX3_put_27 : decode cX3_put 27 = .ok (.iconst 1, 1) := by decide +kernel
theorem dX3_put_28 : decode cX3_put 28 = .ok (.iadd, 1) := by decide +kernel
theorem dX3_put_29 : decode cX3_put 29 = .ok (.putfield 15, 3) := by decide +kernel
theorem dX3_put_32 : decode cX3_put 32 = .ok (.aload_n 0, 1) := by decide +kernel
theorem dX3_put_33 : decode cX3_put 33 = .ok (.iload_n 3, 1) := by decide +kernel
theorem dX3_put_34 : decode cX3_put 34 = .ok (.putfield 19, 3) := by decide +kernel
theorem dX3_put_37 : decode cX3_put 37 = .ok (.return_, 1) := by decide +kernel
theorem dX3_load_0 : decode cX3_load 0 = .ok (.aload_n 0, 1) := by decide +kernel
theorem dX3_load_1 : decode cX3_load 1 = .ok (.aload_n 1, 1) := by decide +kernel
theorem dX3_load_2 : decode cX3_load 2 = .ok (.getfield 15, 3) := by decide +kernel
theorem dX3_load_5 : decode cX3_load 5 = .ok (.aload_n 0, 1) := by decide +kernel
theorem dX3_load_6 : decode cX3_load 6 = .ok (.getfield 9, 3) := by decide +kernel
theorem dX3_load_9 : decode cX3_load 9 = .ok (.arraylength, 1) := by decide +kernel
theorem dX3_load_10 : decode cX3_load 10 = .ok (.invokestatic 29, 3) := by decide +kernel
theorem dX3_load_13 : decode cX3_load 13 = .ok (.putfield 15, 3) := by decide +kernel
theorem dX3_load_16 : decode cX3_load 16 = .ok (.aload_n 0, 1) := by decide +kernel
theorem dX3_load_17 : decode cX3_load 17 = .ok (.aload_n 1, 1) := by decide +kernel
theorem dX3_load_18 : decode cX3_load 18 = .ok (.getfield 19, 3) := by decide +kernel
theorem dX3_load_21 : decode cX3_load 21 = .ok (.putfield 19, 3) := by decide +kernel
theorem dX3_load_24 : decode cX3_load 24 = .ok (.aload_n 1, 1) := by decide +kernel
theorem dX3_load_25 : decode cX3_load 25 = .ok (.getfield 9, 3) := by decide +kernel
theorem dX3_load_28 : decode cX3_load 28 = .ok (.iconst 0, 1) := by decide +kernel
theorem dX3_load_29 : decode cX3_load 29 = .ok (.aload_n 0, 1) := by decide +kernel
theorem dX3_load_30 : decode cX3_load 30 = .ok (.getfield 9, 3) := by decide +kernel
theorem dX3_load_33 : decode cX3_load 33 = .ok (.iconst 0, 1) := by decide +kernel
theorem dX3_load_34 : decode cX3_load 34 = .ok (.aload_n 0, 1) := by decide +kernel
theorem dX3_load_35 : decode cX3_load 35 = .ok (.getfield 15, 3) := by decide +kernel
theorem dX3_load_38 : decode cX3_load 38 = .ok (.invokestatic 35, 3) := by decide +kernel
theorem dX3_load_41 : decode cX3_load 41 = .ok (.aload_n 0, 1) := by decide +kernel
theorem dX3_load_42 : decode cX3_load 42 = .ok (.invokevirtual 41, 3) := by decide +kernel
theorem dX3_load_45 : decode cX3_load 45 = .ok (.return_, 1) := by decide +kernel
theorem dX3_negate_0 : decode cX3_negate 0 = .ok (.aload_n 0, 1) := by decide +kernel
theorem dX3_negate_1 : decode cX3_negate 1 = .ok (.aload_n 0, 1) := by decide +kernel
theorem dX3_negate_2 : decode cX3_negate 2 = .ok (.getfield 19, 3) := by decide +kernel
theorem dX3_negate_5 : decode cX3_negate 5 = .ok (.ineg, 1) := by decide +kernel
theorem dX3_negate_6 : decode cX3_negate 6 = .ok (.putfield 19, 3) := by decide +kernel
theorem dX3_negate_9 : decode cX3_negate 9 = .ok (.return_, 1) := by decide +kernel
theorem dX3_isUnit_0 : decode cX3_isUnit 0 = .ok (.aload_n 0, 1) := by decide +kernel
theorem dX3_isUnit_1 : decode cX3_isUnit 1 = .ok (.getfield 15, 3) := by decide +kernel
theorem dX3_isUnit_4 : decode cX3_isUnit 4 = .ok (.iconst 1, 1) := by decide +kernel
theorem dX3_isUnit_5 : decode cX3_isUnit 5 = .ok (.if_icmp .ne 17, 3) := by decide +kernel
theorem dX3_isUnit_8 : decode cX3_isUnit 8 = .ok (.aload_n 0, 1) := by decide +kernel
theorem dX3_isUnit_9 : decode cX3_isUnit 9 = .ok (.getfield 9, 3) := by decide +kernel
theorem dX3_isUnit_12 : decode cX3_isUnit 12 = .ok (.iconst 0, 1) := by decide +kernel
theorem dX3_isUnit_13 : decode cX3_isUnit 13 = .ok (.iaload, 1) := by decide +kernel
theorem dX3_isUnit_14 : decode cX3_isUnit 14 = .ok (.iconst 1, 1) := by decide +kernel
theorem dX3_isUnit_15 : decode cX3_isUnit 15 = .ok (.if_icmp .ne 7, 3) := by decide +kernel
theorem dX3_isUnit_18 : decode cX3_isUnit 18 = .ok (.iconst 1, 1) := by decide +kernel
theorem dX3_isUnit_19 : decode cX3_isUnit 19 = .ok (.goto 4, 3) := by decide +kernel
theorem dX3_isUnit_22 : decode cX3_isUnit 22 = .ok (.iconst 0, 1) := by decide +kernel
theorem dX3_isUnit_23 : decode cX3_isUnit 23 = .ok (.ireturn, 1) := by decide +kernel
theorem dX3_isLike_0 : decode cX3_isLike 0 = .ok (.aload_n 0, 1) := by decide +kernel
theorem dX3_isLike_1 : decode cX3_isLike 1 = .ok (.getfield 19, 3) := by decide +kernel
theorem dX3_isLike_4 : decode cX3_isLike 4 = .ok (.aload_n 1, 1) := by decide +kernel
theorem dX3_isLike_5 : decode cX3_isLike 5 = .ok (.getfield 19, 3) := by decide +kernel
theorem dX3_isLike_8 : decode cX3_isLike 8 = .ok (.if_icmp .ne 15, 3) := by decide +kernel
theorem dX3_isLike_11 : decode cX3_isLike 11 = .ok (.aload_n 0, 1) := by decide +kernel
theorem dX3_isLike_12 : decode cX3_isLike 12 = .ok (.aload_n 1, 1) := by decide +kernel
theorem dX3_isLike_13 : decode cX3_isLike 13 = .ok (.invokevirtual 44, 3) := by decide +kernel
theorem dX3_isLike_16 : decode cX3_isLike 16 = .ok (.ifCond .ne 7, 3) := by decide +kernel
theorem dX3_isLike_19 : decode cX3_isLike 19 = .ok (.iconst 1, 1) := by decide +kernel
theorem dX3_isLike_20 : decode cX3_isLike 20 = .ok (.goto 4, 3) := by decide +kernel
theorem dX3_isLike_23 : decode cX3_isLike 23 = .ok (.iconst 0, 1) := by decide +kernel
theorem dX3_isLike_24 : decode cX3_isLike 24 = .ok (.ireturn, 1) := by decide +kernel
theorem dX3_plus_0 : decode cX3_plus 0 = .ok (.iload_n 2, 1) := by decide +kernel
theorem dX3_plus_1 : decode cX3_plus 1 = .ok (.ifCond .ge 11, 3) := by decide +kernel
theorem dX3_plus_4 : decode cX3_plus 4 = .ok (.aload_n 1, 1) := by decide +kernel
theorem dX3_plus_5 : decode cX3_plus 5 = .ok (.getfield 19, 3) := by decide +kernel
theorem dX3_plus_8 : decode cX3_plus 8 = .ok (.ineg, 1) := by decide +kernel
theorem dX3_plus_9 : decode cX3_plus 9 = .ok (.goto 7, 3) := by decide +kernel
theorem dX3_plus_12 : decode cX3_plus 12 = .ok (.aload_n 1, 1) := by decide +kernel
theorem dX3_plus_13 : decode cX3_plus 13 = .ok (.getfield 19, 3) := by decide +kernel
theorem dX3_plus_16 : decode cX3_plus 16 = .ok (.istore_n 3, 1) := by decide +kernel
theorem dX3_plus_17 : decode cX3_plus 17 = .ok (.iload_n 3, 1) := by decide +kernel
theorem dX3_plus_18 : decode cX3_plus 18 = .ok (.ifCond .ne 4, 3) := by decide +kernel
theorem dX3_plus_21 : decode cX3_plus 21 = .ok (.return_, 1) := by decide +kernel
theorem dX3_plus_22 : decode cX3_plus 22 = .ok (.aload_n 0, 1) := by decide +kernel
theorem dX3_plus_23 : decode cX3_plus 23 = .ok (.getfield 19, 3) := by decide +kernel
theorem dX3_plus_26 : decode cX3_plus 26 = .ok (.ifCond .eq 11, 3) := by decide +kernel
theorem dX3_plus_29 : decode cX3_plus 29 = .ok (.aload_n 0, 1) := by decide +kernel
theorem dX3_plus_30 : decode cX3_plus 30 = .ok (.getfield 19, 3) := by decide +kernel
theorem dX3_plus_33 : decode cX3_plus 33 = .ok (.iload_n 3, 1) := by decide +kernel
theorem dX3_plus_34 : decode cX3_plus 34 = .ok (.if_icmp .ne 16, 3) := by decide +kernel
theorem dX3_plus_37 : decode cX3_plus 37 = .ok (.aload_n 0, 1) := by decide +kernel
theorem dX3_plus_38 : decode cX3_plus 38 = .ok (.iload_n 3, 1) := by decide +kernel
theorem dX3_plus_39 : decode cX3_plus 39 = .ok (.putfield 19, 3) := by decide +kernel
theorem dX3_plus_42 : decode cX3_plus 42 = .ok (.aload_n 0, 1) := by decide +kernel
theorem dX3_plus_43 : decode cX3_plus 43 = .ok (.aload_n 1, 1) := by decide +kernel
theorem dX3_plus_44 : decode cX3_plus 44 = .ok (.invokevirtual 48, 3) := by decide +kernel
theorem dX3_plus_47 : decode cX3_plus 47 = .ok (.goto 31, 3) := by decide +kernel
theorem dX3_plus_50 : decode cX3_plus 50 = .ok (.aload_n 0, 1) := by decide +kernel
theorem dX3_plus_51 : decode cX3_plus 51 = .ok (.aload_n 1, 1) := by decide +kernel
theorem dX3_plus_52 : decode cX3_plus 52 = .ok (.invokevirtual 44, 3) := by decide +kernel
theorem dX3_plus_55 : decode cX3_plus 55 = .ok (.ifCond .lt 12, 3) := by decide +kernel
theorem dX3_plus_58 : decode cX3_plus 58 = .ok (.aload_n 0, 1) := by decide +kernel
theorem dX3_plus_59 : decode cX3_plus 59 = .ok (.aload_n 0, 1) := by decide +kernel
theorem dX3_plus_60 : decode cX3_plus 60 = .ok (.aload_n 1, 1) := by decide +kernel
theorem dX3_plus_61 : decode cX3_plus 61 = .ok (.invokevirtual 52, 3) := by decide +kernel
theorem dX3_plus_64 : decode cX3_plus 64 = .ok (.goto 14, 3) := by decide +kernel
theorem dX3_plus_67 : decode cX3_plus 67 = .ok (.aload_n 0, 1) := by decide +kernel
theorem dX3_plus_68 : decode cX3_plus 68 = .ok (.iload_n 3, 1) := by decide +kernel
theorem dX3_plus_69 : decode cX3_plus 69 = .ok (.putfield 19, 3) := by decide +kernel
theorem dX3_plus_72 : decode cX3_plus 72 = .ok (.aload_n 0, 1) := by decide +kernel
theorem dX3_plus_73 : decode cX3_plus 73 = .ok (.aload_n 1, 1) := by decide +kernel
theorem dX3_plus_74 : decode cX3_plus 74 = .ok (.aload_n 0, 1) := by decide +kernel
theorem dX3_plus_75 : decode cX3_plus 75 = .ok (.invokevirtual 52, 3) := by decide +kernel
theorem dX3_plus_78 : decode cX3_plus 78 = .ok (.aload_n 0, 1) := by decide +kernel
theorem dX3_plus_79 : decode cX3_plus 79 = .ok (.invokevirtual 41, 3) := by decide +kernel
theorem dX3_plus_82 : decode cX3_plus 82 = .ok (.return_, 1) := by decide +kernel
theorem dX3_compareAbs_0 : decode cX3_compareAbs 0 = .ok (.aload_n 0, 1) := by decide +kernel
theorem dX3_compareAbs_1 : decode cX3_compareAbs 1 = .ok (.getfield 15, 3) := by decide +kernel
theorem dX3_compareAbs_4 : decode cX3_compareAbs 4 = .ok (.aload_n 1, 1) := by decide +kernel
theorem dX3_compareAbs_5 : decode cX3_compareAbs 5 = .ok (.getfield 15, 3) := by decide +kernel
theorem dX3_compareAbs_8 : decode cX3_compareAbs 8 = .ok (.if_icmp .eq 20, 3) := by decide +kernel
theorem dX3_compareAbs_11 : decode cX3_compareAbs 11 = .ok (.aload_n 0, 1) := by decide +kernel
theorem dX3_compareAbs_12 : decode cX3_compareAbs 12 = .ok (.getfield 15, 3) := by decide +kernel
theorem dX3_compareAbs_15 : decode cX3_compareAbs 15 = .ok (.aload_n 1, 1) := by decide +kernel
theorem dX3_compareAbs_16 : decode cX3_compareAbs 16 = .ok (.getfield 15, 3) := by decide +kernel
theorem dX3_compareAbs_19 : decode cX3_compareAbs 19 = .ok (.if_icmp .ge 7, 3) := by decide +kernel
theorem dX3_compareAbs_22 : decode cX3_compareAbs 22 = .ok (.iconst (-1), 1) := by decide +kernel
theorem dX3_compareAbs_23 : decode cX3_compareAbs 23 = .ok (.goto 4, 3) := by decide +kernel
theorem dX3_compareAbs_26 : decode cX3_compareAbs 26 = .ok (.iconst 1, 1) := by decide +kernel
theorem dX3_compareAbs_27 : decode cX3_compareAbs 27 = .ok (.ireturn, 1) := by decide +kernel
theorem dX3_compareAbs_28 : decode cX3_compareAbs 28 = .ok (.aload_n 0, 1) := by decide +kernel
theorem dX3_compareAbs_29 : decode cX3_compareAbs 29 = .ok (.getfield 15, 3) := by decide +kernel
theorem dX3_compareAbs_32 : decode cX3_compareAbs 32 = .ok (.iconst 1, 1) := by decide +kernel
theorem dX3_compareAbs_33 : decode cX3_compareAbs 33 = .ok (.isub, 1) := by decide +kernel
theorem dX3_compareAbs_34 : decode cX3_compareAbs 34 = .ok (.istore_n 2, 1) := by decide +kernel
theorem dX3_compareAbs_35 : decode cX3_compareAbs 35 = .ok (.iload_n 2, 1) := by decide +kernel
theorem dX3_compareAbs_36 : decode cX3_compareAbs 36 = .ok (.ifCond .lt 45, 3) := by decide +kernel
theorem dX3_compareAbs_39 : decode cX3_compareAbs 39 = .ok (.aload_n 0, 1) := by decide +kernel
theorem dX3_compareAbs_40 : decode cX3_compareAbs 40 = .ok (.getfield 9, 3) := by decide +kernel
theorem dX3_compareAbs_43 : decode cX3_compareAbs 43 = .ok (.iload_n 2, 1) := by decide +kernel
theorem dX3_compareAbs_44 : decode cX3_compareAbs 44 = .ok (.iaload, 1) := by decide +kernel
theorem dX3_compareAbs_45 : decode cX3_compareAbs 45 = .ok (.aload_n 1, 1) := by decide +kernel
theorem dX3_compareAbs_46 : decode cX3_compareAbs 46 = .ok (.getfield 9, 3) := by decide +kernel
theorem dX3_compareAbs_49 : decode cX3_compareAbs 49 = .ok (.iload_n 2, 1) := by decide +kernel
theorem dX3_compareAbs_50 : decode cX3_compareAbs 50 = .ok (.iaload, 1) := by decide +kernel
theorem dX3_compareAbs_51 : decode cX3_compareAbs 51 = .ok (.if_icmp .eq 24, 3) := by decide +kernel
theorem dX3_compareAbs_54 : decode cX3_compareAbs 54 = .ok (.aload_n 0, 1) := by decide +kernel
theorem dX3_compareAbs_55 : decode cX3_compareAbs 55 = .ok (.getfield 9, 3) := by decide +kernel
theorem dX3_compareAbs_58 : decode cX3_compareAbs 58 = .ok (.iload_n 2, 1) := by decide +kernel
theorem dX3_compareAbs_59 : decode cX3_compareAbs 59 = .ok (.iaload, 1) := by decide +kernel
theorem dX3_compareAbs_60 : decode cX3_compareAbs 60 = .ok (.aload_n 1, 1) := by decide +kernel
theorem dX3_compareAbs_61 : decode cX3_compareAbs 61 = .ok (.getfield 9, 3) := by decide +kernel
theorem dX3_compareAbs_64 : decode cX3_compareAbs 64 = .ok (.iload_n 2, 1) := by decide +kernel
theorem dX3_compareAbs_65 : decode cX3_compareAbs 65 = .ok (.iaload, 1) := by decide +kernel
theorem dX3_compareAbs_66 : decode cX3_compareAbs 66 = .ok (.if_icmp .ge 7, 3) := by decide +kernel
theorem dX3_compareAbs_69 : decode cX3_compareAbs 69 = .ok (.iconst (-1), 1) := by decide +kernel
theorem dX3_compareAbs_70 : decode cX3_compareAbs 70 = .ok (.goto 4, 3) := by decide +kernel
theorem dX3_compareAbs_73 : decode cX3_compareAbs 73 = .ok (.iconst 1, 1) := by decide +kernel
theorem dX3_compareAbs_74 : decode cX3_compareAbs 74 = .ok (.ireturn, 1) := by decide +kernel
theorem dX3_compareAbs_75 : decode cX3_compareAbs 75 = .ok (.iinc 2 (-1), 3) := by decide +kernel
theorem dX3_compareAbs_78 : decode cX3_compareAbs 78 = .ok (.goto (-43), 3) := by decide +kernel
theorem dX3_compareAbs_81 : decode cX3_compareAbs 81 = .ok (.iconst 0, 1) := by decide +kernel
theorem dX3_compareAbs_82 : decode cX3_compareAbs 82 = .ok (.ireturn, 1) := by decide +kernel
theorem dX3_join_0 : decode cX3_join 0 = .ok (.aload_n 0, 1) := by decide +kernel
theorem dX3_join_1 : decode cX3_join 1 = .ok (.getfield 15, 3) := by decide +kernel
theorem dX3_join_4 : decode cX3_join 4 = .ok (.aload_n 1, 1) := by decide +kernel
theorem dX3_join_5 : decode cX3_join 5 = .ok (.getfield 15, 3) := by decide +kernel
theorem dX3_join_8 : decode cX3_join 8 = .ok (.invokestatic 56, 3) := by decide +kernel
theorem dX3_join_11 : decode cX3_join 11 = .ok (.aload_n 0, 1) := by decide +kernel
theorem dX3_join_12 : decode cX3_join 12 = .ok (.getfield 9, 3) := by decide +kernel
theorem dX3_join_15 : decode cX3_join 15 = .ok (.arraylength, 1) := by decide +kernel
theorem dX3_join_16 : decode cX3_join 16 = .ok (.invokestatic 29, 3) := by decide +kernel
theorem dX3_join_19 : decode cX3_join 19 = .ok (.istore_n 2, 1) := by decide +kernel
theorem dX3_join_20 : decode cX3_join 20 = .ok (.iconst 0, 1) := by decide +kernel
theorem dX3_join_21 : decode cX3_join 21 = .ok (.istore_n 3, 1) := by decide +kernel
theorem dX3_join_22 : decode cX3_join 22 = .ok (.iconst 0, 1) := by decide +kernel
theorem dX3_join_23 : decode cX3_join 23 = .ok (.istore 4, 2) := by decide +kernel
theorem dX3_join_25 : decode cX3_join 25 = .ok (.iload 4, 2) := by decide +kernel
theorem dX3_join_27 : decode cX3_join 27 = .ok (.iload_n 2, 1) := by decide +kernel
theorem dX3_join_28 : decode cX3_join 28 = .ok (.if_icmp .ge 80, 3) := by decide +kernel
theorem dX3_join_31 : decode cX3_join 31 = .ok (.iload 4, 2) := by decide +kernel
theorem dX3_join_33 : decode cX3_join 33 = .ok (.aload_n 0, 1) := by decide +kernel
theorem dX3_join_34 : decode cX3_join 34 = .ok (.getfield 15, 3) := by decide +kernel
theorem dX3_join_37 : decode cX3_join 37 = .ok (.if_icmp .ge 13, 3) := by decide +kernel
theorem dX3_join_40 : decode cX3_join 40 = .ok (.aload_n 0, 1) := by decide +kernel
theorem dX3_join_41 : decode cX3_join 41 = .ok (.getfield 9, 3) := by decide +kernel
theorem dX3_join_44 : decode cX3_join 44 = .ok (.iload 4, 2) := by decide +kernel
theorem dX3_join_46 : decode cX3_join 46 = .ok (.iaload, 1) := by decide +kernel
theorem dX3_join_47 : decode cX3_join 47 = .ok (.goto 4, 3) := by decide +kernel
theorem dX3_join_50 : decode cX3_join 50 = .ok (.iconst 0, 1) := by decide +kernel
theorem dX3_join_51 : decode cX3_join 51 = .ok (.istore 5, 2) := by decide +kernel
theorem dX3_join_53 : decode cX3_join 53 = .ok (.iload 4, 2) := by decide +kernel
theorem dX3_join_55 : decode cX3_join 55 = .ok (.aload_n 1, 1) := by decide +kernel
theorem dX3_join_56 : decode cX3_join 56 = .ok (.getfield 15, 3) := by decide +kernel
theorem dX3_join_59 : decode cX3_join 59 = .ok (.if_icmp .ge 13, 3) := by decide +kernel
theorem dX3_join_62 : decode cX3_join 62 = .ok (.aload_n 1, 1) := by decide +kernel
theorem dX3_join_63 : decode cX3_join 63 = .ok (.getfield 9, 3) := by decide +kernel
theorem dX3_join_66 : decode cX3_join 66 = .ok (.iload 4, 2) := by decide +kernel
theorem dX3_join_68 : decode cX3_join 68 = .ok (.iaload, 1) := by decide +kernel
theorem dX3_join_69 : decode cX3_join 69 = .ok (.goto 4, 3) := by decide +kernel
theorem dX3_join_72 : decode cX3_join 72 = .ok (.iconst 0, 1) := by decide +kernel
theorem dX3_join_73 : decode cX3_join 73 = .ok (.istore 6, 2) := by decide +kernel
theorem dX3_join_75 : decode cX3_join 75 = .ok (.iload 5, 2) := by decide +kernel
theorem dX3_join_77 : decode cX3_join 77 = .ok (.iload 6, 2) := by decide +kernel
theorem dX3_join_79 : decode cX3_join 79 = .ok (.iadd, 1) := by decide +kernel
theorem dX3_join_80 : decode cX3_join 80 = .ok (.iload_n 3, 1) := by decide +kernel
theorem dX3_join_81 : decode cX3_join 81 = .ok (.iadd, 1) := by decide +kernel
theorem dX3_join_82 : decode cX3_join 82 = .ok (.istore 7, 2) := by decide +kernel
theorem dX3_join_84 : decode cX3_join 84 = .ok (.aload_n 0, 1) := by decide +kernel
theorem dX3_join_85 : decode cX3_join 85 = .ok (.getfield 9, 3) := by decide +kernel
theorem dX3_join_88 : decode cX3_join 88 = .ok (.iload 4, 2) := by decide +kernel
theorem dX3_join_90 : decode cX3_join 90 = .ok (.iload 7, 2) := by decide +kernel
theorem dX3_join_92 : decode cX3_join 92 = .ok (.ldc 59, 2) := by decide +kernel
theorem dX3_join_94 : decode cX3_join 94 = .ok (.iand, 1) := by decide +kernel
theorem dX3_join_95 : decode cX3_join 95 = .ok (.iastore, 1) := by decide +kernel
theorem dX3_join_96 : decode cX3_join 96 = .ok (.iload 7, 2) := by decide +kernel
theorem dX3_join_98 : decode cX3_join 98 = .ok (.bipush 31, 2) := by decide +kernel
theorem dX3_join_100 : decode cX3_join 100 = .ok (.iushr, 1) := by decide +kernel
theorem dX3_join_101 : decode cX3_join 101 = .ok (.istore_n 3, 1) := by decide +kernel
theorem dX3_join_102 : decode cX3_join 102 = .ok (.iinc 4 1, 3) := by decide +kernel
theorem dX3_join_105 : decode cX3_join 105 = .ok (.goto (-80), 3) := by decide +kernel
theorem dX3_join_108 : decode cX3_join 108 = .ok (.aload_n 0, 1) := by decide +kernel
theorem dX3_join_109 : decode cX3_join 109 = .ok (.iload_n 2, 1) := by decide +kernel
theorem dX3_join_110 : decode cX3_join 110 = .ok (.putfield 15, 3) := by decide +kernel
theorem dX3_join_113 : decode cX3_join 113 = .ok (.iload_n 3, 1) := by decide +kernel
theorem dX3_join_114 : decode cX3_join 114 = .ok (.ifCond .eq 35, 3) := by decide +kernel
theorem dX3_join_117 : decode cX3_join 117 = .ok (.aload_n 0, 1) := by decide +kernel
theorem dX3_join_118 : decode cX3_join 118 = .ok (.getfield 15, 3) := by decide +kernel
theorem dX3_join_121 : decode cX3_join 121 = .ok (.aload_n 0, 1) := by decide +kernel
theorem dX3_join_122 : decode cX3_join 122 = .ok (.getfield 9, 3) := by decide +kernel
theorem dX3_join_125 : decode cX3_join 125 = .ok (.arraylength, 1) := by decide +kernel
theorem dX3_join_126 : decode cX3_join 126 = .ok (.if_icmp .ge 23, 3) := by decide +kernel
theorem dX3_join_129 : decode cX3_join 129 = .ok (.aload_n 0, 1) := by decide +kernel
theorem dX3_join_130 : decode cX3_join 130 = .ok (.getfield 9, 3) := by decide +kernel
theorem dX3_join_133 : decode cX3_join 133 = .ok (.aload_n 0, 1) := by decide +kernel
theorem dX3_join_134 : decode cX3_join 134 = .ok (.getfield 15, 3) := by decide +kernel
theorem dX3_join_137 : decode cX3_join 137 = .ok (.iload_n 3, 1) := by decide +kernel
theorem dX3_join_138 : decode cX3_join 138 = .ok (.iastore, 1) := by decide +kernel
theorem dX3_join_139 : decode cX3_join 139 = .ok (.aload_n 0, 1) := by decide +kernel
theorem dX3_join_140 : decode cX3_join 140 = .ok (.dup, 1) := by decide +kernel
theorem dX3_join_141 : decode cX3_join 141 = .ok (.getfield 15, 3) := by decide +kernel
theorem dX3_join_144 : decode cX3_join 144 = .ok (.iconst 1, 1) := by decide +kernel
theorem dX3_join_145 : decode cX3_join 145 = .ok (.iadd, 1) := by decide +kernel
theorem dX3_join_146 : decode cX3_join 146 = .ok (.putfield 15, 3) := by decide +kernel
theorem dX3_join_149 : decode cX3_join 149 = .ok (.return_, 1) := by decide +kernel
theorem dX3_differ_0 : decode cX3_differ 0 = .ok (.aload_n 1, 1) := by decide +kernel
theorem dX3_differ_1 : decode cX3_differ 1 = .ok (.getfield 15, 3) := by decide +kernel
theorem dX3_differ_4 : decode cX3_differ 4 = .ok (.aload_n 0, 1) := by decide +kernel
theorem dX3_differ_5 : decode cX3_differ 5 = .ok (.getfield 9, 3) := by decide +kernel
theorem dX3_differ_8 : decode cX3_differ 8 = .ok (.arraylength, 1) := by decide +kernel
theorem dX3_differ_9 : decode cX3_differ 9 = .ok (.invokestatic 29, 3) := by decide +kernel
theorem dX3_differ_12 : decode cX3_differ 12 = .ok (.istore_n 3, 1) := by decide +kernel
theorem dX3_differ_13 : decode cX3_differ 13 = .ok (.iconst 0, 1) := by decide +kernel
theorem dX3_differ_14 : decode cX3_differ 14 = .ok (.istore 4, 2) := by decide +kernel
theorem dX3_differ_16 : decode cX3_differ 16 = .ok (.iconst 0, 1) := by decide +kernel
theorem dX3_differ_17 : decode cX3_differ 17 = .ok (.istore 5, 2) := by decide +kernel
theorem dX3_differ_19 : decode cX3_differ 19 = .ok (.iload 5, 2) := by decide +kernel
theorem dX3_differ_21 : decode cX3_differ 21 = .ok (.iload_n 3, 1) := by decide +kernel
theorem dX3_differ_22 : decode cX3_differ 22 = .ok (.if_icmp .ge 65, 3) := by decide +kernel
theorem dX3_differ_25 : decode cX3_differ 25 = .ok (.iload 5, 2) := by decide +kernel
theorem dX3_differ_27 : decode cX3_differ 27 = .ok (.aload_n 2, 1) := by decide +kernel
theorem dX3_differ_28 : decode cX3_differ 28 = .ok (.getfield 15, 3) := by decide +kernel
theorem dX3_differ_31 : decode cX3_differ 31 = .ok (.if_icmp .ge 13, 3) := by decide +kernel
theorem dX3_differ_34 : decode cX3_differ 34 = .ok (.aload_n 2, 1) := by decide +kernel
theorem dX3_differ_35 : decode cX3_differ 35 = .ok (.getfield 9, 3) := by decide +kernel
theorem dX3_differ_38 : decode cX3_differ 38 = .ok (.iload 5, 2) := by decide +kernel
theorem dX3_differ_40 : decode cX3_differ 40 = .ok (.iaload, 1) := by decide +kernel
theorem dX3_differ_41 : decode cX3_differ 41 = .ok (.goto 4, 3) := by decide +kernel
theorem dX3_differ_44 : decode cX3_differ 44 = .ok (.iconst 0, 1) := by decide +kernel
theorem dX3_differ_45 : decode cX3_differ 45 = .ok (.istore 6, 2) := by decide +kernel
theorem dX3_differ_47 : decode cX3_differ 47 = .ok (.aload_n 1, 1) := by decide +kernel
theorem dX3_differ_48 : decode cX3_differ 48 = .ok (.getfield 9, 3) := by decide +kernel
theorem dX3_differ_51 : decode cX3_differ 51 = .ok (.iload 5, 2) := by decide +kernel
theorem dX3_differ_53 : decode cX3_differ 53 = .ok (.iaload, 1) := by decide +kernel
theorem dX3_differ_54 : decode cX3_differ 54 = .ok (.iload 6, 2) := by decide +kernel
theorem dX3_differ_56 : decode cX3_differ 56 = .ok (.isub, 1) := by decide +kernel
theorem dX3_differ_57 : decode cX3_differ 57 = .ok (.iload 4, 2) := by decide +kernel
theorem dX3_differ_59 : decode cX3_differ 59 = .ok (.isub, 1) := by decide +kernel
theorem dX3_differ_60 : decode cX3_differ 60 = .ok (.istore 7, 2) := by decide +kernel
theorem dX3_differ_62 : decode cX3_differ 62 = .ok (.aload_n 0, 1) := by decide +kernel
theorem dX3_differ_63 : decode cX3_differ 63 = .ok (.getfield 9, 3) := by decide +kernel
theorem dX3_differ_66 : decode cX3_differ 66 = .ok (.iload 5, 2) := by decide +kernel
theorem dX3_differ_68 : decode cX3_differ 68 = .ok (.iload 7, 2) := by decide +kernel
theorem dX3_differ_70 : decode cX3_differ 70 = .ok (.ldc 59, 2) := by decide +kernel
theorem dX3_differ_72 : decode cX3_differ 72 = .ok (.iand, 1) := by decide +kernel
theorem dX3_differ_73 : decode cX3_differ 73 = .ok (.iastore, 1) := by decide +kernel
theorem dX3_differ_74 : decode cX3_differ 74 = .ok (.iload 7, 2) := by decide +kernel
theorem dX3_differ_76 : decode cX3_differ 76 = .ok (.bipush 31, 2) := by decide +kernel
theorem dX3_differ_78 : decode cX3_differ 78 = .ok (.iushr, 1) := by decide +kernel
theorem dX3_differ_79 : decode cX3_differ 79 = .ok (.istore 4, 2) := by decide +kernel
theorem dX3_differ_81 : decode cX3_differ 81 = .ok (.iinc 5 1, 3) := by decide +kernel
theorem dX3_differ_84 : decode cX3_differ 84 = .ok (.goto (-65), 3) := by decide +kernel
theorem dX3_differ_87 : decode cX3_differ 87 = .ok (.aload_n 0, 1) := by decide +kernel
theorem dX3_differ_88 : decode cX3_differ 88 = .ok (.iload_n 3, 1) := by decide +kernel
theorem dX3_differ_89 : decode cX3_differ 89 = .ok (.putfield 15, 3) := by decide +kernel
theorem dX3_differ_92 : decode cX3_differ 92 = .ok (.return_, 1) := by decide +kernel
theorem dX3_trim_0 : decode cX3_trim 0 = .ok (.aload_n 0, 1) := by decide +kernel
theorem dX3_trim_1 : decode cX3_trim 1 = .ok (.getfield 15, 3) := by decide +kernel
theorem dX3_trim_4 : decode cX3_trim 4 = .ok (.ifCond .le 30, 3) := by decide +kernel
theorem dX3_trim_7 : decode cX3_trim 7 = .ok (.aload_n 0, 1) := by decide +kernel
theorem dX3_trim_8 : decode cX3_trim 8 = .ok (.getfield 9, 3) := by decide +kernel
theorem dX3_trim_11 : decode cX3_trim 11 = .ok (.aload_n 0, 1) := by decide +kernel
theorem dX3_trim_12 : decode cX3_trim 12 = .ok (.getfield 15, 3) := by decide +kernel
theorem dX3_trim_15 : decode cX3_trim 15 = .ok (.iconst 1, 1) := by decide +kernel
theorem dX3_trim_16 : decode cX3_trim 16 = .ok (.isub, 1) := by decide +kernel
theorem dX3_trim_17 : decode cX3_trim 17 = .ok (.iaload, 1) := by decide +kernel
theorem dX3_trim_18 : decode cX3_trim 18 = .ok (.ifCond .ne 16, 3) := by decide +kernel
theorem dX3_trim_21 : decode cX3_trim 21 = .ok (.aload_n 0, 1) := by decide +kernel
theorem dX3_trim_22 : decode cX3_trim 22 = .ok (.dup, 1) := by decide +kernel
theorem dX3_trim_23 : decode cX3_trim 23 = .ok (.getfield 15, 3) := by decide +kernel
theorem dX3_trim_26 : decode cX3_trim 26 = .ok (.iconst 1, 1) := by decide +kernel
theorem dX3_trim_27 : decode cX3_trim 27 = .ok (.isub, 1) := by decide +kernel
theorem dX3_trim_28 : decode cX3_trim 28 = .ok (.putfield 15, 3) := by decide +kernel
theorem dX3_trim_31 : decode cX3_trim 31 = .ok (.goto (-31), 3) := by decide +kernel
theorem dX3_trim_34 : decode cX3_trim 34 = .ok (.aload_n 0, 1) := by decide +kernel
theorem dX3_trim_35 : decode cX3_trim 35 = .ok (.getfield 15, 3) := by decide +kernel
theorem dX3_trim_38 : decode cX3_trim 38 = .ok (.ifCond .ne 8, 3) := by decide +kernel
theorem dX3_trim_41 : decode cX3_trim 41 = .ok (.aload_n 0, 1) := by decide +kernel
theorem dX3_trim_42 : decode cX3_trim 42 = .ok (.iconst 0, 1) := by decide +kernel
theorem dX3_trim_43 : decode cX3_trim 43 = .ok (.putfield 19, 3) := by decide +kernel
theorem dX3_trim_46 : decode cX3_trim 46 = .ok (.return_, 1) := by decide +kernel
theorem dX3_scale_0 : decode cX3_scale 0 = .ok (.lload_n 1, 1) := by decide +kernel
theorem dX3_scale_1 : decode cX3_scale 1 = .ok (.lconst 0, 1) := by decide +kernel
theorem dX3_scale_2 : decode cX3_scale 2 = .ok (.lcmp, 1) := by decide +kernel
theorem dX3_scale_3 : decode cX3_scale 3 = .ok (.ifCond .ne 8, 3) := by decide +kernel
theorem dX3_scale_6 : decode cX3_scale 6 = .ok (.aload_n 0, 1) := by decide +kernel
theorem dX3_scale_7 : decode cX3_scale 7 = .ok (.invokevirtual 22, 3) := by decide +kernel
theorem dX3_scale_10 : decode cX3_scale 10 = .ok (.return_, 1) := by decide +kernel
theorem dX3_scale_11 : decode cX3_scale 11 = .ok (.lload_n 1, 1) := by decide +kernel
theorem dX3_scale_12 : decode cX3_scale 12 = .ok (.lconst 0, 1) := by decide +kernel
theorem dX3_scale_13 : decode cX3_scale 13 = .ok (.lcmp, 1) := by decide +kernel
theorem dX3_scale_14 : decode cX3_scale 14 = .ok (.ifCond .ge 8, 3) := by decide +kernel
theorem dX3_scale_17 : decode cX3_scale 17 = .ok (.lload_n 1, 1) := by decide +kernel
theorem dX3_scale_18 : decode cX3_scale 18 = .ok (.lneg, 1) := by decide +kernel
theorem dX3_scale_19 : decode cX3_scale 19 = .ok (.goto 4, 3) := by decide +kernel
theorem dX3_scale_22 : decode cX3_scale 22 = .ok (.lload_n 1, 1) := by decide +kernel
theorem dX3_scale_23 : decode cX3_scale 23 = .ok (.lstore_n 3, 1) := by decide +kernel
theorem dX3_scale_24 : decode cX3_scale 24 = .ok (.lconst 0, 1) := by decide +kernel
theorem dX3_scale_25 : decode cX3_scale 25 = .ok (.lstore 5, 2) := by decide +kernel
theorem dX3_scale_27 : decode cX3_scale 27 = .ok (.iconst 0, 1) := by decide +kernel
theorem dX3_scale_28 : decode cX3_scale 28 = .ok (.istore 7, 2) := by decide +kernel
theorem dX3_scale_30 : decode cX3_scale 30 = .ok (.iload 7, 2) := by decide +kernel
theorem dX3_scale_32 : decode cX3_scale 32 = .ok (.aload_n 0, 1) := by decide +kernel
theorem dX3_scale_33 : decode cX3_scale 33 = .ok (.getfield 15, 3) := by decide +kernel
theorem dX3_scale_36 : decode cX3_scale 36 = .ok (.if_icmp .ge 45, 3) := by decide +kernel
theorem dX3_scale_39 : decode cX3_scale 39 = .ok (.aload_n 0, 1) := by decide +kernel
theorem dX3_scale_40 : decode cX3_scale 40 = .ok (.getfield 9, 3) := by decide +kernel
theorem dX3_scale_43 : decode cX3_scale 43 = .ok (.iload 7, 2) := by decide +kernel
theorem dX3_scale_45 : decode cX3_scale 45 = .ok (.iaload, 1) := by decide +kernel
theorem dX3_scale_46 : decode cX3_scale 46 = .ok (.i2l, 1) := by decide +kernel
theorem dX3_scale_47 : decode cX3_scale 47 = .ok (.lload_n 3, 1) := by decide +kernel
theorem dX3_scale_48 : decode cX3_scale 48 = .ok (.lmul, 1) := by decide +kernel
theorem dX3_scale_49 : decode cX3_scale 49 = .ok (.lload 5, 2) := by decide +kernel
theorem dX3_scale_51 : decode cX3_scale 51 = .ok (.ladd, 1) := by decide +kernel
theorem dX3_scale_52 : decode cX3_scale 52 = .ok (.lstore 8, 2) := by decide +kernel
theorem dX3_scale_54 : decode cX3_scale 54 = .ok (.aload_n 0, 1) := by decide +kernel
theorem dX3_scale_55 : decode cX3_scale 55 = .ok (.getfield 9, 3) := by decide +kernel
theorem dX3_scale_58 : decode cX3_scale 58 = .ok (.iload 7, 2) := by decide +kernel
theorem dX3_scale_60 : decode cX3_scale 60 = .ok (.lload 8, 2) := by decide +kernel
theorem dX3_scale_62 : decode cX3_scale 62 = .ok (.ldc2_w 60, 3) := by decide +kernel
theorem dX3_scale_65 : decode cX3_scale 65 = .ok (.land, 1) := by decide +kernel
theorem dX3_scale_66 : decode cX3_scale 66 = .ok (.l2i, 1) := by decide +kernel
theorem dX3_scale_67 : decode cX3_scale 67 = .ok (.iastore, 1) := by decide +kernel
theorem dX3_scale_68 : decode cX3_scale 68 = .ok (.lload 8, 2) := by decide +kernel
theorem dX3_scale_70 : decode cX3_scale 70 = .ok (.bipush 31, 2) := by decide +kernel
theorem dX3_scale_72 : decode cX3_scale 72 = .ok (.lushr, 1) := by decide +kernel
theorem dX3_scale_73 : decode cX3_scale 73 = .ok (.lstore 5, 2) := by decide +kernel
theorem dX3_scale_75 : decode cX3_scale 75 = .ok (.iinc 7 1, 3) := by decide +kernel
theorem dX3_scale_78 : decode cX3_scale 78 = .ok (.goto (-48), 3) := by decide +kernel
theorem dX3_scale_81 : decode cX3_scale 81 = .ok (.lload 5, 2) := by decide +kernel
theorem dX3_scale_83 : decode cX3_scale 83 = .ok (.lconst 0, 1) := by decide +kernel
theorem dX3_scale_84 : decode cX3_scale 84 = .ok (.lcmp, 1) := by decide +kernel
theorem dX3_scale_85 : decode cX3_scale 85 = .ok (.ifCond .eq 51, 3) := by decide +kernel
theorem dX3_scale_88 : decode cX3_scale 88 = .ok (.aload_n 0, 1) := by decide +kernel
theorem dX3_scale_89 : decode cX3_scale 89 = .ok (.getfield 15, 3) := by decide +kernel
theorem dX3_scale_92 : decode cX3_scale 92 = .ok (.aload_n 0, 1) := by decide +kernel
theorem dX3_scale_93 : decode cX3_scale 93 = .ok (.getfield 9, 3) := by decide +kernel
theorem dX3_scale_96 : decode cX3_scale 96 = .ok (.arraylength, 1) := by decide +kernel
theorem dX3_scale_97 : decode cX3_scale 97 = .ok (.if_icmp .ge 39, 3) := by decide +kernel
theorem dX3_scale_100 : decode cX3_scale 100 = .ok (.aload_n 0, 1) := by decide +kernel
theorem dX3_scale_101 : decode cX3_scale 101 = .ok (.getfield 9, 3) := by decide +kernel
theorem dX3_scale_104 : decode cX3_scale 104 = .ok (.aload_n 0, 1) := by decide +kernel
theorem dX3_scale_105 : decode cX3_scale 105 = .ok (.getfield 15, 3) := by decide +kernel
theorem dX3_scale_108 : decode cX3_scale 108 = .ok (.lload 5, 2) := by decide +kernel
theorem dX3_scale_110 : decode cX3_scale 110 = .ok (.ldc2_w 60, 3) := by decide +kernel
theorem dX3_scale_113 : decode cX3_scale 113 = .ok (.land, 1) := by decide +kernel
theorem dX3_scale_114 : decode cX3_scale 114 = .ok (.l2i, 1) := by decide +kernel
theorem dX3_scale_115 : decode cX3_scale 115 = .ok (.iastore, 1) := by decide +kernel
theorem dX3_scale_116 : decode cX3_scale 116 = .ok (.aload_n 0, 1) := by decide +kernel
theorem dX3_scale_117 : decode cX3_scale 117 = .ok (.dup, 1) := by decide +kernel
theorem dX3_scale_118 : decode cX3_scale 118 = .ok (.getfield 15, 3) := by decide +kernel
theorem dX3_scale_121 : decode cX3_scale 121 = .ok (.iconst 1, 1) := by decide +kernel
theorem dX3_scale_122 : decode cX3_scale 122 = .ok (.iadd, 1) := by decide +kernel
theorem dX3_scale_123 : decode cX3_scale 123 = .ok (.putfield 15, 3) := by decide +kernel
theorem dX3_scale_126 : decode cX3_scale 126 = .ok (.lload 5, 2) := by decide +kernel
theorem dX3_scale_128 : decode cX3_scale 128 = .ok (.bipush 31, 2) := by decide +kernel
theorem dX3_scale_130 : decode cX3_scale 130 = .ok (.lushr, 1) := by decide +kernel
theorem dX3_scale_131 : decode cX3_scale 131 = .ok (.lstore 5, 2) := by decide +kernel
theorem dX3_scale_133 : decode cX3_scale 133 = .ok (.goto (-52), 3) := by decide +kernel
theorem dX3_scale_136 : decode cX3_scale 136 = .ok (.aload_n 0, 1) := by decide +kernel
theorem dX3_scale_137 : decode cX3_scale 137 = .ok (.lload_n 1, 1) := by decide +kernel
theorem dX3_scale_138 : decode cX3_scale 138 = .ok (.lconst 0, 1) := by decide +kernel
theorem dX3_scale_139 : decode cX3_scale 139 = .ok (.lcmp, 1) := by decide +kernel
theorem dX3_scale_140 : decode cX3_scale 140 = .ok (.ifCond .ge 11, 3) := by decide +kernel
theorem dX3_scale_143 : decode cX3_scale 143 = .ok (.aload_n 0, 1) := by decide +kernel
theorem dX3_scale_144 : decode cX3_scale 144 = .ok (.getfield 19, 3) := by decide +kernel
theorem dX3_scale_147 : decode cX3_scale 147 = .ok (.ineg, 1) := by decide +kernel
theorem dX3_scale_148 : decode cX3_scale 148 = .ok (.goto 7, 3) := by decide +kernel
theorem dX3_scale_151 : decode cX3_scale 151 = .ok (.aload_n 0, 1) := by decide +kernel
theorem dX3_scale_152 : decode cX3_scale 152 = .ok (.getfield 19, 3) := by decide +kernel
theorem dX3_scale_155 : decode cX3_scale 155 = .ok (.putfield 19, 3) := by decide +kernel
theorem dX3_scale_158 : decode cX3_scale 158 = .ok (.return_, 1) := by decide +kernel
theorem dX3_product_0 : decode cX3_product 0 = .ok (.aload_n 1, 1) := by decide +kernel
theorem dX3_product_1 : decode cX3_product 1 = .ok (.getfield 15, 3) := by decide +kernel
theorem dX3_product_4 : decode cX3_product 4 = .ok (.aload_n 2, 1) := by decide +kernel
theorem dX3_product_5 : decode cX3_product 5 = .ok (.getfield 15, 3) := by decide +kernel
theorem dX3_product_8 : decode cX3_product 8 = .ok (.iadd, 1) := by decide +kernel
theorem dX3_product_9 : decode cX3_product 9 = .ok (.aload_n 0, 1) := by decide +kernel
theorem dX3_product_10 : decode cX3_product 10 = .ok (.getfield 9, 3) := by decide +kernel
theorem dX3_product_13 : decode cX3_product 13 = .ok (.arraylength, 1) := by decide +kernel
theorem dX3_product_14 : decode cX3_product 14 = .ok (.invokestatic 29, 3) := by decide +kernel
theorem dX3_product_17 : decode cX3_product 17 = .ok (.istore_n 3, 1) := by decide +kernel
theorem dX3_product_18 : decode cX3_product 18 = .ok (.aload_n 0, 1) := by decide +kernel
theorem dX3_product_19 : decode cX3_product 19 = .ok (.getfield 9, 3) := by decide +kernel
theorem dX3_product_22 : decode cX3_product 22 = .ok (.iconst 0, 1) := by decide +kernel
theorem dX3_product_23 : decode cX3_product 23 = .ok (.iload_n 3, 1) := by decide +kernel
theorem dX3_product_24 : decode cX3_product 24 = .ok (.iconst 0, 1) := by decide +kernel
theorem dX3_product_25 : decode cX3_product 25 = .ok (.invokestatic 62, 3) := by decide +kernel
theorem dX3_product_28 : decode cX3_product 28 = .ok (.iconst 0, 1) := by decide +kernel
theorem dX3_product_29 : decode cX3_product 29 = .ok (.istore 4, 2) := by decide +kernel
theorem dX3_product_31 : decode cX3_product 31 = .ok (.iload 4, 2) := by decide +kernel
theorem dX3_product_33 : decode cX3_product 33 = .ok (.aload_n 1, 1) := by decide +kernel
theorem dX3_product_34 : decode cX3_product 34 = .ok (.getfield 15, 3) := by decide +kernel
theorem dX3_product_37 : decode cX3_product 37 = .ok (.if_icmp .ge 127, 3) := by decide +kernel
theorem dX3_product_40 : decode cX3_product 40 = .ok (.aload_n 1, 1) := by decide +kernel
theorem dX3_product_41 : decode cX3_product 41 = .ok (.getfield 9, 3) := by decide +kernel
theorem dX3_product_44 : decode cX3_product 44 = .ok (.iload 4, 2) := by decide +kernel
theorem dX3_product_46 : decode cX3_product 46 = .ok (.iaload, 1) := by decide +kernel
theorem dX3_product_47 : decode cX3_product 47 = .ok (.i2l, 1) := by decide +kernel
theorem dX3_product_48 : decode cX3_product 48 = .ok (.lstore 5, 2) := by decide +kernel
theorem dX3_product_50 : decode cX3_product 50 = .ok (.lconst 0, 1) := by decide +kernel
theorem dX3_product_51 : decode cX3_product 51 = .ok (.lstore 7, 2) := by decide +kernel
theorem dX3_product_53 : decode cX3_product 53 = .ok (.iconst 0, 1) := by decide +kernel
theorem dX3_product_54 : decode cX3_product 54 = .ok (.istore 9, 2) := by decide +kernel
theorem dX3_product_56 : decode cX3_product 56 = .ok (.iload 9, 2) := by decide +kernel
theorem dX3_product_58 : decode cX3_product 58 = .ok (.aload_n 2, 1) := by decide +kernel
theorem dX3_product_59 : decode cX3_product 59 = .ok (.getfield 15, 3) := by decide +kernel
theorem dX3_product_62 : decode cX3_product 62 = .ok (.if_icmp .ge 70, 3) := by decide +kernel
theorem dX3_product_65 : decode cX3_product 65 = .ok (.iload 4, 2) := by decide +kernel
theorem dX3_product_67 : decode cX3_product 67 = .ok (.iload 9, 2) := by decide +kernel
theorem dX3_product_69 : decode cX3_product 69 = .ok (.iadd, 1) := by decide +kernel
theorem dX3_product_70 : decode cX3_product 70 = .ok (.iload_n 3, 1) := by decide +kernel
theorem dX3_product_71 : decode cX3_product 71 = .ok (.if_icmp .ge 61, 3) := by decide +kernel
theorem dX3_product_74 : decode cX3_product 74 = .ok (.lload 5, 2) := by decide +kernel
theorem dX3_product_76 : decode cX3_product 76 = .ok (.aload_n 2, 1) := by decide +kernel
theorem dX3_product_77 : decode cX3_product 77 = .ok (.getfield 9, 3) := by decide +kernel
theorem dX3_product_80 : decode cX3_product 80 = .ok (.iload 9, 2) := by decide +kernel
theorem dX3_product_82 : decode cX3_product 82 = .ok (.iaload, 1) := by decide +kernel
theorem dX3_product_83 : decode cX3_product 83 = .ok (.i2l, 1) := by decide +kernel
theorem dX3_product_84 : decode cX3_product 84 = .ok (.lmul, 1) := by decide +kernel
theorem dX3_product_85 : decode cX3_product 85 = .ok (.aload_n 0, 1) := by decide +kernel
theorem dX3_product_86 : decode cX3_product 86 = .ok (.getfield 9, 3) := by decide +kernel
theorem dX3_product_89 : decode cX3_product 89 = .ok (.iload 4, 2) := by decide +kernel
theorem dX3_product_91 : decode cX3_product 91 = .ok (.iload 9, 2) := by decide +kernel
theorem dX3_product_93 : decode cX3_product 93 = .ok (.iadd, 1) := by decide +kernel
theorem dX3_product_94 : decode cX3_product 94 = .ok (.iaload, 1) := by decide +kernel
theorem dX3_product_95 : decode cX3_product 95 = .ok (.i2l, 1) := by decide +kernel
theorem dX3_product_96 : decode cX3_product 96 = .ok (.ladd, 1) := by decide +kernel
theorem dX3_product_97 : decode cX3_product 97 = .ok (.lload 7, 2) := by decide +kernel
theorem dX3_product_99 : decode cX3_product 99 = .ok (.ladd, 1) := by decide +kernel
theorem dX3_product_100 : decode cX3_product 100 = .ok (.lstore 10, 2) := by decide +kernel
theorem dX3_product_102 : decode cX3_product 102 = .ok (.aload_n 0, 1) := by decide +kernel
theorem dX3_product_103 : decode cX3_product 103 = .ok (.getfield 9, 3) := by decide +kernel
theorem dX3_product_106 : decode cX3_product 106 = .ok (.iload 4, 2) := by decide +kernel
theorem dX3_product_108 : decode cX3_product 108 = .ok (.iload 9, 2) := by decide +kernel
theorem dX3_product_110 : decode cX3_product 110 = .ok (.iadd, 1) := by decide +kernel
theorem dX3_product_111 : decode cX3_product 111 = .ok (.lload 10, 2) := by decide +kernel
theorem dX3_product_113 : decode cX3_product 113 = .ok (.ldc2_w 60, 3) := by decide +kernel
theorem dX3_product_116 : decode cX3_product 116 = .ok (.land, 1) := by decide +kernel
theorem dX3_product_117 : decode cX3_product 117 = .ok (.l2i, 1) := by decide +kernel
theorem dX3_product_118 : decode cX3_product 118 = .ok (.iastore, 1) := by decide +kernel
theorem dX3_product_119 : decode cX3_product 119 = .ok (.lload 10, 2) := by decide +kernel
theorem dX3_product_121 : decode cX3_product 121 = .ok (.bipush 31, 2) := by decide +kernel
theorem dX3_product_123 : decode cX3_product 123 = .ok (.lushr, 1) := by decide +kernel
theorem dX3_product_124 : decode cX3_product 124 = .ok (.lstore 7, 2) := by decide +kernel
theorem dX3_product_126 : decode cX3_product 126 = .ok (.iinc 9 1, 3) := by decide +kernel
theorem dX3_product_129 : decode cX3_product 129 = .ok (.goto (-73), 3) := by decide +kernel
theorem dX3_product_132 : decode cX3_product 132 = .ok (.iload 4, 2) := by decide +kernel
theorem dX3_product_134 : decode cX3_product 134 = .ok (.aload_n 2, 1) := by decide +kernel
theorem dX3_product_135 : decode cX3_product 135 = .ok (.getfield 15, 3) := by decide +kernel
theorem dX3_product_138 : decode cX3_product 138 = .ok (.iadd, 1) := by decide +kernel
theorem dX3_product_139 : decode cX3_product 139 = .ok (.iload_n 3, 1) := by decide +kernel
theorem dX3_product_140 : decode cX3_product 140 = .ok (.if_icmp .ge 18, 3) := by decide +kernel
theorem dX3_product_143 : decode cX3_product 143 = .ok (.aload_n 0, 1) := by decide +kernel
theorem dX3_product_144 : decode cX3_product 144 = .ok (.getfield 9, 3) := by decide +kernel
theorem dX3_product_147 : decode cX3_product 147 = .ok (.iload 4, 2) := by decide +kernel
theorem dX3_product_149 : decode cX3_product 149 = .ok (.aload_n 2, 1) := by decide +kernel
theorem dX3_product_150 : decode cX3_product 150 = .ok (.getfield 15, 3) := by decide +kernel
theorem dX3_product_153 : decode cX3_product 153 = .ok (.iadd, 1) := by decide +kernel
theorem dX3_product_154 : decode cX3_product 154 = .ok (.lload 7, 2) := by decide +kernel
theorem dX3_product_156 : decode cX3_product 156 = .ok (.l2i, 1) := by decide +kernel
theorem dX3_product_157 : decode cX3_product 157 = .ok (.iastore, 1) := by decide +kernel
theorem dX3_product_158 : decode cX3_product 158 = .ok (.iinc 4 1, 3) := by decide +kernel
theorem dX3_product_161 : decode cX3_product 161 = .ok (.goto (-130), 3) := by decide +kernel
theorem dX3_product_164 : decode cX3_product 164 = .ok (.aload_n 0, 1) := by decide +kernel
theorem dX3_product_165 : decode cX3_product 165 = .ok (.iload_n 3, 1) := by decide +kernel
theorem dX3_product_166 : decode cX3_product 166 = .ok (.putfield 15, 3) := by decide +kernel
theorem dX3_product_169 : decode cX3_product 169 = .ok (.aload_n 0, 1) := by decide +kernel
theorem dX3_product_170 : decode cX3_product 170 = .ok (.aload_n 1, 1) := by decide +kernel
theorem dX3_product_171 : decode cX3_product 171 = .ok (.getfield 19, 3) := by decide +kernel
theorem dX3_product_174 : decode cX3_product 174 = .ok (.aload_n 2, 1) := by decide +kernel
theorem dX3_product_175 : decode cX3_product 175 = .ok (.getfield 19, 3) := by decide +kernel
theorem dX3_product_178 : decode cX3_product 178 = .ok (.imul, 1) := by decide +kernel
theorem dX3_product_179 : decode cX3_product 179 = .ok (.putfield 19, 3) := by decide +kernel
theorem dX3_product_182 : decode cX3_product 182 = .ok (.aload_n 0, 1) := by decide +kernel
theorem dX3_product_183 : decode cX3_product 183 = .ok (.invokevirtual 41, 3) := by decide +kernel
theorem dX3_product_186 : decode cX3_product 186 = .ok (.return_, 1) := by decide +kernel
theorem dX3_divide_0 : decode cX3_divide 0 = .ok (.aload_n 2, 1) := by decide +kernel
theorem dX3_divide_1 : decode cX3_divide 1 = .ok (.invokevirtual 22, 3) := by decide +kernel
theorem dX3_divide_4 : decode cX3_divide 4 = .ok (.aload_n 0, 1) := by decide +kernel
theorem dX3_divide_5 : decode cX3_divide 5 = .ok (.getfield 15, 3) := by decide +kernel
theorem dX3_divide_8 : decode cX3_divide 8 = .ok (.aload_n 1, 1) := by decide +kernel
theorem dX3_divide_9 : decode cX3_divide 9 = .ok (.getfield 15, 3) := by decide +kernel
theorem dX3_divide_12 : decode cX3_divide 12 = .ok (.isub, 1) := by decide +kernel
theorem dX3_divide_13 : decode cX3_divide 13 = .ok (.istore_n 3, 1) := by decide +kernel
theorem dX3_divide_14 : decode cX3_divide 14 = .ok (.aload_n 1, 1) := by decide +kernel
theorem dX3_divide_15 : decode cX3_divide 15 = .ok (.getfield 15, 3) := by decide +kernel
theorem dX3_divide_18 : decode cX3_divide 18 = .ok (.ifCond .eq 16, 3) := by decide +kernel
theorem dX3_divide_21 : decode cX3_divide 21 = .ok (.iload_n 3, 1) := by decide +kernel
theorem dX3_divide_22 : decode cX3_divide 22 = .ok (.ifCond .lt 12, 3) := by decide +kernel
theorem dX3_divide_25 : decode cX3_divide 25 = .ok (.iload_n 3, 1) := by decide +kernel
theorem dX3_divide_26 : decode cX3_divide 26 = .ok (.aload_n 2, 1) := by decide +kernel
theorem dX3_divide_27 : decode cX3_divide 27 = .ok (.getfield 9, 3) := by decide +kernel
theorem dX3_divide_30 : decode cX3_divide 30 = .ok (.arraylength, 1) := by decide +kernel
theorem dX3_divide_31 : decode cX3_divide 31 = .ok (.if_icmp .lt 4, 3) := by decide +kernel
theorem dX3_divide_34 : decode cX3_divide 34 = .ok (.return_, 1) := by decide +kernel
theorem dX3_divide_35 : decode cX3_divide 35 = .ok (.aload_n 1, 1) := by decide +kernel
theorem dX3_divide_36 : decode cX3_divide 36 = .ok (.getfield 9, 3) := by decide +kernel
theorem dX3_divide_39 : decode cX3_divide 39 = .ok (.aload_n 1, 1) := by decide +kernel
theorem dX3_divide_40 : decode cX3_divide 40 = .ok (.getfield 15, 3) := by decide +kernel
theorem dX3_divide_43 : decode cX3_divide 43 = .ok (.iconst 1, 1) := by decide +kernel
theorem dX3_divide_44 : decode cX3_divide 44 = .ok (.isub, 1) := by decide +kernel
theorem dX3_divide_45 : decode cX3_divide 45 = .ok (.iaload, 1) := by decide +kernel
theorem dX3_divide_46 : decode cX3_divide 46 = .ok (.invokestatic 68, 3) := by decide +kernel
theorem dX3_divide_49 : decode cX3_divide 49 = .ok (.iconst 1, 1) := by decide +kernel
theorem dX3_divide_50 : decode cX3_divide 50 = .ok (.isub, 1) := by decide +kernel
theorem dX3_divide_51 : decode cX3_divide 51 = .ok (.istore 4, 2) := by decide +kernel
theorem dX3_divide_53 : decode cX3_divide 53 = .ok (.aload_n 1, 1) := by decide +kernel
theorem dX3_divide_54 : decode cX3_divide 54 = .ok (.aload_n 1, 1) := by decide +kernel
theorem dX3_divide_55 : decode cX3_divide 55 = .ok (.getfield 15, 3) := by decide +kernel
theorem dX3_divide_58 : decode cX3_divide 58 = .ok (.iconst 1, 1) := by decide +kernel
theorem dX3_divide_59 : decode cX3_divide 59 = .ok (.isub, 1) := by decide +kernel
theorem dX3_divide_60 : decode cX3_divide 60 = .ok (.iload 4, 2) := by decide +kernel
theorem dX3_divide_62 : decode cX3_divide 62 = .ok (.invokevirtual 74, 3) := by decide +kernel
theorem dX3_divide_65 : decode cX3_divide 65 = .ok (.lstore 5, 2) := by decide +kernel
theorem dX3_divide_67 : decode cX3_divide 67 = .ok (.aload_n 1, 1) := by decide +kernel
theorem dX3_divide_68 : decode cX3_divide 68 = .ok (.aload_n 1, 1) := by decide +kernel
theorem dX3_divide_69 : decode cX3_divide 69 = .ok (.getfield 15, 3) := by decide +kernel
theorem dX3_divide_72 : decode cX3_divide 72 = .ok (.iconst 2, 1) := by decide +kernel
theorem dX3_divide_73 : decode cX3_divide 73 = .ok (.isub, 1) := by decide +kernel
theorem dX3_divide_74 : decode cX3_divide 74 = .ok (.iload 4, 2) := by decide +kernel
theorem dX3_divide_76 : decode cX3_divide 76 = .ok (.invokevirtual 74, 3) := by decide +kernel
theorem dX3_divide_79 : decode cX3_divide 79 = .ok (.lstore 7, 2) := by decide +kernel
theorem dX3_divide_81 : decode cX3_divide 81 = .ok (.iload_n 3, 1) := by decide +kernel
theorem dX3_divide_82 : decode cX3_divide 82 = .ok (.istore 9, 2) := by decide +kernel
theorem dX3_divide_84 : decode cX3_divide 84 = .ok (.iload 9, 2) := by decide +kernel
theorem dX3_divide_86 : decode cX3_divide 86 = .ok (.ifCond .lt 105, 3) := by decide +kernel
theorem dX3_divide_89 : decode cX3_divide 89 = .ok (.iload 9, 2) := by decide +kernel
theorem dX3_divide_91 : decode cX3_divide 91 = .ok (.aload_n 1, 1) := by decide +kernel
theorem dX3_divide_92 : decode cX3_divide 92 = .ok (.getfield 15, 3) := by decide +kernel
theorem dX3_divide_95 : decode cX3_divide 95 = .ok (.iadd, 1) := by decide +kernel
theorem dX3_divide_96 : decode cX3_divide 96 = .ok (.istore 10, 2) := by decide +kernel
theorem dX3_divide_98 : decode cX3_divide 98 = .ok (.aload_n 0, 1) := by decide +kernel
theorem dX3_divide_99 : decode cX3_divide 99 = .ok (.iload 10, 2) := by decide +kernel
theorem dX3_divide_101 : decode cX3_divide 101 = .ok (.iload 4, 2) := by decide +kernel
theorem dX3_divide_103 : decode cX3_divide 103 = .ok (.invokevirtual 74, 3) := by decide +kernel
theorem dX3_divide_106 : decode cX3_divide 106 = .ok (.bipush 31, 2) := by decide +kernel
theorem dX3_divide_108 : decode cX3_divide 108 = .ok (.lshl, 1) := by decide +kernel
theorem dX3_divide_109 : decode cX3_divide 109 = .ok (.aload_n 0, 1) := by decide +kernel
theorem dX3_divide_110 : decode cX3_divide 110 = .ok (.iload 10, 2) := by decide +kernel
theorem dX3_divide_112 : decode cX3_divide 112 = .ok (.iconst 1, 1) := by decide +kernel
theorem dX3_divide_113 : decode cX3_divide 113 = .ok (.isub, 1) := by decide +kernel
theorem dX3_divide_114 : decode cX3_divide 114 = .ok (.iload 4, 2) := by decide +kernel
theorem dX3_divide_116 : decode cX3_divide 116 = .ok (.invokevirtual 74, 3) := by decide +kernel
theorem dX3_divide_119 : decode cX3_divide 119 = .ok (.lor, 1) := by decide +kernel
theorem dX3_divide_120 : decode cX3_divide 120 = .ok (.lstore 11, 2) := by decide +kernel
theorem dX3_divide_122 : decode cX3_divide 122 = .ok (.lload 11, 2) := by decide +kernel
theorem dX3_divide_124 : decode cX3_divide 124 = .ok (.aload_n 0, 1) := by decide +kernel
theorem dX3_divide_125 : decode cX3_divide 125 = .ok (.iload 10, 2) := by decide +kernel
theorem dX3_divide_127 : decode cX3_divide 127 = .ok (.iconst 2, 1) := by decide +kernel
theorem dX3_divide_128 : decode cX3_divide 128 = .ok (.isub, 1) := by decide +kernel
theorem dX3_divide_129 : decode cX3_divide 129 = .ok (.iload 4, 2) := by decide +kernel
theorem dX3_divide_131 : decode cX3_divide 131 = .ok (.invokevirtual 74, 3) := by decide +kernel
theorem dX3_divide_134 : decode cX3_divide 134 = .ok (.lload 5, 2) := by decide +kernel
theorem dX3_divide_136 : decode cX3_divide 136 = .ok (.lload 7, 2) := by decide +kernel
theorem dX3_divide_138 : decode cX3_divide 138 = .ok (.invokestatic 78, 3) := by decide +kernel
theorem dX3_divide_141 : decode cX3_divide 141 = .ok (.lstore 13, 2) := by decide +kernel
theorem dX3_divide_143 : decode cX3_divide 143 = .ok (.lload 13, 2) := by decide +kernel
theorem dX3_divide_145 : decode cX3_divide 145 = .ok (.lconst 0, 1) := by decide +kernel
theorem dX3_divide_146 : decode cX3_divide 146 = .ok (.lcmp, 1) := by decide +kernel
theorem dX3_divide_147 : decode cX3_divide 147 = .ok (.ifCond .eq 28, 3) := by decide +kernel
theorem dX3_divide_150 : decode cX3_divide 150 = .ok (.aload_n 0, 1) := by decide +kernel
theorem dX3_divide_151 : decode cX3_divide 151 = .ok (.aload_n 1, 1) := by decide +kernel
theorem dX3_divide_152 : decode cX3_divide 152 = .ok (.lload 13, 2) := by decide +kernel
theorem dX3_divide_154 : decode cX3_divide 154 = .ok (.iload 9, 2) := by decide +kernel
theorem dX3_divide_156 : decode cX3_divide 156 = .ok (.invokevirtual 82, 3) := by decide +kernel
theorem dX3_divide_159 : decode cX3_divide 159 = .ok (.ifCond .eq 16, 3) := by decide +kernel
theorem dX3_divide_162 : decode cX3_divide 162 = .ok (.aload_n 0, 1) := by decide +kernel
theorem dX3_divide_163 : decode cX3_divide 163 = .ok (.aload_n 1, 1) := by decide +kernel
theorem dX3_divide_164 : decode cX3_divide 164 = .ok (.iload 9, 2) := by decide +kernel
theorem dX3_divide_166 : decode cX3_divide 166 = .ok (.invokevirtual 86, 3) := by decide +kernel
theorem dX3_divide_169 : decode cX3_divide 169 = .ok (.lload 13, 2) := by decide +kernel
theorem dX3_divide_171 : decode cX3_divide 171 = .ok (.lconst 1, 1) := by decide +kernel
theorem dX3_divide_172 : decode cX3_divide 172 = .ok (.lsub, 1) := by decide +kernel
theorem dX3_divide_173 : decode cX3_divide 173 = .ok (.lstore 13, 2) := by decide +kernel
theorem dX3_divide_175 : decode cX3_divide 175 = .ok (.aload_n 2, 1) := by decide +kernel
theorem dX3_divide_176 : decode cX3_divide 176 = .ok (.getfield 9, 3) := by decide +kernel
theorem dX3_divide_179 : decode cX3_divide 179 = .ok (.iload 9, 2) := by decide +kernel
theorem dX3_divide_181 : decode cX3_divide 181 = .ok (.lload 13, 2) := by decide +kernel
theorem dX3_divide_183 : decode cX3_divide 183 = .ok (.l2i, 1) := by decide +kernel
theorem dX3_divide_184 : decode cX3_divide 184 = .ok (.iastore, 1) := by decide +kernel
theorem dX3_divide_185 : decode cX3_divide 185 = .ok (.iinc 9 (-1), 3) := by decide +kernel
theorem dX3_divide_188 : decode cX3_divide 188 = .ok (.goto (-104), 3) := by decide +kernel
theorem dX3_divide_191 : decode cX3_divide 191 = .ok (.aload_n 2, 1) := by decide +kernel
theorem dX3_divide_192 : decode cX3_divide 192 = .ok (.iload_n 3, 1) := by decide +kernel
theorem dX3_divide_193 : decode cX3_divide 193 = .ok (.iconst 1, 1) := by decide +kernel
theorem dX3_divide_194 : decode cX3_divide 194 = .ok (.iadd, 1) := by decide +kernel
theorem dX3_divide_195 : decode cX3_divide 195 = .ok (.putfield 15, 3) := by decide +kernel
theorem dX3_divide_198 : decode cX3_divide 198 = .ok (.aload_n 2, 1) := by decide +kernel
theorem dX3_divide_199 : decode cX3_divide 199 = .ok (.aload_n 0, 1) := by decide +kernel
theorem dX3_divide_200 : decode cX3_divide 200 = .ok (.getfield 19, 3) := by decide +kernel
theorem dX3_divide_203 : decode cX3_divide 203 = .ok (.aload_n 1, 1) := by decide +kernel
theorem dX3_divide_204 : decode cX3_divide 204 = .ok (.getfield 19, 3) := by decide +kernel
theorem dX3_divide_207 : decode cX3_divide 207 = .ok (.imul, 1) := by decide +kernel
theorem dX3_divide_208 : decode cX3_divide 208 = .ok (.putfield 19, 3) := by decide +kernel
theorem dX3_divide_211 : decode cX3_divide 211 = .ok (.aload_n 2, 1) := by decide +kernel
theorem dX3_divide_212 : decode cX3_divide 212 = .ok (.invokevirtual 41, 3) := by decide +kernel
theorem dX3_divide_215 : decode cX3_divide 215 = .ok (.aload_n 0, 1) := by decide +kernel
theorem dX3_divide_216 : decode cX3_divide 216 = .ok (.invokevirtual 41, 3) := by decide +kernel
theorem dX3_divide_219 : decode cX3_divide 219 = .ok (.return_, 1) := by decide +kernel
theorem dX3_window_0 : decode cX3_window 0 = .ok (.iload_n 1, 1) := by decide +kernel
theorem dX3_window_1 : decode cX3_window 1 = .ok (.ifCond .lt 20, 3) := by decide +kernel
theorem dX3_window_4 : decode cX3_window 4 = .ok (.iload_n 1, 1) := by decide +kernel
theorem dX3_window_5 : decode cX3_window 5 = .ok (.aload_n 0, 1) := by decide +kernel
theorem dX3_window_6 : decode cX3_window 6 = .ok (.getfield 15, 3) := by decide +kernel
theorem dX3_window_9 : decode cX3_window 9 = .ok (.if_icmp .ge 12, 3) := by decide +kernel
theorem dX3_window_12 : decode cX3_window 12 = .ok (.aload_n 0, 1) := by decide +kernel
theorem dX3_window_13 : decode cX3_window 13 = .ok (.getfield 9, 3) := by decide +kernel
theorem dX3_window_16 : decode cX3_window 16 = .ok (.iload_n 1, 1) := by decide +kernel
theorem dX3_window_17 : decode cX3_window 17 = .ok (.iaload, 1) := by decide +kernel
theorem dX3_window_18 : decode cX3_window 18 = .ok (.goto 4, 3) := by decide +kernel
theorem dX3_window_21 : decode cX3_window 21 = .ok (.iconst 0, 1) := by decide +kernel
theorem dX3_window_22 : decode cX3_window 22 = .ok (.istore_n 3, 1) := by decide +kernel
theorem dX3_window_23 : decode cX3_window 23 = .ok (.iload_n 1, 1) := by decide +kernel
theorem dX3_window_24 : decode cX3_window 24 = .ok (.iconst 1, 1) := by decide +kernel
theorem dX3_window_25 : decode cX3_window 25 = .ok (.if_icmp .lt 22, 3) := by decide +kernel
theorem dX3_window_28 : decode cX3_window 28 = .ok (.iload_n 1, 1) := by decide +kernel
theorem dX3_window_29 : decode cX3_window 29 = .ok (.aload_n 0, 1) := by decide +kernel
theorem dX3_window_30 : decode cX3_window 30 = .ok (.getfield 15, 3) := by decide +kernel
theorem dX3_window_33 : decode cX3_window 33 = .ok (.if_icmp .gt 14, 3) := by decide +kernel
theorem dX3_window_36 : decode cX3_window 36 = .ok (.aload_n 0, 1) := by decide +kernel
theorem dX3_window_37 : decode cX3_window 37 = .ok (.getfield 9, 3) := by decide +kernel
theorem dX3_window_40 : decode cX3_window 40 = .ok (.iload_n 1, 1) := by decide +kernel
theorem dX3_window_41 : decode cX3_window 41 = .ok (.iconst 1, 1) := by decide +kernel
theorem dX3_window_42 : decode cX3_window 42 = .ok (.isub, 1) := by decide +kernel
theorem dX3_window_43 : decode cX3_window 43 = .ok (.iaload, 1) := by decide +kernel
theorem dX3_window_44 : decode cX3_window 44 = .ok (.goto 4, 3) := by decide +kernel
theorem dX3_window_47 : decode cX3_window 47 = .ok (.iconst 0, 1) := by decide +kernel
theorem dX3_window_48 : decode cX3_window 48 = .ok (.istore 4, 2) := by decide +kernel
theorem dX3_window_50 : decode cX3_window 50 = .ok (.iload_n 3, 1) := by decide +kernel
theorem dX3_window_51 : decode cX3_window 51 = .ok (.iload_n 2, 1) := by decide +kernel
theorem dX3_window_52 : decode cX3_window 52 = .ok (.ishl, 1) := by decide +kernel
theorem dX3_window_53 : decode cX3_window 53 = .ok (.iload 4, 2) := by decide +kernel
theorem dX3_window_55 : decode cX3_window 55 = .ok (.bipush 31, 2) := by decide +kernel
theorem dX3_window_57 : decode cX3_window 57 = .ok (.iload_n 2, 1) := by decide +kernel
theorem dX3_window_58 : decode cX3_window 58 = .ok (.isub, 1) := by decide +kernel
theorem dX3_window_59 : decode cX3_window 59 = .ok (.iushr, 1) := by decide +kernel
theorem dX3_window_60 : decode cX3_window 60 = .ok (.ior, 1) := by decide +kernel
theorem dX3_window_61 : decode cX3_window 61 = .ok (.ldc 59, 2) := by decide +kernel
theorem dX3_window_63 : decode cX3_window 63 = .ok (.iand, 1) := by decide +kernel
theorem dX3_window_64 : decode cX3_window 64 = .ok (.i2l, 1) := by decide +kernel
theorem dX3_window_65 : decode cX3_window 65 = .ok (.lreturn, 1) := by decide +kernel
theorem dX3_guess_0 : decode cX3_guess 0 = .ok (.lload 4, 2) := by decide +kernel
theorem dX3_guess_2 : decode cX3_guess 2 = .ok (.lconst 0, 1) := by decide +kernel
theorem dX3_guess_3 : decode cX3_guess 3 = .ok (.lcmp, 1) := by decide +kernel
theorem dX3_guess_4 : decode cX3_guess 4 = .ok (.ifCond .gt 5, 3) := by decide +kernel
theorem dX3_guess_7 : decode cX3_guess 7 = .ok (.lconst 0, 1) := by decide +kernel
theorem dX3_guess_8 : decode cX3_guess 8 = .ok (.lreturn, 1) := by decide +kernel
theorem dX3_guess_9 : decode cX3_guess 9 = .ok (.lload_n 0, 1) := by decide +kernel
theorem dX3_guess_10 : decode cX3_guess 10 = .ok (.lload 4, 2) := by decide +kernel
theorem dX3_guess_12 : decode cX3_guess 12 = .ok (.ldiv, 1) := by decide +kernel
theorem dX3_guess_13 : decode cX3_guess 13 = .ok (.ldc2_w 60, 3) := by decide +kernel
theorem dX3_guess_16 : decode cX3_guess 16 = .ok (.invokestatic 90, 3) := by decide +kernel
theorem dX3_guess_19 : decode cX3_guess 19 = .ok (.lstore 8, 2) := by decide +kernel
theorem dX3_guess_21 : decode cX3_guess 21 = .ok (.lload_n 0, 1) := by decide +kernel
theorem dX3_guess_22 : decode cX3_guess 22 = .ok (.lload 8, 2) := by decide +kernel
theorem dX3_guess_24 : decode cX3_guess 24 = .ok (.lload 4, 2) := by decide +kernel
theorem dX3_guess_26 : decode cX3_guess 26 = .ok (.lmul, 1) := by decide +kernel
theorem dX3_guess_27 : decode cX3_guess 27 = .ok (.lsub, 1) := by decide +kernel
theorem dX3_guess_28 : decode cX3_guess 28 = .ok (.lstore 10, 2) := by decide +kernel
theorem dX3_guess_30 : decode cX3_guess 30 = .ok (.iconst 0, 1) := by decide +kernel
theorem dX3_guess_31 : decode cX3_guess 31 = .ok (.istore 12, 2) := by decide +kernel
theorem dX3_guess_33 : decode cX3_guess 33 = .ok (.iload 12, 2) := by decide +kernel
theorem dX3_guess_35 : decode cX3_guess 35 = .ok (.iconst 2, 1) := by decide +kernel
theorem dX3_guess_36 : decode cX3_guess 36 = .ok (.if_icmp .ge 50, 3) := by decide +kernel
theorem dX3_guess_39 : decode cX3_guess 39 = .ok (.lload 10, 2) := by decide +kernel
theorem dX3_guess_41 : decode cX3_guess 41 = .ok (.ldc2_w 60, 3) := by decide +kernel
theorem dX3_guess_44 : decode cX3_guess 44 = .ok (.lcmp, 1) := by decide +kernel
theorem dX3_guess_45 : decode cX3_guess 45 = .ok (.ifCond .gt 41, 3) := by decide +kernel
theorem dX3_guess_48 : decode cX3_guess 48 = .ok (.lload 8, 2) := by decide +kernel
theorem dX3_guess_50 : decode cX3_guess 50 = .ok (.lload 6, 2) := by decide +kernel
theorem dX3_guess_52 : decode cX3_guess 52 = .ok (.lmul, 1) := by decide +kernel
theorem dX3_guess_53 : decode cX3_guess 53 = .ok (.lload 10, 2) := by decide +kernel
theorem dX3_guess_55 : decode cX3_guess 55 = .ok (.bipush 31, 2) := by decide +kernel
theorem dX3_guess_57 : decode cX3_guess 57 = .ok (.lshl, 1) := by decide +kernel
theorem dX3_guess_58 : decode cX3_guess 58 = .ok (.lload_n 2, 1) := by decide +kernel
theorem dX3_guess_59 : decode cX3_guess 59 = .ok (.lor, 1) := by decide +kernel
theorem dX3_guess_60 : decode cX3_guess 60 = .ok (.lcmp, 1) := by decide +kernel
theorem dX3_guess_61 : decode cX3_guess 61 = .ok (.ifCond .gt 6, 3) := by decide +kernel
theorem dX3_guess_64 : decode cX3_guess 64 = .ok (.lload 8, 2) := by decide +kernel
theorem dX3_guess_66 : decode cX3_guess 66 = .ok (.lreturn, 1) := by decide +kernel
theorem dX3_guess_67 : decode cX3_guess 67 = .ok (.lload 8, 2) := by decide +kernel
theorem dX3_guess_69 : decode cX3_guess 69 = .ok (.lconst 1, 1) := by decide +kernel
theorem dX3_guess_70 : decode cX3_guess 70 = .ok (.lsub, 1) := by decide +kernel
theorem dX3_guess_71 : decode cX3_guess 71 = .ok (.lstore 8, 2) := by decide +kernel
theorem dX3_guess_73 : decode cX3_guess 73 = .ok (.lload 10, 2) := by decide +kernel
theorem dX3_guess_75 : decode cX3_guess 75 = .ok (.lload 4, 2) := by decide +kernel
theorem dX3_guess_77 : decode cX3_guess 77 = .ok (.ladd, 1) := by decide +kernel
theorem dX3_guess_78 : decode cX3_guess 78 = .ok (.lstore 10, 2) := by decide +kernel
theorem dX3_guess_80 : decode cX3_guess 80 = .ok (.iinc 12 1, 3) := by decide +kernel
theorem dX3_guess_83 : decode cX3_guess 83 = .ok (.goto (-50), 3) := by decide +kernel
theorem dX3_guess_86 : decode cX3_guess 86 = .ok (.lload 8, 2) := by decide +kernel
theorem dX3_guess_88 : decode cX3_guess 88 = .ok (.lreturn, 1) := by decide +kernel
theorem dX3_takesTooMuch_0 : decode cX3_takesTooMuch 0 = .ok (.lconst 0, 1) := by decide +kernel
theorem dX3_takesTooMuch_1 : decode cX3_takesTooMuch 1 = .ok (.lstore 5, 2) := by decide +kernel
theorem dX3_takesTooMuch_3 : decode cX3_takesTooMuch 3 = .ok (.iconst 0, 1) := by decide +kernel
theorem dX3_takesTooMuch_4 : decode cX3_takesTooMuch 4 = .ok (.istore 7, 2) := by decide +kernel
theorem dX3_takesTooMuch_6 : decode cX3_takesTooMuch 6 = .ok (.iload 7, 2) := by decide +kernel
theorem dX3_takesTooMuch_8 : decode cX3_takesTooMuch 8 = .ok (.aload_n 1, 1) := by decide +kernel
theorem dX3_takesTooMuch_9 : decode cX3_takesTooMuch 9 = .ok (.getfield 15, 3) := by decide +kernel
theorem dX3_takesTooMuch_12 : decode cX3_takesTooMuch 12 = .ok (.if_icmp .ge 72, 3) := by decide +kernel
theorem dX3_takesTooMuch_15 : decode cX3_takesTooMuch 15 = .ok (.iload 4, 2) := by decide +kernel
theorem dX3_takesTooMuch_17 : decode cX3_takesTooMuch 17 = .ok (.iload 7, 2) := by decide +kernel
theorem dX3_takesTooMuch_19 : decode cX3_takesTooMuch 19 = .ok (.iadd, 1) := by decide +kernel
theorem dX3_takesTooMuch_20 : decode cX3_takesTooMuch 20 = .ok (.aload_n 0, 1) := by decide +kernel
theorem dX3_takesTooMuch_21 : decode cX3_takesTooMuch 21 = .ok (.getfield 15, 3) := by decide +kernel
theorem dX3_takesTooMuch_24 : decode cX3_takesTooMuch 24 = .ok (.if_icmp .ge 60, 3) := by decide +kernel
theorem dX3_takesTooMuch_27 : decode cX3_takesTooMuch 27 = .ok (.aload_n 0, 1) := by decide +kernel
theorem dX3_takesTooMuch_28 : decode cX3_takesTooMuch 28 = .ok (.getfield 9, 3) := by decide +kernel
theorem dX3_takesTooMuch_31 : decode cX3_takesTooMuch 31 = .ok (.iload 4, 2) := by decide +kernel
theorem dX3_takesTooMuch_33 : decode cX3_takesTooMuch 33 = .ok (.iload 7, 2) := by decide +kernel
theorem dX3_takesTooMuch_35 : decode cX3_takesTooMuch 35 = .ok (.iadd, 1) := by decide +kernel
theorem dX3_takesTooMuch_36 : decode cX3_takesTooMuch 36 = .ok (.iaload, 1) := by decide +kernel
theorem dX3_takesTooMuch_37 : decode cX3_takesTooMuch 37 = .ok (.i2l, 1) := by decide +kernel
theorem dX3_takesTooMuch_38 : decode cX3_takesTooMuch 38 = .ok (.aload_n 1, 1) := by decide +kernel
theorem dX3_takesTooMuch_39 : decode cX3_takesTooMuch 39 = .ok (.getfield 9, 3) := by decide +kernel
theorem dX3_takesTooMuch_42 : decode cX3_takesTooMuch 42 = .ok (.iload 7, 2) := by decide +kernel
theorem dX3_takesTooMuch_44 : decode cX3_takesTooMuch 44 = .ok (.iaload, 1) := by decide +kernel
theorem dX3_takesTooMuch_45 : decode cX3_takesTooMuch 45 = .ok (.i2l, 1) := by decide +kernel
theorem dX3_takesTooMuch_46 : decode cX3_takesTooMuch 46 = .ok (.lload_n 2, 1) := by decide +kernel
theorem dX3_takesTooMuch_47 : decode cX3_takesTooMuch 47 = .ok (.lmul, 1) := by decide +kernel
theorem dX3_takesTooMuch_48 : decode cX3_takesTooMuch 48 = .ok (.lsub, 1) := by decide +kernel
theorem dX3_takesTooMuch_49 : decode cX3_takesTooMuch 49 = .ok (.lload 5, 2) := by decide +kernel
theorem dX3_takesTooMuch_51 : decode cX3_takesTooMuch 51 = .ok (.ladd, 1) := by decide +kernel
theorem dX3_takesTooMuch_52 : decode cX3_takesTooMuch 52 = .ok (.lstore 8, 2) := by decide +kernel
theorem dX3_takesTooMuch_54 : decode cX3_takesTooMuch 54 = .ok (.aload_n 0, 1) := by decide +kernel
theorem dX3_takesTooMuch_55 : decode cX3_takesTooMuch 55 = .ok (.getfield 9, 3) := by decide +kernel
theorem dX3_takesTooMuch_58 : decode cX3_takesTooMuch 58 = .ok (.iload 4, 2) := by decide +kernel
theorem dX3_takesTooMuch_60 : decode cX3_takesTooMuch 60 = .ok (.iload 7, 2) := by decide +kernel
theorem dX3_takesTooMuch_62 : decode cX3_takesTooMuch 62 = .ok (.iadd, 1) := by decide +kernel
theorem dX3_takesTooMuch_63 : decode cX3_takesTooMuch 63 = .ok (.lload 8, 2) := by decide +kernel
theorem dX3_takesTooMuch_65 : decode cX3_takesTooMuch 65 = .ok (.ldc2_w 60, 3) := by decide +kernel
theorem dX3_takesTooMuch_68 : decode cX3_takesTooMuch 68 = .ok (.land, 1) := by decide +kernel
theorem dX3_takesTooMuch_69 : decode cX3_takesTooMuch 69 = .ok (.l2i, 1) := by decide +kernel
theorem dX3_takesTooMuch_70 : decode cX3_takesTooMuch 70 = .ok (.iastore, 1) := by decide +kernel
theorem dX3_takesTooMuch_71 : decode cX3_takesTooMuch 71 = .ok (.lload 8, 2) := by decide +kernel
theorem dX3_takesTooMuch_73 : decode cX3_takesTooMuch 73 = .ok (.bipush 31, 2) := by decide +kernel
theorem dX3_takesTooMuch_75 : decode cX3_takesTooMuch 75 = .ok (.lshr, 1) := by decide +kernel
theorem dX3_takesTooMuch_76 : decode cX3_takesTooMuch 76 = .ok (.lstore 5, 2) := by decide +kernel
theorem dX3_takesTooMuch_78 : decode cX3_takesTooMuch 78 = .ok (.iinc 7 1, 3) := by decide +kernel
theorem dX3_takesTooMuch_81 : decode cX3_takesTooMuch 81 = .ok (.goto (-75), 3) := by decide +kernel
theorem dX3_takesTooMuch_84 : decode cX3_takesTooMuch 84 = .ok (.iload 4, 2) := by decide +kernel
theorem dX3_takesTooMuch_86 : decode cX3_takesTooMuch 86 = .ok (.aload_n 1, 1) := by decide +kernel
theorem dX3_takesTooMuch_87 : decode cX3_takesTooMuch 87 = .ok (.getfield 15, 3) := by decide +kernel
theorem dX3_takesTooMuch_90 : decode cX3_takesTooMuch 90 = .ok (.iadd, 1) := by decide +kernel
theorem dX3_takesTooMuch_91 : decode cX3_takesTooMuch 91 = .ok (.istore 7, 2) := by decide +kernel
theorem dX3_takesTooMuch_93 : decode cX3_takesTooMuch 93 = .ok (.iload 7, 2) := by decide +kernel
theorem dX3_takesTooMuch_95 : decode cX3_takesTooMuch 95 = .ok (.aload_n 0, 1) := by decide +kernel
theorem dX3_takesTooMuch_96 : decode cX3_takesTooMuch 96 = .ok (.getfield 15, 3) := by decide +kernel
theorem dX3_takesTooMuch_99 : decode cX3_takesTooMuch 99 = .ok (.if_icmp .ge 30, 3) := by decide +kernel
theorem dX3_takesTooMuch_102 : decode cX3_takesTooMuch 102 = .ok (.lload 5, 2) := by decide +kernel
theorem dX3_takesTooMuch_104 : decode cX3_takesTooMuch 104 = .ok (.aload_n 0, 1) := by decide +kernel
theorem dX3_takesTooMuch_105 : decode cX3_takesTooMuch 105 = .ok (.getfield 9, 3) := by decide +kernel
theorem dX3_takesTooMuch_108 : decode cX3_takesTooMuch 108 = .ok (.iload 7, 2) := by decide +kernel
theorem dX3_takesTooMuch_110 : decode cX3_takesTooMuch 110 = .ok (.iaload, 1) := by decide +kernel
theorem dX3_takesTooMuch_111 : decode cX3_takesTooMuch 111 = .ok (.i2l, 1) := by decide +kernel
theorem dX3_takesTooMuch_112 : decode cX3_takesTooMuch 112 = .ok (.ladd, 1) := by decide +kernel
theorem dX3_takesTooMuch_113 : decode cX3_takesTooMuch 113 = .ok (.lstore 5, 2) := by decide +kernel
theorem dX3_takesTooMuch_115 : decode cX3_takesTooMuch 115 = .ok (.aload_n 0, 1) := by decide +kernel
theorem dX3_takesTooMuch_116 : decode cX3_takesTooMuch 116 = .ok (.getfield 9, 3) := by decide +kernel
theorem dX3_takesTooMuch_119 : decode cX3_takesTooMuch 119 = .ok (.iload 7, 2) := by decide +kernel
theorem dX3_takesTooMuch_121 : decode cX3_takesTooMuch 121 = .ok (.lload 5, 2) := by decide +kernel
theorem dX3_takesTooMuch_123 : decode cX3_takesTooMuch 123 = .ok (.ldc2_w 60, 3) := by decide +kernel
theorem dX3_takesTooMuch_126 : decode cX3_takesTooMuch 126 = .ok (.land, 1) := by decide +kernel
theorem dX3_takesTooMuch_127 : decode cX3_takesTooMuch 127 = .ok (.l2i, 1) := by decide +kernel
theorem dX3_takesTooMuch_128 : decode cX3_takesTooMuch 128 = .ok (.iastore, 1) := by decide +kernel
theorem dX3_takesTooMuch_129 : decode cX3_takesTooMuch 129 = .ok (.lload 5, 2) := by decide +kernel
theorem dX3_takesTooMuch_131 : decode cX3_takesTooMuch 131 = .ok (.lconst 0, 1) := by decide +kernel
theorem dX3_takesTooMuch_132 : decode cX3_takesTooMuch 132 = .ok (.lcmp, 1) := by decide +kernel
theorem dX3_takesTooMuch_133 : decode cX3_takesTooMuch 133 = .ok (.ifCond .ge 7, 3) := by decide +kernel
theorem dX3_takesTooMuch_136 : decode cX3_takesTooMuch 136 = .ok (.iconst 1, 1) := by decide +kernel
theorem dX3_takesTooMuch_137 : decode cX3_takesTooMuch 137 = .ok (.goto 4, 3) := by decide +kernel
theorem dX3_takesTooMuch_140 : decode cX3_takesTooMuch 140 = .ok (.iconst 0, 1) := by decide +kernel
theorem dX3_takesTooMuch_141 : decode cX3_takesTooMuch 141 = .ok (.ireturn, 1) := by decide +kernel
theorem dX3_giveBack_0 : decode cX3_giveBack 0 = .ok (.iconst 0, 1) := by decide +kernel
theorem dX3_giveBack_1 : decode cX3_giveBack 1 = .ok (.istore_n 3, 1) := by decide +kernel
theorem dX3_giveBack_2 : decode cX3_giveBack 2 = .ok (.iconst 0, 1) := by decide +kernel
theorem dX3_giveBack_3 : decode cX3_giveBack 3 = .ok (.istore 4, 2) := by decide +kernel
theorem dX3_giveBack_5 : decode cX3_giveBack 5 = .ok (.iload 4, 2) := by decide +kernel
theorem dX3_giveBack_7 : decode cX3_giveBack 7 = .ok (.aload_n 1, 1) := by decide +kernel
theorem dX3_giveBack_8 : decode cX3_giveBack 8 = .ok (.getfield 15, 3) := by decide +kernel
theorem dX3_giveBack_11 : decode cX3_giveBack 11 = .ok (.if_icmp .ge 61, 3) := by decide +kernel
theorem dX3_giveBack_14 : decode cX3_giveBack 14 = .ok (.iload_n 2, 1) := by decide +kernel
theorem dX3_giveBack_15 : decode cX3_giveBack 15 = .ok (.iload 4, 2) := by decide +kernel
theorem dX3_giveBack_17 : decode cX3_giveBack 17 = .ok (.iadd, 1) := by decide +kernel
theorem dX3_giveBack_18 : decode cX3_giveBack 18 = .ok (.aload_n 0, 1) := by decide +kernel
theorem dX3_giveBack_19 : decode cX3_giveBack 19 = .ok (.getfield 15, 3) := by decide +kernel
theorem dX3_giveBack_22 : decode cX3_giveBack 22 = .ok (.if_icmp .ge 50, 3) := by decide +kernel
theorem dX3_giveBack_25 : decode cX3_giveBack 25 = .ok (.aload_n 0, 1) := by decide +kernel
theorem dX3_giveBack_26 : decode cX3_giveBack 26 = .ok (.getfield 9, 3) := by decide +kernel
theorem dX3_giveBack_29 : decode cX3_giveBack 29 = .ok (.iload_n 2, 1) := by decide +kernel
theorem dX3_giveBack_30 : decode cX3_giveBack 30 = .ok (.iload 4, 2) := by decide +kernel
theorem dX3_giveBack_32 : decode cX3_giveBack 32 = .ok (.iadd, 1) := by decide +kernel
theorem dX3_giveBack_33 : decode cX3_giveBack 33 = .ok (.iaload, 1) := by decide +kernel
theorem dX3_giveBack_34 : decode cX3_giveBack 34 = .ok (.aload_n 1, 1) := by decide +kernel
theorem dX3_giveBack_35 : decode cX3_giveBack 35 = .ok (.getfield 9, 3) := by decide +kernel
theorem dX3_giveBack_38 : decode cX3_giveBack 38 = .ok (.iload 4, 2) := by decide +kernel
theorem dX3_giveBack_40 : decode cX3_giveBack 40 = .ok (.iaload, 1) := by decide +kernel
theorem dX3_giveBack_41 : decode cX3_giveBack 41 = .ok (.iadd, 1) := by decide +kernel
theorem dX3_giveBack_42 : decode cX3_giveBack 42 = .ok (.iload_n 3, 1) := by decide +kernel
theorem dX3_giveBack_43 : decode cX3_giveBack 43 = .ok (.iadd, 1) := by decide +kernel
theorem dX3_giveBack_44 : decode cX3_giveBack 44 = .ok (.istore 5, 2) := by decide +kernel
theorem dX3_giveBack_46 : decode cX3_giveBack 46 = .ok (.aload_n 0, 1) := by decide +kernel
theorem dX3_giveBack_47 : decode cX3_giveBack 47 = .ok (.getfield 9, 3) := by decide +kernel
theorem dX3_giveBack_50 : decode cX3_giveBack 50 = .ok (.iload_n 2, 1) := by decide +kernel
theorem dX3_giveBack_51 : decode cX3_giveBack 51 = .ok (.iload 4, 2) := by decide +kernel
theorem dX3_giveBack_53 : decode cX3_giveBack 53 = .ok (.iadd, 1) := by decide +kernel
theorem dX3_giveBack_54 : decode cX3_giveBack 54 = .ok (.iload 5, 2) := by decide +kernel
theorem dX3_giveBack_56 : decode cX3_giveBack 56 = .ok (.ldc 59, 2) := by decide +kernel
theorem dX3_giveBack_58 : decode cX3_giveBack 58 = .ok (.iand, 1) := by decide +kernel
theorem dX3_giveBack_59 : decode cX3_giveBack 59 = .ok (.iastore, 1) := by decide +kernel
theorem dX3_giveBack_60 : decode cX3_giveBack 60 = .ok (.iload 5, 2) := by decide +kernel
theorem dX3_giveBack_62 : decode cX3_giveBack 62 = .ok (.bipush 31, 2) := by decide +kernel
theorem dX3_giveBack_64 : decode cX3_giveBack 64 = .ok (.iushr, 1) := by decide +kernel
theorem dX3_giveBack_65 : decode cX3_giveBack 65 = .ok (.istore_n 3, 1) := by decide +kernel
theorem dX3_giveBack_66 : decode cX3_giveBack 66 = .ok (.iinc 4 1, 3) := by decide +kernel
theorem dX3_giveBack_69 : decode cX3_giveBack 69 = .ok (.goto (-64), 3) := by decide +kernel
theorem dX3_giveBack_72 : decode cX3_giveBack 72 = .ok (.iload_n 2, 1) := by decide +kernel
theorem dX3_giveBack_73 : decode cX3_giveBack 73 = .ok (.aload_n 1, 1) := by decide +kernel
theorem dX3_giveBack_74 : decode cX3_giveBack 74 = .ok (.getfield 15, 3) := by decide +kernel
theorem dX3_giveBack_77 : decode cX3_giveBack 77 = .ok (.iadd, 1) := by decide +kernel
theorem dX3_giveBack_78 : decode cX3_giveBack 78 = .ok (.istore 4, 2) := by decide +kernel
theorem dX3_giveBack_80 : decode cX3_giveBack 80 = .ok (.iload 4, 2) := by decide +kernel
theorem dX3_giveBack_82 : decode cX3_giveBack 82 = .ok (.aload_n 0, 1) := by decide +kernel
theorem dX3_giveBack_83 : decode cX3_giveBack 83 = .ok (.getfield 15, 3) := by decide +kernel
theorem dX3_giveBack_86 : decode cX3_giveBack 86 = .ok (.if_icmp .ge 22, 3) := by decide +kernel
theorem dX3_giveBack_89 : decode cX3_giveBack 89 = .ok (.aload_n 0, 1) := by decide +kernel
theorem dX3_giveBack_90 : decode cX3_giveBack 90 = .ok (.getfield 9, 3) := by decide +kernel
theorem dX3_giveBack_93 : decode cX3_giveBack 93 = .ok (.iload 4, 2) := by decide +kernel
theorem dX3_giveBack_95 : decode cX3_giveBack 95 = .ok (.aload_n 0, 1) := by decide +kernel
theorem dX3_giveBack_96 : decode cX3_giveBack 96 = .ok (.getfield 9, 3) := by decide +kernel
theorem dX3_giveBack_99 : decode cX3_giveBack 99 = .ok (.iload 4, 2) := by decide +kernel
theorem dX3_giveBack_101 : decode cX3_giveBack 101 = .ok (.iaload, 1) := by decide +kernel
theorem dX3_giveBack_102 : decode cX3_giveBack 102 = .ok (.iload_n 3, 1) := by decide +kernel
theorem dX3_giveBack_103 : decode cX3_giveBack 103 = .ok (.iadd, 1) := by decide +kernel
theorem dX3_giveBack_104 : decode cX3_giveBack 104 = .ok (.ldc 59, 2) := by decide +kernel
theorem dX3_giveBack_106 : decode cX3_giveBack 106 = .ok (.iand, 1) := by decide +kernel
theorem dX3_giveBack_107 : decode cX3_giveBack 107 = .ok (.iastore, 1) := by decide +kernel
theorem dX3_giveBack_108 : decode cX3_giveBack 108 = .ok (.return_, 1) := by decide +kernel
