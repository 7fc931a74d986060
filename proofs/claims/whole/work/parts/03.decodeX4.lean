theorem dX4_init_0 : decode cX4_init 0 = .ok (.aload_n 0, 1) := by decide +kernel
theorem dX4_init_1 : decode cX4_init 1 = .ok (.invokespecial 1, 3) := by decide +kernel
theorem dX4_init_4 : decode cX4_init 4 = .ok (.aload_n 0, 1) := by decide +kernel
theorem dX4_init_5 : decode cX4_init 5 = .ok (.bipush 8, 2) := by decide +kernel
theorem dX4_init_7 : decode cX4_init 7 = .ok (.anewarray 9, 3) := by decide +kernel
theorem dX4_init_10 : decode cX4_init 10 = .ok (.putfield 11, 3) := by decide +kernel
theorem dX4_init_13 : decode cX4_init 13 = .ok (.iconst 0, 1) := by decide +kernel
theorem dX4_init_14 : decode cX4_init 14 = .ok (.istore_n 1, 1) := by decide +kernel
theorem dX4_init_15 : decode cX4_init 15 = .ok (.iload_n 1, 1) := by decide +kernel
theorem dX4_init_16 : decode cX4_init 16 = .ok (.bipush 8, 2) := by decide +kernel
theorem dX4_init_18 : decode cX4_init 18 = .ok (.if_icmp .ge 26, 3) := by decide +kernel
theorem dX4_init_21 : decode cX4_init 21 = .ok (.aload_n 0, 1) := by decide +kernel
theorem dX4_init_22 : decode cX4_init 22 = .ok (.getfield 11, 3) := by decide +kernel
theorem dX4_init_25 : decode cX4_init 25 = .ok (.iload_n 1, 1) := by decide +kernel
theorem dX4_init_26 : decode cX4_init 26 = .ok (.new 9, 3) := by decide +kernel
theorem dX4_init_29 : decode cX4_init 29 = .ok (.dup, 1) := by decide +kernel
theorem dX4_init_30 : decode cX4_init 30 = .ok (.bipush 8, 2) := by decide +kernel
theorem dX4_init_32 : decode cX4_init 32 = .ok (.bipush 6, 2) := by decide +kernel
theorem dX4_init_34 : decode cX4_init 34 = .ok (.invokespecial 15, 3) := by decide +kernel
theorem dX4_init_37 : decode cX4_init 37 = .ok (.aastore, 1) := by decide +kernel
theorem dX4_init_38 : decode cX4_init 38 = .ok (.iinc 1 1, 3) := by decide +kernel
theorem dX4_init_41 : decode cX4_init 41 = .ok (.goto (-26), 3) := by decide +kernel
theorem dX4_init_44 : decode cX4_init 44 = .ok (.aload_n 0, 1) := by decide +kernel
theorem dX4_init_45 : decode cX4_init 45 = .ok (.new 18, 3) := by decide +kernel
theorem dX4_init_48 : decode cX4_init 48 = .ok (.dup, 1) := by decide +kernel
theorem dX4_init_49 : decode cX4_init 49 = .ok (.invokespecial 20, 3) := by decide +kernel
theorem dX4_init_52 : decode cX4_init 52 = .ok (.putfield 21, 3) := by decide +kernel
theorem dX4_init_55 : decode cX4_init 55 = .ok (.aload_n 0, 1) := by decide +kernel
theorem dX4_init_56 : decode cX4_init 56 = .ok (.aload_n 0, 1) := by decide +kernel
theorem dX4_init_57 : decode cX4_init 57 = .ok (.getfield 21, 3) := by decide +kernel
theorem dX4_init_60 : decode cX4_init 60 = .ok (.getfield 25, 3) := by decide +kernel
theorem dX4_init_63 : decode cX4_init 63 = .ok (.putfield 29, 3) := by decide +kernel
theorem dX4_init_66 : decode cX4_init 66 = .ok (.aload_n 0, 1) := by decide +kernel
theorem dX4_init_67 : decode cX4_init 67 = .ok (.iconst (-1), 1) := by decide +kernel
theorem dX4_init_68 : decode cX4_init 68 = .ok (.putfield 30, 3) := by decide +kernel
theorem dX4_init_71 : decode cX4_init 71 = .ok (.return_, 1) := by decide +kernel
theorem dX4_coefficient_0 : decode cX4_coefficient 0 = .ok (.aload_n 0, 1) := by decide +kernel
theorem dX4_coefficient_1 : decode cX4_coefficient 1 = .ok (.iconst (-1), 1) := by decide +kernel
theorem dX4_coefficient_2 : decode cX4_coefficient 2 = .ok (.putfield 30, 3) := by decide +kernel
theorem dX4_coefficient_5 : decode cX4_coefficient 5 = .ok (.iload_n 1, 1) := by decide +kernel
theorem dX4_coefficient_6 : decode cX4_coefficient 6 = .ok (.iload_n 2, 1) := by decide +kernel
theorem dX4_coefficient_7 : decode cX4_coefficient 7 = .ok (.invokestatic 34, 3) := by decide +kernel
theorem dX4_coefficient_10 : decode cX4_coefficient 10 = .ok (.ifCond .ne 5, 3) := by decide +kernel
theorem dX4_coefficient_13 : decode cX4_coefficient 13 = .ok (.iconst 0, 1) := by decide +kernel
theorem dX4_coefficient_14 : decode cX4_coefficient 14 = .ok (.ireturn, 1) := by decide +kernel
theorem dX4_coefficient_15 : decode cX4_coefficient 15 = .ok (.aload_n 0, 1) := by decide +kernel
theorem dX4_coefficient_16 : decode cX4_coefficient 16 = .ok (.getfield 11, 3) := by decide +kernel
theorem dX4_coefficient_19 : decode cX4_coefficient 19 = .ok (.iload_n 1, 1) := by decide +kernel
theorem dX4_coefficient_20 : decode cX4_coefficient 20 = .ok (.aaload, 1) := by decide +kernel
theorem dX4_coefficient_21 : decode cX4_coefficient 21 = .ok (.getfield 38, 3) := by decide +kernel
theorem dX4_coefficient_24 : decode cX4_coefficient 24 = .ok (.iload_n 2, 1) := by decide +kernel
theorem dX4_coefficient_25 : decode cX4_coefficient 25 = .ok (.aaload, 1) := by decide +kernel
theorem dX4_coefficient_26 : decode cX4_coefficient 26 = .ok (.invokevirtual 42, 3) := by decide +kernel
theorem dX4_coefficient_29 : decode cX4_coefficient 29 = .ok (.aload_n 0, 1) := by decide +kernel
theorem dX4_coefficient_30 : decode cX4_coefficient 30 = .ok (.getfield 11, 3) := by decide +kernel
theorem dX4_coefficient_33 : decode cX4_coefficient 33 = .ok (.iload_n 1, 1) := by decide +kernel
theorem dX4_coefficient_34 : decode cX4_coefficient 34 = .ok (.aaload, 1) := by decide +kernel
theorem dX4_coefficient_35 : decode cX4_coefficient 35 = .ok (.invokevirtual 47, 3) := by decide +kernel
theorem dX4_coefficient_38 : decode cX4_coefficient 38 = .ok (.aload_n 0, 1) := by decide +kernel
theorem dX4_coefficient_39 : decode cX4_coefficient 39 = .ok (.iload_n 1, 1) := by decide +kernel
theorem dX4_coefficient_40 : decode cX4_coefficient 40 = .ok (.putfield 30, 3) := by decide +kernel
theorem dX4_coefficient_43 : decode cX4_coefficient 43 = .ok (.aload_n 0, 1) := by decide +kernel
theorem dX4_coefficient_44 : decode cX4_coefficient 44 = .ok (.iload_n 2, 1) := by decide +kernel
theorem dX4_coefficient_45 : decode cX4_coefficient 45 = .ok (.putfield 50, 3) := by decide +kernel
theorem dX4_coefficient_48 : decode cX4_coefficient 48 = .ok (.aload_n 0, 1) := by decide +kernel
theorem dX4_coefficient_49 : decode cX4_coefficient 49 = .ok (.iload_n 3, 1) := by decide +kernel
theorem dX4_coefficient_50 : decode cX4_coefficient 50 = .ok (.ifCond .ge 7, 3) := by decide +kernel
theorem dX4_coefficient_53 : decode cX4_coefficient 53 = .ok (.iconst (-1), 1) := by decide +kernel
theorem dX4_coefficient_54 : decode cX4_coefficient 54 = .ok (.goto 4, 3) := by decide +kernel
theorem dX4_coefficient_57 : decode cX4_coefficient 57 = .ok (.iconst 1, 1) := by decide +kernel
theorem dX4_coefficient_58 : decode cX4_coefficient 58 = .ok (.putfield 53, 3) := by decide +kernel
theorem dX4_coefficient_61 : decode cX4_coefficient 61 = .ok (.aload_n 0, 1) := by decide +kernel
theorem dX4_coefficient_62 : decode cX4_coefficient 62 = .ok (.iconst 0, 1) := by decide +kernel
theorem dX4_coefficient_63 : decode cX4_coefficient 63 = .ok (.putfield 56, 3) := by decide +kernel
theorem dX4_coefficient_66 : decode cX4_coefficient 66 = .ok (.iconst 1, 1) := by decide +kernel
theorem dX4_coefficient_67 : decode cX4_coefficient 67 = .ok (.ireturn, 1) := by decide +kernel
theorem dX4_word_0 : decode cX4_word 0 = .ok (.aload_n 0, 1) := by decide +kernel
theorem dX4_word_1 : decode cX4_word 1 = .ok (.getfield 30, 3) := by decide +kernel
theorem dX4_word_4 : decode cX4_word 4 = .ok (.aload_n 0, 1) := by decide +kernel
theorem dX4_word_5 : decode cX4_word 5 = .ok (.getfield 50, 3) := by decide +kernel
theorem dX4_word_8 : decode cX4_word 8 = .ok (.invokestatic 34, 3) := by decide +kernel
theorem dX4_word_11 : decode cX4_word 11 = .ok (.ifCond .eq 16, 3) := by decide +kernel
theorem dX4_word_14 : decode cX4_word 14 = .ok (.iload_n 1, 1) := by decide +kernel
theorem dX4_word_15 : decode cX4_word 15 = .ok (.ifCond .lt 12, 3) := by decide +kernel
theorem dX4_word_18 : decode cX4_word 18 = .ok (.aload_n 0, 1) := by decide +kernel
theorem dX4_word_19 : decode cX4_word 19 = .ok (.getfield 56, 3) := by decide +kernel
theorem dX4_word_22 : decode cX4_word 22 = .ok (.bipush 6, 2) := by decide +kernel
theorem dX4_word_24 : decode cX4_word 24 = .ok (.if_icmp .lt 5, 3) := by decide +kernel
theorem dX4_word_27 : decode cX4_word 27 = .ok (.iconst 0, 1) := by decide +kernel
theorem dX4_word_28 : decode cX4_word 28 = .ok (.ireturn, 1) := by decide +kernel
theorem dX4_word_29 : decode cX4_word 29 = .ok (.aload_n 0, 1) := by decide +kernel
theorem dX4_word_30 : decode cX4_word 30 = .ok (.getfield 11, 3) := by decide +kernel
theorem dX4_word_33 : decode cX4_word 33 = .ok (.aload_n 0, 1) := by decide +kernel
theorem dX4_word_34 : decode cX4_word 34 = .ok (.getfield 30, 3) := by decide +kernel
theorem dX4_word_37 : decode cX4_word 37 = .ok (.aaload, 1) := by decide +kernel
theorem dX4_word_38 : decode cX4_word 38 = .ok (.getfield 38, 3) := by decide +kernel
theorem dX4_word_41 : decode cX4_word 41 = .ok (.aload_n 0, 1) := by decide +kernel
theorem dX4_word_42 : decode cX4_word 42 = .ok (.getfield 50, 3) := by decide +kernel
theorem dX4_word_45 : decode cX4_word 45 = .ok (.aaload, 1) := by decide +kernel
theorem dX4_word_46 : decode cX4_word 46 = .ok (.aload_n 0, 1) := by decide +kernel
theorem dX4_word_47 : decode cX4_word 47 = .ok (.getfield 56, 3) := by decide +kernel
theorem dX4_word_50 : decode cX4_word 50 = .ok (.iload_n 1, 1) := by decide +kernel
theorem dX4_word_51 : decode cX4_word 51 = .ok (.aload_n 0, 1) := by decide +kernel
theorem dX4_word_52 : decode cX4_word 52 = .ok (.getfield 53, 3) := by decide +kernel
theorem dX4_word_55 : decode cX4_word 55 = .ok (.invokevirtual 59, 3) := by decide +kernel
theorem dX4_word_58 : decode cX4_word 58 = .ok (.aload_n 0, 1) := by decide +kernel
theorem dX4_word_59 : decode cX4_word 59 = .ok (.getfield 11, 3) := by decide +kernel
theorem dX4_word_62 : decode cX4_word 62 = .ok (.aload_n 0, 1) := by decide +kernel
theorem dX4_word_63 : decode cX4_word 63 = .ok (.getfield 30, 3) := by decide +kernel
theorem dX4_word_66 : decode cX4_word 66 = .ok (.aaload, 1) := by decide +kernel
theorem dX4_word_67 : decode cX4_word 67 = .ok (.invokevirtual 47, 3) := by decide +kernel
theorem dX4_word_70 : decode cX4_word 70 = .ok (.aload_n 0, 1) := by decide +kernel
theorem dX4_word_71 : decode cX4_word 71 = .ok (.dup, 1) := by decide +kernel
theorem dX4_word_72 : decode cX4_word 72 = .ok (.getfield 56, 3) := by decide +kernel
theorem dX4_word_75 : decode cX4_word 75 = .ok (.iconst 1, 1) := by decide +kernel
theorem dX4_word_76 : decode cX4_word 76 = .ok (.iadd, 1) := by decide +kernel
theorem dX4_word_77 : decode cX4_word 77 = .ok (.putfield 56, 3) := by decide +kernel
theorem dX4_word_80 : decode cX4_word 80 = .ok (.iconst 1, 1) := by decide +kernel
theorem dX4_word_81 : decode cX4_word 81 = .ok (.ireturn, 1) := by decide +kernel
theorem dX4_add_0 : decode cX4_add 0 = .ok (.iload_n 1, 1) := by decide +kernel
theorem dX4_add_1 : decode cX4_add 1 = .ok (.iload_n 2, 1) := by decide +kernel
theorem dX4_add_2 : decode cX4_add 2 = .ok (.iload_n 3, 1) := by decide +kernel
theorem dX4_add_3 : decode cX4_add 3 = .ok (.invokestatic 63, 3) := by decide +kernel
theorem dX4_add_6 : decode cX4_add 6 = .ok (.ifCond .ne 5, 3) := by decide +kernel
theorem dX4_add_9 : decode cX4_add 9 = .ok (.iconst 1, 1) := by decide +kernel
theorem dX4_add_10 : decode cX4_add 10 = .ok (.ireturn, 1) := by decide +kernel
theorem dX4_add_11 : decode cX4_add 11 = .ok (.aload_n 0, 1) := by decide +kernel
theorem dX4_add_12 : decode cX4_add 12 = .ok (.getfield 29, 3) := by decide +kernel
theorem dX4_add_15 : decode cX4_add 15 = .ok (.aload_n 0, 1) := by decide +kernel
theorem dX4_add_16 : decode cX4_add 16 = .ok (.getfield 11, 3) := by decide +kernel
theorem dX4_add_19 : decode cX4_add 19 = .ok (.iload_n 2, 1) := by decide +kernel
theorem dX4_add_20 : decode cX4_add 20 = .ok (.aaload, 1) := by decide +kernel
theorem dX4_add_21 : decode cX4_add 21 = .ok (.aload_n 0, 1) := by decide +kernel
theorem dX4_add_22 : decode cX4_add 22 = .ok (.getfield 11, 3) := by decide +kernel
theorem dX4_add_25 : decode cX4_add 25 = .ok (.iload_n 3, 1) := by decide +kernel
theorem dX4_add_26 : decode cX4_add 26 = .ok (.aaload, 1) := by decide +kernel
theorem dX4_add_27 : decode cX4_add 27 = .ok (.iload 4, 2) := by decide +kernel
theorem dX4_add_29 : decode cX4_add 29 = .ok (.ifCond .eq 7, 3) := by decide +kernel
theorem dX4_add_32 : decode cX4_add 32 = .ok (.iconst (-1), 1) := by decide +kernel
theorem dX4_add_33 : decode cX4_add 33 = .ok (.goto 4, 3) := by decide +kernel
theorem dX4_add_36 : decode cX4_add 36 = .ok (.iconst 1, 1) := by decide +kernel
theorem dX4_add_37 : decode cX4_add 37 = .ok (.invokevirtual 67, 3) := by decide +kernel
theorem dX4_add_40 : decode cX4_add 40 = .ok (.aload_n 0, 1) := by decide +kernel
theorem dX4_add_41 : decode cX4_add 41 = .ok (.iload_n 1, 1) := by decide +kernel
theorem dX4_add_42 : decode cX4_add 42 = .ok (.aload_n 0, 1) := by decide +kernel
theorem dX4_add_43 : decode cX4_add 43 = .ok (.getfield 29, 3) := by decide +kernel
theorem dX4_add_46 : decode cX4_add 46 = .ok (.getfield 73, 3) := by decide +kernel
theorem dX4_add_49 : decode cX4_add 49 = .ok (.invokevirtual 77, 3) := by decide +kernel
theorem dX4_add_52 : decode cX4_add 52 = .ok (.ireturn, 1) := by decide +kernel
theorem dX4_multiply_0 : decode cX4_multiply 0 = .ok (.iload_n 1, 1) := by decide +kernel
theorem dX4_multiply_1 : decode cX4_multiply 1 = .ok (.iload_n 2, 1) := by decide +kernel
theorem dX4_multiply_2 : decode cX4_multiply 2 = .ok (.iload_n 3, 1) := by decide +kernel
theorem dX4_multiply_3 : decode cX4_multiply 3 = .ok (.invokestatic 63, 3) := by decide +kernel
theorem dX4_multiply_6 : decode cX4_multiply 6 = .ok (.ifCond .ne 5, 3) := by decide +kernel
theorem dX4_multiply_9 : decode cX4_multiply 9 = .ok (.iconst 1, 1) := by decide +kernel
theorem dX4_multiply_10 : decode cX4_multiply 10 = .ok (.ireturn, 1) := by decide +kernel
theorem dX4_multiply_11 : decode cX4_multiply 11 = .ok (.aload_n 0, 1) := by decide +kernel
theorem dX4_multiply_12 : decode cX4_multiply 12 = .ok (.getfield 11, 3) := by decide +kernel
theorem dX4_multiply_15 : decode cX4_multiply 15 = .ok (.iload_n 2, 1) := by decide +kernel
theorem dX4_multiply_16 : decode cX4_multiply 16 = .ok (.aaload, 1) := by decide +kernel
theorem dX4_multiply_17 : decode cX4_multiply 17 = .ok (.getfield 81, 3) := by decide +kernel
theorem dX4_multiply_20 : decode cX4_multiply 20 = .ok (.aload_n 0, 1) := by decide +kernel
theorem dX4_multiply_21 : decode cX4_multiply 21 = .ok (.getfield 11, 3) := by decide +kernel
theorem dX4_multiply_24 : decode cX4_multiply 24 = .ok (.iload_n 3, 1) := by decide +kernel
theorem dX4_multiply_25 : decode cX4_multiply 25 = .ok (.aaload, 1) := by decide +kernel
theorem dX4_multiply_26 : decode cX4_multiply 26 = .ok (.getfield 81, 3) := by decide +kernel
theorem dX4_multiply_29 : decode cX4_multiply 29 = .ok (.iadd, 1) := by decide +kernel
theorem dX4_multiply_30 : decode cX4_multiply 30 = .ok (.bipush 8, 2) := by decide +kernel
theorem dX4_multiply_32 : decode cX4_multiply 32 = .ok (.if_icmp .le 5, 3) := by decide +kernel
theorem dX4_multiply_35 : decode cX4_multiply 35 = .ok (.iconst 3, 1) := by decide +kernel
theorem dX4_multiply_36 : decode cX4_multiply 36 = .ok (.ireturn, 1) := by decide +kernel
theorem dX4_multiply_37 : decode cX4_multiply 37 = .ok (.aload_n 0, 1) := by decide +kernel
theorem dX4_multiply_38 : decode cX4_multiply 38 = .ok (.getfield 29, 3) := by decide +kernel
theorem dX4_multiply_41 : decode cX4_multiply 41 = .ok (.aload_n 0, 1) := by decide +kernel
theorem dX4_multiply_42 : decode cX4_multiply 42 = .ok (.getfield 11, 3) := by decide +kernel
theorem dX4_multiply_45 : decode cX4_multiply 45 = .ok (.iload_n 2, 1) := by decide +kernel
theorem dX4_multiply_46 : decode cX4_multiply 46 = .ok (.aaload, 1) := by decide +kernel
theorem dX4_multiply_47 : decode cX4_multiply 47 = .ok (.aload_n 0, 1) := by decide +kernel
theorem dX4_multiply_48 : decode cX4_multiply 48 = .ok (.getfield 11, 3) := by decide +kernel
theorem dX4_multiply_51 : decode cX4_multiply 51 = .ok (.iload_n 3, 1) := by decide +kernel
theorem dX4_multiply_52 : decode cX4_multiply 52 = .ok (.aaload, 1) := by decide +kernel
theorem dX4_multiply_53 : decode cX4_multiply 53 = .ok (.invokevirtual 84, 3) := by decide +kernel
theorem dX4_multiply_56 : decode cX4_multiply 56 = .ok (.aload_n 0, 1) := by decide +kernel
theorem dX4_multiply_57 : decode cX4_multiply 57 = .ok (.iload_n 1, 1) := by decide +kernel
theorem dX4_multiply_58 : decode cX4_multiply 58 = .ok (.aload_n 0, 1) := by decide +kernel
theorem dX4_multiply_59 : decode cX4_multiply 59 = .ok (.getfield 29, 3) := by decide +kernel
theorem dX4_multiply_62 : decode cX4_multiply 62 = .ok (.getfield 73, 3) := by decide +kernel
theorem dX4_multiply_65 : decode cX4_multiply 65 = .ok (.invokevirtual 77, 3) := by decide +kernel
theorem dX4_multiply_68 : decode cX4_multiply 68 = .ok (.ireturn, 1) := by decide +kernel
theorem dX4_derive_0 : decode cX4_derive 0 = .ok (.iload_n 1, 1) := by decide +kernel
theorem dX4_derive_1 : decode cX4_derive 1 = .ok (.iload_n 2, 1) := by decide +kernel
theorem dX4_derive_2 : decode cX4_derive 2 = .ok (.iload_n 2, 1) := by decide +kernel
theorem dX4_derive_3 : decode cX4_derive 3 = .ok (.invokestatic 63, 3) := by decide +kernel
theorem dX4_derive_6 : decode cX4_derive 6 = .ok (.ifCond .ne 5, 3) := by decide +kernel
theorem dX4_derive_9 : decode cX4_derive 9 = .ok (.iconst 1, 1) := by decide +kernel
theorem dX4_derive_10 : decode cX4_derive 10 = .ok (.ireturn, 1) := by decide +kernel
theorem dX4_derive_11 : decode cX4_derive 11 = .ok (.aload_n 0, 1) := by decide +kernel
theorem dX4_derive_12 : decode cX4_derive 12 = .ok (.getfield 29, 3) := by decide +kernel
theorem dX4_derive_15 : decode cX4_derive 15 = .ok (.getfield 73, 3) := by decide +kernel
theorem dX4_derive_18 : decode cX4_derive 18 = .ok (.aload_n 0, 1) := by decide +kernel
theorem dX4_derive_19 : decode cX4_derive 19 = .ok (.getfield 11, 3) := by decide +kernel
theorem dX4_derive_22 : decode cX4_derive 22 = .ok (.iload_n 2, 1) := by decide +kernel
theorem dX4_derive_23 : decode cX4_derive 23 = .ok (.aaload, 1) := by decide +kernel
theorem dX4_derive_24 : decode cX4_derive 24 = .ok (.invokevirtual 88, 3) := by decide +kernel
theorem dX4_derive_27 : decode cX4_derive 27 = .ok (.aload_n 0, 1) := by decide +kernel
theorem dX4_derive_28 : decode cX4_derive 28 = .ok (.iload_n 1, 1) := by decide +kernel
theorem dX4_derive_29 : decode cX4_derive 29 = .ok (.aload_n 0, 1) := by decide +kernel
theorem dX4_derive_30 : decode cX4_derive 30 = .ok (.getfield 29, 3) := by decide +kernel
theorem dX4_derive_33 : decode cX4_derive 33 = .ok (.getfield 73, 3) := by decide +kernel
theorem dX4_derive_36 : decode cX4_derive 36 = .ok (.invokevirtual 77, 3) := by decide +kernel
theorem dX4_derive_39 : decode cX4_derive 39 = .ok (.ireturn, 1) := by decide +kernel
theorem dX4_shift_0 : decode cX4_shift 0 = .ok (.iload_n 1, 1) := by decide +kernel
theorem dX4_shift_1 : decode cX4_shift 1 = .ok (.iload_n 2, 1) := by decide +kernel
theorem dX4_shift_2 : decode cX4_shift 2 = .ok (.iload_n 2, 1) := by decide +kernel
theorem dX4_shift_3 : decode cX4_shift 3 = .ok (.invokestatic 63, 3) := by decide +kernel
theorem dX4_shift_6 : decode cX4_shift 6 = .ok (.ifCond .ne 5, 3) := by decide +kernel
theorem dX4_shift_9 : decode cX4_shift 9 = .ok (.iconst 1, 1) := by decide +kernel
theorem dX4_shift_10 : decode cX4_shift 10 = .ok (.ireturn, 1) := by decide +kernel
theorem dX4_shift_11 : decode cX4_shift 11 = .ok (.aload_n 0, 1) := by decide +kernel
theorem dX4_shift_12 : decode cX4_shift 12 = .ok (.getfield 29, 3) := by decide +kernel
theorem dX4_shift_15 : decode cX4_shift 15 = .ok (.aload_n 0, 1) := by decide +kernel
theorem dX4_shift_16 : decode cX4_shift 16 = .ok (.getfield 11, 3) := by decide +kernel
theorem dX4_shift_19 : decode cX4_shift 19 = .ok (.iload_n 2, 1) := by decide +kernel
theorem dX4_shift_20 : decode cX4_shift 20 = .ok (.aaload, 1) := by decide +kernel
theorem dX4_shift_21 : decode cX4_shift 21 = .ok (.iload_n 3, 1) := by decide +kernel
theorem dX4_shift_22 : decode cX4_shift 22 = .ok (.invokevirtual 92, 3) := by decide +kernel
theorem dX4_shift_25 : decode cX4_shift 25 = .ok (.aload_n 0, 1) := by decide +kernel
theorem dX4_shift_26 : decode cX4_shift 26 = .ok (.iload_n 1, 1) := by decide +kernel
theorem dX4_shift_27 : decode cX4_shift 27 = .ok (.aload_n 0, 1) := by decide +kernel
theorem dX4_shift_28 : decode cX4_shift 28 = .ok (.getfield 29, 3) := by decide +kernel
theorem dX4_shift_31 : decode cX4_shift 31 = .ok (.getfield 73, 3) := by decide +kernel
theorem dX4_shift_34 : decode cX4_shift 34 = .ok (.invokevirtual 77, 3) := by decide +kernel
theorem dX4_shift_37 : decode cX4_shift 37 = .ok (.ireturn, 1) := by decide +kernel
theorem dX4_remainder_0 : decode cX4_remainder 0 = .ok (.iload_n 1, 1) := by decide +kernel
theorem dX4_remainder_1 : decode cX4_remainder 1 = .ok (.iload_n 2, 1) := by decide +kernel
theorem dX4_remainder_2 : decode cX4_remainder 2 = .ok (.iload_n 3, 1) := by decide +kernel
theorem dX4_remainder_3 : decode cX4_remainder 3 = .ok (.invokestatic 63, 3) := by decide +kernel
theorem dX4_remainder_6 : decode cX4_remainder 6 = .ok (.ifCond .ne 5, 3) := by decide +kernel
theorem dX4_remainder_9 : decode cX4_remainder 9 = .ok (.iconst 1, 1) := by decide +kernel
theorem dX4_remainder_10 : decode cX4_remainder 10 = .ok (.ireturn, 1) := by decide +kernel
theorem dX4_remainder_11 : decode cX4_remainder 11 = .ok (.aload_n 0, 1) := by decide +kernel
theorem dX4_remainder_12 : decode cX4_remainder 12 = .ok (.getfield 11, 3) := by decide +kernel
theorem dX4_remainder_15 : decode cX4_remainder 15 = .ok (.iload_n 3, 1) := by decide +kernel
theorem dX4_remainder_16 : decode cX4_remainder 16 = .ok (.aaload, 1) := by decide +kernel
theorem dX4_remainder_17 : decode cX4_remainder 17 = .ok (.getfield 81, 3) := by decide +kernel
theorem dX4_remainder_20 : decode cX4_remainder 20 = .ok (.ifCond .ge 5, 3) := by decide +kernel
theorem dX4_remainder_23 : decode cX4_remainder 23 = .ok (.iconst 2, 1) := by decide +kernel
theorem dX4_remainder_24 : decode cX4_remainder 24 = .ok (.ireturn, 1) := by decide +kernel
theorem dX4_remainder_25 : decode cX4_remainder 25 = .ok (.aload_n 0, 1) := by decide +kernel
theorem dX4_remainder_26 : decode cX4_remainder 26 = .ok (.getfield 29, 3) := by decide +kernel
theorem dX4_remainder_29 : decode cX4_remainder 29 = .ok (.aload_n 0, 1) := by decide +kernel
theorem dX4_remainder_30 : decode cX4_remainder 30 = .ok (.getfield 11, 3) := by decide +kernel
theorem dX4_remainder_33 : decode cX4_remainder 33 = .ok (.iload_n 2, 1) := by decide +kernel
theorem dX4_remainder_34 : decode cX4_remainder 34 = .ok (.aaload, 1) := by decide +kernel
theorem dX4_remainder_35 : decode cX4_remainder 35 = .ok (.aload_n 0, 1) := by decide +kernel
theorem dX4_remainder_36 : decode cX4_remainder 36 = .ok (.getfield 11, 3) := by decide +kernel
theorem dX4_remainder_39 : decode cX4_remainder 39 = .ok (.iload_n 3, 1) := by decide +kernel
theorem dX4_remainder_40 : decode cX4_remainder 40 = .ok (.aaload, 1) := by decide +kernel
theorem dX4_remainder_41 : decode cX4_remainder 41 = .ok (.invokevirtual 96, 3) := by decide +kernel
theorem dX4_remainder_44 : decode cX4_remainder 44 = .ok (.aload_n 0, 1) := by decide +kernel
theorem dX4_remainder_45 : decode cX4_remainder 45 = .ok (.iload_n 1, 1) := by decide +kernel
theorem dX4_remainder_46 : decode cX4_remainder 46 = .ok (.aload_n 0, 1) := by decide +kernel
theorem dX4_remainder_47 : decode cX4_remainder 47 = .ok (.getfield 29, 3) := by decide +kernel
theorem dX4_remainder_50 : decode cX4_remainder 50 = .ok (.getfield 73, 3) := by decide +kernel
theorem dX4_remainder_53 : decode cX4_remainder 53 = .ok (.invokevirtual 77, 3) := by decide +kernel
theorem dX4_remainder_56 : decode cX4_remainder 56 = .ok (.ireturn, 1) := by decide +kernel
theorem dX4_quotient_0 : decode cX4_quotient 0 = .ok (.iload_n 1, 1) := by decide +kernel
theorem dX4_quotient_1 : decode cX4_quotient 1 = .ok (.iload_n 2, 1) := by decide +kernel
theorem dX4_quotient_2 : decode cX4_quotient 2 = .ok (.iload_n 3, 1) := by decide +kernel
theorem dX4_quotient_3 : decode cX4_quotient 3 = .ok (.invokestatic 63, 3) := by decide +kernel
theorem dX4_quotient_6 : decode cX4_quotient 6 = .ok (.ifCond .ne 5, 3) := by decide +kernel
theorem dX4_quotient_9 : decode cX4_quotient 9 = .ok (.iconst 1, 1) := by decide +kernel
theorem dX4_quotient_10 : decode cX4_quotient 10 = .ok (.ireturn, 1) := by decide +kernel
theorem dX4_quotient_11 : decode cX4_quotient 11 = .ok (.aload_n 0, 1) := by decide +kernel
theorem dX4_quotient_12 : decode cX4_quotient 12 = .ok (.getfield 29, 3) := by decide +kernel
theorem dX4_quotient_15 : decode cX4_quotient 15 = .ok (.aload_n 0, 1) := by decide +kernel
theorem dX4_quotient_16 : decode cX4_quotient 16 = .ok (.getfield 11, 3) := by decide +kernel
theorem dX4_quotient_19 : decode cX4_quotient 19 = .ok (.iload_n 2, 1) := by decide +kernel
theorem dX4_quotient_20 : decode cX4_quotient 20 = .ok (.aaload, 1) := by decide +kernel
theorem dX4_quotient_21 : decode cX4_quotient 21 = .ok (.aload_n 0, 1) := by decide +kernel
theorem dX4_quotient_22 : decode cX4_quotient 22 = .ok (.getfield 11, 3) := by decide +kernel
theorem dX4_quotient_25 : decode cX4_quotient 25 = .ok (.iload_n 3, 1) := by decide +kernel
theorem dX4_quotient_26 : decode cX4_quotient 26 = .ok (.aaload, 1) := by decide +kernel
theorem dX4_quotient_27 : decode cX4_quotient 27 = .ok (.invokevirtual 99, 3) := by decide +kernel
theorem dX4_quotient_30 : decode cX4_quotient 30 = .ok (.ifCond .ne 5, 3) := by decide +kernel
theorem dX4_quotient_33 : decode cX4_quotient 33 = .ok (.iconst 2, 1) := by decide +kernel
theorem dX4_quotient_34 : decode cX4_quotient 34 = .ok (.ireturn, 1) := by decide +kernel
theorem dX4_quotient_35 : decode cX4_quotient 35 = .ok (.aload_n 0, 1) := by decide +kernel
theorem dX4_quotient_36 : decode cX4_quotient 36 = .ok (.iload_n 1, 1) := by decide +kernel
theorem dX4_quotient_37 : decode cX4_quotient 37 = .ok (.aload_n 0, 1) := by decide +kernel
theorem dX4_quotient_38 : decode cX4_quotient 38 = .ok (.getfield 29, 3) := by decide +kernel
theorem dX4_quotient_41 : decode cX4_quotient 41 = .ok (.getfield 103, 3) := by decide +kernel
theorem dX4_quotient_44 : decode cX4_quotient 44 = .ok (.invokevirtual 77, 3) := by decide +kernel
theorem dX4_quotient_47 : decode cX4_quotient 47 = .ok (.ireturn, 1) := by decide +kernel
theorem dX4_gcd_0 : decode cX4_gcd 0 = .ok (.iload_n 1, 1) := by decide +kernel
theorem dX4_gcd_1 : decode cX4_gcd 1 = .ok (.iload_n 2, 1) := by decide +kernel
theorem dX4_gcd_2 : decode cX4_gcd 2 = .ok (.iload_n 3, 1) := by decide +kernel
theorem dX4_gcd_3 : decode cX4_gcd 3 = .ok (.invokestatic 63, 3) := by decide +kernel
theorem dX4_gcd_6 : decode cX4_gcd 6 = .ok (.ifCond .ne 5, 3) := by decide +kernel
theorem dX4_gcd_9 : decode cX4_gcd 9 = .ok (.iconst 1, 1) := by decide +kernel
theorem dX4_gcd_10 : decode cX4_gcd 10 = .ok (.ireturn, 1) := by decide +kernel
theorem dX4_gcd_11 : decode cX4_gcd 11 = .ok (.aload_n 0, 1) := by decide +kernel
theorem dX4_gcd_12 : decode cX4_gcd 12 = .ok (.iload_n 1, 1) := by decide +kernel
theorem dX4_gcd_13 : decode cX4_gcd 13 = .ok (.aload_n 0, 1) := by decide +kernel
theorem dX4_gcd_14 : decode cX4_gcd 14 = .ok (.getfield 21, 3) := by decide +kernel
theorem dX4_gcd_17 : decode cX4_gcd 17 = .ok (.aload_n 0, 1) := by decide +kernel
theorem dX4_gcd_18 : decode cX4_gcd 18 = .ok (.getfield 11, 3) := by decide +kernel
theorem dX4_gcd_21 : decode cX4_gcd 21 = .ok (.iload_n 2, 1) := by decide +kernel
theorem dX4_gcd_22 : decode cX4_gcd 22 = .ok (.aaload, 1) := by decide +kernel
theorem dX4_gcd_23 : decode cX4_gcd 23 = .ok (.aload_n 0, 1) := by decide +kernel
theorem dX4_gcd_24 : decode cX4_gcd 24 = .ok (.getfield 11, 3) := by decide +kernel
theorem dX4_gcd_27 : decode cX4_gcd 27 = .ok (.iload_n 3, 1) := by decide +kernel
theorem dX4_gcd_28 : decode cX4_gcd 28 = .ok (.aaload, 1) := by decide +kernel
theorem dX4_gcd_29 : decode cX4_gcd 29 = .ok (.invokevirtual 106, 3) := by decide +kernel
theorem dX4_gcd_32 : decode cX4_gcd 32 = .ok (.invokevirtual 77, 3) := by decide +kernel
theorem dX4_gcd_35 : decode cX4_gcd 35 = .ok (.ireturn, 1) := by decide +kernel
theorem dX4_once_0 : decode cX4_once 0 = .ok (.iload_n 1, 1) := by decide +kernel
theorem dX4_once_1 : decode cX4_once 1 = .ok (.iload_n 2, 1) := by decide +kernel
theorem dX4_once_2 : decode cX4_once 2 = .ok (.iload_n 2, 1) := by decide +kernel
theorem dX4_once_3 : decode cX4_once 3 = .ok (.invokestatic 63, 3) := by decide +kernel
theorem dX4_once_6 : decode cX4_once 6 = .ok (.ifCond .ne 5, 3) := by decide +kernel
theorem dX4_once_9 : decode cX4_once 9 = .ok (.iconst 1, 1) := by decide +kernel
theorem dX4_once_10 : decode cX4_once 10 = .ok (.ireturn, 1) := by decide +kernel
theorem dX4_once_11 : decode cX4_once 11 = .ok (.aload_n 0, 1) := by decide +kernel
theorem dX4_once_12 : decode cX4_once 12 = .ok (.getfield 11, 3) := by decide +kernel
theorem dX4_once_15 : decode cX4_once 15 = .ok (.iload_n 2, 1) := by decide +kernel
theorem dX4_once_16 : decode cX4_once 16 = .ok (.aaload, 1) := by decide +kernel
theorem dX4_once_17 : decode cX4_once 17 = .ok (.getfield 81, 3) := by decide +kernel
theorem dX4_once_20 : decode cX4_once 20 = .ok (.ifCond .ge 5, 3) := by decide +kernel
theorem dX4_once_23 : decode cX4_once 23 = .ok (.iconst 2, 1) := by decide +kernel
theorem dX4_once_24 : decode cX4_once 24 = .ok (.ireturn, 1) := by decide +kernel
theorem dX4_once_25 : decode cX4_once 25 = .ok (.aload_n 0, 1) := by decide +kernel
theorem dX4_once_26 : decode cX4_once 26 = .ok (.iload_n 1, 1) := by decide +kernel
theorem dX4_once_27 : decode cX4_once 27 = .ok (.aload_n 0, 1) := by decide +kernel
theorem dX4_once_28 : decode cX4_once 28 = .ok (.getfield 21, 3) := by decide +kernel
theorem dX4_once_31 : decode cX4_once 31 = .ok (.aload_n 0, 1) := by decide +kernel
theorem dX4_once_32 : decode cX4_once 32 = .ok (.getfield 11, 3) := by decide +kernel
theorem dX4_once_35 : decode cX4_once 35 = .ok (.iload_n 2, 1) := by decide +kernel
theorem dX4_once_36 : decode cX4_once 36 = .ok (.aaload, 1) := by decide +kernel
theorem dX4_once_37 : decode cX4_once 37 = .ok (.invokevirtual 110, 3) := by decide +kernel
theorem dX4_once_40 : decode cX4_once 40 = .ok (.invokevirtual 77, 3) := by decide +kernel
theorem dX4_once_43 : decode cX4_once 43 = .ok (.ireturn, 1) := by decide +kernel
theorem dX4_sign_0 : decode cX4_sign 0 = .ok (.iload_n 1, 1) := by decide +kernel
theorem dX4_sign_1 : decode cX4_sign 1 = .ok (.invokestatic 114, 3) := by decide +kernel
theorem dX4_sign_4 : decode cX4_sign 4 = .ok (.ifCond .eq 7, 3) := by decide +kernel
theorem dX4_sign_7 : decode cX4_sign 7 = .ok (.iload_n 3, 1) := by decide +kernel
theorem dX4_sign_8 : decode cX4_sign 8 = .ok (.ifCond .ne 5, 3) := by decide +kernel
theorem dX4_sign_11 : decode cX4_sign 11 = .ok (.iconst 2, 1) := by decide +kernel
theorem dX4_sign_12 : decode cX4_sign 12 = .ok (.ireturn, 1) := by decide +kernel
theorem dX4_sign_13 : decode cX4_sign 13 = .ok (.iload_n 3, 1) := by decide +kernel
theorem dX4_sign_14 : decode cX4_sign 14 = .ok (.ifCond .ge 9, 3) := by decide +kernel
theorem dX4_sign_17 : decode cX4_sign 17 = .ok (.iload_n 2, 1) := by decide +kernel
theorem dX4_sign_18 : decode cX4_sign 18 = .ok (.i2l, 1) := by decide +kernel
theorem dX4_sign_19 : decode cX4_sign 19 = .ok (.lneg, 1) := by decide +kernel
theorem dX4_sign_20 : decode cX4_sign 20 = .ok (.goto 5, 3) := by decide +kernel
theorem dX4_sign_23 : decode cX4_sign 23 = .ok (.iload_n 2, 1) := by decide +kernel
theorem dX4_sign_24 : decode cX4_sign 24 = .ok (.i2l, 1) := by decide +kernel
theorem dX4_sign_25 : decode cX4_sign 25 = .ok (.lstore 4, 2) := by decide +kernel
theorem dX4_sign_27 : decode cX4_sign 27 = .ok (.aload_n 0, 1) := by decide +kernel
theorem dX4_sign_28 : decode cX4_sign 28 = .ok (.getfield 29, 3) := by decide +kernel
theorem dX4_sign_31 : decode cX4_sign 31 = .ok (.aload_n 0, 1) := by decide +kernel
theorem dX4_sign_32 : decode cX4_sign 32 = .ok (.getfield 11, 3) := by decide +kernel
theorem dX4_sign_35 : decode cX4_sign 35 = .ok (.iload_n 1, 1) := by decide +kernel
theorem dX4_sign_36 : decode cX4_sign 36 = .ok (.aaload, 1) := by decide +kernel
theorem dX4_sign_37 : decode cX4_sign 37 = .ok (.lload 4, 2) := by decide +kernel
theorem dX4_sign_39 : decode cX4_sign 39 = .ok (.iload_n 3, 1) := by decide +kernel
theorem dX4_sign_40 : decode cX4_sign 40 = .ok (.i2l, 1) := by decide +kernel
theorem dX4_sign_41 : decode cX4_sign 41 = .ok (.invokestatic 118, 3) := by decide +kernel
theorem dX4_sign_44 : decode cX4_sign 44 = .ok (.invokevirtual 124, 3) := by decide +kernel
theorem dX4_sign_47 : decode cX4_sign 47 = .ok (.ireturn, 1) := by decide +kernel
theorem dX4_roots_0 : decode cX4_roots 0 = .ok (.iload_n 1, 1) := by decide +kernel
theorem dX4_roots_1 : decode cX4_roots 1 = .ok (.invokestatic 114, 3) := by decide +kernel
theorem dX4_roots_4 : decode cX4_roots 4 = .ok (.ifCond .eq 20, 3) := by decide +kernel
theorem dX4_roots_7 : decode cX4_roots 7 = .ok (.aload_n 0, 1) := by decide +kernel
theorem dX4_roots_8 : decode cX4_roots 8 = .ok (.getfield 11, 3) := by decide +kernel
theorem dX4_roots_11 : decode cX4_roots 11 = .ok (.iload_n 1, 1) := by decide +kernel
theorem dX4_roots_12 : decode cX4_roots 12 = .ok (.aaload, 1) := by decide +kernel
theorem dX4_roots_13 : decode cX4_roots 13 = .ok (.getfield 81, 3) := by decide +kernel
theorem dX4_roots_16 : decode cX4_roots 16 = .ok (.ifCond .lt 8, 3) := by decide +kernel
theorem dX4_roots_19 : decode cX4_roots 19 = .ok (.iload_n 2, 1) := by decide +kernel
theorem dX4_roots_20 : decode cX4_roots 20 = .ok (.iload_n 3, 1) := by decide +kernel
theorem dX4_roots_21 : decode cX4_roots 21 = .ok (.if_icmp .le 5, 3) := by decide +kernel
theorem dX4_roots_24 : decode cX4_roots 24 = .ok (.iconst (-1), 1) := by decide +kernel
theorem dX4_roots_25 : decode cX4_roots 25 = .ok (.ireturn, 1) := by decide +kernel
theorem dX4_roots_26 : decode cX4_roots 26 = .ok (.aload_n 0, 1) := by decide +kernel
theorem dX4_roots_27 : decode cX4_roots 27 = .ok (.getfield 21, 3) := by decide +kernel
theorem dX4_roots_30 : decode cX4_roots 30 = .ok (.aload_n 0, 1) := by decide +kernel
theorem dX4_roots_31 : decode cX4_roots 31 = .ok (.getfield 11, 3) := by decide +kernel
theorem dX4_roots_34 : decode cX4_roots 34 = .ok (.iload_n 1, 1) := by decide +kernel
theorem dX4_roots_35 : decode cX4_roots 35 = .ok (.aaload, 1) := by decide +kernel
theorem dX4_roots_36 : decode cX4_roots 36 = .ok (.invokevirtual 128, 3) := by decide +kernel
theorem dX4_roots_39 : decode cX4_roots 39 = .ok (.aload_n 0, 1) := by decide +kernel
theorem dX4_roots_40 : decode cX4_roots 40 = .ok (.getfield 21, 3) := by decide +kernel
theorem dX4_roots_43 : decode cX4_roots 43 = .ok (.iload_n 2, 1) := by decide +kernel
theorem dX4_roots_44 : decode cX4_roots 44 = .ok (.i2l, 1) := by decide +kernel
theorem dX4_roots_45 : decode cX4_roots 45 = .ok (.iconst 0, 1) := by decide +kernel
theorem dX4_roots_46 : decode cX4_roots 46 = .ok (.invokevirtual 131, 3) := by decide +kernel
theorem dX4_roots_49 : decode cX4_roots 49 = .ok (.aload_n 0, 1) := by decide +kernel
theorem dX4_roots_50 : decode cX4_roots 50 = .ok (.getfield 21, 3) := by decide +kernel
theorem dX4_roots_53 : decode cX4_roots 53 = .ok (.iload_n 3, 1) := by decide +kernel
theorem dX4_roots_54 : decode cX4_roots 54 = .ok (.i2l, 1) := by decide +kernel
theorem dX4_roots_55 : decode cX4_roots 55 = .ok (.iconst 0, 1) := by decide +kernel
theorem dX4_roots_56 : decode cX4_roots 56 = .ok (.invokevirtual 131, 3) := by decide +kernel
theorem dX4_roots_59 : decode cX4_roots 59 = .ok (.isub, 1) := by decide +kernel
theorem dX4_roots_60 : decode cX4_roots 60 = .ok (.ireturn, 1) := by decide +kernel
theorem dX4_allRoots_0 : decode cX4_allRoots 0 = .ok (.iload_n 1, 1) := by decide +kernel
theorem dX4_allRoots_1 : decode cX4_allRoots 1 = .ok (.invokestatic 114, 3) := by decide +kernel
theorem dX4_allRoots_4 : decode cX4_allRoots 4 = .ok (.ifCond .eq 15, 3) := by decide +kernel
theorem dX4_allRoots_7 : decode cX4_allRoots 7 = .ok (.aload_n 0, 1) := by decide +kernel
theorem dX4_allRoots_8 : decode cX4_allRoots 8 = .ok (.getfield 11, 3) := by decide +kernel
theorem dX4_allRoots_11 : decode cX4_allRoots 11 = .ok (.iload_n 1, 1) := by decide +kernel
theorem dX4_allRoots_12 : decode cX4_allRoots 12 = .ok (.aaload, 1) := by decide +kernel
theorem dX4_allRoots_13 : decode cX4_allRoots 13 = .ok (.getfield 81, 3) := by decide +kernel
theorem dX4_allRoots_16 : decode cX4_allRoots 16 = .ok (.ifCond .ge 5, 3) := by decide +kernel
theorem dX4_allRoots_19 : decode cX4_allRoots 19 = .ok (.iconst (-1), 1) := by decide +kernel
theorem dX4_allRoots_20 : decode cX4_allRoots 20 = .ok (.ireturn, 1) := by decide +kernel
theorem dX4_allRoots_21 : decode cX4_allRoots 21 = .ok (.aload_n 0, 1) := by decide +kernel
theorem dX4_allRoots_22 : decode cX4_allRoots 22 = .ok (.getfield 21, 3) := by decide +kernel
theorem dX4_allRoots_25 : decode cX4_allRoots 25 = .ok (.aload_n 0, 1) := by decide +kernel
theorem dX4_allRoots_26 : decode cX4_allRoots 26 = .ok (.getfield 11, 3) := by decide +kernel
theorem dX4_allRoots_29 : decode cX4_allRoots 29 = .ok (.iload_n 1, 1) := by decide +kernel
theorem dX4_allRoots_30 : decode cX4_allRoots 30 = .ok (.aaload, 1) := by decide +kernel
theorem dX4_allRoots_31 : decode cX4_allRoots 31 = .ok (.invokevirtual 128, 3) := by decide +kernel
theorem dX4_allRoots_34 : decode cX4_allRoots 34 = .ok (.aload_n 0, 1) := by decide +kernel
theorem dX4_allRoots_35 : decode cX4_allRoots 35 = .ok (.getfield 21, 3) := by decide +kernel
theorem dX4_allRoots_38 : decode cX4_allRoots 38 = .ok (.ldc2_w 135, 3) := by decide +kernel
theorem dX4_allRoots_41 : decode cX4_allRoots 41 = .ok (.iconst 1, 1) := by decide +kernel
theorem dX4_allRoots_42 : decode cX4_allRoots 42 = .ok (.invokevirtual 131, 3) := by decide +kernel
theorem dX4_allRoots_45 : decode cX4_allRoots 45 = .ok (.aload_n 0, 1) := by decide +kernel
theorem dX4_allRoots_46 : decode cX4_allRoots 46 = .ok (.getfield 21, 3) := by decide +kernel
theorem dX4_allRoots_49 : decode cX4_allRoots 49 = .ok (.lconst 1, 1) := by decide +kernel
theorem dX4_allRoots_50 : decode cX4_allRoots 50 = .ok (.iconst 1, 1) := by decide +kernel
theorem dX4_allRoots_51 : decode cX4_allRoots 51 = .ok (.invokevirtual 131, 3) := by decide +kernel
theorem dX4_allRoots_54 : decode cX4_allRoots 54 = .ok (.isub, 1) := by decide +kernel
theorem dX4_allRoots_55 : decode cX4_allRoots 55 = .ok (.ireturn, 1) := by decide +kernel
theorem dX4_place_0 : decode cX4_place 0 = .ok (.iload_n 1, 1) := by decide +kernel
theorem dX4_place_1 : decode cX4_place 1 = .ok (.invokestatic 114, 3) := by decide +kernel
theorem dX4_place_4 : decode cX4_place 4 = .ok (.ifCond .eq 19, 3) := by decide +kernel
theorem dX4_place_7 : decode cX4_place 7 = .ok (.aload_n 0, 1) := by decide +kernel
theorem dX4_place_8 : decode cX4_place 8 = .ok (.getfield 11, 3) := by decide +kernel
theorem dX4_place_11 : decode cX4_place 11 = .ok (.iload_n 1, 1) := by decide +kernel
theorem dX4_place_12 : decode cX4_place 12 = .ok (.aaload, 1) := by decide +kernel
theorem dX4_place_13 : decode cX4_place 13 = .ok (.getfield 81, 3) := by decide +kernel
theorem dX4_place_16 : decode cX4_place 16 = .ok (.ifCond .lt 7, 3) := by decide +kernel
theorem dX4_place_19 : decode cX4_place 19 = .ok (.iload_n 2, 1) := by decide +kernel
theorem dX4_place_20 : decode cX4_place 20 = .ok (.ifCond .ge 7, 3) := by decide +kernel
theorem dX4_place_23 : decode cX4_place 23 = .ok (.ldc2_w 139, 3) := by decide +kernel
theorem dX4_place_26 : decode cX4_place 26 = .ok (.lreturn, 1) := by decide +kernel
theorem dX4_place_27 : decode cX4_place 27 = .ok (.aload_n 0, 1) := by decide +kernel
theorem dX4_place_28 : decode cX4_place 28 = .ok (.getfield 21, 3) := by decide +kernel
theorem dX4_place_31 : decode cX4_place 31 = .ok (.aload_n 0, 1) := by decide +kernel
theorem dX4_place_32 : decode cX4_place 32 = .ok (.getfield 11, 3) := by decide +kernel
theorem dX4_place_35 : decode cX4_place 35 = .ok (.iload_n 1, 1) := by decide +kernel
theorem dX4_place_36 : decode cX4_place 36 = .ok (.aaload, 1) := by decide +kernel
theorem dX4_place_37 : decode cX4_place 37 = .ok (.invokevirtual 128, 3) := by decide +kernel
theorem dX4_place_40 : decode cX4_place 40 = .ok (.aload_n 0, 1) := by decide +kernel
theorem dX4_place_41 : decode cX4_place 41 = .ok (.getfield 21, 3) := by decide +kernel
theorem dX4_place_44 : decode cX4_place 44 = .ok (.iload_n 2, 1) := by decide +kernel
theorem dX4_place_45 : decode cX4_place 45 = .ok (.invokevirtual 141, 3) := by decide +kernel
theorem dX4_place_48 : decode cX4_place 48 = .ok (.lreturn, 1) := by decide +kernel
theorem dX4_degree_0 : decode cX4_degree 0 = .ok (.iload_n 1, 1) := by decide +kernel
theorem dX4_degree_1 : decode cX4_degree 1 = .ok (.invokestatic 114, 3) := by decide +kernel
theorem dX4_degree_4 : decode cX4_degree 4 = .ok (.ifCond .eq 15, 3) := by decide +kernel
theorem dX4_degree_7 : decode cX4_degree 7 = .ok (.aload_n 0, 1) := by decide +kernel
theorem dX4_degree_8 : decode cX4_degree 8 = .ok (.getfield 11, 3) := by decide +kernel
theorem dX4_degree_11 : decode cX4_degree 11 = .ok (.iload_n 1, 1) := by decide +kernel
theorem dX4_degree_12 : decode cX4_degree 12 = .ok (.aaload, 1) := by decide +kernel
theorem dX4_degree_13 : decode cX4_degree 13 = .ok (.getfield 81, 3) := by decide +kernel
theorem dX4_degree_16 : decode cX4_degree 16 = .ok (.goto 5, 3) := by decide +kernel
theorem dX4_degree_19 : decode cX4_degree 19 = .ok (.bipush (-2), 2) := by decide +kernel
theorem dX4_degree_21 : decode cX4_degree 21 = .ok (.ireturn, 1) := by decide +kernel
theorem dX4_signOf_0 : decode cX4_signOf 0 = .ok (.iload_n 1, 1) := by decide +kernel
theorem dX4_signOf_1 : decode cX4_signOf 1 = .ok (.iload_n 2, 1) := by decide +kernel
theorem dX4_signOf_2 : decode cX4_signOf 2 = .ok (.invokestatic 34, 3) := by decide +kernel
theorem dX4_signOf_5 : decode cX4_signOf 5 = .ok (.ifCond .eq 20, 3) := by decide +kernel
theorem dX4_signOf_8 : decode cX4_signOf 8 = .ok (.aload_n 0, 1) := by decide +kernel
theorem dX4_signOf_9 : decode cX4_signOf 9 = .ok (.getfield 11, 3) := by decide +kernel
theorem dX4_signOf_12 : decode cX4_signOf 12 = .ok (.iload_n 1, 1) := by decide +kernel
theorem dX4_signOf_13 : decode cX4_signOf 13 = .ok (.aaload, 1) := by decide +kernel
theorem dX4_signOf_14 : decode cX4_signOf 14 = .ok (.getfield 38, 3) := by decide +kernel
theorem dX4_signOf_17 : decode cX4_signOf 17 = .ok (.iload_n 2, 1) := by decide +kernel
theorem dX4_signOf_18 : decode cX4_signOf 18 = .ok (.aaload, 1) := by decide +kernel
theorem dX4_signOf_19 : decode cX4_signOf 19 = .ok (.getfield 145, 3) := by decide +kernel
theorem dX4_signOf_22 : decode cX4_signOf 22 = .ok (.goto 4, 3) := by decide +kernel
theorem dX4_signOf_25 : decode cX4_signOf 25 = .ok (.iconst 2, 1) := by decide +kernel
theorem dX4_signOf_26 : decode cX4_signOf 26 = .ok (.ireturn, 1) := by decide +kernel
theorem dX4_words_0 : decode cX4_words 0 = .ok (.iload_n 1, 1) := by decide +kernel
theorem dX4_words_1 : decode cX4_words 1 = .ok (.iload_n 2, 1) := by decide +kernel
theorem dX4_words_2 : decode cX4_words 2 = .ok (.invokestatic 34, 3) := by decide +kernel
theorem dX4_words_5 : decode cX4_words 5 = .ok (.ifCond .eq 20, 3) := by decide +kernel
theorem dX4_words_8 : decode cX4_words 8 = .ok (.aload_n 0, 1) := by decide +kernel
theorem dX4_words_9 : decode cX4_words 9 = .ok (.getfield 11, 3) := by decide +kernel
theorem dX4_words_12 : decode cX4_words 12 = .ok (.iload_n 1, 1) := by decide +kernel
theorem dX4_words_13 : decode cX4_words 13 = .ok (.aaload, 1) := by decide +kernel
theorem dX4_words_14 : decode cX4_words 14 = .ok (.getfield 38, 3) := by decide +kernel
theorem dX4_words_17 : decode cX4_words 17 = .ok (.iload_n 2, 1) := by decide +kernel
theorem dX4_words_18 : decode cX4_words 18 = .ok (.aaload, 1) := by decide +kernel
theorem dX4_words_19 : decode cX4_words 19 = .ok (.getfield 148, 3) := by decide +kernel
theorem dX4_words_22 : decode cX4_words 22 = .ok (.goto 4, 3) := by decide +kernel
theorem dX4_words_25 : decode cX4_words 25 = .ok (.iconst (-1), 1) := by decide +kernel
theorem dX4_words_26 : decode cX4_words 26 = .ok (.ireturn, 1) := by decide +kernel
theorem dX4_wordOf_0 : decode cX4_wordOf 0 = .ok (.iload_n 1, 1) := by decide +kernel
theorem dX4_wordOf_1 : decode cX4_wordOf 1 = .ok (.iload_n 2, 1) := by decide +kernel
theorem dX4_wordOf_2 : decode cX4_wordOf 2 = .ok (.invokestatic 34, 3) := by decide +kernel
theorem dX4_wordOf_5 : decode cX4_wordOf 5 = .ok (.ifCond .eq 25, 3) := by decide +kernel
theorem dX4_wordOf_8 : decode cX4_wordOf 8 = .ok (.iload_n 3, 1) := by decide +kernel
theorem dX4_wordOf_9 : decode cX4_wordOf 9 = .ok (.ifCond .lt 21, 3) := by decide +kernel
theorem dX4_wordOf_12 : decode cX4_wordOf 12 = .ok (.iload_n 3, 1) := by decide +kernel
theorem dX4_wordOf_13 : decode cX4_wordOf 13 = .ok (.aload_n 0, 1) := by decide +kernel
theorem dX4_wordOf_14 : decode cX4_wordOf 14 = .ok (.getfield 11, 3) := by decide +kernel
theorem dX4_wordOf_17 : decode cX4_wordOf 17 = .ok (.iload_n 1, 1) := by decide +kernel
theorem dX4_wordOf_18 : decode cX4_wordOf 18 = .ok (.aaload, 1) := by decide +kernel
theorem dX4_wordOf_19 : decode cX4_wordOf 19 = .ok (.getfield 38, 3) := by decide +kernel
theorem dX4_wordOf_22 : decode cX4_wordOf 22 = .ok (.iload_n 2, 1) := by decide +kernel
theorem dX4_wordOf_23 : decode cX4_wordOf 23 = .ok (.aaload, 1) := by decide +kernel
theorem dX4_wordOf_24 : decode cX4_wordOf 24 = .ok (.getfield 148, 3) := by decide +kernel
theorem dX4_wordOf_27 : decode cX4_wordOf 27 = .ok (.if_icmp .lt 5, 3) := by decide +kernel
theorem dX4_wordOf_30 : decode cX4_wordOf 30 = .ok (.iconst (-1), 1) := by decide +kernel
theorem dX4_wordOf_31 : decode cX4_wordOf 31 = .ok (.ireturn, 1) := by decide +kernel
theorem dX4_wordOf_32 : decode cX4_wordOf 32 = .ok (.aload_n 0, 1) := by decide +kernel
theorem dX4_wordOf_33 : decode cX4_wordOf 33 = .ok (.getfield 11, 3) := by decide +kernel
theorem dX4_wordOf_36 : decode cX4_wordOf 36 = .ok (.iload_n 1, 1) := by decide +kernel
theorem dX4_wordOf_37 : decode cX4_wordOf 37 = .ok (.aaload, 1) := by decide +kernel
theorem dX4_wordOf_38 : decode cX4_wordOf 38 = .ok (.getfield 38, 3) := by decide +kernel
theorem dX4_wordOf_41 : decode cX4_wordOf 41 = .ok (.iload_n 2, 1) := by decide +kernel
theorem dX4_wordOf_42 : decode cX4_wordOf 42 = .ok (.aaload, 1) := by decide +kernel
theorem dX4_wordOf_43 : decode cX4_wordOf 43 = .ok (.getfield 151, 3) := by decide +kernel
theorem dX4_wordOf_46 : decode cX4_wordOf 46 = .ok (.iload_n 3, 1) := by decide +kernel
theorem dX4_wordOf_47 : decode cX4_wordOf 47 = .ok (.iaload, 1) := by decide +kernel
theorem dX4_wordOf_48 : decode cX4_wordOf 48 = .ok (.ireturn, 1) := by decide +kernel
theorem dX4_same_0 : decode cX4_same 0 = .ok (.iload_n 1, 1) := by decide +kernel
theorem dX4_same_1 : decode cX4_same 1 = .ok (.invokestatic 114, 3) := by decide +kernel
theorem dX4_same_4 : decode cX4_same 4 = .ok (.ifCond .eq 32, 3) := by decide +kernel
theorem dX4_same_7 : decode cX4_same 7 = .ok (.iload_n 2, 1) := by decide +kernel
theorem dX4_same_8 : decode cX4_same 8 = .ok (.invokestatic 114, 3) := by decide +kernel
theorem dX4_same_11 : decode cX4_same 11 = .ok (.ifCond .eq 25, 3) := by decide +kernel
theorem dX4_same_14 : decode cX4_same 14 = .ok (.aload_n 0, 1) := by decide +kernel
theorem dX4_same_15 : decode cX4_same 15 = .ok (.getfield 11, 3) := by decide +kernel
theorem dX4_same_18 : decode cX4_same 18 = .ok (.iload_n 1, 1) := by decide +kernel
theorem dX4_same_19 : decode cX4_same 19 = .ok (.aaload, 1) := by decide +kernel
theorem dX4_same_20 : decode cX4_same 20 = .ok (.aload_n 0, 1) := by decide +kernel
theorem dX4_same_21 : decode cX4_same 21 = .ok (.getfield 11, 3) := by decide +kernel
theorem dX4_same_24 : decode cX4_same 24 = .ok (.iload_n 2, 1) := by decide +kernel
theorem dX4_same_25 : decode cX4_same 25 = .ok (.aaload, 1) := by decide +kernel
theorem dX4_same_26 : decode cX4_same 26 = .ok (.invokevirtual 155, 3) := by decide +kernel
theorem dX4_same_29 : decode cX4_same 29 = .ok (.ifCond .eq 7, 3) := by decide +kernel
theorem dX4_same_32 : decode cX4_same 32 = .ok (.iconst 1, 1) := by decide +kernel
theorem dX4_same_33 : decode cX4_same 33 = .ok (.goto 4, 3) := by decide +kernel
theorem dX4_same_36 : decode cX4_same 36 = .ok (.iconst 0, 1) := by decide +kernel
theorem dX4_same_37 : decode cX4_same 37 = .ok (.ireturn, 1) := by decide +kernel
theorem dX4_isRegister_0 : decode cX4_isRegister 0 = .ok (.iload_n 0, 1) := by decide +kernel
theorem dX4_isRegister_1 : decode cX4_isRegister 1 = .ok (.ifCond .lt 13, 3) := by decide +kernel
theorem dX4_isRegister_4 : decode cX4_isRegister 4 = .ok (.iload_n 0, 1) := by decide +kernel
theorem dX4_isRegister_5 : decode cX4_isRegister 5 = .ok (.bipush 8, 2) := by decide +kernel
theorem dX4_isRegister_7 : decode cX4_isRegister 7 = .ok (.if_icmp .ge 7, 3) := by decide +kernel
theorem dX4_isRegister_10 : decode cX4_isRegister 10 = .ok (.iconst 1, 1) := by decide +kernel
theorem dX4_isRegister_11 : decode cX4_isRegister 11 = .ok (.goto 4, 3) := by decide +kernel
theorem dX4_isRegister_14 : decode cX4_isRegister 14 = .ok (.iconst 0, 1) := by decide +kernel
theorem dX4_isRegister_15 : decode cX4_isRegister 15 = .ok (.ireturn, 1) := by decide +kernel
theorem dX4_areRegisters_0 : decode cX4_areRegisters 0 = .ok (.iload_n 0, 1) := by decide +kernel
theorem dX4_areRegisters_1 : decode cX4_areRegisters 1 = .ok (.invokestatic 114, 3) := by decide +kernel
theorem dX4_areRegisters_4 : decode cX4_areRegisters 4 = .ok (.ifCond .eq 21, 3) := by decide +kernel
theorem dX4_areRegisters_7 : decode cX4_areRegisters 7 = .ok (.iload_n 1, 1) := by decide +kernel
theorem dX4_areRegisters_8 : decode cX4_areRegisters 8 = .ok (.invokestatic 114, 3) := by decide +kernel
theorem dX4_areRegisters_11 : decode cX4_areRegisters 11 = .ok (.ifCond .eq 14, 3) := by decide +kernel
theorem dX4_areRegisters_14 : decode cX4_areRegisters 14 = .ok (.iload_n 2, 1) := by decide +kernel
theorem dX4_areRegisters_15 : decode cX4_areRegisters 15 = .ok (.invokestatic 114, 3) := by decide +kernel
theorem dX4_areRegisters_18 : decode cX4_areRegisters 18 = .ok (.ifCond .eq 7, 3) := by decide +kernel
theorem dX4_areRegisters_21 : decode cX4_areRegisters 21 = .ok (.iconst 1, 1) := by decide +kernel
theorem dX4_areRegisters_22 : decode cX4_areRegisters 22 = .ok (.goto 4, 3) := by decide +kernel
theorem dX4_areRegisters_25 : decode cX4_areRegisters 25 = .ok (.iconst 0, 1) := by decide +kernel
theorem dX4_areRegisters_26 : decode cX4_areRegisters 26 = .ok (.ireturn, 1) := by decide +kernel
theorem dX4_isCoefficient_0 : decode cX4_isCoefficient 0 = .ok (.iload_n 0, 1) := by decide +kernel
theorem dX4_isCoefficient_1 : decode cX4_isCoefficient 1 = .ok (.invokestatic 114, 3) := by decide +kernel
theorem dX4_isCoefficient_4 : decode cX4_isCoefficient 4 = .ok (.ifCond .eq 17, 3) := by decide +kernel
theorem dX4_isCoefficient_7 : decode cX4_isCoefficient 7 = .ok (.iload_n 1, 1) := by decide +kernel
theorem dX4_isCoefficient_8 : decode cX4_isCoefficient 8 = .ok (.ifCond .lt 13, 3) := by decide +kernel
theorem dX4_isCoefficient_11 : decode cX4_isCoefficient 11 = .ok (.iload_n 1, 1) := by decide +kernel
theorem dX4_isCoefficient_12 : decode cX4_isCoefficient 12 = .ok (.bipush 8, 2) := by decide +kernel
theorem dX4_isCoefficient_14 : decode cX4_isCoefficient 14 = .ok (.if_icmp .gt 7, 3) := by decide +kernel
theorem dX4_isCoefficient_17 : decode cX4_isCoefficient 17 = .ok (.iconst 1, 1) := by decide +kernel
theorem dX4_isCoefficient_18 : decode cX4_isCoefficient 18 = .ok (.goto 4, 3) := by decide +kernel
theorem dX4_isCoefficient_21 : decode cX4_isCoefficient 21 = .ok (.iconst 0, 1) := by decide +kernel
theorem dX4_isCoefficient_22 : decode cX4_isCoefficient 22 = .ok (.ireturn, 1) := by decide +kernel
theorem dX4_deliver_0 : decode cX4_deliver 0 = .ok (.aload_n 2, 1) := by decide +kernel
theorem dX4_deliver_1 : decode cX4_deliver 1 = .ok (.invokevirtual 159, 3) := by decide +kernel
theorem dX4_deliver_4 : decode cX4_deliver 4 = .ok (.ifCond .ne 5, 3) := by decide +kernel
theorem dX4_deliver_7 : decode cX4_deliver 7 = .ok (.iconst 3, 1) := by decide +kernel
theorem dX4_deliver_8 : decode cX4_deliver 8 = .ok (.ireturn, 1) := by decide +kernel
theorem dX4_deliver_9 : decode cX4_deliver 9 = .ok (.aload_n 0, 1) := by decide +kernel
theorem dX4_deliver_10 : decode cX4_deliver 10 = .ok (.getfield 11, 3) := by decide +kernel
theorem dX4_deliver_13 : decode cX4_deliver 13 = .ok (.iload_n 1, 1) := by decide +kernel
theorem dX4_deliver_14 : decode cX4_deliver 14 = .ok (.aaload, 1) := by decide +kernel
theorem dX4_deliver_15 : decode cX4_deliver 15 = .ok (.aload_n 2, 1) := by decide +kernel
theorem dX4_deliver_16 : decode cX4_deliver 16 = .ok (.invokevirtual 163, 3) := by decide +kernel
theorem dX4_deliver_19 : decode cX4_deliver 19 = .ok (.aload_n 0, 1) := by decide +kernel
theorem dX4_deliver_20 : decode cX4_deliver 20 = .ok (.getfield 30, 3) := by decide +kernel
theorem dX4_deliver_23 : decode cX4_deliver 23 = .ok (.iload_n 1, 1) := by decide +kernel
theorem dX4_deliver_24 : decode cX4_deliver 24 = .ok (.if_icmp .ne 8, 3) := by decide +kernel
theorem dX4_deliver_27 : decode cX4_deliver 27 = .ok (.aload_n 0, 1) := by decide +kernel
theorem dX4_deliver_28 : decode cX4_deliver 28 = .ok (.iconst (-1), 1) := by decide +kernel
theorem dX4_deliver_29 : decode cX4_deliver 29 = .ok (.putfield 30, 3) := by decide +kernel
theorem dX4_deliver_32 : decode cX4_deliver 32 = .ok (.iconst 0, 1) := by decide +kernel
theorem dX4_deliver_33 : decode cX4_deliver 33 = .ok (.ireturn, 1) := by decide +kernel
