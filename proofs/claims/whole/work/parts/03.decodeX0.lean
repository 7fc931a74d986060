theorem dX0_init_0 : decode cX0_init 0 = .ok (.aload_n 0, 1) := by decide +kernel
theorem dX0_init_1 : decode cX0_init 1 = .ok (.invokespecial 3, 3) := by decide +kernel
theorem dX0_init_4 : decode cX0_init 4 = .ok (.aload_n 0, 1) := by decide +kernel
theorem dX0_init_5 : decode cX0_init 5 = .ok (.new 9, 3) := by decide +kernel
theorem dX0_init_8 : decode cX0_init 8 = .ok (.dup, 1) := by decide +kernel
theorem dX0_init_9 : decode cX0_init 9 = .ok (.bipush 8, 2) := by decide +kernel
theorem dX0_init_11 : decode cX0_init 11 = .ok (.sipush 300, 3) := by decide +kernel
theorem dX0_init_14 : decode cX0_init 14 = .ok (.invokespecial 11, 3) := by decide +kernel
theorem dX0_init_17 : decode cX0_init 17 = .ok (.putfield 14, 3) := by decide +kernel
theorem dX0_init_20 : decode cX0_init 20 = .ok (.aload_n 0, 1) := by decide +kernel
theorem dX0_init_21 : decode cX0_init 21 = .ok (.new 9, 3) := by decide +kernel
theorem dX0_init_24 : decode cX0_init 24 = .ok (.dup, 1) := by decide +kernel
theorem dX0_init_25 : decode cX0_init 25 = .ok (.bipush 8, 2) := by decide +kernel
theorem dX0_init_27 : decode cX0_init 27 = .ok (.bipush 60, 2) := by decide +kernel
theorem dX0_init_29 : decode cX0_init 29 = .ok (.invokespecial 11, 3) := by decide +kernel
theorem dX0_init_32 : decode cX0_init 32 = .ok (.putfield 20, 3) := by decide +kernel
theorem dX0_init_35 : decode cX0_init 35 = .ok (.aload_n 0, 1) := by decide +kernel
theorem dX0_init_36 : decode cX0_init 36 = .ok (.new 23, 3) := by decide +kernel
theorem dX0_init_39 : decode cX0_init 39 = .ok (.dup, 1) := by decide +kernel
theorem dX0_init_40 : decode cX0_init 40 = .ok (.sipush 300, 3) := by decide +kernel
theorem dX0_init_43 : decode cX0_init 43 = .ok (.invokespecial 25, 3) := by decide +kernel
theorem dX0_init_46 : decode cX0_init 46 = .ok (.putfield 28, 3) := by decide +kernel
theorem dX0_init_49 : decode cX0_init 49 = .ok (.aload_n 0, 1) := by decide +kernel
theorem dX0_init_50 : decode cX0_init 50 = .ok (.new 23, 3) := by decide +kernel
theorem dX0_init_53 : decode cX0_init 53 = .ok (.dup, 1) := by decide +kernel
theorem dX0_init_54 : decode cX0_init 54 = .ok (.sipush 300, 3) := by decide +kernel
theorem dX0_init_57 : decode cX0_init 57 = .ok (.invokespecial 25, 3) := by decide +kernel
theorem dX0_init_60 : decode cX0_init 60 = .ok (.putfield 32, 3) := by decide +kernel
theorem dX0_init_63 : decode cX0_init 63 = .ok (.aload_n 0, 1) := by decide +kernel
theorem dX0_init_64 : decode cX0_init 64 = .ok (.new 23, 3) := by decide +kernel
theorem dX0_init_67 : decode cX0_init 67 = .ok (.dup, 1) := by decide +kernel
theorem dX0_init_68 : decode cX0_init 68 = .ok (.sipush 300, 3) := by decide +kernel
theorem dX0_init_71 : decode cX0_init 71 = .ok (.invokespecial 25, 3) := by decide +kernel
theorem dX0_init_74 : decode cX0_init 74 = .ok (.putfield 35, 3) := by decide +kernel
theorem dX0_init_77 : decode cX0_init 77 = .ok (.aload_n 0, 1) := by decide +kernel
theorem dX0_init_78 : decode cX0_init 78 = .ok (.new 23, 3) := by decide +kernel
theorem dX0_init_81 : decode cX0_init 81 = .ok (.dup, 1) := by decide +kernel
theorem dX0_init_82 : decode cX0_init 82 = .ok (.sipush 300, 3) := by decide +kernel
theorem dX0_init_85 : decode cX0_init 85 = .ok (.invokespecial 25, 3) := by decide +kernel
theorem dX0_init_88 : decode cX0_init 88 = .ok (.putfield 38, 3) := by decide +kernel
theorem dX0_init_91 : decode cX0_init 91 = .ok (.return_, 1) := by decide +kernel
theorem dX0_sum_0 : decode cX0_sum 0 = .ok (.aload_n 0, 1) := by decide +kernel
theorem dX0_sum_1 : decode cX0_sum 1 = .ok (.getfield 14, 3) := by decide +kernel
theorem dX0_sum_4 : decode cX0_sum 4 = .ok (.aload_n 1, 1) := by decide +kernel
theorem dX0_sum_5 : decode cX0_sum 5 = .ok (.invokevirtual 41, 3) := by decide +kernel
theorem dX0_sum_8 : decode cX0_sum 8 = .ok (.iconst 0, 1) := by decide +kernel
theorem dX0_sum_9 : decode cX0_sum 9 = .ok (.istore 4, 2) := by decide +kernel
theorem dX0_sum_11 : decode cX0_sum 11 = .ok (.iload 4, 2) := by decide +kernel
theorem dX0_sum_13 : decode cX0_sum 13 = .ok (.aload_n 2, 1) := by decide +kernel
theorem dX0_sum_14 : decode cX0_sum 14 = .ok (.getfield 45, 3) := by decide +kernel
theorem dX0_sum_17 : decode cX0_sum 17 = .ok (.if_icmp .gt 37, 3) := by decide +kernel
theorem dX0_sum_20 : decode cX0_sum 20 = .ok (.iload 4, 2) := by decide +kernel
theorem dX0_sum_22 : decode cX0_sum 22 = .ok (.bipush 8, 2) := by decide +kernel
theorem dX0_sum_24 : decode cX0_sum 24 = .ok (.if_icmp .gt 30, 3) := by decide +kernel
theorem dX0_sum_27 : decode cX0_sum 27 = .ok (.aload_n 0, 1) := by decide +kernel
theorem dX0_sum_28 : decode cX0_sum 28 = .ok (.getfield 14, 3) := by decide +kernel
theorem dX0_sum_31 : decode cX0_sum 31 = .ok (.getfield 49, 3) := by decide +kernel
theorem dX0_sum_34 : decode cX0_sum 34 = .ok (.iload 4, 2) := by decide +kernel
theorem dX0_sum_36 : decode cX0_sum 36 = .ok (.aaload, 1) := by decide +kernel
theorem dX0_sum_37 : decode cX0_sum 37 = .ok (.aload_n 2, 1) := by decide +kernel
theorem dX0_sum_38 : decode cX0_sum 38 = .ok (.getfield 49, 3) := by decide +kernel
theorem dX0_sum_41 : decode cX0_sum 41 = .ok (.iload 4, 2) := by decide +kernel
theorem dX0_sum_43 : decode cX0_sum 43 = .ok (.aaload, 1) := by decide +kernel
theorem dX0_sum_44 : decode cX0_sum 44 = .ok (.iload_n 3, 1) := by decide +kernel
theorem dX0_sum_45 : decode cX0_sum 45 = .ok (.invokevirtual 53, 3) := by decide +kernel
theorem dX0_sum_48 : decode cX0_sum 48 = .ok (.iinc 4 1, 3) := by decide +kernel
theorem dX0_sum_51 : decode cX0_sum 51 = .ok (.goto (-40), 3) := by decide +kernel
theorem dX0_sum_54 : decode cX0_sum 54 = .ok (.aload_n 0, 1) := by decide +kernel
theorem dX0_sum_55 : decode cX0_sum 55 = .ok (.getfield 14, 3) := by decide +kernel
theorem dX0_sum_58 : decode cX0_sum 58 = .ok (.invokevirtual 57, 3) := by decide +kernel
theorem dX0_sum_61 : decode cX0_sum 61 = .ok (.return_, 1) := by decide +kernel
theorem dX0_times_0 : decode cX0_times 0 = .ok (.aload_n 0, 1) := by decide +kernel
theorem dX0_times_1 : decode cX0_times 1 = .ok (.getfield 14, 3) := by decide +kernel
theorem dX0_times_4 : decode cX0_times 4 = .ok (.invokevirtual 60, 3) := by decide +kernel
theorem dX0_times_7 : decode cX0_times 7 = .ok (.iconst 0, 1) := by decide +kernel
theorem dX0_times_8 : decode cX0_times 8 = .ok (.istore_n 3, 1) := by decide +kernel
theorem dX0_times_9 : decode cX0_times 9 = .ok (.iload_n 3, 1) := by decide +kernel
theorem dX0_times_10 : decode cX0_times 10 = .ok (.aload_n 1, 1) := by decide +kernel
theorem dX0_times_11 : decode cX0_times 11 = .ok (.getfield 45, 3) := by decide +kernel
theorem dX0_times_14 : decode cX0_times 14 = .ok (.if_icmp .gt 76, 3) := by decide +kernel
theorem dX0_times_17 : decode cX0_times 17 = .ok (.iconst 0, 1) := by decide +kernel
theorem dX0_times_18 : decode cX0_times 18 = .ok (.istore 4, 2) := by decide +kernel
theorem dX0_times_20 : decode cX0_times 20 = .ok (.iload 4, 2) := by decide +kernel
theorem dX0_times_22 : decode cX0_times 22 = .ok (.aload_n 2, 1) := by decide +kernel
theorem dX0_times_23 : decode cX0_times 23 = .ok (.getfield 45, 3) := by decide +kernel
theorem dX0_times_26 : decode cX0_times 26 = .ok (.if_icmp .gt 58, 3) := by decide +kernel
theorem dX0_times_29 : decode cX0_times 29 = .ok (.iload_n 3, 1) := by decide +kernel
theorem dX0_times_30 : decode cX0_times 30 = .ok (.iload 4, 2) := by decide +kernel
theorem dX0_times_32 : decode cX0_times 32 = .ok (.iadd, 1) := by decide +kernel
theorem dX0_times_33 : decode cX0_times 33 = .ok (.bipush 8, 2) := by decide +kernel
theorem dX0_times_35 : decode cX0_times 35 = .ok (.if_icmp .gt 49, 3) := by decide +kernel
theorem dX0_times_38 : decode cX0_times 38 = .ok (.aload_n 0, 1) := by decide +kernel
theorem dX0_times_39 : decode cX0_times 39 = .ok (.getfield 28, 3) := by decide +kernel
theorem dX0_times_42 : decode cX0_times 42 = .ok (.aload_n 1, 1) := by decide +kernel
theorem dX0_times_43 : decode cX0_times 43 = .ok (.getfield 49, 3) := by decide +kernel
theorem dX0_times_46 : decode cX0_times 46 = .ok (.iload_n 3, 1) := by decide +kernel
theorem dX0_times_47 : decode cX0_times 47 = .ok (.aaload, 1) := by decide +kernel
theorem dX0_times_48 : decode cX0_times 48 = .ok (.aload_n 2, 1) := by decide +kernel
theorem dX0_times_49 : decode cX0_times 49 = .ok (.getfield 49, 3) := by decide +kernel
theorem dX0_times_52 : decode cX0_times 52 = .ok (.iload 4, 2) := by decide +kernel
theorem dX0_times_54 : decode cX0_times 54 = .ok (.aaload, 1) := by decide +kernel
theorem dX0_times_55 : decode cX0_times 55 = .ok (.invokevirtual 63, 3) := by decide +kernel
theorem dX0_times_58 : decode cX0_times 58 = .ok (.aload_n 0, 1) := by decide +kernel
theorem dX0_times_59 : decode cX0_times 59 = .ok (.getfield 14, 3) := by decide +kernel
theorem dX0_times_62 : decode cX0_times 62 = .ok (.getfield 49, 3) := by decide +kernel
theorem dX0_times_65 : decode cX0_times 65 = .ok (.iload_n 3, 1) := by decide +kernel
theorem dX0_times_66 : decode cX0_times 66 = .ok (.iload 4, 2) := by decide +kernel
theorem dX0_times_68 : decode cX0_times 68 = .ok (.iadd, 1) := by decide +kernel
theorem dX0_times_69 : decode cX0_times 69 = .ok (.aaload, 1) := by decide +kernel
theorem dX0_times_70 : decode cX0_times 70 = .ok (.aload_n 0, 1) := by decide +kernel
theorem dX0_times_71 : decode cX0_times 71 = .ok (.getfield 28, 3) := by decide +kernel
theorem dX0_times_74 : decode cX0_times 74 = .ok (.iconst 1, 1) := by decide +kernel
theorem dX0_times_75 : decode cX0_times 75 = .ok (.invokevirtual 53, 3) := by decide +kernel
theorem dX0_times_78 : decode cX0_times 78 = .ok (.iinc 4 1, 3) := by decide +kernel
theorem dX0_times_81 : decode cX0_times 81 = .ok (.goto (-61), 3) := by decide +kernel
theorem dX0_times_84 : decode cX0_times 84 = .ok (.iinc 3 1, 3) := by decide +kernel
theorem dX0_times_87 : decode cX0_times 87 = .ok (.goto (-78), 3) := by decide +kernel
theorem dX0_times_90 : decode cX0_times 90 = .ok (.aload_n 0, 1) := by decide +kernel
theorem dX0_times_91 : decode cX0_times 91 = .ok (.getfield 14, 3) := by decide +kernel
theorem dX0_times_94 : decode cX0_times 94 = .ok (.invokevirtual 57, 3) := by decide +kernel
theorem dX0_times_97 : decode cX0_times 97 = .ok (.return_, 1) := by decide +kernel
theorem dX0_move_0 : decode cX0_move 0 = .ok (.aload_n 0, 1) := by decide +kernel
theorem dX0_move_1 : decode cX0_move 1 = .ok (.getfield 14, 3) := by decide +kernel
theorem dX0_move_4 : decode cX0_move 4 = .ok (.aload_n 1, 1) := by decide +kernel
theorem dX0_move_5 : decode cX0_move 5 = .ok (.invokevirtual 41, 3) := by decide +kernel
theorem dX0_move_8 : decode cX0_move 8 = .ok (.iconst 0, 1) := by decide +kernel
theorem dX0_move_9 : decode cX0_move 9 = .ok (.istore_n 3, 1) := by decide +kernel
theorem dX0_move_10 : decode cX0_move 10 = .ok (.iload_n 3, 1) := by decide +kernel
theorem dX0_move_11 : decode cX0_move 11 = .ok (.aload_n 0, 1) := by decide +kernel
theorem dX0_move_12 : decode cX0_move 12 = .ok (.getfield 14, 3) := by decide +kernel
theorem dX0_move_15 : decode cX0_move 15 = .ok (.getfield 45, 3) := by decide +kernel
theorem dX0_move_18 : decode cX0_move 18 = .ok (.if_icmp .ge 78, 3) := by decide +kernel
theorem dX0_move_21 : decode cX0_move 21 = .ok (.aload_n 0, 1) := by decide +kernel
theorem dX0_move_22 : decode cX0_move 22 = .ok (.getfield 14, 3) := by decide +kernel
theorem dX0_move_25 : decode cX0_move 25 = .ok (.getfield 45, 3) := by decide +kernel
theorem dX0_move_28 : decode cX0_move 28 = .ok (.iconst 1, 1) := by decide +kernel
theorem dX0_move_29 : decode cX0_move 29 = .ok (.isub, 1) := by decide +kernel
theorem dX0_move_30 : decode cX0_move 30 = .ok (.istore 4, 2) := by decide +kernel
theorem dX0_move_32 : decode cX0_move 32 = .ok (.iload 4, 2) := by decide +kernel
theorem dX0_move_34 : decode cX0_move 34 = .ok (.iload_n 3, 1) := by decide +kernel
theorem dX0_move_35 : decode cX0_move 35 = .ok (.if_icmp .lt 55, 3) := by decide +kernel
theorem dX0_move_38 : decode cX0_move 38 = .ok (.aload_n 0, 1) := by decide +kernel
theorem dX0_move_39 : decode cX0_move 39 = .ok (.getfield 28, 3) := by decide +kernel
theorem dX0_move_42 : decode cX0_move 42 = .ok (.aload_n 0, 1) := by decide +kernel
theorem dX0_move_43 : decode cX0_move 43 = .ok (.getfield 14, 3) := by decide +kernel
theorem dX0_move_46 : decode cX0_move 46 = .ok (.getfield 49, 3) := by decide +kernel
theorem dX0_move_49 : decode cX0_move 49 = .ok (.iload 4, 2) := by decide +kernel
theorem dX0_move_51 : decode cX0_move 51 = .ok (.iconst 1, 1) := by decide +kernel
theorem dX0_move_52 : decode cX0_move 52 = .ok (.iadd, 1) := by decide +kernel
theorem dX0_move_53 : decode cX0_move 53 = .ok (.aaload, 1) := by decide +kernel
theorem dX0_move_54 : decode cX0_move 54 = .ok (.invokevirtual 67, 3) := by decide +kernel
theorem dX0_move_57 : decode cX0_move 57 = .ok (.aload_n 0, 1) := by decide +kernel
theorem dX0_move_58 : decode cX0_move 58 = .ok (.getfield 28, 3) := by decide +kernel
theorem dX0_move_61 : decode cX0_move 61 = .ok (.iload_n 2, 1) := by decide +kernel
theorem dX0_move_62 : decode cX0_move 62 = .ok (.i2l, 1) := by decide +kernel
theorem dX0_move_63 : decode cX0_move 63 = .ok (.invokevirtual 70, 3) := by decide +kernel
theorem dX0_move_66 : decode cX0_move 66 = .ok (.aload_n 0, 1) := by decide +kernel
theorem dX0_move_67 : decode cX0_move 67 = .ok (.getfield 14, 3) := by decide +kernel
theorem dX0_move_70 : decode cX0_move 70 = .ok (.getfield 49, 3) := by decide +kernel
theorem dX0_move_73 : decode cX0_move 73 = .ok (.iload 4, 2) := by decide +kernel
theorem dX0_move_75 : decode cX0_move 75 = .ok (.aaload, 1) := by decide +kernel
theorem dX0_move_76 : decode cX0_move 76 = .ok (.aload_n 0, 1) := by decide +kernel
theorem dX0_move_77 : decode cX0_move 77 = .ok (.getfield 28, 3) := by decide +kernel
theorem dX0_move_80 : decode cX0_move 80 = .ok (.iconst 1, 1) := by decide +kernel
theorem dX0_move_81 : decode cX0_move 81 = .ok (.invokevirtual 53, 3) := by decide +kernel
theorem dX0_move_84 : decode cX0_move 84 = .ok (.iinc 4 (-1), 3) := by decide +kernel
theorem dX0_move_87 : decode cX0_move 87 = .ok (.goto (-55), 3) := by decide +kernel
theorem dX0_move_90 : decode cX0_move 90 = .ok (.iinc 3 1, 3) := by decide +kernel
theorem dX0_move_93 : decode cX0_move 93 = .ok (.goto (-83), 3) := by decide +kernel
theorem dX0_move_96 : decode cX0_move 96 = .ok (.return_, 1) := by decide +kernel
theorem dX0_rest_0 : decode cX0_rest 0 = .ok (.aload_n 0, 1) := by decide +kernel
theorem dX0_rest_1 : decode cX0_rest 1 = .ok (.getfield 14, 3) := by decide +kernel
theorem dX0_rest_4 : decode cX0_rest 4 = .ok (.aload_n 1, 1) := by decide +kernel
theorem dX0_rest_5 : decode cX0_rest 5 = .ok (.invokevirtual 41, 3) := by decide +kernel
theorem dX0_rest_8 : decode cX0_rest 8 = .ok (.aload_n 0, 1) := by decide +kernel
theorem dX0_rest_9 : decode cX0_rest 9 = .ok (.aload_n 2, 1) := by decide +kernel
theorem dX0_rest_10 : decode cX0_rest 10 = .ok (.invokevirtual 74, 3) := by decide +kernel
theorem dX0_rest_13 : decode cX0_rest 13 = .ok (.aload_n 1, 1) := by decide +kernel
theorem dX0_rest_14 : decode cX0_rest 14 = .ok (.getfield 45, 3) := by decide +kernel
theorem dX0_rest_17 : decode cX0_rest 17 = .ok (.aload_n 2, 1) := by decide +kernel
theorem dX0_rest_18 : decode cX0_rest 18 = .ok (.getfield 45, 3) := by decide +kernel
theorem dX0_rest_21 : decode cX0_rest 21 = .ok (.isub, 1) := by decide +kernel
theorem dX0_rest_22 : decode cX0_rest 22 = .ok (.iconst 1, 1) := by decide +kernel
theorem dX0_rest_23 : decode cX0_rest 23 = .ok (.iadd, 1) := by decide +kernel
theorem dX0_rest_24 : decode cX0_rest 24 = .ok (.istore_n 3, 1) := by decide +kernel
theorem dX0_rest_25 : decode cX0_rest 25 = .ok (.iload_n 3, 1) := by decide +kernel
theorem dX0_rest_26 : decode cX0_rest 26 = .ok (.ifCond .le 24, 3) := by decide +kernel
theorem dX0_rest_29 : decode cX0_rest 29 = .ok (.iload_n 3, 1) := by decide +kernel
theorem dX0_rest_30 : decode cX0_rest 30 = .ok (.iconst 2, 1) := by decide +kernel
theorem dX0_rest_31 : decode cX0_rest 31 = .ok (.irem, 1) := by decide +kernel
theorem dX0_rest_32 : decode cX0_rest 32 = .ok (.iconst 1, 1) := by decide +kernel
theorem dX0_rest_33 : decode cX0_rest 33 = .ok (.if_icmp .ne 17, 3) := by decide +kernel
theorem dX0_rest_36 : decode cX0_rest 36 = .ok (.aload_n 2, 1) := by decide +kernel
theorem dX0_rest_37 : decode cX0_rest 37 = .ok (.invokevirtual 77, 3) := by decide +kernel
theorem dX0_rest_40 : decode cX0_rest 40 = .ok (.ifCond .ge 10, 3) := by decide +kernel
theorem dX0_rest_43 : decode cX0_rest 43 = .ok (.aload_n 0, 1) := by decide +kernel
theorem dX0_rest_44 : decode cX0_rest 44 = .ok (.getfield 14, 3) := by decide +kernel
theorem dX0_rest_47 : decode cX0_rest 47 = .ok (.invokevirtual 81, 3) := by decide +kernel
theorem dX0_rest_50 : decode cX0_rest 50 = .ok (.return_, 1) := by decide +kernel
theorem dX0_reduce_0 : decode cX0_reduce 0 = .ok (.aload_n 1, 1) := by decide +kernel
theorem dX0_reduce_1 : decode cX0_reduce 1 = .ok (.getfield 45, 3) := by decide +kernel
theorem dX0_reduce_4 : decode cX0_reduce 4 = .ok (.ifCond .ge 4, 3) := by decide +kernel
theorem dX0_reduce_7 : decode cX0_reduce 7 = .ok (.return_, 1) := by decide +kernel
theorem dX0_reduce_8 : decode cX0_reduce 8 = .ok (.aload_n 1, 1) := by decide +kernel
theorem dX0_reduce_9 : decode cX0_reduce 9 = .ok (.getfield 49, 3) := by decide +kernel
theorem dX0_reduce_12 : decode cX0_reduce 12 = .ok (.aload_n 1, 1) := by decide +kernel
theorem dX0_reduce_13 : decode cX0_reduce 13 = .ok (.getfield 45, 3) := by decide +kernel
theorem dX0_reduce_16 : decode cX0_reduce 16 = .ok (.aaload, 1) := by decide +kernel
theorem dX0_reduce_17 : decode cX0_reduce 17 = .ok (.astore_n 2, 1) := by decide +kernel
theorem dX0_reduce_18 : decode cX0_reduce 18 = .ok (.aload_n 0, 1) := by decide +kernel
theorem dX0_reduce_19 : decode cX0_reduce 19 = .ok (.getfield 14, 3) := by decide +kernel
theorem dX0_reduce_22 : decode cX0_reduce 22 = .ok (.getfield 45, 3) := by decide +kernel
theorem dX0_reduce_25 : decode cX0_reduce 25 = .ok (.aload_n 1, 1) := by decide +kernel
theorem dX0_reduce_26 : decode cX0_reduce 26 = .ok (.getfield 45, 3) := by decide +kernel
theorem dX0_reduce_29 : decode cX0_reduce 29 = .ok (.isub, 1) := by decide +kernel
theorem dX0_reduce_30 : decode cX0_reduce 30 = .ok (.istore_n 3, 1) := by decide +kernel
theorem dX0_reduce_31 : decode cX0_reduce 31 = .ok (.iload_n 3, 1) := by decide +kernel
theorem dX0_reduce_32 : decode cX0_reduce 32 = .ok (.ifCond .lt 146, 3) := by decide +kernel
theorem dX0_reduce_35 : decode cX0_reduce 35 = .ok (.aload_n 0, 1) := by decide +kernel
theorem dX0_reduce_36 : decode cX0_reduce 36 = .ok (.getfield 14, 3) := by decide +kernel
theorem dX0_reduce_39 : decode cX0_reduce 39 = .ok (.getfield 49, 3) := by decide +kernel
theorem dX0_reduce_42 : decode cX0_reduce 42 = .ok (.aload_n 1, 1) := by decide +kernel
theorem dX0_reduce_43 : decode cX0_reduce 43 = .ok (.getfield 45, 3) := by decide +kernel
theorem dX0_reduce_46 : decode cX0_reduce 46 = .ok (.iload_n 3, 1) := by decide +kernel
theorem dX0_reduce_47 : decode cX0_reduce 47 = .ok (.iadd, 1) := by decide +kernel
theorem dX0_reduce_48 : decode cX0_reduce 48 = .ok (.aaload, 1) := by decide +kernel
theorem dX0_reduce_49 : decode cX0_reduce 49 = .ok (.astore 4, 2) := by decide +kernel
theorem dX0_reduce_51 : decode cX0_reduce 51 = .ok (.aload_n 0, 1) := by decide +kernel
theorem dX0_reduce_52 : decode cX0_reduce 52 = .ok (.getfield 28, 3) := by decide +kernel
theorem dX0_reduce_55 : decode cX0_reduce 55 = .ok (.aload 4, 2) := by decide +kernel
theorem dX0_reduce_57 : decode cX0_reduce 57 = .ok (.invokevirtual 67, 3) := by decide +kernel
theorem dX0_reduce_60 : decode cX0_reduce 60 = .ok (.aload 4, 2) := by decide +kernel
theorem dX0_reduce_62 : decode cX0_reduce 62 = .ok (.invokevirtual 84, 3) := by decide +kernel
theorem dX0_reduce_65 : decode cX0_reduce 65 = .ok (.iconst 0, 1) := by decide +kernel
theorem dX0_reduce_66 : decode cX0_reduce 66 = .ok (.istore 5, 2) := by decide +kernel
theorem dX0_reduce_68 : decode cX0_reduce 68 = .ok (.iload 5, 2) := by decide +kernel
theorem dX0_reduce_70 : decode cX0_reduce 70 = .ok (.aload_n 1, 1) := by decide +kernel
theorem dX0_reduce_71 : decode cX0_reduce 71 = .ok (.getfield 45, 3) := by decide +kernel
theorem dX0_reduce_74 : decode cX0_reduce 74 = .ok (.iload_n 3, 1) := by decide +kernel
theorem dX0_reduce_75 : decode cX0_reduce 75 = .ok (.iadd, 1) := by decide +kernel
theorem dX0_reduce_76 : decode cX0_reduce 76 = .ok (.if_icmp .ge 96, 3) := by decide +kernel
theorem dX0_reduce_79 : decode cX0_reduce 79 = .ok (.aload_n 0, 1) := by decide +kernel
theorem dX0_reduce_80 : decode cX0_reduce 80 = .ok (.getfield 32, 3) := by decide +kernel
theorem dX0_reduce_83 : decode cX0_reduce 83 = .ok (.aload_n 0, 1) := by decide +kernel
theorem dX0_reduce_84 : decode cX0_reduce 84 = .ok (.getfield 14, 3) := by decide +kernel
theorem dX0_reduce_87 : decode cX0_reduce 87 = .ok (.getfield 49, 3) := by decide +kernel
theorem dX0_reduce_90 : decode cX0_reduce 90 = .ok (.iload 5, 2) := by decide +kernel
theorem dX0_reduce_92 : decode cX0_reduce 92 = .ok (.aaload, 1) := by decide +kernel
theorem dX0_reduce_93 : decode cX0_reduce 93 = .ok (.aload_n 2, 1) := by decide +kernel
theorem dX0_reduce_94 : decode cX0_reduce 94 = .ok (.invokevirtual 63, 3) := by decide +kernel
theorem dX0_reduce_97 : decode cX0_reduce 97 = .ok (.iload 5, 2) := by decide +kernel
theorem dX0_reduce_99 : decode cX0_reduce 99 = .ok (.iload_n 3, 1) := by decide +kernel
theorem dX0_reduce_100 : decode cX0_reduce 100 = .ok (.if_icmp .lt 35, 3) := by decide +kernel
theorem dX0_reduce_103 : decode cX0_reduce 103 = .ok (.aload_n 0, 1) := by decide +kernel
theorem dX0_reduce_104 : decode cX0_reduce 104 = .ok (.getfield 35, 3) := by decide +kernel
theorem dX0_reduce_107 : decode cX0_reduce 107 = .ok (.aload_n 0, 1) := by decide +kernel
theorem dX0_reduce_108 : decode cX0_reduce 108 = .ok (.getfield 28, 3) := by decide +kernel
theorem dX0_reduce_111 : decode cX0_reduce 111 = .ok (.aload_n 1, 1) := by decide +kernel
theorem dX0_reduce_112 : decode cX0_reduce 112 = .ok (.getfield 49, 3) := by decide +kernel
theorem dX0_reduce_115 : decode cX0_reduce 115 = .ok (.iload 5, 2) := by decide +kernel
theorem dX0_reduce_117 : decode cX0_reduce 117 = .ok (.iload_n 3, 1) := by decide +kernel
theorem dX0_reduce_118 : decode cX0_reduce 118 = .ok (.isub, 1) := by decide +kernel
theorem dX0_reduce_119 : decode cX0_reduce 119 = .ok (.aaload, 1) := by decide +kernel
theorem dX0_reduce_120 : decode cX0_reduce 120 = .ok (.invokevirtual 63, 3) := by decide +kernel
theorem dX0_reduce_123 : decode cX0_reduce 123 = .ok (.aload_n 0, 1) := by decide +kernel
theorem dX0_reduce_124 : decode cX0_reduce 124 = .ok (.getfield 32, 3) := by decide +kernel
theorem dX0_reduce_127 : decode cX0_reduce 127 = .ok (.aload_n 0, 1) := by decide +kernel
theorem dX0_reduce_128 : decode cX0_reduce 128 = .ok (.getfield 35, 3) := by decide +kernel
theorem dX0_reduce_131 : decode cX0_reduce 131 = .ok (.iconst (-1), 1) := by decide +kernel
theorem dX0_reduce_132 : decode cX0_reduce 132 = .ok (.invokevirtual 53, 3) := by decide +kernel
theorem dX0_reduce_135 : decode cX0_reduce 135 = .ok (.aload_n 2, 1) := by decide +kernel
theorem dX0_reduce_136 : decode cX0_reduce 136 = .ok (.getfield 85, 3) := by decide +kernel
theorem dX0_reduce_139 : decode cX0_reduce 139 = .ok (.ifCond .ge 10, 3) := by decide +kernel
theorem dX0_reduce_142 : decode cX0_reduce 142 = .ok (.aload_n 0, 1) := by decide +kernel
theorem dX0_reduce_143 : decode cX0_reduce 143 = .ok (.getfield 32, 3) := by decide +kernel
theorem dX0_reduce_146 : decode cX0_reduce 146 = .ok (.invokevirtual 88, 3) := by decide +kernel
theorem dX0_reduce_149 : decode cX0_reduce 149 = .ok (.aload_n 0, 1) := by decide +kernel
theorem dX0_reduce_150 : decode cX0_reduce 150 = .ok (.getfield 14, 3) := by decide +kernel
theorem dX0_reduce_153 : decode cX0_reduce 153 = .ok (.getfield 49, 3) := by decide +kernel
theorem dX0_reduce_156 : decode cX0_reduce 156 = .ok (.iload 5, 2) := by decide +kernel
theorem dX0_reduce_158 : decode cX0_reduce 158 = .ok (.aaload, 1) := by decide +kernel
theorem dX0_reduce_159 : decode cX0_reduce 159 = .ok (.aload_n 0, 1) := by decide +kernel
theorem dX0_reduce_160 : decode cX0_reduce 160 = .ok (.getfield 32, 3) := by decide +kernel
theorem dX0_reduce_163 : decode cX0_reduce 163 = .ok (.invokevirtual 67, 3) := by decide +kernel
theorem dX0_reduce_166 : decode cX0_reduce 166 = .ok (.iinc 5 1, 3) := by decide +kernel
theorem dX0_reduce_169 : decode cX0_reduce 169 = .ok (.goto (-101), 3) := by decide +kernel
theorem dX0_reduce_172 : decode cX0_reduce 172 = .ok (.iinc 3 (-1), 3) := by decide +kernel
theorem dX0_reduce_175 : decode cX0_reduce 175 = .ok (.goto (-144), 3) := by decide +kernel
theorem dX0_reduce_178 : decode cX0_reduce 178 = .ok (.aload_n 0, 1) := by decide +kernel
theorem dX0_reduce_179 : decode cX0_reduce 179 = .ok (.getfield 14, 3) := by decide +kernel
theorem dX0_reduce_182 : decode cX0_reduce 182 = .ok (.invokevirtual 57, 3) := by decide +kernel
theorem dX0_reduce_185 : decode cX0_reduce 185 = .ok (.return_, 1) := by decide +kernel
theorem dX0_splits_0 : decode cX0_splits 0 = .ok (.aload_n 2, 1) := by decide +kernel
theorem dX0_splits_1 : decode cX0_splits 1 = .ok (.getfield 45, 3) := by decide +kernel
theorem dX0_splits_4 : decode cX0_splits 4 = .ok (.ifCond .ge 5, 3) := by decide +kernel
theorem dX0_splits_7 : decode cX0_splits 7 = .ok (.iconst 0, 1) := by decide +kernel
theorem dX0_splits_8 : decode cX0_splits 8 = .ok (.ireturn, 1) := by decide +kernel
theorem dX0_splits_9 : decode cX0_splits 9 = .ok (.aload_n 0, 1) := by decide +kernel
theorem dX0_splits_10 : decode cX0_splits 10 = .ok (.getfield 14, 3) := by decide +kernel
theorem dX0_splits_13 : decode cX0_splits 13 = .ok (.aload_n 1, 1) := by decide +kernel
theorem dX0_splits_14 : decode cX0_splits 14 = .ok (.invokevirtual 41, 3) := by decide +kernel
theorem dX0_splits_17 : decode cX0_splits 17 = .ok (.aload_n 0, 1) := by decide +kernel
theorem dX0_splits_18 : decode cX0_splits 18 = .ok (.getfield 20, 3) := by decide +kernel
theorem dX0_splits_21 : decode cX0_splits 21 = .ok (.invokevirtual 60, 3) := by decide +kernel
theorem dX0_splits_24 : decode cX0_splits 24 = .ok (.aload_n 0, 1) := by decide +kernel
theorem dX0_splits_25 : decode cX0_splits 25 = .ok (.getfield 14, 3) := by decide +kernel
theorem dX0_splits_28 : decode cX0_splits 28 = .ok (.getfield 45, 3) := by decide +kernel
theorem dX0_splits_31 : decode cX0_splits 31 = .ok (.aload_n 2, 1) := by decide +kernel
theorem dX0_splits_32 : decode cX0_splits 32 = .ok (.getfield 45, 3) := by decide +kernel
theorem dX0_splits_35 : decode cX0_splits 35 = .ok (.isub, 1) := by decide +kernel
theorem dX0_splits_36 : decode cX0_splits 36 = .ok (.istore_n 3, 1) := by decide +kernel
theorem dX0_splits_37 : decode cX0_splits 37 = .ok (.iload_n 3, 1) := by decide +kernel
theorem dX0_splits_38 : decode cX0_splits 38 = .ok (.ifCond .lt 119, 3) := by decide +kernel
theorem dX0_splits_41 : decode cX0_splits 41 = .ok (.aload_n 0, 1) := by decide +kernel
theorem dX0_splits_42 : decode cX0_splits 42 = .ok (.getfield 14, 3) := by decide +kernel
theorem dX0_splits_45 : decode cX0_splits 45 = .ok (.getfield 49, 3) := by decide +kernel
theorem dX0_splits_48 : decode cX0_splits 48 = .ok (.aload_n 2, 1) := by decide +kernel
theorem dX0_splits_49 : decode cX0_splits 49 = .ok (.getfield 45, 3) := by decide +kernel
theorem dX0_splits_52 : decode cX0_splits 52 = .ok (.iload_n 3, 1) := by decide +kernel
theorem dX0_splits_53 : decode cX0_splits 53 = .ok (.iadd, 1) := by decide +kernel
theorem dX0_splits_54 : decode cX0_splits 54 = .ok (.aaload, 1) := by decide +kernel
theorem dX0_splits_55 : decode cX0_splits 55 = .ok (.astore 4, 2) := by decide +kernel
theorem dX0_splits_57 : decode cX0_splits 57 = .ok (.aload 4, 2) := by decide +kernel
theorem dX0_splits_59 : decode cX0_splits 59 = .ok (.aload_n 2, 1) := by decide +kernel
theorem dX0_splits_60 : decode cX0_splits 60 = .ok (.getfield 49, 3) := by decide +kernel
theorem dX0_splits_63 : decode cX0_splits 63 = .ok (.aload_n 2, 1) := by decide +kernel
theorem dX0_splits_64 : decode cX0_splits 64 = .ok (.getfield 45, 3) := by decide +kernel
theorem dX0_splits_67 : decode cX0_splits 67 = .ok (.aaload, 1) := by decide +kernel
theorem dX0_splits_68 : decode cX0_splits 68 = .ok (.aload_n 0, 1) := by decide +kernel
theorem dX0_splits_69 : decode cX0_splits 69 = .ok (.getfield 20, 3) := by decide +kernel
theorem dX0_splits_72 : decode cX0_splits 72 = .ok (.getfield 49, 3) := by decide +kernel
theorem dX0_splits_75 : decode cX0_splits 75 = .ok (.iload_n 3, 1) := by decide +kernel
theorem dX0_splits_76 : decode cX0_splits 76 = .ok (.aaload, 1) := by decide +kernel
theorem dX0_splits_77 : decode cX0_splits 77 = .ok (.invokevirtual 89, 3) := by decide +kernel
theorem dX0_splits_80 : decode cX0_splits 80 = .ok (.aload 4, 2) := by decide +kernel
theorem dX0_splits_82 : decode cX0_splits 82 = .ok (.getfield 85, 3) := by decide +kernel
theorem dX0_splits_85 : decode cX0_splits 85 = .ok (.ifCond .eq 5, 3) := by decide +kernel
theorem dX0_splits_88 : decode cX0_splits 88 = .ok (.iconst 0, 1) := by decide +kernel
theorem dX0_splits_89 : decode cX0_splits 89 = .ok (.ireturn, 1) := by decide +kernel
theorem dX0_splits_90 : decode cX0_splits 90 = .ok (.iconst 0, 1) := by decide +kernel
theorem dX0_splits_91 : decode cX0_splits 91 = .ok (.istore 5, 2) := by decide +kernel
theorem dX0_splits_93 : decode cX0_splits 93 = .ok (.iload 5, 2) := by decide +kernel
theorem dX0_splits_95 : decode cX0_splits 95 = .ok (.aload_n 2, 1) := by decide +kernel
theorem dX0_splits_96 : decode cX0_splits 96 = .ok (.getfield 45, 3) := by decide +kernel
theorem dX0_splits_99 : decode cX0_splits 99 = .ok (.if_icmp .ge 52, 3) := by decide +kernel
theorem dX0_splits_102 : decode cX0_splits 102 = .ok (.aload_n 0, 1) := by decide +kernel
theorem dX0_splits_103 : decode cX0_splits 103 = .ok (.getfield 28, 3) := by decide +kernel
theorem dX0_splits_106 : decode cX0_splits 106 = .ok (.aload_n 0, 1) := by decide +kernel
theorem dX0_splits_107 : decode cX0_splits 107 = .ok (.getfield 20, 3) := by decide +kernel
theorem dX0_splits_110 : decode cX0_splits 110 = .ok (.getfield 49, 3) := by decide +kernel
theorem dX0_splits_113 : decode cX0_splits 113 = .ok (.iload_n 3, 1) := by decide +kernel
theorem dX0_splits_114 : decode cX0_splits 114 = .ok (.aaload, 1) := by decide +kernel
theorem dX0_splits_115 : decode cX0_splits 115 = .ok (.aload_n 2, 1) := by decide +kernel
theorem dX0_splits_116 : decode cX0_splits 116 = .ok (.getfield 49, 3) := by decide +kernel
theorem dX0_splits_119 : decode cX0_splits 119 = .ok (.iload 5, 2) := by decide +kernel
theorem dX0_splits_121 : decode cX0_splits 121 = .ok (.aaload, 1) := by decide +kernel
theorem dX0_splits_122 : decode cX0_splits 122 = .ok (.invokevirtual 63, 3) := by decide +kernel
theorem dX0_splits_125 : decode cX0_splits 125 = .ok (.aload_n 0, 1) := by decide +kernel
theorem dX0_splits_126 : decode cX0_splits 126 = .ok (.getfield 14, 3) := by decide +kernel
theorem dX0_splits_129 : decode cX0_splits 129 = .ok (.getfield 49, 3) := by decide +kernel
theorem dX0_splits_132 : decode cX0_splits 132 = .ok (.iload 5, 2) := by decide +kernel
theorem dX0_splits_134 : decode cX0_splits 134 = .ok (.iload_n 3, 1) := by decide +kernel
theorem dX0_splits_135 : decode cX0_splits 135 = .ok (.iadd, 1) := by decide +kernel
theorem dX0_splits_136 : decode cX0_splits 136 = .ok (.aaload, 1) := by decide +kernel
theorem dX0_splits_137 : decode cX0_splits 137 = .ok (.aload_n 0, 1) := by decide +kernel
theorem dX0_splits_138 : decode cX0_splits 138 = .ok (.getfield 28, 3) := by decide +kernel
theorem dX0_splits_141 : decode cX0_splits 141 = .ok (.iconst (-1), 1) := by decide +kernel
theorem dX0_splits_142 : decode cX0_splits 142 = .ok (.invokevirtual 53, 3) := by decide +kernel
theorem dX0_splits_145 : decode cX0_splits 145 = .ok (.iinc 5 1, 3) := by decide +kernel
theorem dX0_splits_148 : decode cX0_splits 148 = .ok (.goto (-55), 3) := by decide +kernel
theorem dX0_splits_151 : decode cX0_splits 151 = .ok (.iinc 3 (-1), 3) := by decide +kernel
theorem dX0_splits_154 : decode cX0_splits 154 = .ok (.goto (-117), 3) := by decide +kernel
theorem dX0_splits_157 : decode cX0_splits 157 = .ok (.aload_n 0, 1) := by decide +kernel
theorem dX0_splits_158 : decode cX0_splits 158 = .ok (.getfield 20, 3) := by decide +kernel
theorem dX0_splits_161 : decode cX0_splits 161 = .ok (.invokevirtual 57, 3) := by decide +kernel
theorem dX0_splits_164 : decode cX0_splits 164 = .ok (.aload_n 0, 1) := by decide +kernel
theorem dX0_splits_165 : decode cX0_splits 165 = .ok (.getfield 14, 3) := by decide +kernel
theorem dX0_splits_168 : decode cX0_splits 168 = .ok (.invokevirtual 57, 3) := by decide +kernel
theorem dX0_splits_171 : decode cX0_splits 171 = .ok (.aload_n 0, 1) := by decide +kernel
theorem dX0_splits_172 : decode cX0_splits 172 = .ok (.getfield 14, 3) := by decide +kernel
theorem dX0_splits_175 : decode cX0_splits 175 = .ok (.getfield 45, 3) := by decide +kernel
theorem dX0_splits_178 : decode cX0_splits 178 = .ok (.ifCond .ge 7, 3) := by decide +kernel
theorem dX0_splits_181 : decode cX0_splits 181 = .ok (.iconst 1, 1) := by decide +kernel
theorem dX0_splits_182 : decode cX0_splits 182 = .ok (.goto 4, 3) := by decide +kernel
theorem dX0_splits_185 : decode cX0_splits 185 = .ok (.iconst 0, 1) := by decide +kernel
theorem dX0_splits_186 : decode cX0_splits 186 = .ok (.ireturn, 1) := by decide +kernel
theorem dX0_signAt_0 : decode cX0_signAt 0 = .ok (.aload_n 0, 1) := by decide +kernel
theorem dX0_signAt_1 : decode cX0_signAt 1 = .ok (.getfield 28, 3) := by decide +kernel
theorem dX0_signAt_4 : decode cX0_signAt 4 = .ok (.invokevirtual 84, 3) := by decide +kernel
theorem dX0_signAt_7 : decode cX0_signAt 7 = .ok (.aload_n 0, 1) := by decide +kernel
theorem dX0_signAt_8 : decode cX0_signAt 8 = .ok (.getfield 32, 3) := by decide +kernel
theorem dX0_signAt_11 : decode cX0_signAt 11 = .ok (.invokevirtual 92, 3) := by decide +kernel
theorem dX0_signAt_14 : decode cX0_signAt 14 = .ok (.aload_n 1, 1) := by decide +kernel
theorem dX0_signAt_15 : decode cX0_signAt 15 = .ok (.getfield 45, 3) := by decide +kernel
theorem dX0_signAt_18 : decode cX0_signAt 18 = .ok (.istore 6, 2) := by decide +kernel
theorem dX0_signAt_20 : decode cX0_signAt 20 = .ok (.iload 6, 2) := by decide +kernel
theorem dX0_signAt_22 : decode cX0_signAt 22 = .ok (.ifCond .lt 56, 3) := by decide +kernel
theorem dX0_signAt_25 : decode cX0_signAt 25 = .ok (.aload_n 0, 1) := by decide +kernel
theorem dX0_signAt_26 : decode cX0_signAt 26 = .ok (.getfield 28, 3) := by decide +kernel
theorem dX0_signAt_29 : decode cX0_signAt 29 = .ok (.lload_n 2, 1) := by decide +kernel
theorem dX0_signAt_30 : decode cX0_signAt 30 = .ok (.invokevirtual 70, 3) := by decide +kernel
theorem dX0_signAt_33 : decode cX0_signAt 33 = .ok (.aload_n 0, 1) := by decide +kernel
theorem dX0_signAt_34 : decode cX0_signAt 34 = .ok (.getfield 35, 3) := by decide +kernel
theorem dX0_signAt_37 : decode cX0_signAt 37 = .ok (.aload_n 1, 1) := by decide +kernel
theorem dX0_signAt_38 : decode cX0_signAt 38 = .ok (.getfield 49, 3) := by decide +kernel
theorem dX0_signAt_41 : decode cX0_signAt 41 = .ok (.iload 6, 2) := by decide +kernel
theorem dX0_signAt_43 : decode cX0_signAt 43 = .ok (.aaload, 1) := by decide +kernel
theorem dX0_signAt_44 : decode cX0_signAt 44 = .ok (.aload_n 0, 1) := by decide +kernel
theorem dX0_signAt_45 : decode cX0_signAt 45 = .ok (.getfield 32, 3) := by decide +kernel
theorem dX0_signAt_48 : decode cX0_signAt 48 = .ok (.invokevirtual 63, 3) := by decide +kernel
theorem dX0_signAt_51 : decode cX0_signAt 51 = .ok (.aload_n 0, 1) := by decide +kernel
theorem dX0_signAt_52 : decode cX0_signAt 52 = .ok (.getfield 28, 3) := by decide +kernel
theorem dX0_signAt_55 : decode cX0_signAt 55 = .ok (.aload_n 0, 1) := by decide +kernel
theorem dX0_signAt_56 : decode cX0_signAt 56 = .ok (.getfield 35, 3) := by decide +kernel
theorem dX0_signAt_59 : decode cX0_signAt 59 = .ok (.iconst 1, 1) := by decide +kernel
theorem dX0_signAt_60 : decode cX0_signAt 60 = .ok (.invokevirtual 53, 3) := by decide +kernel
theorem dX0_signAt_63 : decode cX0_signAt 63 = .ok (.aload_n 0, 1) := by decide +kernel
theorem dX0_signAt_64 : decode cX0_signAt 64 = .ok (.getfield 32, 3) := by decide +kernel
theorem dX0_signAt_67 : decode cX0_signAt 67 = .ok (.lload 4, 2) := by decide +kernel
theorem dX0_signAt_69 : decode cX0_signAt 69 = .ok (.invokevirtual 70, 3) := by decide +kernel
theorem dX0_signAt_72 : decode cX0_signAt 72 = .ok (.iinc 6 (-1), 3) := by decide +kernel
theorem dX0_signAt_75 : decode cX0_signAt 75 = .ok (.goto (-55), 3) := by decide +kernel
theorem dX0_signAt_78 : decode cX0_signAt 78 = .ok (.aload_n 0, 1) := by decide +kernel
theorem dX0_signAt_79 : decode cX0_signAt 79 = .ok (.getfield 28, 3) := by decide +kernel
theorem dX0_signAt_82 : decode cX0_signAt 82 = .ok (.getfield 85, 3) := by decide +kernel
theorem dX0_signAt_85 : decode cX0_signAt 85 = .ok (.ireturn, 1) := by decide +kernel
theorem dX0_makePrimitive_0 : decode cX0_makePrimitive 0 = .ok (.aload_n 0, 1) := by decide +kernel
theorem dX0_makePrimitive_1 : decode cX0_makePrimitive 1 = .ok (.getfield 28, 3) := by decide +kernel
theorem dX0_makePrimitive_4 : decode cX0_makePrimitive 4 = .ok (.invokevirtual 84, 3) := by decide +kernel
theorem dX0_makePrimitive_7 : decode cX0_makePrimitive 7 = .ok (.aload_n 1, 1) := by decide +kernel
theorem dX0_makePrimitive_8 : decode cX0_makePrimitive 8 = .ok (.getfield 45, 3) := by decide +kernel
theorem dX0_makePrimitive_11 : decode cX0_makePrimitive 11 = .ok (.istore_n 2, 1) := by decide +kernel
theorem dX0_makePrimitive_12 : decode cX0_makePrimitive 12 = .ok (.iload_n 2, 1) := by decide +kernel
theorem dX0_makePrimitive_13 : decode cX0_makePrimitive 13 = .ok (.ifCond .lt 36, 3) := by decide +kernel
theorem dX0_makePrimitive_16 : decode cX0_makePrimitive 16 = .ok (.aload_n 0, 1) := by decide +kernel
theorem dX0_makePrimitive_17 : decode cX0_makePrimitive 17 = .ok (.getfield 28, 3) := by decide +kernel
theorem dX0_makePrimitive_20 : decode cX0_makePrimitive 20 = .ok (.invokevirtual 95, 3) := by decide +kernel
theorem dX0_makePrimitive_23 : decode cX0_makePrimitive 23 = .ok (.ifCond .ne 26, 3) := by decide +kernel
theorem dX0_makePrimitive_26 : decode cX0_makePrimitive 26 = .ok (.aload_n 0, 1) := by decide +kernel
theorem dX0_makePrimitive_27 : decode cX0_makePrimitive 27 = .ok (.getfield 32, 3) := by decide +kernel
theorem dX0_makePrimitive_30 : decode cX0_makePrimitive 30 = .ok (.aload_n 1, 1) := by decide +kernel
theorem dX0_makePrimitive_31 : decode cX0_makePrimitive 31 = .ok (.getfield 49, 3) := by decide +kernel
theorem dX0_makePrimitive_34 : decode cX0_makePrimitive 34 = .ok (.iload_n 2, 1) := by decide +kernel
theorem dX0_makePrimitive_35 : decode cX0_makePrimitive 35 = .ok (.aaload, 1) := by decide +kernel
theorem dX0_makePrimitive_36 : decode cX0_makePrimitive 36 = .ok (.invokevirtual 67, 3) := by decide +kernel
theorem dX0_makePrimitive_39 : decode cX0_makePrimitive 39 = .ok (.aload_n 0, 1) := by decide +kernel
theorem dX0_makePrimitive_40 : decode cX0_makePrimitive 40 = .ok (.invokevirtual 99, 3) := by decide +kernel
theorem dX0_makePrimitive_43 : decode cX0_makePrimitive 43 = .ok (.iinc 2 (-1), 3) := by decide +kernel
theorem dX0_makePrimitive_46 : decode cX0_makePrimitive 46 = .ok (.goto (-34), 3) := by decide +kernel
theorem dX0_makePrimitive_49 : decode cX0_makePrimitive 49 = .ok (.aload_n 0, 1) := by decide +kernel
theorem dX0_makePrimitive_50 : decode cX0_makePrimitive 50 = .ok (.aload_n 1, 1) := by decide +kernel
theorem dX0_makePrimitive_51 : decode cX0_makePrimitive 51 = .ok (.aload_n 0, 1) := by decide +kernel
theorem dX0_makePrimitive_52 : decode cX0_makePrimitive 52 = .ok (.getfield 28, 3) := by decide +kernel
theorem dX0_makePrimitive_55 : decode cX0_makePrimitive 55 = .ok (.invokevirtual 102, 3) := by decide +kernel
theorem dX0_makePrimitive_58 : decode cX0_makePrimitive 58 = .ok (.aload_n 1, 1) := by decide +kernel
theorem dX0_makePrimitive_59 : decode cX0_makePrimitive 59 = .ok (.invokevirtual 77, 3) := by decide +kernel
theorem dX0_makePrimitive_62 : decode cX0_makePrimitive 62 = .ok (.ifCond .ge 7, 3) := by decide +kernel
theorem dX0_makePrimitive_65 : decode cX0_makePrimitive 65 = .ok (.aload_n 1, 1) := by decide +kernel
theorem dX0_makePrimitive_66 : decode cX0_makePrimitive 66 = .ok (.invokevirtual 81, 3) := by decide +kernel
theorem dX0_makePrimitive_69 : decode cX0_makePrimitive 69 = .ok (.return_, 1) := by decide +kernel
theorem dX0_meet_0 : decode cX0_meet 0 = .ok (.aload_n 0, 1) := by decide +kernel
theorem dX0_meet_1 : decode cX0_meet 1 = .ok (.getfield 28, 3) := by decide +kernel
theorem dX0_meet_4 : decode cX0_meet 4 = .ok (.astore_n 1, 1) := by decide +kernel
theorem dX0_meet_5 : decode cX0_meet 5 = .ok (.aload_n 0, 1) := by decide +kernel
theorem dX0_meet_6 : decode cX0_meet 6 = .ok (.getfield 32, 3) := by decide +kernel
theorem dX0_meet_9 : decode cX0_meet 9 = .ok (.astore_n 2, 1) := by decide +kernel
theorem dX0_meet_10 : decode cX0_meet 10 = .ok (.iconst 0, 1) := by decide +kernel
theorem dX0_meet_11 : decode cX0_meet 11 = .ok (.istore_n 3, 1) := by decide +kernel
theorem dX0_meet_12 : decode cX0_meet 12 = .ok (.iload_n 3, 1) := by decide +kernel
theorem dX0_meet_13 : decode cX0_meet 13 = .ok (.ldc 106, 2) := by decide +kernel
theorem dX0_meet_15 : decode cX0_meet 15 = .ok (.if_icmp .ge 33, 3) := by decide +kernel
theorem dX0_meet_18 : decode cX0_meet 18 = .ok (.aload_n 2, 1) := by decide +kernel
theorem dX0_meet_19 : decode cX0_meet 19 = .ok (.getfield 85, 3) := by decide +kernel
theorem dX0_meet_22 : decode cX0_meet 22 = .ok (.ifCond .eq 26, 3) := by decide +kernel
theorem dX0_meet_25 : decode cX0_meet 25 = .ok (.aload_n 1, 1) := by decide +kernel
theorem dX0_meet_26 : decode cX0_meet 26 = .ok (.aload_n 2, 1) := by decide +kernel
theorem dX0_meet_27 : decode cX0_meet 27 = .ok (.aload_n 0, 1) := by decide +kernel
theorem dX0_meet_28 : decode cX0_meet 28 = .ok (.getfield 35, 3) := by decide +kernel
theorem dX0_meet_31 : decode cX0_meet 31 = .ok (.invokevirtual 89, 3) := by decide +kernel
theorem dX0_meet_34 : decode cX0_meet 34 = .ok (.aload_n 1, 1) := by decide +kernel
theorem dX0_meet_35 : decode cX0_meet 35 = .ok (.astore 4, 2) := by decide +kernel
theorem dX0_meet_37 : decode cX0_meet 37 = .ok (.aload_n 2, 1) := by decide +kernel
theorem dX0_meet_38 : decode cX0_meet 38 = .ok (.astore_n 1, 1) := by decide +kernel
theorem dX0_meet_39 : decode cX0_meet 39 = .ok (.aload 4, 2) := by decide +kernel
theorem dX0_meet_41 : decode cX0_meet 41 = .ok (.astore_n 2, 1) := by decide +kernel
theorem dX0_meet_42 : decode cX0_meet 42 = .ok (.iinc 3 1, 3) := by decide +kernel
theorem dX0_meet_45 : decode cX0_meet 45 = .ok (.goto (-33), 3) := by decide +kernel
theorem dX0_meet_48 : decode cX0_meet 48 = .ok (.aload_n 1, 1) := by decide +kernel
theorem dX0_meet_49 : decode cX0_meet 49 = .ok (.aload_n 0, 1) := by decide +kernel
theorem dX0_meet_50 : decode cX0_meet 50 = .ok (.getfield 28, 3) := by decide +kernel
theorem dX0_meet_53 : decode cX0_meet 53 = .ok (.if_acmp .eq 11, 3) := by decide +kernel
theorem dX0_meet_56 : decode cX0_meet 56 = .ok (.aload_n 0, 1) := by decide +kernel
theorem dX0_meet_57 : decode cX0_meet 57 = .ok (.getfield 28, 3) := by decide +kernel
theorem dX0_meet_60 : decode cX0_meet 60 = .ok (.aload_n 1, 1) := by decide +kernel
theorem dX0_meet_61 : decode cX0_meet 61 = .ok (.invokevirtual 67, 3) := by decide +kernel
theorem dX0_meet_64 : decode cX0_meet 64 = .ok (.return_, 1) := by decide +kernel
theorem dX0_divideAll_0 : decode cX0_divideAll 0 = .ok (.aload_n 2, 1) := by decide +kernel
theorem dX0_divideAll_1 : decode cX0_divideAll 1 = .ok (.invokevirtual 95, 3) := by decide +kernel
theorem dX0_divideAll_4 : decode cX0_divideAll 4 = .ok (.ifCond .eq 11, 3) := by decide +kernel
theorem dX0_divideAll_7 : decode cX0_divideAll 7 = .ok (.aload_n 2, 1) := by decide +kernel
theorem dX0_divideAll_8 : decode cX0_divideAll 8 = .ok (.getfield 85, 3) := by decide +kernel
theorem dX0_divideAll_11 : decode cX0_divideAll 11 = .ok (.ifCond .le 4, 3) := by decide +kernel
theorem dX0_divideAll_14 : decode cX0_divideAll 14 = .ok (.return_, 1) := by decide +kernel
theorem dX0_divideAll_15 : decode cX0_divideAll 15 = .ok (.iconst 0, 1) := by decide +kernel
theorem dX0_divideAll_16 : decode cX0_divideAll 16 = .ok (.istore_n 3, 1) := by decide +kernel
theorem dX0_divideAll_17 : decode cX0_divideAll 17 = .ok (.iload_n 3, 1) := by decide +kernel
theorem dX0_divideAll_18 : decode cX0_divideAll 18 = .ok (.aload_n 1, 1) := by decide +kernel
theorem dX0_divideAll_19 : decode cX0_divideAll 19 = .ok (.getfield 45, 3) := by decide +kernel
theorem dX0_divideAll_22 : decode cX0_divideAll 22 = .ok (.if_icmp .gt 36, 3) := by decide +kernel
theorem dX0_divideAll_25 : decode cX0_divideAll 25 = .ok (.aload_n 1, 1) := by decide +kernel
theorem dX0_divideAll_26 : decode cX0_divideAll 26 = .ok (.getfield 49, 3) := by decide +kernel
theorem dX0_divideAll_29 : decode cX0_divideAll 29 = .ok (.iload_n 3, 1) := by decide +kernel
theorem dX0_divideAll_30 : decode cX0_divideAll 30 = .ok (.aaload, 1) := by decide +kernel
theorem dX0_divideAll_31 : decode cX0_divideAll 31 = .ok (.aload_n 2, 1) := by decide +kernel
theorem dX0_divideAll_32 : decode cX0_divideAll 32 = .ok (.aload_n 0, 1) := by decide +kernel
theorem dX0_divideAll_33 : decode cX0_divideAll 33 = .ok (.getfield 35, 3) := by decide +kernel
theorem dX0_divideAll_36 : decode cX0_divideAll 36 = .ok (.invokevirtual 89, 3) := by decide +kernel
theorem dX0_divideAll_39 : decode cX0_divideAll 39 = .ok (.aload_n 1, 1) := by decide +kernel
theorem dX0_divideAll_40 : decode cX0_divideAll 40 = .ok (.getfield 49, 3) := by decide +kernel
theorem dX0_divideAll_43 : decode cX0_divideAll 43 = .ok (.iload_n 3, 1) := by decide +kernel
theorem dX0_divideAll_44 : decode cX0_divideAll 44 = .ok (.aaload, 1) := by decide +kernel
theorem dX0_divideAll_45 : decode cX0_divideAll 45 = .ok (.aload_n 0, 1) := by decide +kernel
theorem dX0_divideAll_46 : decode cX0_divideAll 46 = .ok (.getfield 35, 3) := by decide +kernel
theorem dX0_divideAll_49 : decode cX0_divideAll 49 = .ok (.invokevirtual 67, 3) := by decide +kernel
theorem dX0_divideAll_52 : decode cX0_divideAll 52 = .ok (.iinc 3 1, 3) := by decide +kernel
theorem dX0_divideAll_55 : decode cX0_divideAll 55 = .ok (.goto (-38), 3) := by decide +kernel
theorem dX0_divideAll_58 : decode cX0_divideAll 58 = .ok (.return_, 1) := by decide +kernel
theorem dX0_makeSmall_0 : decode cX0_makeSmall 0 = .ok (.aload_n 1, 1) := by decide +kernel
theorem dX0_makeSmall_1 : decode cX0_makeSmall 1 = .ok (.getfield 45, 3) := by decide +kernel
theorem dX0_makeSmall_4 : decode cX0_makeSmall 4 = .ok (.ifCond .lt 17, 3) := by decide +kernel
theorem dX0_makeSmall_7 : decode cX0_makeSmall 7 = .ok (.aload_n 2, 1) := by decide +kernel
theorem dX0_makeSmall_8 : decode cX0_makeSmall 8 = .ok (.getfield 45, 3) := by decide +kernel
theorem dX0_makeSmall_11 : decode cX0_makeSmall 11 = .ok (.ifCond .lt 10, 3) := by decide +kernel
theorem dX0_makeSmall_14 : decode cX0_makeSmall 14 = .ok (.aload_n 3, 1) := by decide +kernel
theorem dX0_makeSmall_15 : decode cX0_makeSmall 15 = .ok (.getfield 45, 3) := by decide +kernel
theorem dX0_makeSmall_18 : decode cX0_makeSmall 18 = .ok (.ifCond .ge 4, 3) := by decide +kernel
theorem dX0_makeSmall_21 : decode cX0_makeSmall 21 = .ok (.return_, 1) := by decide +kernel
theorem dX0_makeSmall_22 : decode cX0_makeSmall 22 = .ok (.aload_n 0, 1) := by decide +kernel
theorem dX0_makeSmall_23 : decode cX0_makeSmall 23 = .ok (.getfield 28, 3) := by decide +kernel
theorem dX0_makeSmall_26 : decode cX0_makeSmall 26 = .ok (.aload_n 2, 1) := by decide +kernel
theorem dX0_makeSmall_27 : decode cX0_makeSmall 27 = .ok (.getfield 49, 3) := by decide +kernel
theorem dX0_makeSmall_30 : decode cX0_makeSmall 30 = .ok (.aload_n 2, 1) := by decide +kernel
theorem dX0_makeSmall_31 : decode cX0_makeSmall 31 = .ok (.getfield 45, 3) := by decide +kernel
theorem dX0_makeSmall_34 : decode cX0_makeSmall 34 = .ok (.aaload, 1) := by decide +kernel
theorem dX0_makeSmall_35 : decode cX0_makeSmall 35 = .ok (.invokevirtual 67, 3) := by decide +kernel
theorem dX0_makeSmall_38 : decode cX0_makeSmall 38 = .ok (.aload_n 0, 1) := by decide +kernel
theorem dX0_makeSmall_39 : decode cX0_makeSmall 39 = .ok (.getfield 32, 3) := by decide +kernel
theorem dX0_makeSmall_42 : decode cX0_makeSmall 42 = .ok (.aload_n 3, 1) := by decide +kernel
theorem dX0_makeSmall_43 : decode cX0_makeSmall 43 = .ok (.getfield 49, 3) := by decide +kernel
theorem dX0_makeSmall_46 : decode cX0_makeSmall 46 = .ok (.aload_n 3, 1) := by decide +kernel
theorem dX0_makeSmall_47 : decode cX0_makeSmall 47 = .ok (.getfield 45, 3) := by decide +kernel
theorem dX0_makeSmall_50 : decode cX0_makeSmall 50 = .ok (.aaload, 1) := by decide +kernel
theorem dX0_makeSmall_51 : decode cX0_makeSmall 51 = .ok (.invokevirtual 67, 3) := by decide +kernel
theorem dX0_makeSmall_54 : decode cX0_makeSmall 54 = .ok (.aload_n 0, 1) := by decide +kernel
theorem dX0_makeSmall_55 : decode cX0_makeSmall 55 = .ok (.invokevirtual 99, 3) := by decide +kernel
theorem dX0_makeSmall_58 : decode cX0_makeSmall 58 = .ok (.aload_n 0, 1) := by decide +kernel
theorem dX0_makeSmall_59 : decode cX0_makeSmall 59 = .ok (.getfield 38, 3) := by decide +kernel
theorem dX0_makeSmall_62 : decode cX0_makeSmall 62 = .ok (.aload_n 1, 1) := by decide +kernel
theorem dX0_makeSmall_63 : decode cX0_makeSmall 63 = .ok (.getfield 49, 3) := by decide +kernel
theorem dX0_makeSmall_66 : decode cX0_makeSmall 66 = .ok (.aload_n 1, 1) := by decide +kernel
theorem dX0_makeSmall_67 : decode cX0_makeSmall 67 = .ok (.getfield 45, 3) := by decide +kernel
theorem dX0_makeSmall_70 : decode cX0_makeSmall 70 = .ok (.aaload, 1) := by decide +kernel
theorem dX0_makeSmall_71 : decode cX0_makeSmall 71 = .ok (.invokevirtual 67, 3) := by decide +kernel
theorem dX0_makeSmall_74 : decode cX0_makeSmall 74 = .ok (.iconst 0, 1) := by decide +kernel
theorem dX0_makeSmall_75 : decode cX0_makeSmall 75 = .ok (.istore 4, 2) := by decide +kernel
theorem dX0_makeSmall_77 : decode cX0_makeSmall 77 = .ok (.iload 4, 2) := by decide +kernel
theorem dX0_makeSmall_79 : decode cX0_makeSmall 79 = .ok (.aload_n 1, 1) := by decide +kernel
theorem dX0_makeSmall_80 : decode cX0_makeSmall 80 = .ok (.getfield 45, 3) := by decide +kernel
theorem dX0_makeSmall_83 : decode cX0_makeSmall 83 = .ok (.if_icmp .gt 56, 3) := by decide +kernel
theorem dX0_makeSmall_86 : decode cX0_makeSmall 86 = .ok (.aload_n 0, 1) := by decide +kernel
theorem dX0_makeSmall_87 : decode cX0_makeSmall 87 = .ok (.getfield 32, 3) := by decide +kernel
theorem dX0_makeSmall_90 : decode cX0_makeSmall 90 = .ok (.aload_n 1, 1) := by decide +kernel
theorem dX0_makeSmall_91 : decode cX0_makeSmall 91 = .ok (.getfield 49, 3) := by decide +kernel
theorem dX0_makeSmall_94 : decode cX0_makeSmall 94 = .ok (.iload 4, 2) := by decide +kernel
theorem dX0_makeSmall_96 : decode cX0_makeSmall 96 = .ok (.aaload, 1) := by decide +kernel
theorem dX0_makeSmall_97 : decode cX0_makeSmall 97 = .ok (.aload_n 0, 1) := by decide +kernel
theorem dX0_makeSmall_98 : decode cX0_makeSmall 98 = .ok (.getfield 28, 3) := by decide +kernel
theorem dX0_makeSmall_101 : decode cX0_makeSmall 101 = .ok (.invokevirtual 63, 3) := by decide +kernel
theorem dX0_makeSmall_104 : decode cX0_makeSmall 104 = .ok (.aload_n 0, 1) := by decide +kernel
theorem dX0_makeSmall_105 : decode cX0_makeSmall 105 = .ok (.getfield 32, 3) := by decide +kernel
theorem dX0_makeSmall_108 : decode cX0_makeSmall 108 = .ok (.aload_n 0, 1) := by decide +kernel
theorem dX0_makeSmall_109 : decode cX0_makeSmall 109 = .ok (.getfield 38, 3) := by decide +kernel
theorem dX0_makeSmall_112 : decode cX0_makeSmall 112 = .ok (.aload_n 0, 1) := by decide +kernel
theorem dX0_makeSmall_113 : decode cX0_makeSmall 113 = .ok (.getfield 35, 3) := by decide +kernel
theorem dX0_makeSmall_116 : decode cX0_makeSmall 116 = .ok (.invokevirtual 89, 3) := by decide +kernel
theorem dX0_makeSmall_119 : decode cX0_makeSmall 119 = .ok (.aload_n 1, 1) := by decide +kernel
theorem dX0_makeSmall_120 : decode cX0_makeSmall 120 = .ok (.getfield 49, 3) := by decide +kernel
theorem dX0_makeSmall_123 : decode cX0_makeSmall 123 = .ok (.iload 4, 2) := by decide +kernel
theorem dX0_makeSmall_125 : decode cX0_makeSmall 125 = .ok (.aaload, 1) := by decide +kernel
theorem dX0_makeSmall_126 : decode cX0_makeSmall 126 = .ok (.aload_n 0, 1) := by decide +kernel
theorem dX0_makeSmall_127 : decode cX0_makeSmall 127 = .ok (.getfield 35, 3) := by decide +kernel
theorem dX0_makeSmall_130 : decode cX0_makeSmall 130 = .ok (.invokevirtual 67, 3) := by decide +kernel
theorem dX0_makeSmall_133 : decode cX0_makeSmall 133 = .ok (.iinc 4 1, 3) := by decide +kernel
theorem dX0_makeSmall_136 : decode cX0_makeSmall 136 = .ok (.goto (-59), 3) := by decide +kernel
theorem dX0_makeSmall_139 : decode cX0_makeSmall 139 = .ok (.return_, 1) := by decide +kernel
