theorem dX1_init_0 : decode cX1_init 0 = .ok (.aload_n 0, 1) := by decide +kernel
theorem dX1_init_1 : decode cX1_init 1 = .ok (.invokespecial 3, 3) := by decide +kernel
theorem dX1_init_4 : decode cX1_init 4 = .ok (.aload_n 0, 1) := by decide +kernel
theorem dX1_init_5 : decode cX1_init 5 = .ok (.new 9, 3) := by decide +kernel
theorem dX1_init_8 : decode cX1_init 8 = .ok (.dup, 1) := by decide +kernel
theorem dX1_init_9 : decode cX1_init 9 = .ok (.invokespecial 11, 3) := by decide +kernel
theorem dX1_init_12 : decode cX1_init 12 = .ok (.putfield 12, 3) := by decide +kernel
theorem dX1_init_15 : decode cX1_init 15 = .ok (.aload_n 0, 1) := by decide +kernel
theorem dX1_init_16 : decode cX1_init 16 = .ok (.bipush 10, 2) := by decide +kernel
theorem dX1_init_18 : decode cX1_init 18 = .ok (.anewarray 18, 3) := by decide +kernel
theorem dX1_init_21 : decode cX1_init 21 = .ok (.putfield 20, 3) := by decide +kernel
theorem dX1_init_24 : decode cX1_init 24 = .ok (.aload_n 0, 1) := by decide +kernel
theorem dX1_init_25 : decode cX1_init 25 = .ok (.new 24, 3) := by decide +kernel
theorem dX1_init_28 : decode cX1_init 28 = .ok (.dup, 1) := by decide +kernel
theorem dX1_init_29 : decode cX1_init 29 = .ok (.bipush 100, 2) := by decide +kernel
theorem dX1_init_31 : decode cX1_init 31 = .ok (.invokespecial 26, 3) := by decide +kernel
theorem dX1_init_34 : decode cX1_init 34 = .ok (.putfield 29, 3) := by decide +kernel
theorem dX1_init_37 : decode cX1_init 37 = .ok (.aload_n 0, 1) := by decide +kernel
theorem dX1_init_38 : decode cX1_init 38 = .ok (.new 24, 3) := by decide +kernel
theorem dX1_init_41 : decode cX1_init 41 = .ok (.dup, 1) := by decide +kernel
theorem dX1_init_42 : decode cX1_init 42 = .ok (.bipush 100, 2) := by decide +kernel
theorem dX1_init_44 : decode cX1_init 44 = .ok (.invokespecial 26, 3) := by decide +kernel
theorem dX1_init_47 : decode cX1_init 47 = .ok (.putfield 33, 3) := by decide +kernel
theorem dX1_init_50 : decode cX1_init 50 = .ok (.aload_n 0, 1) := by decide +kernel
theorem dX1_init_51 : decode cX1_init 51 = .ok (.new 24, 3) := by decide +kernel
theorem dX1_init_54 : decode cX1_init 54 = .ok (.dup, 1) := by decide +kernel
theorem dX1_init_55 : decode cX1_init 55 = .ok (.sipush 300, 3) := by decide +kernel
theorem dX1_init_58 : decode cX1_init 58 = .ok (.invokespecial 26, 3) := by decide +kernel
theorem dX1_init_61 : decode cX1_init 61 = .ok (.putfield 36, 3) := by decide +kernel
theorem dX1_init_64 : decode cX1_init 64 = .ok (.aload_n 0, 1) := by decide +kernel
theorem dX1_init_65 : decode cX1_init 65 = .ok (.new 24, 3) := by decide +kernel
theorem dX1_init_68 : decode cX1_init 68 = .ok (.dup, 1) := by decide +kernel
theorem dX1_init_69 : decode cX1_init 69 = .ok (.sipush 300, 3) := by decide +kernel
theorem dX1_init_72 : decode cX1_init 72 = .ok (.invokespecial 26, 3) := by decide +kernel
theorem dX1_init_75 : decode cX1_init 75 = .ok (.putfield 39, 3) := by decide +kernel
theorem dX1_init_78 : decode cX1_init 78 = .ok (.iconst 0, 1) := by decide +kernel
theorem dX1_init_79 : decode cX1_init 79 = .ok (.istore_n 1, 1) := by decide +kernel
theorem dX1_init_80 : decode cX1_init 80 = .ok (.iload_n 1, 1) := by decide +kernel
theorem dX1_init_81 : decode cX1_init 81 = .ok (.bipush 10, 2) := by decide +kernel
theorem dX1_init_83 : decode cX1_init 83 = .ok (.if_icmp .ge 33, 3) := by decide +kernel
theorem dX1_init_86 : decode cX1_init 86 = .ok (.aload_n 0, 1) := by decide +kernel
theorem dX1_init_87 : decode cX1_init 87 = .ok (.getfield 20, 3) := by decide +kernel
theorem dX1_init_90 : decode cX1_init 90 = .ok (.iload_n 1, 1) := by decide +kernel
theorem dX1_init_91 : decode cX1_init 91 = .ok (.new 18, 3) := by decide +kernel
theorem dX1_init_94 : decode cX1_init 94 = .ok (.dup, 1) := by decide +kernel
theorem dX1_init_95 : decode cX1_init 95 = .ok (.bipush 8, 2) := by decide +kernel
theorem dX1_init_97 : decode cX1_init 97 = .ok (.bipush 9, 2) := by decide +kernel
theorem dX1_init_99 : decode cX1_init 99 = .ok (.iload_n 1, 1) := by decide +kernel
theorem dX1_init_100 : decode cX1_init 100 = .ok (.isub, 1) := by decide +kernel
theorem dX1_init_101 : decode cX1_init 101 = .ok (.invokestatic 42, 3) := by decide +kernel
theorem dX1_init_104 : decode cX1_init 104 = .ok (.bipush 100, 2) := by decide +kernel
theorem dX1_init_106 : decode cX1_init 106 = .ok (.invokespecial 48, 3) := by decide +kernel
theorem dX1_init_109 : decode cX1_init 109 = .ok (.aastore, 1) := by decide +kernel
theorem dX1_init_110 : decode cX1_init 110 = .ok (.iinc 1 1, 3) := by decide +kernel
theorem dX1_init_113 : decode cX1_init 113 = .ok (.goto (-33), 3) := by decide +kernel
theorem dX1_init_116 : decode cX1_init 116 = .ok (.return_, 1) := by decide +kernel
theorem dX1_commonDivisor_0 : decode cX1_commonDivisor 0 = .ok (.aload_n 1, 1) := by decide +kernel
theorem dX1_commonDivisor_1 : decode cX1_commonDivisor 1 = .ok (.getfield 51, 3) := by decide +kernel
theorem dX1_commonDivisor_4 : decode cX1_commonDivisor 4 = .ok (.aload_n 2, 1) := by decide +kernel
theorem dX1_commonDivisor_5 : decode cX1_commonDivisor 5 = .ok (.getfield 51, 3) := by decide +kernel
theorem dX1_commonDivisor_8 : decode cX1_commonDivisor 8 = .ok (.if_icmp .lt 7, 3) := by decide +kernel
theorem dX1_commonDivisor_11 : decode cX1_commonDivisor 11 = .ok (.iconst 1, 1) := by decide +kernel
theorem dX1_commonDivisor_12 : decode cX1_commonDivisor 12 = .ok (.goto 4, 3) := by decide +kernel
theorem dX1_commonDivisor_15 : decode cX1_commonDivisor 15 = .ok (.iconst 0, 1) := by decide +kernel
theorem dX1_commonDivisor_16 : decode cX1_commonDivisor 16 = .ok (.istore_n 3, 1) := by decide +kernel
theorem dX1_commonDivisor_17 : decode cX1_commonDivisor 17 = .ok (.aload_n 0, 1) := by decide +kernel
theorem dX1_commonDivisor_18 : decode cX1_commonDivisor 18 = .ok (.getfield 20, 3) := by decide +kernel
theorem dX1_commonDivisor_21 : decode cX1_commonDivisor 21 = .ok (.iconst 0, 1) := by decide +kernel
theorem dX1_commonDivisor_22 : decode cX1_commonDivisor 22 = .ok (.aaload, 1) := by decide +kernel
theorem dX1_commonDivisor_23 : decode cX1_commonDivisor 23 = .ok (.iload_n 3, 1) := by decide +kernel
theorem dX1_commonDivisor_24 : decode cX1_commonDivisor 24 = .ok (.ifCond .eq 7, 3) := by decide +kernel
theorem dX1_commonDivisor_27 : decode cX1_commonDivisor 27 = .ok (.aload_n 1, 1) := by decide +kernel
theorem dX1_commonDivisor_28 : decode cX1_commonDivisor 28 = .ok (.goto 4, 3) := by decide +kernel
theorem dX1_commonDivisor_31 : decode cX1_commonDivisor 31 = .ok (.aload_n 2, 1) := by decide +kernel
theorem dX1_commonDivisor_32 : decode cX1_commonDivisor 32 = .ok (.invokevirtual 55, 3) := by decide +kernel
theorem dX1_commonDivisor_35 : decode cX1_commonDivisor 35 = .ok (.aload_n 0, 1) := by decide +kernel
theorem dX1_commonDivisor_36 : decode cX1_commonDivisor 36 = .ok (.getfield 20, 3) := by decide +kernel
theorem dX1_commonDivisor_39 : decode cX1_commonDivisor 39 = .ok (.iconst 1, 1) := by decide +kernel
theorem dX1_commonDivisor_40 : decode cX1_commonDivisor 40 = .ok (.aaload, 1) := by decide +kernel
theorem dX1_commonDivisor_41 : decode cX1_commonDivisor 41 = .ok (.iload_n 3, 1) := by decide +kernel
theorem dX1_commonDivisor_42 : decode cX1_commonDivisor 42 = .ok (.ifCond .eq 7, 3) := by decide +kernel
theorem dX1_commonDivisor_45 : decode cX1_commonDivisor 45 = .ok (.aload_n 2, 1) := by decide +kernel
theorem dX1_commonDivisor_46 : decode cX1_commonDivisor 46 = .ok (.goto 4, 3) := by decide +kernel
theorem dX1_commonDivisor_49 : decode cX1_commonDivisor 49 = .ok (.aload_n 1, 1) := by decide +kernel
theorem dX1_commonDivisor_50 : decode cX1_commonDivisor 50 = .ok (.invokevirtual 55, 3) := by decide +kernel
theorem dX1_commonDivisor_53 : decode cX1_commonDivisor 53 = .ok (.aload_n 0, 1) := by decide +kernel
theorem dX1_commonDivisor_54 : decode cX1_commonDivisor 54 = .ok (.getfield 20, 3) := by decide +kernel
theorem dX1_commonDivisor_57 : decode cX1_commonDivisor 57 = .ok (.iconst 1, 1) := by decide +kernel
theorem dX1_commonDivisor_58 : decode cX1_commonDivisor 58 = .ok (.aaload, 1) := by decide +kernel
theorem dX1_commonDivisor_59 : decode cX1_commonDivisor 59 = .ok (.getfield 51, 3) := by decide +kernel
theorem dX1_commonDivisor_62 : decode cX1_commonDivisor 62 = .ok (.ifCond .ge 23, 3) := by decide +kernel
theorem dX1_commonDivisor_65 : decode cX1_commonDivisor 65 = .ok (.aload_n 0, 1) := by decide +kernel
theorem dX1_commonDivisor_66 : decode cX1_commonDivisor 66 = .ok (.getfield 12, 3) := by decide +kernel
theorem dX1_commonDivisor_69 : decode cX1_commonDivisor 69 = .ok (.aload_n 0, 1) := by decide +kernel
theorem dX1_commonDivisor_70 : decode cX1_commonDivisor 70 = .ok (.getfield 20, 3) := by decide +kernel
theorem dX1_commonDivisor_73 : decode cX1_commonDivisor 73 = .ok (.iconst 0, 1) := by decide +kernel
theorem dX1_commonDivisor_74 : decode cX1_commonDivisor 74 = .ok (.aaload, 1) := by decide +kernel
theorem dX1_commonDivisor_75 : decode cX1_commonDivisor 75 = .ok (.invokevirtual 59, 3) := by decide +kernel
theorem dX1_commonDivisor_78 : decode cX1_commonDivisor 78 = .ok (.aload_n 0, 1) := by decide +kernel
theorem dX1_commonDivisor_79 : decode cX1_commonDivisor 79 = .ok (.getfield 20, 3) := by decide +kernel
theorem dX1_commonDivisor_82 : decode cX1_commonDivisor 82 = .ok (.iconst 0, 1) := by decide +kernel
theorem dX1_commonDivisor_83 : decode cX1_commonDivisor 83 = .ok (.aaload, 1) := by decide +kernel
theorem dX1_commonDivisor_84 : decode cX1_commonDivisor 84 = .ok (.areturn, 1) := by decide +kernel
theorem dX1_commonDivisor_85 : decode cX1_commonDivisor 85 = .ok (.aload_n 0, 1) := by decide +kernel
theorem dX1_commonDivisor_86 : decode cX1_commonDivisor 86 = .ok (.invokevirtual 62, 3) := by decide +kernel
theorem dX1_commonDivisor_89 : decode cX1_commonDivisor 89 = .ok (.aload_n 0, 1) := by decide +kernel
theorem dX1_commonDivisor_90 : decode cX1_commonDivisor 90 = .ok (.invokevirtual 65, 3) := by decide +kernel
theorem dX1_commonDivisor_93 : decode cX1_commonDivisor 93 = .ok (.areturn, 1) := by decide +kernel
theorem dX1_squareFree_0 : decode cX1_squareFree 0 = .ok (.aload_n 0, 1) := by decide +kernel
theorem dX1_squareFree_1 : decode cX1_squareFree 1 = .ok (.aload_n 1, 1) := by decide +kernel
theorem dX1_squareFree_2 : decode cX1_squareFree 2 = .ok (.invokevirtual 69, 3) := by decide +kernel
theorem dX1_squareFree_5 : decode cX1_squareFree 5 = .ok (.aload_n 1, 1) := by decide +kernel
theorem dX1_squareFree_6 : decode cX1_squareFree 6 = .ok (.getfield 51, 3) := by decide +kernel
theorem dX1_squareFree_9 : decode cX1_squareFree 9 = .ok (.iconst 1, 1) := by decide +kernel
theorem dX1_squareFree_10 : decode cX1_squareFree 10 = .ok (.if_icmp .ge 19, 3) := by decide +kernel
theorem dX1_squareFree_13 : decode cX1_squareFree 13 = .ok (.aload_n 0, 1) := by decide +kernel
theorem dX1_squareFree_14 : decode cX1_squareFree 14 = .ok (.getfield 20, 3) := by decide +kernel
theorem dX1_squareFree_17 : decode cX1_squareFree 17 = .ok (.iconst 0, 1) := by decide +kernel
theorem dX1_squareFree_18 : decode cX1_squareFree 18 = .ok (.aaload, 1) := by decide +kernel
theorem dX1_squareFree_19 : decode cX1_squareFree 19 = .ok (.invokevirtual 72, 3) := by decide +kernel
theorem dX1_squareFree_22 : decode cX1_squareFree 22 = .ok (.aload_n 0, 1) := by decide +kernel
theorem dX1_squareFree_23 : decode cX1_squareFree 23 = .ok (.getfield 20, 3) := by decide +kernel
theorem dX1_squareFree_26 : decode cX1_squareFree 26 = .ok (.iconst 0, 1) := by decide +kernel
theorem dX1_squareFree_27 : decode cX1_squareFree 27 = .ok (.aaload, 1) := by decide +kernel
theorem dX1_squareFree_28 : decode cX1_squareFree 28 = .ok (.areturn, 1) := by decide +kernel
theorem dX1_squareFree_29 : decode cX1_squareFree 29 = .ok (.aload_n 0, 1) := by decide +kernel
theorem dX1_squareFree_30 : decode cX1_squareFree 30 = .ok (.invokevirtual 62, 3) := by decide +kernel
theorem dX1_squareFree_33 : decode cX1_squareFree 33 = .ok (.aload_n 0, 1) := by decide +kernel
theorem dX1_squareFree_34 : decode cX1_squareFree 34 = .ok (.getfield 12, 3) := by decide +kernel
theorem dX1_squareFree_37 : decode cX1_squareFree 37 = .ok (.aload_n 0, 1) := by decide +kernel
theorem dX1_squareFree_38 : decode cX1_squareFree 38 = .ok (.getfield 20, 3) := by decide +kernel
theorem dX1_squareFree_41 : decode cX1_squareFree 41 = .ok (.iconst 0, 1) := by decide +kernel
theorem dX1_squareFree_42 : decode cX1_squareFree 42 = .ok (.aaload, 1) := by decide +kernel
theorem dX1_squareFree_43 : decode cX1_squareFree 43 = .ok (.aload_n 0, 1) := by decide +kernel
theorem dX1_squareFree_44 : decode cX1_squareFree 44 = .ok (.invokevirtual 65, 3) := by decide +kernel
theorem dX1_squareFree_47 : decode cX1_squareFree 47 = .ok (.invokevirtual 75, 3) := by decide +kernel
theorem dX1_squareFree_50 : decode cX1_squareFree 50 = .ok (.pop, 1) := by decide +kernel
theorem dX1_squareFree_51 : decode cX1_squareFree 51 = .ok (.aload_n 0, 1) := by decide +kernel
theorem dX1_squareFree_52 : decode cX1_squareFree 52 = .ok (.getfield 12, 3) := by decide +kernel
theorem dX1_squareFree_55 : decode cX1_squareFree 55 = .ok (.aload_n 0, 1) := by decide +kernel
theorem dX1_squareFree_56 : decode cX1_squareFree 56 = .ok (.getfield 12, 3) := by decide +kernel
theorem dX1_squareFree_59 : decode cX1_squareFree 59 = .ok (.getfield 79, 3) := by decide +kernel
theorem dX1_squareFree_62 : decode cX1_squareFree 62 = .ok (.invokevirtual 59, 3) := by decide +kernel
theorem dX1_squareFree_65 : decode cX1_squareFree 65 = .ok (.aload_n 0, 1) := by decide +kernel
theorem dX1_squareFree_66 : decode cX1_squareFree 66 = .ok (.getfield 12, 3) := by decide +kernel
theorem dX1_squareFree_69 : decode cX1_squareFree 69 = .ok (.getfield 79, 3) := by decide +kernel
theorem dX1_squareFree_72 : decode cX1_squareFree 72 = .ok (.areturn, 1) := by decide +kernel
theorem dX1_prepare_0 : decode cX1_prepare 0 = .ok (.aload_n 0, 1) := by decide +kernel
theorem dX1_prepare_1 : decode cX1_prepare 1 = .ok (.aload_n 1, 1) := by decide +kernel
theorem dX1_prepare_2 : decode cX1_prepare 2 = .ok (.invokevirtual 69, 3) := by decide +kernel
theorem dX1_prepare_5 : decode cX1_prepare 5 = .ok (.aload_n 1, 1) := by decide +kernel
theorem dX1_prepare_6 : decode cX1_prepare 6 = .ok (.getfield 51, 3) := by decide +kernel
theorem dX1_prepare_9 : decode cX1_prepare 9 = .ok (.iconst 1, 1) := by decide +kernel
theorem dX1_prepare_10 : decode cX1_prepare 10 = .ok (.if_icmp .ge 9, 3) := by decide +kernel
theorem dX1_prepare_13 : decode cX1_prepare 13 = .ok (.aload_n 0, 1) := by decide +kernel
theorem dX1_prepare_14 : decode cX1_prepare 14 = .ok (.iconst 0, 1) := by decide +kernel
theorem dX1_prepare_15 : decode cX1_prepare 15 = .ok (.putfield 83, 3) := by decide +kernel
theorem dX1_prepare_18 : decode cX1_prepare 18 = .ok (.return_, 1) := by decide +kernel
theorem dX1_prepare_19 : decode cX1_prepare 19 = .ok (.aload_n 0, 1) := by decide +kernel
theorem dX1_prepare_20 : decode cX1_prepare 20 = .ok (.invokevirtual 62, 3) := by decide +kernel
theorem dX1_prepare_23 : decode cX1_prepare 23 = .ok (.aload_n 0, 1) := by decide +kernel
theorem dX1_prepare_24 : decode cX1_prepare 24 = .ok (.getfield 20, 3) := by decide +kernel
theorem dX1_prepare_27 : decode cX1_prepare 27 = .ok (.aload_n 0, 1) := by decide +kernel
theorem dX1_prepare_28 : decode cX1_prepare 28 = .ok (.getfield 83, 3) := by decide +kernel
theorem dX1_prepare_31 : decode cX1_prepare 31 = .ok (.aaload, 1) := by decide +kernel
theorem dX1_prepare_32 : decode cX1_prepare 32 = .ok (.getfield 51, 3) := by decide +kernel
theorem dX1_prepare_35 : decode cX1_prepare 35 = .ok (.ifCond .le 36, 3) := by decide +kernel
theorem dX1_prepare_38 : decode cX1_prepare 38 = .ok (.aload_n 0, 1) := by decide +kernel
theorem dX1_prepare_39 : decode cX1_prepare 39 = .ok (.getfield 12, 3) := by decide +kernel
theorem dX1_prepare_42 : decode cX1_prepare 42 = .ok (.aload_n 0, 1) := by decide +kernel
theorem dX1_prepare_43 : decode cX1_prepare 43 = .ok (.getfield 20, 3) := by decide +kernel
theorem dX1_prepare_46 : decode cX1_prepare 46 = .ok (.iconst 0, 1) := by decide +kernel
theorem dX1_prepare_47 : decode cX1_prepare 47 = .ok (.aaload, 1) := by decide +kernel
theorem dX1_prepare_48 : decode cX1_prepare 48 = .ok (.aload_n 0, 1) := by decide +kernel
theorem dX1_prepare_49 : decode cX1_prepare 49 = .ok (.invokevirtual 65, 3) := by decide +kernel
theorem dX1_prepare_52 : decode cX1_prepare 52 = .ok (.invokevirtual 75, 3) := by decide +kernel
theorem dX1_prepare_55 : decode cX1_prepare 55 = .ok (.pop, 1) := by decide +kernel
theorem dX1_prepare_56 : decode cX1_prepare 56 = .ok (.aload_n 0, 1) := by decide +kernel
theorem dX1_prepare_57 : decode cX1_prepare 57 = .ok (.aload_n 0, 1) := by decide +kernel
theorem dX1_prepare_58 : decode cX1_prepare 58 = .ok (.getfield 12, 3) := by decide +kernel
theorem dX1_prepare_61 : decode cX1_prepare 61 = .ok (.getfield 79, 3) := by decide +kernel
theorem dX1_prepare_64 : decode cX1_prepare 64 = .ok (.invokevirtual 69, 3) := by decide +kernel
theorem dX1_prepare_67 : decode cX1_prepare 67 = .ok (.aload_n 0, 1) := by decide +kernel
theorem dX1_prepare_68 : decode cX1_prepare 68 = .ok (.invokevirtual 62, 3) := by decide +kernel
theorem dX1_prepare_71 : decode cX1_prepare 71 = .ok (.return_, 1) := by decide +kernel
theorem dX1_begin_0 : decode cX1_begin 0 = .ok (.aload_n 0, 1) := by decide +kernel
theorem dX1_begin_1 : decode cX1_begin 1 = .ok (.getfield 20, 3) := by decide +kernel
theorem dX1_begin_4 : decode cX1_begin 4 = .ok (.iconst 0, 1) := by decide +kernel
theorem dX1_begin_5 : decode cX1_begin 5 = .ok (.aaload, 1) := by decide +kernel
theorem dX1_begin_6 : decode cX1_begin 6 = .ok (.aload_n 1, 1) := by decide +kernel
theorem dX1_begin_7 : decode cX1_begin 7 = .ok (.invokevirtual 55, 3) := by decide +kernel
theorem dX1_begin_10 : decode cX1_begin 10 = .ok (.aload_n 0, 1) := by decide +kernel
theorem dX1_begin_11 : decode cX1_begin 11 = .ok (.getfield 20, 3) := by decide +kernel
theorem dX1_begin_14 : decode cX1_begin 14 = .ok (.iconst 1, 1) := by decide +kernel
theorem dX1_begin_15 : decode cX1_begin 15 = .ok (.aaload, 1) := by decide +kernel
theorem dX1_begin_16 : decode cX1_begin 16 = .ok (.aload_n 1, 1) := by decide +kernel
theorem dX1_begin_17 : decode cX1_begin 17 = .ok (.invokevirtual 86, 3) := by decide +kernel
theorem dX1_begin_20 : decode cX1_begin 20 = .ok (.return_, 1) := by decide +kernel
theorem dX1_build_0 : decode cX1_build 0 = .ok (.aload_n 0, 1) := by decide +kernel
theorem dX1_build_1 : decode cX1_build 1 = .ok (.getfield 29, 3) := by decide +kernel
theorem dX1_build_4 : decode cX1_build 4 = .ok (.invokevirtual 89, 3) := by decide +kernel
theorem dX1_build_7 : decode cX1_build 7 = .ok (.aload_n 0, 1) := by decide +kernel
theorem dX1_build_8 : decode cX1_build 8 = .ok (.getfield 33, 3) := by decide +kernel
theorem dX1_build_11 : decode cX1_build 11 = .ok (.invokevirtual 89, 3) := by decide +kernel
theorem dX1_build_14 : decode cX1_build 14 = .ok (.aload_n 0, 1) := by decide +kernel
theorem dX1_build_15 : decode cX1_build 15 = .ok (.iconst 1, 1) := by decide +kernel
theorem dX1_build_16 : decode cX1_build 16 = .ok (.putfield 83, 3) := by decide +kernel
theorem dX1_build_19 : decode cX1_build 19 = .ok (.aload_n 0, 1) := by decide +kernel
theorem dX1_build_20 : decode cX1_build 20 = .ok (.getfield 83, 3) := by decide +kernel
theorem dX1_build_23 : decode cX1_build 23 = .ok (.iconst 1, 1) := by decide +kernel
theorem dX1_build_24 : decode cX1_build 24 = .ok (.iadd, 1) := by decide +kernel
theorem dX1_build_25 : decode cX1_build 25 = .ok (.bipush 10, 2) := by decide +kernel
theorem dX1_build_27 : decode cX1_build 27 = .ok (.if_icmp .ge 179, 3) := by decide +kernel
theorem dX1_build_30 : decode cX1_build 30 = .ok (.aload_n 0, 1) := by decide +kernel
theorem dX1_build_31 : decode cX1_build 31 = .ok (.getfield 20, 3) := by decide +kernel
theorem dX1_build_34 : decode cX1_build 34 = .ok (.aload_n 0, 1) := by decide +kernel
theorem dX1_build_35 : decode cX1_build 35 = .ok (.getfield 83, 3) := by decide +kernel
theorem dX1_build_38 : decode cX1_build 38 = .ok (.aaload, 1) := by decide +kernel
theorem dX1_build_39 : decode cX1_build 39 = .ok (.getfield 51, 3) := by decide +kernel
theorem dX1_build_42 : decode cX1_build 42 = .ok (.ifCond .le 164, 3) := by decide +kernel
theorem dX1_build_45 : decode cX1_build 45 = .ok (.aload_n 0, 1) := by decide +kernel
theorem dX1_build_46 : decode cX1_build 46 = .ok (.getfield 20, 3) := by decide +kernel
theorem dX1_build_49 : decode cX1_build 49 = .ok (.aload_n 0, 1) := by decide +kernel
theorem dX1_build_50 : decode cX1_build 50 = .ok (.getfield 83, 3) := by decide +kernel
theorem dX1_build_53 : decode cX1_build 53 = .ok (.aaload, 1) := by decide +kernel
theorem dX1_build_54 : decode cX1_build 54 = .ok (.astore_n 1, 1) := by decide +kernel
theorem dX1_build_55 : decode cX1_build 55 = .ok (.aload_n 0, 1) := by decide +kernel
theorem dX1_build_56 : decode cX1_build 56 = .ok (.getfield 20, 3) := by decide +kernel
theorem dX1_build_59 : decode cX1_build 59 = .ok (.aload_n 0, 1) := by decide +kernel
theorem dX1_build_60 : decode cX1_build 60 = .ok (.getfield 83, 3) := by decide +kernel
theorem dX1_build_63 : decode cX1_build 63 = .ok (.iconst 1, 1) := by decide +kernel
theorem dX1_build_64 : decode cX1_build 64 = .ok (.isub, 1) := by decide +kernel
theorem dX1_build_65 : decode cX1_build 65 = .ok (.aaload, 1) := by decide +kernel
theorem dX1_build_66 : decode cX1_build 66 = .ok (.getfield 51, 3) := by decide +kernel
theorem dX1_build_69 : decode cX1_build 69 = .ok (.aload_n 1, 1) := by decide +kernel
theorem dX1_build_70 : decode cX1_build 70 = .ok (.getfield 51, 3) := by decide +kernel
theorem dX1_build_73 : decode cX1_build 73 = .ok (.isub, 1) := by decide +kernel
theorem dX1_build_74 : decode cX1_build 74 = .ok (.istore_n 2, 1) := by decide +kernel
theorem dX1_build_75 : decode cX1_build 75 = .ok (.aload_n 0, 1) := by decide +kernel
theorem dX1_build_76 : decode cX1_build 76 = .ok (.getfield 12, 3) := by decide +kernel
theorem dX1_build_79 : decode cX1_build 79 = .ok (.getfield 90, 3) := by decide +kernel
theorem dX1_build_82 : decode cX1_build 82 = .ok (.aload_n 0, 1) := by decide +kernel
theorem dX1_build_83 : decode cX1_build 83 = .ok (.getfield 20, 3) := by decide +kernel
theorem dX1_build_86 : decode cX1_build 86 = .ok (.aload_n 0, 1) := by decide +kernel
theorem dX1_build_87 : decode cX1_build 87 = .ok (.getfield 83, 3) := by decide +kernel
theorem dX1_build_90 : decode cX1_build 90 = .ok (.iconst 1, 1) := by decide +kernel
theorem dX1_build_91 : decode cX1_build 91 = .ok (.isub, 1) := by decide +kernel
theorem dX1_build_92 : decode cX1_build 92 = .ok (.aaload, 1) := by decide +kernel
theorem dX1_build_93 : decode cX1_build 93 = .ok (.invokevirtual 55, 3) := by decide +kernel
theorem dX1_build_96 : decode cX1_build 96 = .ok (.aload_n 0, 1) := by decide +kernel
theorem dX1_build_97 : decode cX1_build 97 = .ok (.getfield 12, 3) := by decide +kernel
theorem dX1_build_100 : decode cX1_build 100 = .ok (.aload_n 1, 1) := by decide +kernel
theorem dX1_build_101 : decode cX1_build 101 = .ok (.invokevirtual 93, 3) := by decide +kernel
theorem dX1_build_104 : decode cX1_build 104 = .ok (.aload_n 0, 1) := by decide +kernel
theorem dX1_build_105 : decode cX1_build 105 = .ok (.getfield 12, 3) := by decide +kernel
theorem dX1_build_108 : decode cX1_build 108 = .ok (.getfield 90, 3) := by decide +kernel
theorem dX1_build_111 : decode cX1_build 111 = .ok (.getfield 51, 3) := by decide +kernel
theorem dX1_build_114 : decode cX1_build 114 = .ok (.ifCond .ge 4, 3) := by decide +kernel
theorem dX1_build_117 : decode cX1_build 117 = .ok (.return_, 1) := by decide +kernel
theorem dX1_build_118 : decode cX1_build 118 = .ok (.aload_n 0, 1) := by decide +kernel
theorem dX1_build_119 : decode cX1_build 119 = .ok (.getfield 36, 3) := by decide +kernel
theorem dX1_build_122 : decode cX1_build 122 = .ok (.aload_n 0, 1) := by decide +kernel
theorem dX1_build_123 : decode cX1_build 123 = .ok (.getfield 29, 3) := by decide +kernel
theorem dX1_build_126 : decode cX1_build 126 = .ok (.invokevirtual 96, 3) := by decide +kernel
theorem dX1_build_129 : decode cX1_build 129 = .ok (.aload_n 0, 1) := by decide +kernel
theorem dX1_build_130 : decode cX1_build 130 = .ok (.aload_n 0, 1) := by decide +kernel
theorem dX1_build_131 : decode cX1_build 131 = .ok (.getfield 33, 3) := by decide +kernel
theorem dX1_build_134 : decode cX1_build 134 = .ok (.iload_n 2, 1) := by decide +kernel
theorem dX1_build_135 : decode cX1_build 135 = .ok (.invokevirtual 99, 3) := by decide +kernel
theorem dX1_build_138 : decode cX1_build 138 = .ok (.aload_n 0, 1) := by decide +kernel
theorem dX1_build_139 : decode cX1_build 139 = .ok (.getfield 12, 3) := by decide +kernel
theorem dX1_build_142 : decode cX1_build 142 = .ok (.aload_n 0, 1) := by decide +kernel
theorem dX1_build_143 : decode cX1_build 143 = .ok (.getfield 12, 3) := by decide +kernel
theorem dX1_build_146 : decode cX1_build 146 = .ok (.getfield 90, 3) := by decide +kernel
theorem dX1_build_149 : decode cX1_build 149 = .ok (.aload_n 0, 1) := by decide +kernel
theorem dX1_build_150 : decode cX1_build 150 = .ok (.getfield 36, 3) := by decide +kernel
theorem dX1_build_153 : decode cX1_build 153 = .ok (.invokevirtual 103, 3) := by decide +kernel
theorem dX1_build_156 : decode cX1_build 156 = .ok (.aload_n 0, 1) := by decide +kernel
theorem dX1_build_157 : decode cX1_build 157 = .ok (.getfield 12, 3) := by decide +kernel
theorem dX1_build_160 : decode cX1_build 160 = .ok (.getfield 90, 3) := by decide +kernel
theorem dX1_build_163 : decode cX1_build 163 = .ok (.invokevirtual 107, 3) := by decide +kernel
theorem dX1_build_166 : decode cX1_build 166 = .ok (.aload_n 0, 1) := by decide +kernel
theorem dX1_build_167 : decode cX1_build 167 = .ok (.getfield 20, 3) := by decide +kernel
theorem dX1_build_170 : decode cX1_build 170 = .ok (.aload_n 0, 1) := by decide +kernel
theorem dX1_build_171 : decode cX1_build 171 = .ok (.getfield 83, 3) := by decide +kernel
theorem dX1_build_174 : decode cX1_build 174 = .ok (.iconst 1, 1) := by decide +kernel
theorem dX1_build_175 : decode cX1_build 175 = .ok (.iadd, 1) := by decide +kernel
theorem dX1_build_176 : decode cX1_build 176 = .ok (.aaload, 1) := by decide +kernel
theorem dX1_build_177 : decode cX1_build 177 = .ok (.aload_n 0, 1) := by decide +kernel
theorem dX1_build_178 : decode cX1_build 178 = .ok (.getfield 12, 3) := by decide +kernel
theorem dX1_build_181 : decode cX1_build 181 = .ok (.getfield 90, 3) := by decide +kernel
theorem dX1_build_184 : decode cX1_build 184 = .ok (.invokevirtual 55, 3) := by decide +kernel
theorem dX1_build_187 : decode cX1_build 187 = .ok (.aload_n 0, 1) := by decide +kernel
theorem dX1_build_188 : decode cX1_build 188 = .ok (.aload_n 1, 1) := by decide +kernel
theorem dX1_build_189 : decode cX1_build 189 = .ok (.iload_n 2, 1) := by decide +kernel
theorem dX1_build_190 : decode cX1_build 190 = .ok (.invokevirtual 110, 3) := by decide +kernel
theorem dX1_build_193 : decode cX1_build 193 = .ok (.aload_n 0, 1) := by decide +kernel
theorem dX1_build_194 : decode cX1_build 194 = .ok (.dup, 1) := by decide +kernel
theorem dX1_build_195 : decode cX1_build 195 = .ok (.getfield 83, 3) := by decide +kernel
theorem dX1_build_198 : decode cX1_build 198 = .ok (.iconst 1, 1) := by decide +kernel
theorem dX1_build_199 : decode cX1_build 199 = .ok (.iadd, 1) := by decide +kernel
theorem dX1_build_200 : decode cX1_build 200 = .ok (.putfield 83, 3) := by decide +kernel
theorem dX1_build_203 : decode cX1_build 203 = .ok (.goto (-184), 3) := by decide +kernel
theorem dX1_build_206 : decode cX1_build 206 = .ok (.return_, 1) := by decide +kernel
theorem dX1_raise_0 : decode cX1_raise 0 = .ok (.iconst 0, 1) := by decide +kernel
theorem dX1_raise_1 : decode cX1_raise 1 = .ok (.istore_n 3, 1) := by decide +kernel
theorem dX1_raise_2 : decode cX1_raise 2 = .ok (.iload_n 3, 1) := by decide +kernel
theorem dX1_raise_3 : decode cX1_raise 3 = .ok (.iload_n 2, 1) := by decide +kernel
theorem dX1_raise_4 : decode cX1_raise 4 = .ok (.if_icmp .ge 32, 3) := by decide +kernel
theorem dX1_raise_7 : decode cX1_raise 7 = .ok (.aload_n 0, 1) := by decide +kernel
theorem dX1_raise_8 : decode cX1_raise 8 = .ok (.getfield 39, 3) := by decide +kernel
theorem dX1_raise_11 : decode cX1_raise 11 = .ok (.aload_n 0, 1) := by decide +kernel
theorem dX1_raise_12 : decode cX1_raise 12 = .ok (.getfield 36, 3) := by decide +kernel
theorem dX1_raise_15 : decode cX1_raise 15 = .ok (.aload_n 1, 1) := by decide +kernel
theorem dX1_raise_16 : decode cX1_raise 16 = .ok (.invokevirtual 114, 3) := by decide +kernel
theorem dX1_raise_19 : decode cX1_raise 19 = .ok (.aload_n 0, 1) := by decide +kernel
theorem dX1_raise_20 : decode cX1_raise 20 = .ok (.getfield 36, 3) := by decide +kernel
theorem dX1_raise_23 : decode cX1_raise 23 = .ok (.aload_n 0, 1) := by decide +kernel
theorem dX1_raise_24 : decode cX1_raise 24 = .ok (.getfield 39, 3) := by decide +kernel
theorem dX1_raise_27 : decode cX1_raise 27 = .ok (.invokevirtual 96, 3) := by decide +kernel
theorem dX1_raise_30 : decode cX1_raise 30 = .ok (.iinc 3 1, 3) := by decide +kernel
theorem dX1_raise_33 : decode cX1_raise 33 = .ok (.goto (-31), 3) := by decide +kernel
theorem dX1_raise_36 : decode cX1_raise 36 = .ok (.return_, 1) := by decide +kernel
theorem dX1_follow_0 : decode cX1_follow 0 = .ok (.aload_n 1, 1) := by decide +kernel
theorem dX1_follow_1 : decode cX1_follow 1 = .ok (.getfield 51, 3) := by decide +kernel
theorem dX1_follow_4 : decode cX1_follow 4 = .ok (.ifCond .ge 4, 3) := by decide +kernel
theorem dX1_follow_7 : decode cX1_follow 7 = .ok (.return_, 1) := by decide +kernel
theorem dX1_follow_8 : decode cX1_follow 8 = .ok (.aload_n 0, 1) := by decide +kernel
theorem dX1_follow_9 : decode cX1_follow 9 = .ok (.getfield 29, 3) := by decide +kernel
theorem dX1_follow_12 : decode cX1_follow 12 = .ok (.aload_n 1, 1) := by decide +kernel
theorem dX1_follow_13 : decode cX1_follow 13 = .ok (.getfield 118, 3) := by decide +kernel
theorem dX1_follow_16 : decode cX1_follow 16 = .ok (.aload_n 1, 1) := by decide +kernel
theorem dX1_follow_17 : decode cX1_follow 17 = .ok (.getfield 51, 3) := by decide +kernel
theorem dX1_follow_20 : decode cX1_follow 20 = .ok (.aaload, 1) := by decide +kernel
theorem dX1_follow_21 : decode cX1_follow 21 = .ok (.invokevirtual 96, 3) := by decide +kernel
theorem dX1_follow_24 : decode cX1_follow 24 = .ok (.aload_n 0, 1) := by decide +kernel
theorem dX1_follow_25 : decode cX1_follow 25 = .ok (.getfield 29, 3) := by decide +kernel
theorem dX1_follow_28 : decode cX1_follow 28 = .ok (.getfield 122, 3) := by decide +kernel
theorem dX1_follow_31 : decode cX1_follow 31 = .ok (.ifCond .ge 10, 3) := by decide +kernel
theorem dX1_follow_34 : decode cX1_follow 34 = .ok (.aload_n 0, 1) := by decide +kernel
theorem dX1_follow_35 : decode cX1_follow 35 = .ok (.getfield 29, 3) := by decide +kernel
theorem dX1_follow_38 : decode cX1_follow 38 = .ok (.invokevirtual 125, 3) := by decide +kernel
theorem dX1_follow_41 : decode cX1_follow 41 = .ok (.iload_n 2, 1) := by decide +kernel
theorem dX1_follow_42 : decode cX1_follow 42 = .ok (.iconst 1, 1) := by decide +kernel
theorem dX1_follow_43 : decode cX1_follow 43 = .ok (.if_icmp .ge 4, 3) := by decide +kernel
theorem dX1_follow_46 : decode cX1_follow 46 = .ok (.return_, 1) := by decide +kernel
theorem dX1_follow_47 : decode cX1_follow 47 = .ok (.aload_n 0, 1) := by decide +kernel
theorem dX1_follow_48 : decode cX1_follow 48 = .ok (.getfield 36, 3) := by decide +kernel
theorem dX1_follow_51 : decode cX1_follow 51 = .ok (.invokevirtual 89, 3) := by decide +kernel
theorem dX1_follow_54 : decode cX1_follow 54 = .ok (.aload_n 0, 1) := by decide +kernel
theorem dX1_follow_55 : decode cX1_follow 55 = .ok (.aload_n 0, 1) := by decide +kernel
theorem dX1_follow_56 : decode cX1_follow 56 = .ok (.getfield 29, 3) := by decide +kernel
theorem dX1_follow_59 : decode cX1_follow 59 = .ok (.iload_n 2, 1) := by decide +kernel
theorem dX1_follow_60 : decode cX1_follow 60 = .ok (.invokevirtual 99, 3) := by decide +kernel
theorem dX1_follow_63 : decode cX1_follow 63 = .ok (.iconst 1, 1) := by decide +kernel
theorem dX1_follow_64 : decode cX1_follow 64 = .ok (.istore_n 3, 1) := by decide +kernel
theorem dX1_follow_65 : decode cX1_follow 65 = .ok (.iload_n 3, 1) := by decide +kernel
theorem dX1_follow_66 : decode cX1_follow 66 = .ok (.iload_n 2, 1) := by decide +kernel
theorem dX1_follow_67 : decode cX1_follow 67 = .ok (.if_icmp .ge 35, 3) := by decide +kernel
theorem dX1_follow_70 : decode cX1_follow 70 = .ok (.aload_n 0, 1) := by decide +kernel
theorem dX1_follow_71 : decode cX1_follow 71 = .ok (.getfield 36, 3) := by decide +kernel
theorem dX1_follow_74 : decode cX1_follow 74 = .ok (.aload_n 0, 1) := by decide +kernel
theorem dX1_follow_75 : decode cX1_follow 75 = .ok (.getfield 33, 3) := by decide +kernel
theorem dX1_follow_78 : decode cX1_follow 78 = .ok (.aload_n 0, 1) := by decide +kernel
theorem dX1_follow_79 : decode cX1_follow 79 = .ok (.getfield 39, 3) := by decide +kernel
theorem dX1_follow_82 : decode cX1_follow 82 = .ok (.invokevirtual 126, 3) := by decide +kernel
theorem dX1_follow_85 : decode cX1_follow 85 = .ok (.aload_n 0, 1) := by decide +kernel
theorem dX1_follow_86 : decode cX1_follow 86 = .ok (.getfield 36, 3) := by decide +kernel
theorem dX1_follow_89 : decode cX1_follow 89 = .ok (.aload_n 0, 1) := by decide +kernel
theorem dX1_follow_90 : decode cX1_follow 90 = .ok (.getfield 39, 3) := by decide +kernel
theorem dX1_follow_93 : decode cX1_follow 93 = .ok (.invokevirtual 96, 3) := by decide +kernel
theorem dX1_follow_96 : decode cX1_follow 96 = .ok (.iinc 3 1, 3) := by decide +kernel
theorem dX1_follow_99 : decode cX1_follow 99 = .ok (.goto (-34), 3) := by decide +kernel
theorem dX1_follow_102 : decode cX1_follow 102 = .ok (.aload_n 0, 1) := by decide +kernel
theorem dX1_follow_103 : decode cX1_follow 103 = .ok (.getfield 33, 3) := by decide +kernel
theorem dX1_follow_106 : decode cX1_follow 106 = .ok (.aload_n 0, 1) := by decide +kernel
theorem dX1_follow_107 : decode cX1_follow 107 = .ok (.getfield 36, 3) := by decide +kernel
theorem dX1_follow_110 : decode cX1_follow 110 = .ok (.invokevirtual 96, 3) := by decide +kernel
theorem dX1_follow_113 : decode cX1_follow 113 = .ok (.return_, 1) := by decide +kernel
theorem dX1_divisorAtEnd_0 : decode cX1_divisorAtEnd 0 = .ok (.aload_n 0, 1) := by decide +kernel
theorem dX1_divisorAtEnd_1 : decode cX1_divisorAtEnd 1 = .ok (.getfield 20, 3) := by decide +kernel
theorem dX1_divisorAtEnd_4 : decode cX1_divisorAtEnd 4 = .ok (.aload_n 0, 1) := by decide +kernel
theorem dX1_divisorAtEnd_5 : decode cX1_divisorAtEnd 5 = .ok (.getfield 83, 3) := by decide +kernel
theorem dX1_divisorAtEnd_8 : decode cX1_divisorAtEnd 8 = .ok (.aaload, 1) := by decide +kernel
theorem dX1_divisorAtEnd_9 : decode cX1_divisorAtEnd 9 = .ok (.astore_n 1, 1) := by decide +kernel
theorem dX1_divisorAtEnd_10 : decode cX1_divisorAtEnd 10 = .ok (.aload_n 1, 1) := by decide +kernel
theorem dX1_divisorAtEnd_11 : decode cX1_divisorAtEnd 11 = .ok (.getfield 51, 3) := by decide +kernel
theorem dX1_divisorAtEnd_14 : decode cX1_divisorAtEnd 14 = .ok (.iconst 1, 1) := by decide +kernel
theorem dX1_divisorAtEnd_15 : decode cX1_divisorAtEnd 15 = .ok (.if_icmp .ge 10, 3) := by decide +kernel
theorem dX1_divisorAtEnd_18 : decode cX1_divisorAtEnd 18 = .ok (.aload_n 1, 1) := by decide +kernel
theorem dX1_divisorAtEnd_19 : decode cX1_divisorAtEnd 19 = .ok (.invokevirtual 72, 3) := by decide +kernel
theorem dX1_divisorAtEnd_22 : decode cX1_divisorAtEnd 22 = .ok (.goto 31, 3) := by decide +kernel
theorem dX1_divisorAtEnd_25 : decode cX1_divisorAtEnd 25 = .ok (.aload_n 0, 1) := by decide +kernel
theorem dX1_divisorAtEnd_26 : decode cX1_divisorAtEnd 26 = .ok (.getfield 12, 3) := by decide +kernel
theorem dX1_divisorAtEnd_29 : decode cX1_divisorAtEnd 29 = .ok (.aload_n 1, 1) := by decide +kernel
theorem dX1_divisorAtEnd_30 : decode cX1_divisorAtEnd 30 = .ok (.aload_n 0, 1) := by decide +kernel
theorem dX1_divisorAtEnd_31 : decode cX1_divisorAtEnd 31 = .ok (.getfield 20, 3) := by decide +kernel
theorem dX1_divisorAtEnd_34 : decode cX1_divisorAtEnd 34 = .ok (.iconst 0, 1) := by decide +kernel
theorem dX1_divisorAtEnd_35 : decode cX1_divisorAtEnd 35 = .ok (.aaload, 1) := by decide +kernel
theorem dX1_divisorAtEnd_36 : decode cX1_divisorAtEnd 36 = .ok (.aload_n 0, 1) := by decide +kernel
theorem dX1_divisorAtEnd_37 : decode cX1_divisorAtEnd 37 = .ok (.getfield 20, 3) := by decide +kernel
theorem dX1_divisorAtEnd_40 : decode cX1_divisorAtEnd 40 = .ok (.iconst 1, 1) := by decide +kernel
theorem dX1_divisorAtEnd_41 : decode cX1_divisorAtEnd 41 = .ok (.aaload, 1) := by decide +kernel
theorem dX1_divisorAtEnd_42 : decode cX1_divisorAtEnd 42 = .ok (.invokevirtual 129, 3) := by decide +kernel
theorem dX1_divisorAtEnd_45 : decode cX1_divisorAtEnd 45 = .ok (.aload_n 0, 1) := by decide +kernel
theorem dX1_divisorAtEnd_46 : decode cX1_divisorAtEnd 46 = .ok (.getfield 12, 3) := by decide +kernel
theorem dX1_divisorAtEnd_49 : decode cX1_divisorAtEnd 49 = .ok (.aload_n 1, 1) := by decide +kernel
theorem dX1_divisorAtEnd_50 : decode cX1_divisorAtEnd 50 = .ok (.invokevirtual 59, 3) := by decide +kernel
theorem dX1_divisorAtEnd_53 : decode cX1_divisorAtEnd 53 = .ok (.aload_n 1, 1) := by decide +kernel
theorem dX1_divisorAtEnd_54 : decode cX1_divisorAtEnd 54 = .ok (.areturn, 1) := by decide +kernel
theorem dX1_changes_0 : decode cX1_changes 0 = .ok (.iconst 0, 1) := by decide +kernel
theorem dX1_changes_1 : decode cX1_changes 1 = .ok (.istore 4, 2) := by decide +kernel
theorem dX1_changes_3 : decode cX1_changes 3 = .ok (.iconst 0, 1) := by decide +kernel
theorem dX1_changes_4 : decode cX1_changes 4 = .ok (.istore 5, 2) := by decide +kernel
theorem dX1_changes_6 : decode cX1_changes 6 = .ok (.iconst 0, 1) := by decide +kernel
theorem dX1_changes_7 : decode cX1_changes 7 = .ok (.istore 6, 2) := by decide +kernel
theorem dX1_changes_9 : decode cX1_changes 9 = .ok (.iload 6, 2) := by decide +kernel
theorem dX1_changes_11 : decode cX1_changes 11 = .ok (.aload_n 0, 1) := by decide +kernel
theorem dX1_changes_12 : decode cX1_changes 12 = .ok (.getfield 83, 3) := by decide +kernel
theorem dX1_changes_15 : decode cX1_changes 15 = .ok (.if_icmp .gt 70, 3) := by decide +kernel
theorem dX1_changes_18 : decode cX1_changes 18 = .ok (.iload_n 3, 1) := by decide +kernel
theorem dX1_changes_19 : decode cX1_changes 19 = .ok (.ifCond .eq 17, 3) := by decide +kernel
theorem dX1_changes_22 : decode cX1_changes 22 = .ok (.aload_n 0, 1) := by decide +kernel
theorem dX1_changes_23 : decode cX1_changes 23 = .ok (.getfield 20, 3) := by decide +kernel
theorem dX1_changes_26 : decode cX1_changes 26 = .ok (.iload 6, 2) := by decide +kernel
theorem dX1_changes_28 : decode cX1_changes 28 = .ok (.aaload, 1) := by decide +kernel
theorem dX1_changes_29 : decode cX1_changes 29 = .ok (.lload_n 1, 1) := by decide +kernel
theorem dX1_changes_30 : decode cX1_changes 30 = .ok (.invokevirtual 133, 3) := by decide +kernel
theorem dX1_changes_33 : decode cX1_changes 33 = .ok (.goto 19, 3) := by decide +kernel
theorem dX1_changes_36 : decode cX1_changes 36 = .ok (.aload_n 0, 1) := by decide +kernel
theorem dX1_changes_37 : decode cX1_changes 37 = .ok (.getfield 12, 3) := by decide +kernel
theorem dX1_changes_40 : decode cX1_changes 40 = .ok (.aload_n 0, 1) := by decide +kernel
theorem dX1_changes_41 : decode cX1_changes 41 = .ok (.getfield 20, 3) := by decide +kernel
theorem dX1_changes_44 : decode cX1_changes 44 = .ok (.iload 6, 2) := by decide +kernel
theorem dX1_changes_46 : decode cX1_changes 46 = .ok (.aaload, 1) := by decide +kernel
theorem dX1_changes_47 : decode cX1_changes 47 = .ok (.lload_n 1, 1) := by decide +kernel
theorem dX1_changes_48 : decode cX1_changes 48 = .ok (.lconst 1, 1) := by decide +kernel
theorem dX1_changes_49 : decode cX1_changes 49 = .ok (.invokevirtual 137, 3) := by decide +kernel
theorem dX1_changes_52 : decode cX1_changes 52 = .ok (.istore 7, 2) := by decide +kernel
theorem dX1_changes_54 : decode cX1_changes 54 = .ok (.iload 7, 2) := by decide +kernel
theorem dX1_changes_56 : decode cX1_changes 56 = .ok (.iload 5, 2) := by decide +kernel
theorem dX1_changes_58 : decode cX1_changes 58 = .ok (.imul, 1) := by decide +kernel
theorem dX1_changes_59 : decode cX1_changes 59 = .ok (.ifCond .ge 6, 3) := by decide +kernel
theorem dX1_changes_62 : decode cX1_changes 62 = .ok (.iinc 4 1, 3) := by decide +kernel
theorem dX1_changes_65 : decode cX1_changes 65 = .ok (.iload 7, 2) := by decide +kernel
theorem dX1_changes_67 : decode cX1_changes 67 = .ok (.ifCond .ne 8, 3) := by decide +kernel
theorem dX1_changes_70 : decode cX1_changes 70 = .ok (.iload 5, 2) := by decide +kernel
theorem dX1_changes_72 : decode cX1_changes 72 = .ok (.goto 5, 3) := by decide +kernel
theorem dX1_changes_75 : decode cX1_changes 75 = .ok (.iload 7, 2) := by decide +kernel
theorem dX1_changes_77 : decode cX1_changes 77 = .ok (.istore 5, 2) := by decide +kernel
theorem dX1_changes_79 : decode cX1_changes 79 = .ok (.iinc 6 1, 3) := by decide +kernel
theorem dX1_changes_82 : decode cX1_changes 82 = .ok (.goto (-73), 3) := by decide +kernel
theorem dX1_changes_85 : decode cX1_changes 85 = .ok (.iload 4, 2) := by decide +kernel
theorem dX1_changes_87 : decode cX1_changes 87 = .ok (.ireturn, 1) := by decide +kernel
theorem dX1_floorOfRoot_0 : decode cX1_floorOfRoot 0 = .ok (.aload_n 0, 1) := by decide +kernel
theorem dX1_floorOfRoot_1 : decode cX1_floorOfRoot 1 = .ok (.ldc2_w 141, 3) := by decide +kernel
theorem dX1_floorOfRoot_4 : decode cX1_floorOfRoot 4 = .ok (.iconst 1, 1) := by decide +kernel
theorem dX1_floorOfRoot_5 : decode cX1_floorOfRoot 5 = .ok (.invokevirtual 143, 3) := by decide +kernel
theorem dX1_floorOfRoot_8 : decode cX1_floorOfRoot 8 = .ok (.istore_n 2, 1) := by decide +kernel
theorem dX1_floorOfRoot_9 : decode cX1_floorOfRoot 9 = .ok (.ldc2_w 149, 3) := by decide +kernel
theorem dX1_floorOfRoot_12 : decode cX1_floorOfRoot 12 = .ok (.lstore_n 3, 1) := by decide +kernel
theorem dX1_floorOfRoot_13 : decode cX1_floorOfRoot 13 = .ok (.ldc2_w 151, 3) := by decide +kernel
theorem dX1_floorOfRoot_16 : decode cX1_floorOfRoot 16 = .ok (.lstore 5, 2) := by decide +kernel
theorem dX1_floorOfRoot_18 : decode cX1_floorOfRoot 18 = .ok (.aload_n 0, 1) := by decide +kernel
theorem dX1_floorOfRoot_19 : decode cX1_floorOfRoot 19 = .ok (.lload_n 3, 1) := by decide +kernel
theorem dX1_floorOfRoot_20 : decode cX1_floorOfRoot 20 = .ok (.iload_n 2, 1) := by decide +kernel
theorem dX1_floorOfRoot_21 : decode cX1_floorOfRoot 21 = .ok (.invokevirtual 153, 3) := by decide +kernel
theorem dX1_floorOfRoot_24 : decode cX1_floorOfRoot 24 = .ok (.iload_n 1, 1) := by decide +kernel
theorem dX1_floorOfRoot_25 : decode cX1_floorOfRoot 25 = .ok (.if_icmp .gt 14, 3) := by decide +kernel
theorem dX1_floorOfRoot_28 : decode cX1_floorOfRoot 28 = .ok (.aload_n 0, 1) := by decide +kernel
theorem dX1_floorOfRoot_29 : decode cX1_floorOfRoot 29 = .ok (.lload 5, 2) := by decide +kernel
theorem dX1_floorOfRoot_31 : decode cX1_floorOfRoot 31 = .ok (.iload_n 2, 1) := by decide +kernel
theorem dX1_floorOfRoot_32 : decode cX1_floorOfRoot 32 = .ok (.invokevirtual 153, 3) := by decide +kernel
theorem dX1_floorOfRoot_35 : decode cX1_floorOfRoot 35 = .ok (.iload_n 1, 1) := by decide +kernel
theorem dX1_floorOfRoot_36 : decode cX1_floorOfRoot 36 = .ok (.if_icmp .gt 7, 3) := by decide +kernel
theorem dX1_floorOfRoot_39 : decode cX1_floorOfRoot 39 = .ok (.ldc2_w 159, 3) := by decide +kernel
theorem dX1_floorOfRoot_42 : decode cX1_floorOfRoot 42 = .ok (.lreturn, 1) := by decide +kernel
theorem dX1_floorOfRoot_43 : decode cX1_floorOfRoot 43 = .ok (.iconst 0, 1) := by decide +kernel
theorem dX1_floorOfRoot_44 : decode cX1_floorOfRoot 44 = .ok (.istore 7, 2) := by decide +kernel
theorem dX1_floorOfRoot_46 : decode cX1_floorOfRoot 46 = .ok (.iload 7, 2) := by decide +kernel
theorem dX1_floorOfRoot_48 : decode cX1_floorOfRoot 48 = .ok (.bipush 64, 2) := by decide +kernel
theorem dX1_floorOfRoot_50 : decode cX1_floorOfRoot 50 = .ok (.if_icmp .ge 51, 3) := by decide +kernel
theorem dX1_floorOfRoot_53 : decode cX1_floorOfRoot 53 = .ok (.lload 5, 2) := by decide +kernel
theorem dX1_floorOfRoot_55 : decode cX1_floorOfRoot 55 = .ok (.lload_n 3, 1) := by decide +kernel
theorem dX1_floorOfRoot_56 : decode cX1_floorOfRoot 56 = .ok (.lsub, 1) := by decide +kernel
theorem dX1_floorOfRoot_57 : decode cX1_floorOfRoot 57 = .ok (.lconst 1, 1) := by decide +kernel
theorem dX1_floorOfRoot_58 : decode cX1_floorOfRoot 58 = .ok (.lcmp, 1) := by decide +kernel
theorem dX1_floorOfRoot_59 : decode cX1_floorOfRoot 59 = .ok (.ifCond .le 42, 3) := by decide +kernel
theorem dX1_floorOfRoot_62 : decode cX1_floorOfRoot 62 = .ok (.lload_n 3, 1) := by decide +kernel
theorem dX1_floorOfRoot_63 : decode cX1_floorOfRoot 63 = .ok (.lload 5, 2) := by decide +kernel
theorem dX1_floorOfRoot_65 : decode cX1_floorOfRoot 65 = .ok (.lload_n 3, 1) := by decide +kernel
theorem dX1_floorOfRoot_66 : decode cX1_floorOfRoot 66 = .ok (.lsub, 1) := by decide +kernel
theorem dX1_floorOfRoot_67 : decode cX1_floorOfRoot 67 = .ok (.ldc2_w 161, 3) := by decide +kernel
theorem dX1_floorOfRoot_70 : decode cX1_floorOfRoot 70 = .ok (.ldiv, 1) := by decide +kernel
theorem dX1_floorOfRoot_71 : decode cX1_floorOfRoot 71 = .ok (.ladd, 1) := by decide +kernel
theorem dX1_floorOfRoot_72 : decode cX1_floorOfRoot 72 = .ok (.lstore 8, 2) := by decide +kernel
theorem dX1_floorOfRoot_74 : decode cX1_floorOfRoot 74 = .ok (.aload_n 0, 1) := by decide +kernel
theorem dX1_floorOfRoot_75 : decode cX1_floorOfRoot 75 = .ok (.lload 8, 2) := by decide +kernel
theorem dX1_floorOfRoot_77 : decode cX1_floorOfRoot 77 = .ok (.iload_n 2, 1) := by decide +kernel
theorem dX1_floorOfRoot_78 : decode cX1_floorOfRoot 78 = .ok (.invokevirtual 153, 3) := by decide +kernel
theorem dX1_floorOfRoot_81 : decode cX1_floorOfRoot 81 = .ok (.iload_n 1, 1) := by decide +kernel
theorem dX1_floorOfRoot_82 : decode cX1_floorOfRoot 82 = .ok (.if_icmp .gt 9, 3) := by decide +kernel
theorem dX1_floorOfRoot_85 : decode cX1_floorOfRoot 85 = .ok (.lload 8, 2) := by decide +kernel
theorem dX1_floorOfRoot_87 : decode cX1_floorOfRoot 87 = .ok (.lstore_n 3, 1) := by decide +kernel
theorem dX1_floorOfRoot_88 : decode cX1_floorOfRoot 88 = .ok (.goto 7, 3) := by decide +kernel
theorem dX1_floorOfRoot_91 : decode cX1_floorOfRoot 91 = .ok (.lload 8, 2) := by decide +kernel
theorem dX1_floorOfRoot_93 : decode cX1_floorOfRoot 93 = .ok (.lstore 5, 2) := by decide +kernel
theorem dX1_floorOfRoot_95 : decode cX1_floorOfRoot 95 = .ok (.iinc 7 1, 3) := by decide +kernel
theorem dX1_floorOfRoot_98 : decode cX1_floorOfRoot 98 = .ok (.goto (-52), 3) := by decide +kernel
theorem dX1_floorOfRoot_101 : decode cX1_floorOfRoot 101 = .ok (.lload_n 3, 1) := by decide +kernel
theorem dX1_floorOfRoot_102 : decode cX1_floorOfRoot 102 = .ok (.lreturn, 1) := by decide +kernel
theorem dX1_rootsBelow_0 : decode cX1_rootsBelow 0 = .ok (.iload_n 3, 1) := by decide +kernel
theorem dX1_rootsBelow_1 : decode cX1_rootsBelow 1 = .ok (.aload_n 0, 1) := by decide +kernel
theorem dX1_rootsBelow_2 : decode cX1_rootsBelow 2 = .ok (.lload_n 1, 1) := by decide +kernel
theorem dX1_rootsBelow_3 : decode cX1_rootsBelow 3 = .ok (.iconst 0, 1) := by decide +kernel
theorem dX1_rootsBelow_4 : decode cX1_rootsBelow 4 = .ok (.invokevirtual 143, 3) := by decide +kernel
theorem dX1_rootsBelow_7 : decode cX1_rootsBelow 7 = .ok (.isub, 1) := by decide +kernel
theorem dX1_rootsBelow_8 : decode cX1_rootsBelow 8 = .ok (.istore 4, 2) := by decide +kernel
theorem dX1_rootsBelow_10 : decode cX1_rootsBelow 10 = .ok (.aload_n 0, 1) := by decide +kernel
theorem dX1_rootsBelow_11 : decode cX1_rootsBelow 11 = .ok (.getfield 12, 3) := by decide +kernel
theorem dX1_rootsBelow_14 : decode cX1_rootsBelow 14 = .ok (.aload_n 0, 1) := by decide +kernel
theorem dX1_rootsBelow_15 : decode cX1_rootsBelow 15 = .ok (.getfield 20, 3) := by decide +kernel
theorem dX1_rootsBelow_18 : decode cX1_rootsBelow 18 = .ok (.iconst 0, 1) := by decide +kernel
theorem dX1_rootsBelow_19 : decode cX1_rootsBelow 19 = .ok (.aaload, 1) := by decide +kernel
theorem dX1_rootsBelow_20 : decode cX1_rootsBelow 20 = .ok (.lload_n 1, 1) := by decide +kernel
theorem dX1_rootsBelow_21 : decode cX1_rootsBelow 21 = .ok (.lconst 1, 1) := by decide +kernel
theorem dX1_rootsBelow_22 : decode cX1_rootsBelow 22 = .ok (.invokevirtual 137, 3) := by decide +kernel
theorem dX1_rootsBelow_25 : decode cX1_rootsBelow 25 = .ok (.ifCond .ne 10, 3) := by decide +kernel
theorem dX1_rootsBelow_28 : decode cX1_rootsBelow 28 = .ok (.iload 4, 2) := by decide +kernel
theorem dX1_rootsBelow_30 : decode cX1_rootsBelow 30 = .ok (.iconst 1, 1) := by decide +kernel
theorem dX1_rootsBelow_31 : decode cX1_rootsBelow 31 = .ok (.isub, 1) := by decide +kernel
theorem dX1_rootsBelow_32 : decode cX1_rootsBelow 32 = .ok (.goto 5, 3) := by decide +kernel
theorem dX1_rootsBelow_35 : decode cX1_rootsBelow 35 = .ok (.iload 4, 2) := by decide +kernel
theorem dX1_rootsBelow_37 : decode cX1_rootsBelow 37 = .ok (.ireturn, 1) := by decide +kernel
