theorem dX5_init_0 : decode cX5_init 0 = .ok (.aload_n 0, 1) := by decide +kernel
theorem dX5_init_1 : decode cX5_init 1 = .ok (.invokespecial 1, 3) := by decide +kernel
theorem dX5_init_4 : decode cX5_init 4 = .ok (.aload_n 0, 1) := by decide +kernel
theorem dX5_init_5 : decode cX5_init 5 = .ok (.ldc 7, 2) := by decide +kernel
theorem dX5_init_7 : decode cX5_init 7 = .ok (.newarray .long, 2) := by decide +kernel
theorem dX5_init_9 : decode cX5_init 9 = .ok (.putfield 8, 3) := by decide +kernel
theorem dX5_init_12 : decode cX5_init 12 = .ok (.aload_n 0, 1) := by decide +kernel
theorem dX5_init_13 : decode cX5_init 13 = .ok (.sipush 227, 3) := by decide +kernel
theorem dX5_init_16 : decode cX5_init 16 = .ok (.newarray .int, 2) := by decide +kernel
theorem dX5_init_18 : decode cX5_init 18 = .ok (.putfield 14, 3) := by decide +kernel
theorem dX5_init_21 : decode cX5_init 21 = .ok (.aload_n 0, 1) := by decide +kernel
theorem dX5_init_22 : decode cX5_init 22 = .ok (.sipush 227, 3) := by decide +kernel
theorem dX5_init_25 : decode cX5_init 25 = .ok (.newarray .int, 2) := by decide +kernel
theorem dX5_init_27 : decode cX5_init 27 = .ok (.putfield 18, 3) := by decide +kernel
theorem dX5_init_30 : decode cX5_init 30 = .ok (.aload_n 0, 1) := by decide +kernel
theorem dX5_init_31 : decode cX5_init 31 = .ok (.bipush 24, 2) := by decide +kernel
theorem dX5_init_33 : decode cX5_init 33 = .ok (.newarray .int, 2) := by decide +kernel
theorem dX5_init_35 : decode cX5_init 35 = .ok (.putfield 21, 3) := by decide +kernel
theorem dX5_init_38 : decode cX5_init 38 = .ok (.aload_n 0, 1) := by decide +kernel
theorem dX5_init_39 : decode cX5_init 39 = .ok (.iconst (-1), 1) := by decide +kernel
theorem dX5_init_40 : decode cX5_init 40 = .ok (.putfield 24, 3) := by decide +kernel
theorem dX5_init_43 : decode cX5_init 43 = .ok (.aload_n 0, 1) := by decide +kernel
theorem dX5_init_44 : decode cX5_init 44 = .ok (.bipush 6, 2) := by decide +kernel
theorem dX5_init_46 : decode cX5_init 46 = .ok (.newarray .int, 2) := by decide +kernel
theorem dX5_init_48 : decode cX5_init 48 = .ok (.putfield 28, 3) := by decide +kernel
theorem dX5_init_51 : decode cX5_init 51 = .ok (.iconst 0, 1) := by decide +kernel
theorem dX5_init_52 : decode cX5_init 52 = .ok (.istore_n 1, 1) := by decide +kernel
theorem dX5_init_53 : decode cX5_init 53 = .ok (.iload_n 1, 1) := by decide +kernel
theorem dX5_init_54 : decode cX5_init 54 = .ok (.bipush 24, 2) := by decide +kernel
theorem dX5_init_56 : decode cX5_init 56 = .ok (.if_icmp .ge 16, 3) := by decide +kernel
theorem dX5_init_59 : decode cX5_init 59 = .ok (.aload_n 0, 1) := by decide +kernel
theorem dX5_init_60 : decode cX5_init 60 = .ok (.getfield 21, 3) := by decide +kernel
theorem dX5_init_63 : decode cX5_init 63 = .ok (.iload_n 1, 1) := by decide +kernel
theorem dX5_init_64 : decode cX5_init 64 = .ok (.iconst (-1), 1) := by decide +kernel
theorem dX5_init_65 : decode cX5_init 65 = .ok (.iastore, 1) := by decide +kernel
theorem dX5_init_66 : decode cX5_init 66 = .ok (.iinc 1 1, 3) := by decide +kernel
theorem dX5_init_69 : decode cX5_init 69 = .ok (.goto (-16), 3) := by decide +kernel
theorem dX5_init_72 : decode cX5_init 72 = .ok (.return_, 1) := by decide +kernel
theorem dX5_zero_0 : decode cX5_zero 0 = .ok (.aload_n 0, 1) := by decide +kernel
theorem dX5_zero_1 : decode cX5_zero 1 = .ok (.getfield 14, 3) := by decide +kernel
theorem dX5_zero_4 : decode cX5_zero 4 = .ok (.iload_n 1, 1) := by decide +kernel
theorem dX5_zero_5 : decode cX5_zero 5 = .ok (.iconst 0, 1) := by decide +kernel
theorem dX5_zero_6 : decode cX5_zero 6 = .ok (.iastore, 1) := by decide +kernel
theorem dX5_zero_7 : decode cX5_zero 7 = .ok (.aload_n 0, 1) := by decide +kernel
theorem dX5_zero_8 : decode cX5_zero 8 = .ok (.getfield 18, 3) := by decide +kernel
theorem dX5_zero_11 : decode cX5_zero 11 = .ok (.iload_n 1, 1) := by decide +kernel
theorem dX5_zero_12 : decode cX5_zero 12 = .ok (.iconst 0, 1) := by decide +kernel
theorem dX5_zero_13 : decode cX5_zero 13 = .ok (.iastore, 1) := by decide +kernel
theorem dX5_zero_14 : decode cX5_zero 14 = .ok (.return_, 1) := by decide +kernel
theorem dX5_put_0 : decode cX5_put 0 = .ok (.lload_n 2, 1) := by decide +kernel
theorem dX5_put_1 : decode cX5_put 1 = .ok (.lconst 0, 1) := by decide +kernel
theorem dX5_put_2 : decode cX5_put 2 = .ok (.lcmp, 1) := by decide +kernel
theorem dX5_put_3 : decode cX5_put 3 = .ok (.ifCond .ge 8, 3) := by decide +kernel
theorem dX5_put_6 : decode cX5_put 6 = .ok (.lload_n 2, 1) := by decide +kernel
theorem dX5_put_7 : decode cX5_put 7 = .ok (.lneg, 1) := by decide +kernel
theorem dX5_put_8 : decode cX5_put 8 = .ok (.goto 4, 3) := by decide +kernel
theorem dX5_put_11 : decode cX5_put 11 = .ok (.lload_n 2, 1) := by decide +kernel
theorem dX5_put_12 : decode cX5_put 12 = .ok (.lstore 4, 2) := by decide +kernel
theorem dX5_put_14 : decode cX5_put 14 = .ok (.aload_n 0, 1) := by decide +kernel
theorem dX5_put_15 : decode cX5_put 15 = .ok (.getfield 18, 3) := by decide +kernel
theorem dX5_put_18 : decode cX5_put 18 = .ok (.iload_n 1, 1) := by decide +kernel
theorem dX5_put_19 : decode cX5_put 19 = .ok (.lload_n 2, 1) := by decide +kernel
theorem dX5_put_20 : decode cX5_put 20 = .ok (.lconst 0, 1) := by decide +kernel
theorem dX5_put_21 : decode cX5_put 21 = .ok (.lcmp, 1) := by decide +kernel
theorem dX5_put_22 : decode cX5_put 22 = .ok (.ifCond .ge 7, 3) := by decide +kernel
theorem dX5_put_25 : decode cX5_put 25 = .ok (.iconst (-1), 1) := by decide +kernel
theorem dX5_put_26 : decode cX5_put 26 = .ok (.goto 14, 3) := by decide +kernel
theorem dX5_put_29 : decode cX5_put 29 = .ok (.lload_n 2, 1) := by decide +kernel
theorem dX5_put_30 : decode cX5_put 30 = .ok (.lconst 0, 1) := by decide +kernel
theorem dX5_put_31 : decode cX5_put 31 = .ok (.lcmp, 1) := by decide +kernel
theorem dX5_put_32 : decode cX5_put 32 = .ok (.ifCond .le 7, 3) := by decide +kernel
theorem dX5_put_35 : decode cX5_put 35 = .ok (.iconst 1, 1) := by decide +kernel
theorem dX5_put_36 : decode cX5_put 36 = .ok (.goto 4, 3) := by decide +kernel
theorem dX5_put_39 : decode cX5_put 39 = .ok (.iconst 0, 1) := by decide +kernel
theorem dX5_put_40 : decode cX5_put 40 = .ok (.iastore, 1) := by decide +kernel
theorem dX5_put_41 : decode cX5_put 41 = .ok (.aload_n 0, 1) := by decide +kernel
theorem dX5_put_42 : decode cX5_put 42 = .ok (.getfield 14, 3) := by decide +kernel
theorem dX5_put_45 : decode cX5_put 45 = .ok (.iload_n 1, 1) := by decide +kernel
theorem dX5_put_46 : decode cX5_put 46 = .ok (.iconst 0, 1) := by decide +kernel
theorem dX5_put_47 : decode cX5_put 47 = .ok (.iastore, 1) := by decide +kernel
theorem dX5_put_48 : decode cX5_put 48 = .ok (.lload 4, 2) := by decide +kernel
theorem dX5_put_50 : decode cX5_put 50 = .ok (.lconst 0, 1) := by decide +kernel
theorem dX5_put_51 : decode cX5_put 51 = .ok (.lcmp, 1) := by decide +kernel
theorem dX5_put_52 : decode cX5_put 52 = .ok (.ifCond .le 46, 3) := by decide +kernel
theorem dX5_put_55 : decode cX5_put 55 = .ok (.aload_n 0, 1) := by decide +kernel
theorem dX5_put_56 : decode cX5_put 56 = .ok (.getfield 8, 3) := by decide +kernel
theorem dX5_put_59 : decode cX5_put 59 = .ok (.sipush 440, 3) := by decide +kernel
theorem dX5_put_62 : decode cX5_put 62 = .ok (.iload_n 1, 1) := by decide +kernel
theorem dX5_put_63 : decode cX5_put 63 = .ok (.imul, 1) := by decide +kernel
theorem dX5_put_64 : decode cX5_put 64 = .ok (.aload_n 0, 1) := by decide +kernel
theorem dX5_put_65 : decode cX5_put 65 = .ok (.getfield 14, 3) := by decide +kernel
theorem dX5_put_68 : decode cX5_put 68 = .ok (.iload_n 1, 1) := by decide +kernel
theorem dX5_put_69 : decode cX5_put 69 = .ok (.iaload, 1) := by decide +kernel
theorem dX5_put_70 : decode cX5_put 70 = .ok (.iadd, 1) := by decide +kernel
theorem dX5_put_71 : decode cX5_put 71 = .ok (.lload 4, 2) := by decide +kernel
theorem dX5_put_73 : decode cX5_put 73 = .ok (.ldc2_w 31, 3) := by decide +kernel
theorem dX5_put_76 : decode cX5_put 76 = .ok (.land, 1) := by decide +kernel
theorem dX5_put_77 : decode cX5_put 77 = .ok (.lastore, 1) := by decide +kernel
theorem dX5_put_78 : decode cX5_put 78 = .ok (.aload_n 0, 1) := by decide +kernel
theorem dX5_put_79 : decode cX5_put 79 = .ok (.getfield 14, 3) := by decide +kernel
theorem dX5_put_82 : decode cX5_put 82 = .ok (.iload_n 1, 1) := by decide +kernel
theorem dX5_put_83 : decode cX5_put 83 = .ok (.dup2, 1) := by decide +kernel
theorem dX5_put_84 : decode cX5_put 84 = .ok (.iaload, 1) := by decide +kernel
theorem dX5_put_85 : decode cX5_put 85 = .ok (.iconst 1, 1) := by decide +kernel
theorem dX5_put_86 : decode cX5_put 86 = .ok (.iadd, 1) := by decide +kernel
theorem dX5_put_87 : decode cX5_put 87 = .ok (.iastore, 1) := by decide +kernel
theorem dX5_put_88 : decode cX5_put 88 = .ok (.lload 4, 2) := by decide +kernel
theorem dX5_put_90 : decode cX5_put 90 = .ok (.bipush 28, 2) := by decide +kernel
theorem dX5_put_92 : decode cX5_put 92 = .ok (.lshr, 1) := by decide +kernel
theorem dX5_put_93 : decode cX5_put 93 = .ok (.lstore 4, 2) := by decide +kernel
theorem dX5_put_95 : decode cX5_put 95 = .ok (.goto (-47), 3) := by decide +kernel
theorem dX5_put_98 : decode cX5_put 98 = .ok (.return_, 1) := by decide +kernel
theorem dX5_copy_0 : decode cX5_copy 0 = .ok (.iconst 0, 1) := by decide +kernel
theorem dX5_copy_1 : decode cX5_copy 1 = .ok (.istore_n 3, 1) := by decide +kernel
theorem dX5_copy_2 : decode cX5_copy 2 = .ok (.iload_n 3, 1) := by decide +kernel
theorem dX5_copy_3 : decode cX5_copy 3 = .ok (.aload_n 0, 1) := by decide +kernel
theorem dX5_copy_4 : decode cX5_copy 4 = .ok (.getfield 14, 3) := by decide +kernel
theorem dX5_copy_7 : decode cX5_copy 7 = .ok (.iload_n 1, 1) := by decide +kernel
theorem dX5_copy_8 : decode cX5_copy 8 = .ok (.iaload, 1) := by decide +kernel
theorem dX5_copy_9 : decode cX5_copy 9 = .ok (.if_icmp .ge 33, 3) := by decide +kernel
theorem dX5_copy_12 : decode cX5_copy 12 = .ok (.aload_n 0, 1) := by decide +kernel
theorem dX5_copy_13 : decode cX5_copy 13 = .ok (.getfield 8, 3) := by decide +kernel
theorem dX5_copy_16 : decode cX5_copy 16 = .ok (.sipush 440, 3) := by decide +kernel
theorem dX5_copy_19 : decode cX5_copy 19 = .ok (.iload_n 2, 1) := by decide +kernel
theorem dX5_copy_20 : decode cX5_copy 20 = .ok (.imul, 1) := by decide +kernel
theorem dX5_copy_21 : decode cX5_copy 21 = .ok (.iload_n 3, 1) := by decide +kernel
theorem dX5_copy_22 : decode cX5_copy 22 = .ok (.iadd, 1) := by decide +kernel
theorem dX5_copy_23 : decode cX5_copy 23 = .ok (.aload_n 0, 1) := by decide +kernel
theorem dX5_copy_24 : decode cX5_copy 24 = .ok (.getfield 8, 3) := by decide +kernel
theorem dX5_copy_27 : decode cX5_copy 27 = .ok (.sipush 440, 3) := by decide +kernel
theorem dX5_copy_30 : decode cX5_copy 30 = .ok (.iload_n 1, 1) := by decide +kernel
theorem dX5_copy_31 : decode cX5_copy 31 = .ok (.imul, 1) := by decide +kernel
theorem dX5_copy_32 : decode cX5_copy 32 = .ok (.iload_n 3, 1) := by decide +kernel
theorem dX5_copy_33 : decode cX5_copy 33 = .ok (.iadd, 1) := by decide +kernel
theorem dX5_copy_34 : decode cX5_copy 34 = .ok (.laload, 1) := by decide +kernel
theorem dX5_copy_35 : decode cX5_copy 35 = .ok (.lastore, 1) := by decide +kernel
theorem dX5_copy_36 : decode cX5_copy 36 = .ok (.iinc 3 1, 3) := by decide +kernel
theorem dX5_copy_39 : decode cX5_copy 39 = .ok (.goto (-37), 3) := by decide +kernel
theorem dX5_copy_42 : decode cX5_copy 42 = .ok (.aload_n 0, 1) := by decide +kernel
theorem dX5_copy_43 : decode cX5_copy 43 = .ok (.getfield 14, 3) := by decide +kernel
theorem dX5_copy_46 : decode cX5_copy 46 = .ok (.iload_n 2, 1) := by decide +kernel
theorem dX5_copy_47 : decode cX5_copy 47 = .ok (.aload_n 0, 1) := by decide +kernel
theorem dX5_copy_48 : decode cX5_copy 48 = .ok (.getfield 14, 3) := by decide +kernel
theorem dX5_copy_51 : decode cX5_copy 51 = .ok (.iload_n 1, 1) := by decide +kernel
theorem dX5_copy_52 : decode cX5_copy 52 = .ok (.iaload, 1) := by decide +kernel
theorem dX5_copy_53 : decode cX5_copy 53 = .ok (.iastore, 1) := by decide +kernel
theorem dX5_copy_54 : decode cX5_copy 54 = .ok (.aload_n 0, 1) := by decide +kernel
theorem dX5_copy_55 : decode cX5_copy 55 = .ok (.getfield 18, 3) := by decide +kernel
theorem dX5_copy_58 : decode cX5_copy 58 = .ok (.iload_n 2, 1) := by decide +kernel
theorem dX5_copy_59 : decode cX5_copy 59 = .ok (.aload_n 0, 1) := by decide +kernel
theorem dX5_copy_60 : decode cX5_copy 60 = .ok (.getfield 18, 3) := by decide +kernel
theorem dX5_copy_63 : decode cX5_copy 63 = .ok (.iload_n 1, 1) := by decide +kernel
theorem dX5_copy_64 : decode cX5_copy 64 = .ok (.iaload, 1) := by decide +kernel
theorem dX5_copy_65 : decode cX5_copy 65 = .ok (.iastore, 1) := by decide +kernel
theorem dX5_copy_66 : decode cX5_copy 66 = .ok (.return_, 1) := by decide +kernel
theorem dX5_trim_0 : decode cX5_trim 0 = .ok (.aload_n 0, 1) := by decide +kernel
theorem dX5_trim_1 : decode cX5_trim 1 = .ok (.getfield 14, 3) := by decide +kernel
theorem dX5_trim_4 : decode cX5_trim 4 = .ok (.iload_n 1, 1) := by decide +kernel
theorem dX5_trim_5 : decode cX5_trim 5 = .ok (.iaload, 1) := by decide +kernel
theorem dX5_trim_6 : decode cX5_trim 6 = .ok (.ifCond .le 40, 3) := by decide +kernel
theorem dX5_trim_9 : decode cX5_trim 9 = .ok (.aload_n 0, 1) := by decide +kernel
theorem dX5_trim_10 : decode cX5_trim 10 = .ok (.getfield 8, 3) := by decide +kernel
theorem dX5_trim_13 : decode cX5_trim 13 = .ok (.sipush 440, 3) := by decide +kernel
theorem dX5_trim_16 : decode cX5_trim 16 = .ok (.iload_n 1, 1) := by decide +kernel
theorem dX5_trim_17 : decode cX5_trim 17 = .ok (.imul, 1) := by decide +kernel
theorem dX5_trim_18 : decode cX5_trim 18 = .ok (.aload_n 0, 1) := by decide +kernel
theorem dX5_trim_19 : decode cX5_trim 19 = .ok (.getfield 14, 3) := by decide +kernel
theorem dX5_trim_22 : decode cX5_trim 22 = .ok (.iload_n 1, 1) := by decide +kernel
theorem dX5_trim_23 : decode cX5_trim 23 = .ok (.iaload, 1) := by decide +kernel
theorem dX5_trim_24 : decode cX5_trim 24 = .ok (.iadd, 1) := by decide +kernel
theorem dX5_trim_25 : decode cX5_trim 25 = .ok (.iconst 1, 1) := by decide +kernel
theorem dX5_trim_26 : decode cX5_trim 26 = .ok (.isub, 1) := by decide +kernel
theorem dX5_trim_27 : decode cX5_trim 27 = .ok (.laload, 1) := by decide +kernel
theorem dX5_trim_28 : decode cX5_trim 28 = .ok (.lconst 0, 1) := by decide +kernel
theorem dX5_trim_29 : decode cX5_trim 29 = .ok (.lcmp, 1) := by decide +kernel
theorem dX5_trim_30 : decode cX5_trim 30 = .ok (.ifCond .ne 16, 3) := by decide +kernel
theorem dX5_trim_33 : decode cX5_trim 33 = .ok (.aload_n 0, 1) := by decide +kernel
theorem dX5_trim_34 : decode cX5_trim 34 = .ok (.getfield 14, 3) := by decide +kernel
theorem dX5_trim_37 : decode cX5_trim 37 = .ok (.iload_n 1, 1) := by decide +kernel
theorem dX5_trim_38 : decode cX5_trim 38 = .ok (.dup2, 1) := by decide +kernel
theorem dX5_trim_39 : decode cX5_trim 39 = .ok (.iaload, 1) := by decide +kernel
theorem dX5_trim_40 : decode cX5_trim 40 = .ok (.iconst 1, 1) := by decide +kernel
theorem dX5_trim_41 : decode cX5_trim 41 = .ok (.isub, 1) := by decide +kernel
theorem dX5_trim_42 : decode cX5_trim 42 = .ok (.iastore, 1) := by decide +kernel
theorem dX5_trim_43 : decode cX5_trim 43 = .ok (.goto (-43), 3) := by decide +kernel
theorem dX5_trim_46 : decode cX5_trim 46 = .ok (.aload_n 0, 1) := by decide +kernel
theorem dX5_trim_47 : decode cX5_trim 47 = .ok (.getfield 18, 3) := by decide +kernel
theorem dX5_trim_50 : decode cX5_trim 50 = .ok (.iload_n 1, 1) := by decide +kernel
theorem dX5_trim_51 : decode cX5_trim 51 = .ok (.aload_n 0, 1) := by decide +kernel
theorem dX5_trim_52 : decode cX5_trim 52 = .ok (.getfield 14, 3) := by decide +kernel
theorem dX5_trim_55 : decode cX5_trim 55 = .ok (.iload_n 1, 1) := by decide +kernel
theorem dX5_trim_56 : decode cX5_trim 56 = .ok (.iaload, 1) := by decide +kernel
theorem dX5_trim_57 : decode cX5_trim 57 = .ok (.ifCond .ne 7, 3) := by decide +kernel
theorem dX5_trim_60 : decode cX5_trim 60 = .ok (.iconst 0, 1) := by decide +kernel
theorem dX5_trim_61 : decode cX5_trim 61 = .ok (.goto 9, 3) := by decide +kernel
theorem dX5_trim_64 : decode cX5_trim 64 = .ok (.aload_n 0, 1) := by decide +kernel
theorem dX5_trim_65 : decode cX5_trim 65 = .ok (.getfield 18, 3) := by decide +kernel
theorem dX5_trim_68 : decode cX5_trim 68 = .ok (.iload_n 1, 1) := by decide +kernel
theorem dX5_trim_69 : decode cX5_trim 69 = .ok (.iaload, 1) := by decide +kernel
theorem dX5_trim_70 : decode cX5_trim 70 = .ok (.iastore, 1) := by decide +kernel
theorem dX5_trim_71 : decode cX5_trim 71 = .ok (.return_, 1) := by decide +kernel
theorem dX5_compareSizes_0 : decode cX5_compareSizes 0 = .ok (.aload_n 0, 1) := by decide +kernel
theorem dX5_compareSizes_1 : decode cX5_compareSizes 1 = .ok (.getfield 14, 3) := by decide +kernel
theorem dX5_compareSizes_4 : decode cX5_compareSizes 4 = .ok (.iload_n 1, 1) := by decide +kernel
theorem dX5_compareSizes_5 : decode cX5_compareSizes 5 = .ok (.iaload, 1) := by decide +kernel
theorem dX5_compareSizes_6 : decode cX5_compareSizes 6 = .ok (.aload_n 0, 1) := by decide +kernel
theorem dX5_compareSizes_7 : decode cX5_compareSizes 7 = .ok (.getfield 14, 3) := by decide +kernel
theorem dX5_compareSizes_10 : decode cX5_compareSizes 10 = .ok (.iload_n 2, 1) := by decide +kernel
theorem dX5_compareSizes_11 : decode cX5_compareSizes 11 = .ok (.iaload, 1) := by decide +kernel
theorem dX5_compareSizes_12 : decode cX5_compareSizes 12 = .ok (.if_icmp .eq 24, 3) := by decide +kernel
theorem dX5_compareSizes_15 : decode cX5_compareSizes 15 = .ok (.aload_n 0, 1) := by decide +kernel
theorem dX5_compareSizes_16 : decode cX5_compareSizes 16 = .ok (.getfield 14, 3) := by decide +kernel
theorem dX5_compareSizes_19 : decode cX5_compareSizes 19 = .ok (.iload_n 1, 1) := by decide +kernel
theorem dX5_compareSizes_20 : decode cX5_compareSizes 20 = .ok (.iaload, 1) := by decide +kernel
theorem dX5_compareSizes_21 : decode cX5_compareSizes 21 = .ok (.aload_n 0, 1) := by decide +kernel
theorem dX5_compareSizes_22 : decode cX5_compareSizes 22 = .ok (.getfield 14, 3) := by decide +kernel
theorem dX5_compareSizes_25 : decode cX5_compareSizes 25 = .ok (.iload_n 2, 1) := by decide +kernel
theorem dX5_compareSizes_26 : decode cX5_compareSizes 26 = .ok (.iaload, 1) := by decide +kernel
theorem dX5_compareSizes_27 : decode cX5_compareSizes 27 = .ok (.if_icmp .ge 7, 3) := by decide +kernel
theorem dX5_compareSizes_30 : decode cX5_compareSizes 30 = .ok (.iconst (-1), 1) := by decide +kernel
theorem dX5_compareSizes_31 : decode cX5_compareSizes 31 = .ok (.goto 4, 3) := by decide +kernel
theorem dX5_compareSizes_34 : decode cX5_compareSizes 34 = .ok (.iconst 1, 1) := by decide +kernel
theorem dX5_compareSizes_35 : decode cX5_compareSizes 35 = .ok (.ireturn, 1) := by decide +kernel
theorem dX5_compareSizes_36 : decode cX5_compareSizes 36 = .ok (.aload_n 0, 1) := by decide +kernel
theorem dX5_compareSizes_37 : decode cX5_compareSizes 37 = .ok (.getfield 14, 3) := by decide +kernel
theorem dX5_compareSizes_40 : decode cX5_compareSizes 40 = .ok (.iload_n 1, 1) := by decide +kernel
theorem dX5_compareSizes_41 : decode cX5_compareSizes 41 = .ok (.iaload, 1) := by decide +kernel
theorem dX5_compareSizes_42 : decode cX5_compareSizes 42 = .ok (.iconst 1, 1) := by decide +kernel
theorem dX5_compareSizes_43 : decode cX5_compareSizes 43 = .ok (.isub, 1) := by decide +kernel
theorem dX5_compareSizes_44 : decode cX5_compareSizes 44 = .ok (.istore_n 3, 1) := by decide +kernel
theorem dX5_compareSizes_45 : decode cX5_compareSizes 45 = .ok (.iload_n 3, 1) := by decide +kernel
theorem dX5_compareSizes_46 : decode cX5_compareSizes 46 = .ok (.ifCond .lt 71, 3) := by decide +kernel
theorem dX5_compareSizes_49 : decode cX5_compareSizes 49 = .ok (.aload_n 0, 1) := by decide +kernel
theorem dX5_compareSizes_50 : decode cX5_compareSizes 50 = .ok (.getfield 8, 3) := by decide +kernel
theorem dX5_compareSizes_53 : decode cX5_compareSizes 53 = .ok (.sipush 440, 3) := by decide +kernel
theorem dX5_compareSizes_56 : decode cX5_compareSizes 56 = .ok (.iload_n 1, 1) := by decide +kernel
theorem dX5_compareSizes_57 : decode cX5_compareSizes 57 = .ok (.imul, 1) := by decide +kernel
theorem dX5_compareSizes_58 : decode cX5_compareSizes 58 = .ok (.iload_n 3, 1) := by decide +kernel
theorem dX5_compareSizes_59 : decode cX5_compareSizes 59 = .ok (.iadd, 1) := by decide +kernel
theorem dX5_compareSizes_60 : decode cX5_compareSizes 60 = .ok (.laload, 1) := by decide +kernel
theorem dX5_compareSizes_61 : decode cX5_compareSizes 61 = .ok (.aload_n 0, 1) := by decide +kernel
theorem dX5_compareSizes_62 : decode cX5_compareSizes 62 = .ok (.getfield 8, 3) := by decide +kernel
theorem dX5_compareSizes_65 : decode cX5_compareSizes 65 = .ok (.sipush 440, 3) := by decide +kernel
theorem dX5_compareSizes_68 : decode cX5_compareSizes 68 = .ok (.iload_n 2, 1) := by decide +kernel
theorem dX5_compareSizes_69 : decode cX5_compareSizes 69 = .ok (.imul, 1) := by decide +kernel
theorem dX5_compareSizes_70 : decode cX5_compareSizes 70 = .ok (.iload_n 3, 1) := by decide +kernel
theorem dX5_compareSizes_71 : decode cX5_compareSizes 71 = .ok (.iadd, 1) := by decide +kernel
theorem dX5_compareSizes_72 : decode cX5_compareSizes 72 = .ok (.laload, 1) := by decide +kernel
theorem dX5_compareSizes_73 : decode cX5_compareSizes 73 = .ok (.lcmp, 1) := by decide +kernel
theorem dX5_compareSizes_74 : decode cX5_compareSizes 74 = .ok (.ifCond .eq 37, 3) := by decide +kernel
theorem dX5_compareSizes_77 : decode cX5_compareSizes 77 = .ok (.aload_n 0, 1) := by decide +kernel
theorem dX5_compareSizes_78 : decode cX5_compareSizes 78 = .ok (.getfield 8, 3) := by decide +kernel
theorem dX5_compareSizes_81 : decode cX5_compareSizes 81 = .ok (.sipush 440, 3) := by decide +kernel
theorem dX5_compareSizes_84 : decode cX5_compareSizes 84 = .ok (.iload_n 1, 1) := by decide +kernel
theorem dX5_compareSizes_85 : decode cX5_compareSizes 85 = .ok (.imul, 1) := by decide +kernel
theorem dX5_compareSizes_86 : decode cX5_compareSizes 86 = .ok (.iload_n 3, 1) := by decide +kernel
theorem dX5_compareSizes_87 : decode cX5_compareSizes 87 = .ok (.iadd, 1) := by decide +kernel
theorem dX5_compareSizes_88 : decode cX5_compareSizes 88 = .ok (.laload, 1) := by decide +kernel
theorem dX5_compareSizes_89 : decode cX5_compareSizes 89 = .ok (.aload_n 0, 1) := by decide +kernel
theorem dX5_compareSizes_90 : decode cX5_compareSizes 90 = .ok (.getfield 8, 3) := by decide +kernel
theorem dX5_compareSizes_93 : decode cX5_compareSizes 93 = .ok (.sipush 440, 3) := by decide +kernel
theorem dX5_compareSizes_96 : decode cX5_compareSizes 96 = .ok (.iload_n 2, 1) := by decide +kernel
theorem dX5_compareSizes_97 : decode cX5_compareSizes 97 = .ok (.imul, 1) := by decide +kernel
theorem dX5_compareSizes_98 : decode cX5_compareSizes 98 = .ok (.iload_n 3, 1) := by decide +kernel
theorem dX5_compareSizes_99 : decode cX5_compareSizes 99 = .ok (.iadd, 1) := by decide +kernel
theorem dX5_compareSizes_100 : decode cX5_compareSizes 100 = .ok (.laload, 1) := by decide +kernel
theorem dX5_compareSizes_101 : decode cX5_compareSizes 101 = .ok (.lcmp, 1) := by decide +kernel
theorem dX5_compareSizes_102 : decode cX5_compareSizes 102 = .ok (.ifCond .ge 7, 3) := by decide +kernel
theorem dX5_compareSizes_105 : decode cX5_compareSizes 105 = .ok (.iconst (-1), 1) := by decide +kernel
theorem dX5_compareSizes_106 : decode cX5_compareSizes 106 = .ok (.goto 4, 3) := by decide +kernel
theorem dX5_compareSizes_109 : decode cX5_compareSizes 109 = .ok (.iconst 1, 1) := by decide +kernel
theorem dX5_compareSizes_110 : decode cX5_compareSizes 110 = .ok (.ireturn, 1) := by decide +kernel
theorem dX5_compareSizes_111 : decode cX5_compareSizes 111 = .ok (.iinc 3 (-1), 3) := by decide +kernel
theorem dX5_compareSizes_114 : decode cX5_compareSizes 114 = .ok (.goto (-69), 3) := by decide +kernel
theorem dX5_compareSizes_117 : decode cX5_compareSizes 117 = .ok (.iconst 0, 1) := by decide +kernel
theorem dX5_compareSizes_118 : decode cX5_compareSizes 118 = .ok (.ireturn, 1) := by decide +kernel
theorem dX5_sum_0 : decode cX5_sum 0 = .ok (.iload 4, 2) := by decide +kernel
theorem dX5_sum_2 : decode cX5_sum 2 = .ok (.aload_n 0, 1) := by decide +kernel
theorem dX5_sum_3 : decode cX5_sum 3 = .ok (.getfield 18, 3) := by decide +kernel
theorem dX5_sum_6 : decode cX5_sum 6 = .ok (.iload_n 3, 1) := by decide +kernel
theorem dX5_sum_7 : decode cX5_sum 7 = .ok (.iaload, 1) := by decide +kernel
theorem dX5_sum_8 : decode cX5_sum 8 = .ok (.imul, 1) := by decide +kernel
theorem dX5_sum_9 : decode cX5_sum 9 = .ok (.istore 5, 2) := by decide +kernel
theorem dX5_sum_11 : decode cX5_sum 11 = .ok (.aload_n 0, 1) := by decide +kernel
theorem dX5_sum_12 : decode cX5_sum 12 = .ok (.getfield 18, 3) := by decide +kernel
theorem dX5_sum_15 : decode cX5_sum 15 = .ok (.iload_n 2, 1) := by decide +kernel
theorem dX5_sum_16 : decode cX5_sum 16 = .ok (.iaload, 1) := by decide +kernel
theorem dX5_sum_17 : decode cX5_sum 17 = .ok (.ifCond .eq 8, 3) := by decide +kernel
theorem dX5_sum_20 : decode cX5_sum 20 = .ok (.iload 5, 2) := by decide +kernel
theorem dX5_sum_22 : decode cX5_sum 22 = .ok (.ifCond .ne 57, 3) := by decide +kernel
theorem dX5_sum_25 : decode cX5_sum 25 = .ok (.aload_n 0, 1) := by decide +kernel
theorem dX5_sum_26 : decode cX5_sum 26 = .ok (.getfield 18, 3) := by decide +kernel
theorem dX5_sum_29 : decode cX5_sum 29 = .ok (.iload_n 2, 1) := by decide +kernel
theorem dX5_sum_30 : decode cX5_sum 30 = .ok (.iaload, 1) := by decide +kernel
theorem dX5_sum_31 : decode cX5_sum 31 = .ok (.ifCond .ne 7, 3) := by decide +kernel
theorem dX5_sum_34 : decode cX5_sum 34 = .ok (.iload_n 3, 1) := by decide +kernel
theorem dX5_sum_35 : decode cX5_sum 35 = .ok (.goto 4, 3) := by decide +kernel
theorem dX5_sum_38 : decode cX5_sum 38 = .ok (.iload_n 2, 1) := by decide +kernel
theorem dX5_sum_39 : decode cX5_sum 39 = .ok (.istore 6, 2) := by decide +kernel
theorem dX5_sum_41 : decode cX5_sum 41 = .ok (.aload_n 0, 1) := by decide +kernel
theorem dX5_sum_42 : decode cX5_sum 42 = .ok (.getfield 18, 3) := by decide +kernel
theorem dX5_sum_45 : decode cX5_sum 45 = .ok (.iload_n 2, 1) := by decide +kernel
theorem dX5_sum_46 : decode cX5_sum 46 = .ok (.iaload, 1) := by decide +kernel
theorem dX5_sum_47 : decode cX5_sum 47 = .ok (.ifCond .ne 8, 3) := by decide +kernel
theorem dX5_sum_50 : decode cX5_sum 50 = .ok (.iload 5, 2) := by decide +kernel
theorem dX5_sum_52 : decode cX5_sum 52 = .ok (.goto 9, 3) := by decide +kernel
theorem dX5_sum_55 : decode cX5_sum 55 = .ok (.aload_n 0, 1) := by decide +kernel
theorem dX5_sum_56 : decode cX5_sum 56 = .ok (.getfield 18, 3) := by decide +kernel
theorem dX5_sum_59 : decode cX5_sum 59 = .ok (.iload_n 2, 1) := by decide +kernel
theorem dX5_sum_60 : decode cX5_sum 60 = .ok (.iaload, 1) := by decide +kernel
theorem dX5_sum_61 : decode cX5_sum 61 = .ok (.istore 7, 2) := by decide +kernel
theorem dX5_sum_63 : decode cX5_sum 63 = .ok (.aload_n 0, 1) := by decide +kernel
theorem dX5_sum_64 : decode cX5_sum 64 = .ok (.iload 6, 2) := by decide +kernel
theorem dX5_sum_66 : decode cX5_sum 66 = .ok (.iload_n 1, 1) := by decide +kernel
theorem dX5_sum_67 : decode cX5_sum 67 = .ok (.invokevirtual 33, 3) := by decide +kernel
theorem dX5_sum_70 : decode cX5_sum 70 = .ok (.aload_n 0, 1) := by decide +kernel
theorem dX5_sum_71 : decode cX5_sum 71 = .ok (.getfield 18, 3) := by decide +kernel
theorem dX5_sum_74 : decode cX5_sum 74 = .ok (.iload_n 1, 1) := by decide +kernel
theorem dX5_sum_75 : decode cX5_sum 75 = .ok (.iload 7, 2) := by decide +kernel
theorem dX5_sum_77 : decode cX5_sum 77 = .ok (.iastore, 1) := by decide +kernel
theorem dX5_sum_78 : decode cX5_sum 78 = .ok (.return_, 1) := by decide +kernel
theorem dX5_sum_79 : decode cX5_sum 79 = .ok (.aload_n 0, 1) := by decide +kernel
theorem dX5_sum_80 : decode cX5_sum 80 = .ok (.getfield 18, 3) := by decide +kernel
theorem dX5_sum_83 : decode cX5_sum 83 = .ok (.iload_n 2, 1) := by decide +kernel
theorem dX5_sum_84 : decode cX5_sum 84 = .ok (.iaload, 1) := by decide +kernel
theorem dX5_sum_85 : decode cX5_sum 85 = .ok (.iload 5, 2) := by decide +kernel
theorem dX5_sum_87 : decode cX5_sum 87 = .ok (.if_icmp .ne 207, 3) := by decide +kernel
theorem dX5_sum_90 : decode cX5_sum 90 = .ok (.aload_n 0, 1) := by decide +kernel
theorem dX5_sum_91 : decode cX5_sum 91 = .ok (.getfield 14, 3) := by decide +kernel
theorem dX5_sum_94 : decode cX5_sum 94 = .ok (.iload_n 2, 1) := by decide +kernel
theorem dX5_sum_95 : decode cX5_sum 95 = .ok (.iaload, 1) := by decide +kernel
theorem dX5_sum_96 : decode cX5_sum 96 = .ok (.aload_n 0, 1) := by decide +kernel
theorem dX5_sum_97 : decode cX5_sum 97 = .ok (.getfield 14, 3) := by decide +kernel
theorem dX5_sum_100 : decode cX5_sum 100 = .ok (.iload_n 3, 1) := by decide +kernel
theorem dX5_sum_101 : decode cX5_sum 101 = .ok (.iaload, 1) := by decide +kernel
theorem dX5_sum_102 : decode cX5_sum 102 = .ok (.if_icmp .le 12, 3) := by decide +kernel
theorem dX5_sum_105 : decode cX5_sum 105 = .ok (.aload_n 0, 1) := by decide +kernel
theorem dX5_sum_106 : decode cX5_sum 106 = .ok (.getfield 14, 3) := by decide +kernel
theorem dX5_sum_109 : decode cX5_sum 109 = .ok (.iload_n 2, 1) := by decide +kernel
theorem dX5_sum_110 : decode cX5_sum 110 = .ok (.iaload, 1) := by decide +kernel
theorem dX5_sum_111 : decode cX5_sum 111 = .ok (.goto 9, 3) := by decide +kernel
theorem dX5_sum_114 : decode cX5_sum 114 = .ok (.aload_n 0, 1) := by decide +kernel
theorem dX5_sum_115 : decode cX5_sum 115 = .ok (.getfield 14, 3) := by decide +kernel
theorem dX5_sum_118 : decode cX5_sum 118 = .ok (.iload_n 3, 1) := by decide +kernel
theorem dX5_sum_119 : decode cX5_sum 119 = .ok (.iaload, 1) := by decide +kernel
theorem dX5_sum_120 : decode cX5_sum 120 = .ok (.istore 6, 2) := by decide +kernel
theorem dX5_sum_122 : decode cX5_sum 122 = .ok (.lconst 0, 1) := by decide +kernel
theorem dX5_sum_123 : decode cX5_sum 123 = .ok (.lstore 7, 2) := by decide +kernel
theorem dX5_sum_125 : decode cX5_sum 125 = .ok (.aload_n 0, 1) := by decide +kernel
theorem dX5_sum_126 : decode cX5_sum 126 = .ok (.getfield 14, 3) := by decide +kernel
theorem dX5_sum_129 : decode cX5_sum 129 = .ok (.iload_n 2, 1) := by decide +kernel
theorem dX5_sum_130 : decode cX5_sum 130 = .ok (.iaload, 1) := by decide +kernel
theorem dX5_sum_131 : decode cX5_sum 131 = .ok (.istore 9, 2) := by decide +kernel
theorem dX5_sum_133 : decode cX5_sum 133 = .ok (.aload_n 0, 1) := by decide +kernel
theorem dX5_sum_134 : decode cX5_sum 134 = .ok (.getfield 14, 3) := by decide +kernel
theorem dX5_sum_137 : decode cX5_sum 137 = .ok (.iload_n 3, 1) := by decide +kernel
theorem dX5_sum_138 : decode cX5_sum 138 = .ok (.iaload, 1) := by decide +kernel
theorem dX5_sum_139 : decode cX5_sum 139 = .ok (.istore 10, 2) := by decide +kernel
theorem dX5_sum_141 : decode cX5_sum 141 = .ok (.aload_n 0, 1) := by decide +kernel
theorem dX5_sum_142 : decode cX5_sum 142 = .ok (.getfield 18, 3) := by decide +kernel
theorem dX5_sum_145 : decode cX5_sum 145 = .ok (.iload_n 2, 1) := by decide +kernel
theorem dX5_sum_146 : decode cX5_sum 146 = .ok (.iaload, 1) := by decide +kernel
theorem dX5_sum_147 : decode cX5_sum 147 = .ok (.istore 11, 2) := by decide +kernel
theorem dX5_sum_149 : decode cX5_sum 149 = .ok (.iconst 0, 1) := by decide +kernel
theorem dX5_sum_150 : decode cX5_sum 150 = .ok (.istore 12, 2) := by decide +kernel
theorem dX5_sum_152 : decode cX5_sum 152 = .ok (.iload 12, 2) := by decide +kernel
theorem dX5_sum_154 : decode cX5_sum 154 = .ok (.iload 6, 2) := by decide +kernel
theorem dX5_sum_156 : decode cX5_sum 156 = .ok (.if_icmp .ge 89, 3) := by decide +kernel
theorem dX5_sum_159 : decode cX5_sum 159 = .ok (.lload 7, 2) := by decide +kernel
theorem dX5_sum_161 : decode cX5_sum 161 = .ok (.iload 12, 2) := by decide +kernel
theorem dX5_sum_163 : decode cX5_sum 163 = .ok (.iload 9, 2) := by decide +kernel
theorem dX5_sum_165 : decode cX5_sum 165 = .ok (.if_icmp .ge 19, 3) := by decide +kernel
theorem dX5_sum_168 : decode cX5_sum 168 = .ok (.aload_n 0, 1) := by decide +kernel
theorem dX5_sum_169 : decode cX5_sum 169 = .ok (.getfield 8, 3) := by decide +kernel
theorem dX5_sum_172 : decode cX5_sum 172 = .ok (.sipush 440, 3) := by decide +kernel
theorem dX5_sum_175 : decode cX5_sum 175 = .ok (.iload_n 2, 1) := by decide +kernel
theorem dX5_sum_176 : decode cX5_sum 176 = .ok (.imul, 1) := by decide +kernel
theorem dX5_sum_177 : decode cX5_sum 177 = .ok (.iload 12, 2) := by decide +kernel
theorem dX5_sum_179 : decode cX5_sum 179 = .ok (.iadd, 1) := by decide +kernel
theorem dX5_sum_180 : decode cX5_sum 180 = .ok (.laload, 1) := by decide +kernel
theorem dX5_sum_181 : decode cX5_sum 181 = .ok (.goto 4, 3) := by decide +kernel
theorem dX5_sum_184 : decode cX5_sum 184 = .ok (.lconst 0, 1) := by decide +kernel
theorem dX5_sum_185 : decode cX5_sum 185 = .ok (.iload 12, 2) := by decide +kernel
theorem dX5_sum_187 : decode cX5_sum 187 = .ok (.iload 10, 2) := by decide +kernel
theorem dX5_sum_189 : decode cX5_sum 189 = .ok (.if_icmp .ge 19, 3) := by decide +kernel
theorem dX5_sum_192 : decode cX5_sum 192 = .ok (.aload_n 0, 1) := by decide +kernel
theorem dX5_sum_193 : decode cX5_sum 193 = .ok (.getfield 8, 3) := by decide +kernel
theorem dX5_sum_196 : decode cX5_sum 196 = .ok (.sipush 440, 3) := by decide +kernel
theorem dX5_sum_199 : decode cX5_sum 199 = .ok (.iload_n 3, 1) := by decide +kernel
theorem dX5_sum_200 : decode cX5_sum 200 = .ok (.imul, 1) := by decide +kernel
theorem dX5_sum_201 : decode cX5_sum 201 = .ok (.iload 12, 2) := by decide +kernel
theorem dX5_sum_203 : decode cX5_sum 203 = .ok (.iadd, 1) := by decide +kernel
theorem dX5_sum_204 : decode cX5_sum 204 = .ok (.laload, 1) := by decide +kernel
theorem dX5_sum_205 : decode cX5_sum 205 = .ok (.goto 4, 3) := by decide +kernel
theorem dX5_sum_208 : decode cX5_sum 208 = .ok (.lconst 0, 1) := by decide +kernel
theorem dX5_sum_209 : decode cX5_sum 209 = .ok (.ladd, 1) := by decide +kernel
theorem dX5_sum_210 : decode cX5_sum 210 = .ok (.ladd, 1) := by decide +kernel
theorem dX5_sum_211 : decode cX5_sum 211 = .ok (.lstore 7, 2) := by decide +kernel
theorem dX5_sum_213 : decode cX5_sum 213 = .ok (.aload_n 0, 1) := by decide +kernel
theorem dX5_sum_214 : decode cX5_sum 214 = .ok (.getfield 8, 3) := by decide +kernel
theorem dX5_sum_217 : decode cX5_sum 217 = .ok (.sipush 440, 3) := by decide +kernel
theorem dX5_sum_220 : decode cX5_sum 220 = .ok (.iload_n 1, 1) := by decide +kernel
theorem dX5_sum_221 : decode cX5_sum 221 = .ok (.imul, 1) := by decide +kernel
theorem dX5_sum_222 : decode cX5_sum 222 = .ok (.iload 12, 2) := by decide +kernel
theorem dX5_sum_224 : decode cX5_sum 224 = .ok (.iadd, 1) := by decide +kernel
theorem dX5_sum_225 : decode cX5_sum 225 = .ok (.lload 7, 2) := by decide +kernel
theorem dX5_sum_227 : decode cX5_sum 227 = .ok (.ldc2_w 31, 3) := by decide +kernel
theorem dX5_sum_230 : decode cX5_sum 230 = .ok (.land, 1) := by decide +kernel
theorem dX5_sum_231 : decode cX5_sum 231 = .ok (.lastore, 1) := by decide +kernel
theorem dX5_sum_232 : decode cX5_sum 232 = .ok (.lload 7, 2) := by decide +kernel
theorem dX5_sum_234 : decode cX5_sum 234 = .ok (.bipush 28, 2) := by decide +kernel
theorem dX5_sum_236 : decode cX5_sum 236 = .ok (.lshr, 1) := by decide +kernel
theorem dX5_sum_237 : decode cX5_sum 237 = .ok (.lstore 7, 2) := by decide +kernel
theorem dX5_sum_239 : decode cX5_sum 239 = .ok (.iinc 12 1, 3) := by decide +kernel
theorem dX5_sum_242 : decode cX5_sum 242 = .ok (.goto (-90), 3) := by decide +kernel
theorem dX5_sum_245 : decode cX5_sum 245 = .ok (.aload_n 0, 1) := by decide +kernel
theorem dX5_sum_246 : decode cX5_sum 246 = .ok (.getfield 14, 3) := by decide +kernel
theorem dX5_sum_249 : decode cX5_sum 249 = .ok (.iload_n 1, 1) := by decide +kernel
theorem dX5_sum_250 : decode cX5_sum 250 = .ok (.iload 6, 2) := by decide +kernel
theorem dX5_sum_252 : decode cX5_sum 252 = .ok (.iastore, 1) := by decide +kernel
theorem dX5_sum_253 : decode cX5_sum 253 = .ok (.lload 7, 2) := by decide +kernel
theorem dX5_sum_255 : decode cX5_sum 255 = .ok (.lconst 0, 1) := by decide +kernel
theorem dX5_sum_256 : decode cX5_sum 256 = .ok (.lcmp, 1) := by decide +kernel
theorem dX5_sum_257 : decode cX5_sum 257 = .ok (.ifCond .le 28, 3) := by decide +kernel
theorem dX5_sum_260 : decode cX5_sum 260 = .ok (.aload_n 0, 1) := by decide +kernel
theorem dX5_sum_261 : decode cX5_sum 261 = .ok (.getfield 8, 3) := by decide +kernel
theorem dX5_sum_264 : decode cX5_sum 264 = .ok (.sipush 440, 3) := by decide +kernel
theorem dX5_sum_267 : decode cX5_sum 267 = .ok (.iload_n 1, 1) := by decide +kernel
theorem dX5_sum_268 : decode cX5_sum 268 = .ok (.imul, 1) := by decide +kernel
theorem dX5_sum_269 : decode cX5_sum 269 = .ok (.iload 6, 2) := by decide +kernel
theorem dX5_sum_271 : decode cX5_sum 271 = .ok (.iadd, 1) := by decide +kernel
theorem dX5_sum_272 : decode cX5_sum 272 = .ok (.lload 7, 2) := by decide +kernel
theorem dX5_sum_274 : decode cX5_sum 274 = .ok (.lastore, 1) := by decide +kernel
theorem dX5_sum_275 : decode cX5_sum 275 = .ok (.aload_n 0, 1) := by decide +kernel
theorem dX5_sum_276 : decode cX5_sum 276 = .ok (.getfield 14, 3) := by decide +kernel
theorem dX5_sum_279 : decode cX5_sum 279 = .ok (.iload_n 1, 1) := by decide +kernel
theorem dX5_sum_280 : decode cX5_sum 280 = .ok (.dup2, 1) := by decide +kernel
theorem dX5_sum_281 : decode cX5_sum 281 = .ok (.iaload, 1) := by decide +kernel
theorem dX5_sum_282 : decode cX5_sum 282 = .ok (.iconst 1, 1) := by decide +kernel
theorem dX5_sum_283 : decode cX5_sum 283 = .ok (.iadd, 1) := by decide +kernel
theorem dX5_sum_284 : decode cX5_sum 284 = .ok (.iastore, 1) := by decide +kernel
theorem dX5_sum_285 : decode cX5_sum 285 = .ok (.aload_n 0, 1) := by decide +kernel
theorem dX5_sum_286 : decode cX5_sum 286 = .ok (.getfield 18, 3) := by decide +kernel
theorem dX5_sum_289 : decode cX5_sum 289 = .ok (.iload_n 1, 1) := by decide +kernel
theorem dX5_sum_290 : decode cX5_sum 290 = .ok (.iload 11, 2) := by decide +kernel
theorem dX5_sum_292 : decode cX5_sum 292 = .ok (.iastore, 1) := by decide +kernel
theorem dX5_sum_293 : decode cX5_sum 293 = .ok (.return_, 1) := by decide +kernel
theorem dX5_sum_294 : decode cX5_sum 294 = .ok (.aload_n 0, 1) := by decide +kernel
theorem dX5_sum_295 : decode cX5_sum 295 = .ok (.iload_n 2, 1) := by decide +kernel
theorem dX5_sum_296 : decode cX5_sum 296 = .ok (.iload_n 3, 1) := by decide +kernel
theorem dX5_sum_297 : decode cX5_sum 297 = .ok (.invokevirtual 37, 3) := by decide +kernel
theorem dX5_sum_300 : decode cX5_sum 300 = .ok (.istore 6, 2) := by decide +kernel
theorem dX5_sum_302 : decode cX5_sum 302 = .ok (.iload 6, 2) := by decide +kernel
theorem dX5_sum_304 : decode cX5_sum 304 = .ok (.ifCond .lt 7, 3) := by decide +kernel
theorem dX5_sum_307 : decode cX5_sum 307 = .ok (.iload_n 2, 1) := by decide +kernel
theorem dX5_sum_308 : decode cX5_sum 308 = .ok (.goto 4, 3) := by decide +kernel
theorem dX5_sum_311 : decode cX5_sum 311 = .ok (.iload_n 3, 1) := by decide +kernel
theorem dX5_sum_312 : decode cX5_sum 312 = .ok (.istore 7, 2) := by decide +kernel
theorem dX5_sum_314 : decode cX5_sum 314 = .ok (.iload 6, 2) := by decide +kernel
theorem dX5_sum_316 : decode cX5_sum 316 = .ok (.ifCond .lt 7, 3) := by decide +kernel
theorem dX5_sum_319 : decode cX5_sum 319 = .ok (.iload_n 3, 1) := by decide +kernel
theorem dX5_sum_320 : decode cX5_sum 320 = .ok (.goto 4, 3) := by decide +kernel
theorem dX5_sum_323 : decode cX5_sum 323 = .ok (.iload_n 2, 1) := by decide +kernel
theorem dX5_sum_324 : decode cX5_sum 324 = .ok (.istore 8, 2) := by decide +kernel
theorem dX5_sum_326 : decode cX5_sum 326 = .ok (.iload 6, 2) := by decide +kernel
theorem dX5_sum_328 : decode cX5_sum 328 = .ok (.ifCond .lt 12, 3) := by decide +kernel
theorem dX5_sum_331 : decode cX5_sum 331 = .ok (.aload_n 0, 1) := by decide +kernel
theorem dX5_sum_332 : decode cX5_sum 332 = .ok (.getfield 18, 3) := by decide +kernel
theorem dX5_sum_335 : decode cX5_sum 335 = .ok (.iload_n 2, 1) := by decide +kernel
theorem dX5_sum_336 : decode cX5_sum 336 = .ok (.iaload, 1) := by decide +kernel
theorem dX5_sum_337 : decode cX5_sum 337 = .ok (.goto 5, 3) := by decide +kernel
theorem dX5_sum_340 : decode cX5_sum 340 = .ok (.iload 5, 2) := by decide +kernel
theorem dX5_sum_342 : decode cX5_sum 342 = .ok (.istore 9, 2) := by decide +kernel
theorem dX5_sum_344 : decode cX5_sum 344 = .ok (.aload_n 0, 1) := by decide +kernel
theorem dX5_sum_345 : decode cX5_sum 345 = .ok (.getfield 14, 3) := by decide +kernel
theorem dX5_sum_348 : decode cX5_sum 348 = .ok (.iload 7, 2) := by decide +kernel
theorem dX5_sum_350 : decode cX5_sum 350 = .ok (.iaload, 1) := by decide +kernel
theorem dX5_sum_351 : decode cX5_sum 351 = .ok (.istore 10, 2) := by decide +kernel
theorem dX5_sum_353 : decode cX5_sum 353 = .ok (.aload_n 0, 1) := by decide +kernel
theorem dX5_sum_354 : decode cX5_sum 354 = .ok (.getfield 14, 3) := by decide +kernel
theorem dX5_sum_357 : decode cX5_sum 357 = .ok (.iload 8, 2) := by decide +kernel
theorem dX5_sum_359 : decode cX5_sum 359 = .ok (.iaload, 1) := by decide +kernel
theorem dX5_sum_360 : decode cX5_sum 360 = .ok (.istore 11, 2) := by decide +kernel
theorem dX5_sum_362 : decode cX5_sum 362 = .ok (.lconst 0, 1) := by decide +kernel
theorem dX5_sum_363 : decode cX5_sum 363 = .ok (.lstore 12, 2) := by decide +kernel
theorem dX5_sum_365 : decode cX5_sum 365 = .ok (.iconst 0, 1) := by decide +kernel
theorem dX5_sum_366 : decode cX5_sum 366 = .ok (.istore 14, 2) := by decide +kernel
theorem dX5_sum_368 : decode cX5_sum 368 = .ok (.iload 14, 2) := by decide +kernel
theorem dX5_sum_370 : decode cX5_sum 370 = .ok (.iload 10, 2) := by decide +kernel
theorem dX5_sum_372 : decode cX5_sum 372 = .ok (.if_icmp .ge 87, 3) := by decide +kernel
theorem dX5_sum_375 : decode cX5_sum 375 = .ok (.aload_n 0, 1) := by decide +kernel
theorem dX5_sum_376 : decode cX5_sum 376 = .ok (.getfield 8, 3) := by decide +kernel
theorem dX5_sum_379 : decode cX5_sum 379 = .ok (.sipush 440, 3) := by decide +kernel
theorem dX5_sum_382 : decode cX5_sum 382 = .ok (.iload 7, 2) := by decide +kernel
theorem dX5_sum_384 : decode cX5_sum 384 = .ok (.imul, 1) := by decide +kernel
theorem dX5_sum_385 : decode cX5_sum 385 = .ok (.iload 14, 2) := by decide +kernel
theorem dX5_sum_387 : decode cX5_sum 387 = .ok (.iadd, 1) := by decide +kernel
theorem dX5_sum_388 : decode cX5_sum 388 = .ok (.laload, 1) := by decide +kernel
theorem dX5_sum_389 : decode cX5_sum 389 = .ok (.iload 14, 2) := by decide +kernel
theorem dX5_sum_391 : decode cX5_sum 391 = .ok (.iload 11, 2) := by decide +kernel
theorem dX5_sum_393 : decode cX5_sum 393 = .ok (.if_icmp .ge 20, 3) := by decide +kernel
theorem dX5_sum_396 : decode cX5_sum 396 = .ok (.aload_n 0, 1) := by decide +kernel
theorem dX5_sum_397 : decode cX5_sum 397 = .ok (.getfield 8, 3) := by decide +kernel
theorem dX5_sum_400 : decode cX5_sum 400 = .ok (.sipush 440, 3) := by decide +kernel
theorem dX5_sum_403 : decode cX5_sum 403 = .ok (.iload 8, 2) := by decide +kernel
theorem dX5_sum_405 : decode cX5_sum 405 = .ok (.imul, 1) := by decide +kernel
theorem dX5_sum_406 : decode cX5_sum 406 = .ok (.iload 14, 2) := by decide +kernel
theorem dX5_sum_408 : decode cX5_sum 408 = .ok (.iadd, 1) := by decide +kernel
theorem dX5_sum_409 : decode cX5_sum 409 = .ok (.laload, 1) := by decide +kernel
theorem dX5_sum_410 : decode cX5_sum 410 = .ok (.goto 4, 3) := by decide +kernel
theorem dX5_sum_413 : decode cX5_sum 413 = .ok (.lconst 0, 1) := by decide +kernel
theorem dX5_sum_414 : decode cX5_sum 414 = .ok (.lsub, 1) := by decide +kernel
theorem dX5_sum_415 : decode cX5_sum 415 = .ok (.lload 12, 2) := by decide +kernel
theorem dX5_sum_417 : decode cX5_sum 417 = .ok (.lsub, 1) := by decide +kernel
theorem dX5_sum_418 : decode cX5_sum 418 = .ok (.lstore 15, 2) := by decide +kernel
theorem dX5_sum_420 : decode cX5_sum 420 = .ok (.lload 15, 2) := by decide +kernel
theorem dX5_sum_422 : decode cX5_sum 422 = .ok (.lconst 0, 1) := by decide +kernel
theorem dX5_sum_423 : decode cX5_sum 423 = .ok (.lcmp, 1) := by decide +kernel
theorem dX5_sum_424 : decode cX5_sum 424 = .ok (.ifCond .ge 7, 3) := by decide +kernel
theorem dX5_sum_427 : decode cX5_sum 427 = .ok (.lconst 1, 1) := by decide +kernel
theorem dX5_sum_428 : decode cX5_sum 428 = .ok (.goto 4, 3) := by decide +kernel
theorem dX5_sum_431 : decode cX5_sum 431 = .ok (.lconst 0, 1) := by decide +kernel
theorem dX5_sum_432 : decode cX5_sum 432 = .ok (.lstore 12, 2) := by decide +kernel
theorem dX5_sum_434 : decode cX5_sum 434 = .ok (.aload_n 0, 1) := by decide +kernel
theorem dX5_sum_435 : decode cX5_sum 435 = .ok (.getfield 8, 3) := by decide +kernel
theorem dX5_sum_438 : decode cX5_sum 438 = .ok (.sipush 440, 3) := by decide +kernel
theorem dX5_sum_441 : decode cX5_sum 441 = .ok (.iload_n 1, 1) := by decide +kernel
theorem dX5_sum_442 : decode cX5_sum 442 = .ok (.imul, 1) := by decide +kernel
theorem dX5_sum_443 : decode cX5_sum 443 = .ok (.iload 14, 2) := by decide +kernel
theorem dX5_sum_445 : decode cX5_sum 445 = .ok (.iadd, 1) := by decide +kernel
theorem dX5_sum_446 : decode cX5_sum 446 = .ok (.lload 15, 2) := by decide +kernel
theorem dX5_sum_448 : decode cX5_sum 448 = .ok (.ldc2_w 31, 3) := by decide +kernel
theorem dX5_sum_451 : decode cX5_sum 451 = .ok (.land, 1) := by decide +kernel
theorem dX5_sum_452 : decode cX5_sum 452 = .ok (.lastore, 1) := by decide +kernel
theorem dX5_sum_453 : decode cX5_sum 453 = .ok (.iinc 14 1, 3) := by decide +kernel
theorem dX5_sum_456 : decode cX5_sum 456 = .ok (.goto (-88), 3) := by decide +kernel
theorem dX5_sum_459 : decode cX5_sum 459 = .ok (.aload_n 0, 1) := by decide +kernel
theorem dX5_sum_460 : decode cX5_sum 460 = .ok (.getfield 14, 3) := by decide +kernel
theorem dX5_sum_463 : decode cX5_sum 463 = .ok (.iload_n 1, 1) := by decide +kernel
theorem dX5_sum_464 : decode cX5_sum 464 = .ok (.iload 10, 2) := by decide +kernel
theorem dX5_sum_466 : decode cX5_sum 466 = .ok (.iastore, 1) := by decide +kernel
theorem dX5_sum_467 : decode cX5_sum 467 = .ok (.aload_n 0, 1) := by decide +kernel
theorem dX5_sum_468 : decode cX5_sum 468 = .ok (.getfield 18, 3) := by decide +kernel
theorem dX5_sum_471 : decode cX5_sum 471 = .ok (.iload_n 1, 1) := by decide +kernel
theorem dX5_sum_472 : decode cX5_sum 472 = .ok (.iload 9, 2) := by decide +kernel
theorem dX5_sum_474 : decode cX5_sum 474 = .ok (.iastore, 1) := by decide +kernel
theorem dX5_sum_475 : decode cX5_sum 475 = .ok (.aload_n 0, 1) := by decide +kernel
theorem dX5_sum_476 : decode cX5_sum 476 = .ok (.iload_n 1, 1) := by decide +kernel
theorem dX5_sum_477 : decode cX5_sum 477 = .ok (.invokevirtual 41, 3) := by decide +kernel
theorem dX5_sum_480 : decode cX5_sum 480 = .ok (.return_, 1) := by decide +kernel
theorem dX5_times_0 : decode cX5_times 0 = .ok (.aload_n 0, 1) := by decide +kernel
theorem dX5_times_1 : decode cX5_times 1 = .ok (.getfield 14, 3) := by decide +kernel
theorem dX5_times_4 : decode cX5_times 4 = .ok (.iload_n 2, 1) := by decide +kernel
theorem dX5_times_5 : decode cX5_times 5 = .ok (.iaload, 1) := by decide +kernel
theorem dX5_times_6 : decode cX5_times 6 = .ok (.aload_n 0, 1) := by decide +kernel
theorem dX5_times_7 : decode cX5_times 7 = .ok (.getfield 14, 3) := by decide +kernel
theorem dX5_times_10 : decode cX5_times 10 = .ok (.iload_n 3, 1) := by decide +kernel
theorem dX5_times_11 : decode cX5_times 11 = .ok (.iaload, 1) := by decide +kernel
theorem dX5_times_12 : decode cX5_times 12 = .ok (.iadd, 1) := by decide +kernel
theorem dX5_times_13 : decode cX5_times 13 = .ok (.istore 4, 2) := by decide +kernel
theorem dX5_times_15 : decode cX5_times 15 = .ok (.iconst 0, 1) := by decide +kernel
theorem dX5_times_16 : decode cX5_times 16 = .ok (.istore 5, 2) := by decide +kernel
theorem dX5_times_18 : decode cX5_times 18 = .ok (.iload 5, 2) := by decide +kernel
theorem dX5_times_20 : decode cX5_times 20 = .ok (.iload 4, 2) := by decide +kernel
theorem dX5_times_22 : decode cX5_times 22 = .ok (.if_icmp .ge 23, 3) := by decide +kernel
theorem dX5_times_25 : decode cX5_times 25 = .ok (.aload_n 0, 1) := by decide +kernel
theorem dX5_times_26 : decode cX5_times 26 = .ok (.getfield 8, 3) := by decide +kernel
theorem dX5_times_29 : decode cX5_times 29 = .ok (.sipush 440, 3) := by decide +kernel
theorem dX5_times_32 : decode cX5_times 32 = .ok (.iload_n 1, 1) := by decide +kernel
theorem dX5_times_33 : decode cX5_times 33 = .ok (.imul, 1) := by decide +kernel
theorem dX5_times_34 : decode cX5_times 34 = .ok (.iload 5, 2) := by decide +kernel
theorem dX5_times_36 : decode cX5_times 36 = .ok (.iadd, 1) := by decide +kernel
theorem dX5_times_37 : decode cX5_times 37 = .ok (.lconst 0, 1) := by decide +kernel
theorem dX5_times_38 : decode cX5_times 38 = .ok (.lastore, 1) := by decide +kernel
theorem dX5_times_39 : decode cX5_times 39 = .ok (.iinc 5 1, 3) := by decide +kernel
theorem dX5_times_42 : decode cX5_times 42 = .ok (.goto (-24), 3) := by decide +kernel
theorem dX5_times_45 : decode cX5_times 45 = .ok (.iconst 0, 1) := by decide +kernel
theorem dX5_times_46 : decode cX5_times 46 = .ok (.istore 5, 2) := by decide +kernel
theorem dX5_times_48 : decode cX5_times 48 = .ok (.iload 5, 2) := by decide +kernel
theorem dX5_times_50 : decode cX5_times 50 = .ok (.aload_n 0, 1) := by decide +kernel
theorem dX5_times_51 : decode cX5_times 51 = .ok (.getfield 14, 3) := by decide +kernel
theorem dX5_times_54 : decode cX5_times 54 = .ok (.iload_n 2, 1) := by decide +kernel
theorem dX5_times_55 : decode cX5_times 55 = .ok (.iaload, 1) := by decide +kernel
theorem dX5_times_56 : decode cX5_times 56 = .ok (.if_icmp .ge 136, 3) := by decide +kernel
theorem dX5_times_59 : decode cX5_times 59 = .ok (.lconst 0, 1) := by decide +kernel
theorem dX5_times_60 : decode cX5_times 60 = .ok (.lstore 6, 2) := by decide +kernel
theorem dX5_times_62 : decode cX5_times 62 = .ok (.aload_n 0, 1) := by decide +kernel
theorem dX5_times_63 : decode cX5_times 63 = .ok (.getfield 8, 3) := by decide +kernel
theorem dX5_times_66 : decode cX5_times 66 = .ok (.sipush 440, 3) := by decide +kernel
theorem dX5_times_69 : decode cX5_times 69 = .ok (.iload_n 2, 1) := by decide +kernel
theorem dX5_times_70 : decode cX5_times 70 = .ok (.imul, 1) := by decide +kernel
theorem dX5_times_71 : decode cX5_times 71 = .ok (.iload 5, 2) := by decide +kernel
theorem dX5_times_73 : decode cX5_times 73 = .ok (.iadd, 1) := by decide +kernel
theorem dX5_times_74 : decode cX5_times 74 = .ok (.laload, 1) := by decide +kernel
theorem dX5_times_75 : decode cX5_times 75 = .ok (.lstore 8, 2) := by decide +kernel
theorem dX5_times_77 : decode cX5_times 77 = .ok (.iconst 0, 1) := by decide +kernel
theorem dX5_times_78 : decode cX5_times 78 = .ok (.istore 10, 2) := by decide +kernel
theorem dX5_times_80 : decode cX5_times 80 = .ok (.iload 10, 2) := by decide +kernel
theorem dX5_times_82 : decode cX5_times 82 = .ok (.aload_n 0, 1) := by decide +kernel
theorem dX5_times_83 : decode cX5_times 83 = .ok (.getfield 14, 3) := by decide +kernel
theorem dX5_times_86 : decode cX5_times 86 = .ok (.iload_n 3, 1) := by decide +kernel
theorem dX5_times_87 : decode cX5_times 87 = .ok (.iaload, 1) := by decide +kernel
theorem dX5_times_88 : decode cX5_times 88 = .ok (.if_icmp .ge 76, 3) := by decide +kernel
theorem dX5_times_91 : decode cX5_times 91 = .ok (.lload 6, 2) := by decide +kernel
theorem dX5_times_93 : decode cX5_times 93 = .ok (.aload_n 0, 1) := by decide +kernel
theorem dX5_times_94 : decode cX5_times 94 = .ok (.getfield 8, 3) := by decide +kernel
theorem dX5_times_97 : decode cX5_times 97 = .ok (.sipush 440, 3) := by decide +kernel
theorem dX5_times_100 : decode cX5_times 100 = .ok (.iload_n 1, 1) := by decide +kernel
theorem dX5_times_101 : decode cX5_times 101 = .ok (.imul, 1) := by decide +kernel
theorem dX5_times_102 : decode cX5_times 102 = .ok (.iload 5, 2) := by decide +kernel
theorem dX5_times_104 : decode cX5_times 104 = .ok (.iadd, 1) := by decide +kernel
theorem dX5_times_105 : decode cX5_times 105 = .ok (.iload 10, 2) := by decide +kernel
theorem dX5_times_107 : decode cX5_times 107 = .ok (.iadd, 1) := by decide +kernel
theorem dX5_times_108 : decode cX5_times 108 = .ok (.laload, 1) := by decide +kernel
theorem dX5_times_109 : decode cX5_times 109 = .ok (.lload 8, 2) := by decide +kernel
theorem dX5_times_111 : decode cX5_times 111 = .ok (.aload_n 0, 1) := by decide +kernel
theorem dX5_times_112 : decode cX5_times 112 = .ok (.getfield 8, 3) := by decide +kernel
theorem dX5_times_115 : decode cX5_times 115 = .ok (.sipush 440, 3) := by decide +kernel
theorem dX5_times_118 : decode cX5_times 118 = .ok (.iload_n 3, 1) := by decide +kernel
theorem dX5_times_119 : decode cX5_times 119 = .ok (.imul, 1) := by decide +kernel
theorem dX5_times_120 : decode cX5_times 120 = .ok (.iload 10, 2) := by decide +kernel
theorem dX5_times_122 : decode cX5_times 122 = .ok (.iadd, 1) := by decide +kernel
theorem dX5_times_123 : decode cX5_times 123 = .ok (.laload, 1) := by decide +kernel
theorem dX5_times_124 : decode cX5_times 124 = .ok (.lmul, 1) := by decide +kernel
theorem dX5_times_125 : decode cX5_times 125 = .ok (.ladd, 1) := by decide +kernel
theorem dX5_times_126 : decode cX5_times 126 = .ok (.ladd, 1) := by decide +kernel
theorem dX5_times_127 : decode cX5_times 127 = .ok (.lstore 6, 2) := by decide +kernel
theorem dX5_times_129 : decode cX5_times 129 = .ok (.aload_n 0, 1) := by decide +kernel
theorem dX5_times_130 : decode cX5_times 130 = .ok (.getfield 8, 3) := by decide +kernel
theorem dX5_times_133 : decode cX5_times 133 = .ok (.sipush 440, 3) := by decide +kernel
theorem dX5_times_136 : decode cX5_times 136 = .ok (.iload_n 1, 1) := by decide +kernel
theorem dX5_times_137 : decode cX5_times 137 = .ok (.imul, 1) := by decide +kernel
theorem dX5_times_138 : decode cX5_times 138 = .ok (.iload 5, 2) := by decide +kernel
theorem dX5_times_140 : decode cX5_times 140 = .ok (.iadd, 1) := by decide +kernel
theorem dX5_times_141 : decode cX5_times 141 = .ok (.iload 10, 2) := by decide +kernel
theorem dX5_times_143 : decode cX5_times 143 = .ok (.iadd, 1) := by decide +kernel
theorem dX5_times_144 : decode cX5_times 144 = .ok (.lload 6, 2) := by decide +kernel
theorem dX5_times_146 : decode cX5_times 146 = .ok (.ldc2_w 31, 3) := by decide +kernel
theorem dX5_times_149 : decode cX5_times 149 = .ok (.land, 1) := by decide +kernel
theorem dX5_times_150 : decode cX5_times 150 = .ok (.lastore, 1) := by decide +kernel
theorem dX5_times_151 : decode cX5_times 151 = .ok (.lload 6, 2) := by decide +kernel
theorem dX5_times_153 : decode cX5_times 153 = .ok (.bipush 28, 2) := by decide +kernel
theorem dX5_times_155 : decode cX5_times 155 = .ok (.lshr, 1) := by decide +kernel
theorem dX5_times_156 : decode cX5_times 156 = .ok (.lstore 6, 2) := by decide +kernel
theorem dX5_times_158 : decode cX5_times 158 = .ok (.iinc 10 1, 3) := by decide +kernel
theorem dX5_times_161 : decode cX5_times 161 = .ok (.goto (-81), 3) := by decide +kernel
theorem dX5_times_164 : decode cX5_times 164 = .ok (.aload_n 0, 1) := by decide +kernel
theorem dX5_times_165 : decode cX5_times 165 = .ok (.getfield 8, 3) := by decide +kernel
theorem dX5_times_168 : decode cX5_times 168 = .ok (.sipush 440, 3) := by decide +kernel
theorem dX5_times_171 : decode cX5_times 171 = .ok (.iload_n 1, 1) := by decide +kernel
theorem dX5_times_172 : decode cX5_times 172 = .ok (.imul, 1) := by decide +kernel
theorem dX5_times_173 : decode cX5_times 173 = .ok (.iload 5, 2) := by decide +kernel
theorem dX5_times_175 : decode cX5_times 175 = .ok (.iadd, 1) := by decide +kernel
theorem dX5_times_176 : decode cX5_times 176 = .ok (.aload_n 0, 1) := by decide +kernel
theorem dX5_times_177 : decode cX5_times 177 = .ok (.getfield 14, 3) := by decide +kernel
theorem dX5_times_180 : decode cX5_times 180 = .ok (.iload_n 3, 1) := by decide +kernel
theorem dX5_times_181 : decode cX5_times 181 = .ok (.iaload, 1) := by decide +kernel
theorem dX5_times_182 : decode cX5_times 182 = .ok (.iadd, 1) := by decide +kernel
theorem dX5_times_183 : decode cX5_times 183 = .ok (.lload 6, 2) := by decide +kernel
theorem dX5_times_185 : decode cX5_times 185 = .ok (.lastore, 1) := by decide +kernel
theorem dX5_times_186 : decode cX5_times 186 = .ok (.iinc 5 1, 3) := by decide +kernel
theorem dX5_times_189 : decode cX5_times 189 = .ok (.goto (-141), 3) := by decide +kernel
theorem dX5_times_192 : decode cX5_times 192 = .ok (.aload_n 0, 1) := by decide +kernel
theorem dX5_times_193 : decode cX5_times 193 = .ok (.getfield 14, 3) := by decide +kernel
theorem dX5_times_196 : decode cX5_times 196 = .ok (.iload_n 1, 1) := by decide +kernel
theorem dX5_times_197 : decode cX5_times 197 = .ok (.iload 4, 2) := by decide +kernel
theorem dX5_times_199 : decode cX5_times 199 = .ok (.iastore, 1) := by decide +kernel
theorem dX5_times_200 : decode cX5_times 200 = .ok (.aload_n 0, 1) := by decide +kernel
theorem dX5_times_201 : decode cX5_times 201 = .ok (.getfield 18, 3) := by decide +kernel
theorem dX5_times_204 : decode cX5_times 204 = .ok (.iload_n 1, 1) := by decide +kernel
theorem dX5_times_205 : decode cX5_times 205 = .ok (.aload_n 0, 1) := by decide +kernel
theorem dX5_times_206 : decode cX5_times 206 = .ok (.getfield 18, 3) := by decide +kernel
theorem dX5_times_209 : decode cX5_times 209 = .ok (.iload_n 2, 1) := by decide +kernel
theorem dX5_times_210 : decode cX5_times 210 = .ok (.iaload, 1) := by decide +kernel
theorem dX5_times_211 : decode cX5_times 211 = .ok (.aload_n 0, 1) := by decide +kernel
theorem dX5_times_212 : decode cX5_times 212 = .ok (.getfield 18, 3) := by decide +kernel
theorem dX5_times_215 : decode cX5_times 215 = .ok (.iload_n 3, 1) := by decide +kernel
theorem dX5_times_216 : decode cX5_times 216 = .ok (.iaload, 1) := by decide +kernel
theorem dX5_times_217 : decode cX5_times 217 = .ok (.imul, 1) := by decide +kernel
theorem dX5_times_218 : decode cX5_times 218 = .ok (.iastore, 1) := by decide +kernel
theorem dX5_times_219 : decode cX5_times 219 = .ok (.aload_n 0, 1) := by decide +kernel
theorem dX5_times_220 : decode cX5_times 220 = .ok (.iload_n 1, 1) := by decide +kernel
theorem dX5_times_221 : decode cX5_times 221 = .ok (.invokevirtual 41, 3) := by decide +kernel
theorem dX5_times_224 : decode cX5_times 224 = .ok (.return_, 1) := by decide +kernel
theorem dX5_bitsOf_0 : decode cX5_bitsOf 0 = .ok (.aload_n 0, 1) := by decide +kernel
theorem dX5_bitsOf_1 : decode cX5_bitsOf 1 = .ok (.getfield 14, 3) := by decide +kernel
theorem dX5_bitsOf_4 : decode cX5_bitsOf 4 = .ok (.iload_n 1, 1) := by decide +kernel
theorem dX5_bitsOf_5 : decode cX5_bitsOf 5 = .ok (.iaload, 1) := by decide +kernel
theorem dX5_bitsOf_6 : decode cX5_bitsOf 6 = .ok (.ifCond .ne 5, 3) := by decide +kernel
theorem dX5_bitsOf_9 : decode cX5_bitsOf 9 = .ok (.iconst 0, 1) := by decide +kernel
theorem dX5_bitsOf_10 : decode cX5_bitsOf 10 = .ok (.ireturn, 1) := by decide +kernel
theorem dX5_bitsOf_11 : decode cX5_bitsOf 11 = .ok (.bipush 28, 2) := by decide +kernel
theorem dX5_bitsOf_13 : decode cX5_bitsOf 13 = .ok (.aload_n 0, 1) := by decide +kernel
theorem dX5_bitsOf_14 : decode cX5_bitsOf 14 = .ok (.getfield 14, 3) := by decide +kernel
theorem dX5_bitsOf_17 : decode cX5_bitsOf 17 = .ok (.iload_n 1, 1) := by decide +kernel
theorem dX5_bitsOf_18 : decode cX5_bitsOf 18 = .ok (.iaload, 1) := by decide +kernel
theorem dX5_bitsOf_19 : decode cX5_bitsOf 19 = .ok (.iconst 1, 1) := by decide +kernel
theorem dX5_bitsOf_20 : decode cX5_bitsOf 20 = .ok (.isub, 1) := by decide +kernel
theorem dX5_bitsOf_21 : decode cX5_bitsOf 21 = .ok (.imul, 1) := by decide +kernel
theorem dX5_bitsOf_22 : decode cX5_bitsOf 22 = .ok (.istore_n 2, 1) := by decide +kernel
theorem dX5_bitsOf_23 : decode cX5_bitsOf 23 = .ok (.aload_n 0, 1) := by decide +kernel
theorem dX5_bitsOf_24 : decode cX5_bitsOf 24 = .ok (.getfield 8, 3) := by decide +kernel
theorem dX5_bitsOf_27 : decode cX5_bitsOf 27 = .ok (.sipush 440, 3) := by decide +kernel
theorem dX5_bitsOf_30 : decode cX5_bitsOf 30 = .ok (.iload_n 1, 1) := by decide +kernel
theorem dX5_bitsOf_31 : decode cX5_bitsOf 31 = .ok (.imul, 1) := by decide +kernel
theorem dX5_bitsOf_32 : decode cX5_bitsOf 32 = .ok (.aload_n 0, 1) := by decide +kernel
theorem dX5_bitsOf_33 : decode cX5_bitsOf 33 = .ok (.getfield 14, 3) := by decide +kernel
theorem dX5_bitsOf_36 : decode cX5_bitsOf 36 = .ok (.iload_n 1, 1) := by decide +kernel
theorem dX5_bitsOf_37 : decode cX5_bitsOf 37 = .ok (.iaload, 1) := by decide +kernel
theorem dX5_bitsOf_38 : decode cX5_bitsOf 38 = .ok (.iadd, 1) := by decide +kernel
theorem dX5_bitsOf_39 : decode cX5_bitsOf 39 = .ok (.iconst 1, 1) := by decide +kernel
theorem dX5_bitsOf_40 : decode cX5_bitsOf 40 = .ok (.isub, 1) := by decide +kernel
theorem dX5_bitsOf_41 : decode cX5_bitsOf 41 = .ok (.laload, 1) := by decide +kernel
theorem dX5_bitsOf_42 : decode cX5_bitsOf 42 = .ok (.lstore_n 3, 1) := by decide +kernel
theorem dX5_bitsOf_43 : decode cX5_bitsOf 43 = .ok (.lload_n 3, 1) := by decide +kernel
theorem dX5_bitsOf_44 : decode cX5_bitsOf 44 = .ok (.lconst 0, 1) := by decide +kernel
theorem dX5_bitsOf_45 : decode cX5_bitsOf 45 = .ok (.lcmp, 1) := by decide +kernel
theorem dX5_bitsOf_46 : decode cX5_bitsOf 46 = .ok (.ifCond .le 13, 3) := by decide +kernel
theorem dX5_bitsOf_49 : decode cX5_bitsOf 49 = .ok (.iinc 2 1, 3) := by decide +kernel
theorem dX5_bitsOf_52 : decode cX5_bitsOf 52 = .ok (.lload_n 3, 1) := by decide +kernel
theorem dX5_bitsOf_53 : decode cX5_bitsOf 53 = .ok (.iconst 1, 1) := by decide +kernel
theorem dX5_bitsOf_54 : decode cX5_bitsOf 54 = .ok (.lshr, 1) := by decide +kernel
theorem dX5_bitsOf_55 : decode cX5_bitsOf 55 = .ok (.lstore_n 3, 1) := by decide +kernel
theorem dX5_bitsOf_56 : decode cX5_bitsOf 56 = .ok (.goto (-13), 3) := by decide +kernel
theorem dX5_bitsOf_59 : decode cX5_bitsOf 59 = .ok (.iload_n 2, 1) := by decide +kernel
theorem dX5_bitsOf_60 : decode cX5_bitsOf 60 = .ok (.ireturn, 1) := by decide +kernel
theorem dX5_shiftUp_0 : decode cX5_shiftUp 0 = .ok (.iload_n 2, 1) := by decide +kernel
theorem dX5_shiftUp_1 : decode cX5_shiftUp 1 = .ok (.bipush 28, 2) := by decide +kernel
theorem dX5_shiftUp_3 : decode cX5_shiftUp 3 = .ok (.idiv, 1) := by decide +kernel
theorem dX5_shiftUp_4 : decode cX5_shiftUp 4 = .ok (.istore_n 3, 1) := by decide +kernel
theorem dX5_shiftUp_5 : decode cX5_shiftUp 5 = .ok (.iload_n 2, 1) := by decide +kernel
theorem dX5_shiftUp_6 : decode cX5_shiftUp 6 = .ok (.bipush 28, 2) := by decide +kernel
theorem dX5_shiftUp_8 : decode cX5_shiftUp 8 = .ok (.irem, 1) := by decide +kernel
theorem dX5_shiftUp_9 : decode cX5_shiftUp 9 = .ok (.istore 4, 2) := by decide +kernel
theorem dX5_shiftUp_11 : decode cX5_shiftUp 11 = .ok (.aload_n 0, 1) := by decide +kernel
theorem dX5_shiftUp_12 : decode cX5_shiftUp 12 = .ok (.getfield 14, 3) := by decide +kernel
theorem dX5_shiftUp_15 : decode cX5_shiftUp 15 = .ok (.iload_n 1, 1) := by decide +kernel
theorem dX5_shiftUp_16 : decode cX5_shiftUp 16 = .ok (.iaload, 1) := by decide +kernel
theorem dX5_shiftUp_17 : decode cX5_shiftUp 17 = .ok (.istore 5, 2) := by decide +kernel
theorem dX5_shiftUp_19 : decode cX5_shiftUp 19 = .ok (.aload_n 0, 1) := by decide +kernel
theorem dX5_shiftUp_20 : decode cX5_shiftUp 20 = .ok (.getfield 8, 3) := by decide +kernel
theorem dX5_shiftUp_23 : decode cX5_shiftUp 23 = .ok (.sipush 440, 3) := by decide +kernel
theorem dX5_shiftUp_26 : decode cX5_shiftUp 26 = .ok (.iload_n 1, 1) := by decide +kernel
theorem dX5_shiftUp_27 : decode cX5_shiftUp 27 = .ok (.imul, 1) := by decide +kernel
theorem dX5_shiftUp_28 : decode cX5_shiftUp 28 = .ok (.iload 5, 2) := by decide +kernel
theorem dX5_shiftUp_30 : decode cX5_shiftUp 30 = .ok (.iadd, 1) := by decide +kernel
theorem dX5_shiftUp_31 : decode cX5_shiftUp 31 = .ok (.iload_n 3, 1) := by decide +kernel
theorem dX5_shiftUp_32 : decode cX5_shiftUp 32 = .ok (.iadd, 1) := by decide +kernel
theorem dX5_shiftUp_33 : decode cX5_shiftUp 33 = .ok (.lconst 0, 1) := by decide +kernel
theorem dX5_shiftUp_34 : decode cX5_shiftUp 34 = .ok (.lastore, 1) := by decide +kernel
theorem dX5_shiftUp_35 : decode cX5_shiftUp 35 = .ok (.iload 5, 2) := by decide +kernel
theorem dX5_shiftUp_37 : decode cX5_shiftUp 37 = .ok (.iconst 1, 1) := by decide +kernel
theorem dX5_shiftUp_38 : decode cX5_shiftUp 38 = .ok (.isub, 1) := by decide +kernel
theorem dX5_shiftUp_39 : decode cX5_shiftUp 39 = .ok (.istore 6, 2) := by decide +kernel
theorem dX5_shiftUp_41 : decode cX5_shiftUp 41 = .ok (.iload 6, 2) := by decide +kernel
theorem dX5_shiftUp_43 : decode cX5_shiftUp 43 = .ok (.ifCond .lt 101, 3) := by decide +kernel
theorem dX5_shiftUp_46 : decode cX5_shiftUp 46 = .ok (.aload_n 0, 1) := by decide +kernel
theorem dX5_shiftUp_47 : decode cX5_shiftUp 47 = .ok (.getfield 8, 3) := by decide +kernel
theorem dX5_shiftUp_50 : decode cX5_shiftUp 50 = .ok (.sipush 440, 3) := by decide +kernel
theorem dX5_shiftUp_53 : decode cX5_shiftUp 53 = .ok (.iload_n 1, 1) := by decide +kernel
theorem dX5_shiftUp_54 : decode cX5_shiftUp 54 = .ok (.imul, 1) := by decide +kernel
theorem dX5_shiftUp_55 : decode cX5_shiftUp 55 = .ok (.iload 6, 2) := by decide +kernel
theorem dX5_shiftUp_57 : decode cX5_shiftUp 57 = .ok (.iadd, 1) := by decide +kernel
theorem dX5_shiftUp_58 : decode cX5_shiftUp 58 = .ok (.laload, 1) := by decide +kernel
theorem dX5_shiftUp_59 : decode cX5_shiftUp 59 = .ok (.iload 4, 2) := by decide +kernel
theorem dX5_shiftUp_61 : decode cX5_shiftUp 61 = .ok (.lshl, 1) := by decide +kernel
theorem dX5_shiftUp_62 : decode cX5_shiftUp 62 = .ok (.lstore 7, 2) := by decide +kernel
theorem dX5_shiftUp_64 : decode cX5_shiftUp 64 = .ok (.aload_n 0, 1) := by decide +kernel
theorem dX5_shiftUp_65 : decode cX5_shiftUp 65 = .ok (.getfield 8, 3) := by decide +kernel
theorem dX5_shiftUp_68 : decode cX5_shiftUp 68 = .ok (.sipush 440, 3) := by decide +kernel
theorem dX5_shiftUp_71 : decode cX5_shiftUp 71 = .ok (.iload_n 1, 1) := by decide +kernel
theorem dX5_shiftUp_72 : decode cX5_shiftUp 72 = .ok (.imul, 1) := by decide +kernel
theorem dX5_shiftUp_73 : decode cX5_shiftUp 73 = .ok (.iload 6, 2) := by decide +kernel
theorem dX5_shiftUp_75 : decode cX5_shiftUp 75 = .ok (.iadd, 1) := by decide +kernel
theorem dX5_shiftUp_76 : decode cX5_shiftUp 76 = .ok (.iload_n 3, 1) := by decide +kernel
theorem dX5_shiftUp_77 : decode cX5_shiftUp 77 = .ok (.iadd, 1) := by decide +kernel
theorem dX5_shiftUp_78 : decode cX5_shiftUp 78 = .ok (.iconst 1, 1) := by decide +kernel
theorem dX5_shiftUp_79 : decode cX5_shiftUp 79 = .ok (.iadd, 1) := by decide +kernel
theorem dX5_shiftUp_80 : decode cX5_shiftUp 80 = .ok (.iload 6, 2) := by decide +kernel
theorem dX5_shiftUp_82 : decode cX5_shiftUp 82 = .ok (.iload 5, 2) := by decide +kernel
theorem dX5_shiftUp_84 : decode cX5_shiftUp 84 = .ok (.iconst 1, 1) := by decide +kernel
theorem dX5_shiftUp_85 : decode cX5_shiftUp 85 = .ok (.isub, 1) := by decide +kernel
theorem dX5_shiftUp_86 : decode cX5_shiftUp 86 = .ok (.if_icmp .ne 7, 3) := by decide +kernel
theorem dX5_shiftUp_89 : decode cX5_shiftUp 89 = .ok (.lconst 0, 1) := by decide +kernel
theorem dX5_shiftUp_90 : decode cX5_shiftUp 90 = .ok (.goto 20, 3) := by decide +kernel
theorem dX5_shiftUp_93 : decode cX5_shiftUp 93 = .ok (.aload_n 0, 1) := by decide +kernel
theorem dX5_shiftUp_94 : decode cX5_shiftUp 94 = .ok (.getfield 8, 3) := by decide +kernel
theorem dX5_shiftUp_97 : decode cX5_shiftUp 97 = .ok (.sipush 440, 3) := by decide +kernel
theorem dX5_shiftUp_100 : decode cX5_shiftUp 100 = .ok (.iload_n 1, 1) := by decide +kernel
theorem dX5_shiftUp_101 : decode cX5_shiftUp 101 = .ok (.imul, 1) := by decide +kernel
theorem dX5_shiftUp_102 : decode cX5_shiftUp 102 = .ok (.iload 6, 2) := by decide +kernel
theorem dX5_shiftUp_104 : decode cX5_shiftUp 104 = .ok (.iadd, 1) := by decide +kernel
theorem dX5_shiftUp_105 : decode cX5_shiftUp 105 = .ok (.iload_n 3, 1) := by decide +kernel
theorem dX5_shiftUp_106 : decode cX5_shiftUp 106 = .ok (.iadd, 1) := by decide +kernel
theorem dX5_shiftUp_107 : decode cX5_shiftUp 107 = .ok (.iconst 1, 1) := by decide +kernel
theorem dX5_shiftUp_108 : decode cX5_shiftUp 108 = .ok (.iadd, 1) := by decide +kernel
theorem dX5_shiftUp_109 : decode cX5_shiftUp 109 = .ok (.laload, 1) := by decide +kernel
theorem dX5_shiftUp_110 : decode cX5_shiftUp 110 = .ok (.lload 7, 2) := by decide +kernel
theorem dX5_shiftUp_112 : decode cX5_shiftUp 112 = .ok (.bipush 28, 2) := by decide +kernel
theorem dX5_shiftUp_114 : decode cX5_shiftUp 114 = .ok (.lshr, 1) := by decide +kernel
theorem dX5_shiftUp_115 : decode cX5_shiftUp 115 = .ok (.lor, 1) := by decide +kernel
theorem dX5_shiftUp_116 : decode cX5_shiftUp 116 = .ok (.lastore, 1) := by decide +kernel
theorem dX5_shiftUp_117 : decode cX5_shiftUp 117 = .ok (.aload_n 0, 1) := by decide +kernel
theorem dX5_shiftUp_118 : decode cX5_shiftUp 118 = .ok (.getfield 8, 3) := by decide +kernel
theorem dX5_shiftUp_121 : decode cX5_shiftUp 121 = .ok (.sipush 440, 3) := by decide +kernel
theorem dX5_shiftUp_124 : decode cX5_shiftUp 124 = .ok (.iload_n 1, 1) := by decide +kernel
theorem dX5_shiftUp_125 : decode cX5_shiftUp 125 = .ok (.imul, 1) := by decide +kernel
theorem dX5_shiftUp_126 : decode cX5_shiftUp 126 = .ok (.iload 6, 2) := by decide +kernel
theorem dX5_shiftUp_128 : decode cX5_shiftUp 128 = .ok (.iadd, 1) := by decide +kernel
theorem dX5_shiftUp_129 : decode cX5_shiftUp 129 = .ok (.iload_n 3, 1) := by decide +kernel
theorem dX5_shiftUp_130 : decode cX5_shiftUp 130 = .ok (.iadd, 1) := by decide +kernel
theorem dX5_shiftUp_131 : decode cX5_shiftUp 131 = .ok (.lload 7, 2) := by decide +kernel
theorem dX5_shiftUp_133 : decode cX5_shiftUp 133 = .ok (.ldc2_w 31, 3) := by decide +kernel
theorem dX5_shiftUp_136 : decode cX5_shiftUp 136 = .ok (.land, 1) := by decide +kernel
theorem dX5_shiftUp_137 : decode cX5_shiftUp 137 = .ok (.lastore, 1) := by decide +kernel
theorem dX5_shiftUp_138 : decode cX5_shiftUp 138 = .ok (.iinc 6 (-1), 3) := by decide +kernel
theorem dX5_shiftUp_141 : decode cX5_shiftUp 141 = .ok (.goto (-100), 3) := by decide +kernel
theorem dX5_shiftUp_144 : decode cX5_shiftUp 144 = .ok (.iconst 0, 1) := by decide +kernel
theorem dX5_shiftUp_145 : decode cX5_shiftUp 145 = .ok (.istore 6, 2) := by decide +kernel
theorem dX5_shiftUp_147 : decode cX5_shiftUp 147 = .ok (.iload 6, 2) := by decide +kernel
theorem dX5_shiftUp_149 : decode cX5_shiftUp 149 = .ok (.iload_n 3, 1) := by decide +kernel
theorem dX5_shiftUp_150 : decode cX5_shiftUp 150 = .ok (.if_icmp .ge 23, 3) := by decide +kernel
theorem dX5_shiftUp_153 : decode cX5_shiftUp 153 = .ok (.aload_n 0, 1) := by decide +kernel
theorem dX5_shiftUp_154 : decode cX5_shiftUp 154 = .ok (.getfield 8, 3) := by decide +kernel
theorem dX5_shiftUp_157 : decode cX5_shiftUp 157 = .ok (.sipush 440, 3) := by decide +kernel
theorem dX5_shiftUp_160 : decode cX5_shiftUp 160 = .ok (.iload_n 1, 1) := by decide +kernel
theorem dX5_shiftUp_161 : decode cX5_shiftUp 161 = .ok (.imul, 1) := by decide +kernel
theorem dX5_shiftUp_162 : decode cX5_shiftUp 162 = .ok (.iload 6, 2) := by decide +kernel
theorem dX5_shiftUp_164 : decode cX5_shiftUp 164 = .ok (.iadd, 1) := by decide +kernel
theorem dX5_shiftUp_165 : decode cX5_shiftUp 165 = .ok (.lconst 0, 1) := by decide +kernel
theorem dX5_shiftUp_166 : decode cX5_shiftUp 166 = .ok (.lastore, 1) := by decide +kernel
theorem dX5_shiftUp_167 : decode cX5_shiftUp 167 = .ok (.iinc 6 1, 3) := by decide +kernel
theorem dX5_shiftUp_170 : decode cX5_shiftUp 170 = .ok (.goto (-23), 3) := by decide +kernel
theorem dX5_shiftUp_173 : decode cX5_shiftUp 173 = .ok (.aload_n 0, 1) := by decide +kernel
theorem dX5_shiftUp_174 : decode cX5_shiftUp 174 = .ok (.getfield 14, 3) := by decide +kernel
theorem dX5_shiftUp_177 : decode cX5_shiftUp 177 = .ok (.iload_n 1, 1) := by decide +kernel
theorem dX5_shiftUp_178 : decode cX5_shiftUp 178 = .ok (.iload 5, 2) := by decide +kernel
theorem dX5_shiftUp_180 : decode cX5_shiftUp 180 = .ok (.iload_n 3, 1) := by decide +kernel
theorem dX5_shiftUp_181 : decode cX5_shiftUp 181 = .ok (.iadd, 1) := by decide +kernel
theorem dX5_shiftUp_182 : decode cX5_shiftUp 182 = .ok (.iconst 1, 1) := by decide +kernel
theorem dX5_shiftUp_183 : decode cX5_shiftUp 183 = .ok (.iadd, 1) := by decide +kernel
theorem dX5_shiftUp_184 : decode cX5_shiftUp 184 = .ok (.iastore, 1) := by decide +kernel
theorem dX5_shiftUp_185 : decode cX5_shiftUp 185 = .ok (.aload_n 0, 1) := by decide +kernel
theorem dX5_shiftUp_186 : decode cX5_shiftUp 186 = .ok (.iload_n 1, 1) := by decide +kernel
theorem dX5_shiftUp_187 : decode cX5_shiftUp 187 = .ok (.invokevirtual 41, 3) := by decide +kernel
theorem dX5_shiftUp_190 : decode cX5_shiftUp 190 = .ok (.return_, 1) := by decide +kernel
theorem dX5_halve_0 : decode cX5_halve 0 = .ok (.iconst 0, 1) := by decide +kernel
theorem dX5_halve_1 : decode cX5_halve 1 = .ok (.istore_n 2, 1) := by decide +kernel
theorem dX5_halve_2 : decode cX5_halve 2 = .ok (.iload_n 2, 1) := by decide +kernel
theorem dX5_halve_3 : decode cX5_halve 3 = .ok (.aload_n 0, 1) := by decide +kernel
theorem dX5_halve_4 : decode cX5_halve 4 = .ok (.getfield 14, 3) := by decide +kernel
theorem dX5_halve_7 : decode cX5_halve 7 = .ok (.iload_n 1, 1) := by decide +kernel
theorem dX5_halve_8 : decode cX5_halve 8 = .ok (.iaload, 1) := by decide +kernel
theorem dX5_halve_9 : decode cX5_halve 9 = .ok (.if_icmp .ge 73, 3) := by decide +kernel
theorem dX5_halve_12 : decode cX5_halve 12 = .ok (.iload_n 2, 1) := by decide +kernel
theorem dX5_halve_13 : decode cX5_halve 13 = .ok (.iconst 1, 1) := by decide +kernel
theorem dX5_halve_14 : decode cX5_halve 14 = .ok (.iadd, 1) := by decide +kernel
theorem dX5_halve_15 : decode cX5_halve 15 = .ok (.aload_n 0, 1) := by decide +kernel
theorem dX5_halve_16 : decode cX5_halve 16 = .ok (.getfield 14, 3) := by decide +kernel
theorem dX5_halve_19 : decode cX5_halve 19 = .ok (.iload_n 1, 1) := by decide +kernel
theorem dX5_halve_20 : decode cX5_halve 20 = .ok (.iaload, 1) := by decide +kernel
theorem dX5_halve_21 : decode cX5_halve 21 = .ok (.if_icmp .ge 22, 3) := by decide +kernel
theorem dX5_halve_24 : decode cX5_halve 24 = .ok (.aload_n 0, 1) := by decide +kernel
theorem dX5_halve_25 : decode cX5_halve 25 = .ok (.getfield 8, 3) := by decide +kernel
theorem dX5_halve_28 : decode cX5_halve 28 = .ok (.sipush 440, 3) := by decide +kernel
theorem dX5_halve_31 : decode cX5_halve 31 = .ok (.iload_n 1, 1) := by decide +kernel
theorem dX5_halve_32 : decode cX5_halve 32 = .ok (.imul, 1) := by decide +kernel
theorem dX5_halve_33 : decode cX5_halve 33 = .ok (.iload_n 2, 1) := by decide +kernel
theorem dX5_halve_34 : decode cX5_halve 34 = .ok (.iadd, 1) := by decide +kernel
theorem dX5_halve_35 : decode cX5_halve 35 = .ok (.iconst 1, 1) := by decide +kernel
theorem dX5_halve_36 : decode cX5_halve 36 = .ok (.iadd, 1) := by decide +kernel
theorem dX5_halve_37 : decode cX5_halve 37 = .ok (.laload, 1) := by decide +kernel
theorem dX5_halve_38 : decode cX5_halve 38 = .ok (.lconst 1, 1) := by decide +kernel
theorem dX5_halve_39 : decode cX5_halve 39 = .ok (.land, 1) := by decide +kernel
theorem dX5_halve_40 : decode cX5_halve 40 = .ok (.goto 4, 3) := by decide +kernel
theorem dX5_halve_43 : decode cX5_halve 43 = .ok (.lconst 0, 1) := by decide +kernel
theorem dX5_halve_44 : decode cX5_halve 44 = .ok (.lstore_n 3, 1) := by decide +kernel
theorem dX5_halve_45 : decode cX5_halve 45 = .ok (.aload_n 0, 1) := by decide +kernel
theorem dX5_halve_46 : decode cX5_halve 46 = .ok (.getfield 8, 3) := by decide +kernel
theorem dX5_halve_49 : decode cX5_halve 49 = .ok (.sipush 440, 3) := by decide +kernel
theorem dX5_halve_52 : decode cX5_halve 52 = .ok (.iload_n 1, 1) := by decide +kernel
theorem dX5_halve_53 : decode cX5_halve 53 = .ok (.imul, 1) := by decide +kernel
theorem dX5_halve_54 : decode cX5_halve 54 = .ok (.iload_n 2, 1) := by decide +kernel
theorem dX5_halve_55 : decode cX5_halve 55 = .ok (.iadd, 1) := by decide +kernel
theorem dX5_halve_56 : decode cX5_halve 56 = .ok (.aload_n 0, 1) := by decide +kernel
theorem dX5_halve_57 : decode cX5_halve 57 = .ok (.getfield 8, 3) := by decide +kernel
theorem dX5_halve_60 : decode cX5_halve 60 = .ok (.sipush 440, 3) := by decide +kernel
theorem dX5_halve_63 : decode cX5_halve 63 = .ok (.iload_n 1, 1) := by decide +kernel
theorem dX5_halve_64 : decode cX5_halve 64 = .ok (.imul, 1) := by decide +kernel
theorem dX5_halve_65 : decode cX5_halve 65 = .ok (.iload_n 2, 1) := by decide +kernel
theorem dX5_halve_66 : decode cX5_halve 66 = .ok (.iadd, 1) := by decide +kernel
theorem dX5_halve_67 : decode cX5_halve 67 = .ok (.laload, 1) := by decide +kernel
theorem dX5_halve_68 : decode cX5_halve 68 = .ok (.iconst 1, 1) := by decide +kernel
theorem dX5_halve_69 : decode cX5_halve 69 = .ok (.lshr, 1) := by decide +kernel
theorem dX5_halve_70 : decode cX5_halve 70 = .ok (.lload_n 3, 1) := by decide +kernel
theorem dX5_halve_71 : decode cX5_halve 71 = .ok (.bipush 27, 2) := by decide +kernel
theorem dX5_halve_73 : decode cX5_halve 73 = .ok (.lshl, 1) := by decide +kernel
theorem dX5_halve_74 : decode cX5_halve 74 = .ok (.lor, 1) := by decide +kernel
theorem dX5_halve_75 : decode cX5_halve 75 = .ok (.lastore, 1) := by decide +kernel
theorem dX5_halve_76 : decode cX5_halve 76 = .ok (.iinc 2 1, 3) := by decide +kernel
theorem dX5_halve_79 : decode cX5_halve 79 = .ok (.goto (-77), 3) := by decide +kernel
theorem dX5_halve_82 : decode cX5_halve 82 = .ok (.aload_n 0, 1) := by decide +kernel
theorem dX5_halve_83 : decode cX5_halve 83 = .ok (.iload_n 1, 1) := by decide +kernel
theorem dX5_halve_84 : decode cX5_halve 84 = .ok (.invokevirtual 41, 3) := by decide +kernel
theorem dX5_halve_87 : decode cX5_halve 87 = .ok (.return_, 1) := by decide +kernel
theorem dX5_divide_0 : decode cX5_divide 0 = .ok (.aload_n 0, 1) := by decide +kernel
theorem dX5_divide_1 : decode cX5_divide 1 = .ok (.iload_n 1, 1) := by decide +kernel
theorem dX5_divide_2 : decode cX5_divide 2 = .ok (.invokevirtual 45, 3) := by decide +kernel
theorem dX5_divide_5 : decode cX5_divide 5 = .ok (.aload_n 0, 1) := by decide +kernel
theorem dX5_divide_6 : decode cX5_divide 6 = .ok (.iload_n 2, 1) := by decide +kernel
theorem dX5_divide_7 : decode cX5_divide 7 = .ok (.invokevirtual 45, 3) := by decide +kernel
theorem dX5_divide_10 : decode cX5_divide 10 = .ok (.isub, 1) := by decide +kernel
theorem dX5_divide_11 : decode cX5_divide 11 = .ok (.istore 4, 2) := by decide +kernel
theorem dX5_divide_13 : decode cX5_divide 13 = .ok (.iload_n 3, 1) := by decide +kernel
theorem dX5_divide_14 : decode cX5_divide 14 = .ok (.iconst (-1), 1) := by decide +kernel
theorem dX5_divide_15 : decode cX5_divide 15 = .ok (.if_icmp .eq 70, 3) := by decide +kernel
theorem dX5_divide_18 : decode cX5_divide 18 = .ok (.aload_n 0, 1) := by decide +kernel
theorem dX5_divide_19 : decode cX5_divide 19 = .ok (.iload_n 3, 1) := by decide +kernel
theorem dX5_divide_20 : decode cX5_divide 20 = .ok (.invokevirtual 49, 3) := by decide +kernel
theorem dX5_divide_23 : decode cX5_divide 23 = .ok (.iconst 0, 1) := by decide +kernel
theorem dX5_divide_24 : decode cX5_divide 24 = .ok (.istore 5, 2) := by decide +kernel
theorem dX5_divide_26 : decode cX5_divide 26 = .ok (.iload 5, 2) := by decide +kernel
theorem dX5_divide_28 : decode cX5_divide 28 = .ok (.iload 4, 2) := by decide +kernel
theorem dX5_divide_30 : decode cX5_divide 30 = .ok (.bipush 28, 2) := by decide +kernel
theorem dX5_divide_32 : decode cX5_divide 32 = .ok (.idiv, 1) := by decide +kernel
theorem dX5_divide_33 : decode cX5_divide 33 = .ok (.if_icmp .gt 23, 3) := by decide +kernel
theorem dX5_divide_36 : decode cX5_divide 36 = .ok (.aload_n 0, 1) := by decide +kernel
theorem dX5_divide_37 : decode cX5_divide 37 = .ok (.getfield 8, 3) := by decide +kernel
theorem dX5_divide_40 : decode cX5_divide 40 = .ok (.sipush 440, 3) := by decide +kernel
theorem dX5_divide_43 : decode cX5_divide 43 = .ok (.iload_n 3, 1) := by decide +kernel
theorem dX5_divide_44 : decode cX5_divide 44 = .ok (.imul, 1) := by decide +kernel
theorem dX5_divide_45 : decode cX5_divide 45 = .ok (.iload 5, 2) := by decide +kernel
theorem dX5_divide_47 : decode cX5_divide 47 = .ok (.iadd, 1) := by decide +kernel
theorem dX5_divide_48 : decode cX5_divide 48 = .ok (.lconst 0, 1) := by decide +kernel
theorem dX5_divide_49 : decode cX5_divide 49 = .ok (.lastore, 1) := by decide +kernel
theorem dX5_divide_50 : decode cX5_divide 50 = .ok (.iinc 5 1, 3) := by decide +kernel
theorem dX5_divide_53 : decode cX5_divide 53 = .ok (.goto (-27), 3) := by decide +kernel
theorem dX5_divide_56 : decode cX5_divide 56 = .ok (.aload_n 0, 1) := by decide +kernel
theorem dX5_divide_57 : decode cX5_divide 57 = .ok (.getfield 14, 3) := by decide +kernel
theorem dX5_divide_60 : decode cX5_divide 60 = .ok (.iload_n 3, 1) := by decide +kernel
theorem dX5_divide_61 : decode cX5_divide 61 = .ok (.iload 4, 2) := by decide +kernel
theorem dX5_divide_63 : decode cX5_divide 63 = .ok (.ifCond .ge 7, 3) := by decide +kernel
theorem dX5_divide_66 : decode cX5_divide 66 = .ok (.iconst 0, 1) := by decide +kernel
theorem dX5_divide_67 : decode cX5_divide 67 = .ok (.goto 10, 3) := by decide +kernel
theorem dX5_divide_70 : decode cX5_divide 70 = .ok (.iload 4, 2) := by decide +kernel
theorem dX5_divide_72 : decode cX5_divide 72 = .ok (.bipush 28, 2) := by decide +kernel
theorem dX5_divide_74 : decode cX5_divide 74 = .ok (.idiv, 1) := by decide +kernel
theorem dX5_divide_75 : decode cX5_divide 75 = .ok (.iconst 1, 1) := by decide +kernel
theorem dX5_divide_76 : decode cX5_divide 76 = .ok (.iadd, 1) := by decide +kernel
theorem dX5_divide_77 : decode cX5_divide 77 = .ok (.iastore, 1) := by decide +kernel
theorem dX5_divide_78 : decode cX5_divide 78 = .ok (.aload_n 0, 1) := by decide +kernel
theorem dX5_divide_79 : decode cX5_divide 79 = .ok (.getfield 18, 3) := by decide +kernel
theorem dX5_divide_82 : decode cX5_divide 82 = .ok (.iload_n 3, 1) := by decide +kernel
theorem dX5_divide_83 : decode cX5_divide 83 = .ok (.iconst 1, 1) := by decide +kernel
theorem dX5_divide_84 : decode cX5_divide 84 = .ok (.iastore, 1) := by decide +kernel
theorem dX5_divide_85 : decode cX5_divide 85 = .ok (.iload 4, 2) := by decide +kernel
theorem dX5_divide_87 : decode cX5_divide 87 = .ok (.ifCond .lt 102, 3) := by decide +kernel
theorem dX5_divide_90 : decode cX5_divide 90 = .ok (.sipush 224, 3) := by decide +kernel
theorem dX5_divide_93 : decode cX5_divide 93 = .ok (.istore 5, 2) := by decide +kernel
theorem dX5_divide_95 : decode cX5_divide 95 = .ok (.aload_n 0, 1) := by decide +kernel
theorem dX5_divide_96 : decode cX5_divide 96 = .ok (.iload_n 2, 1) := by decide +kernel
theorem dX5_divide_97 : decode cX5_divide 97 = .ok (.iload 5, 2) := by decide +kernel
theorem dX5_divide_99 : decode cX5_divide 99 = .ok (.invokevirtual 33, 3) := by decide +kernel
theorem dX5_divide_102 : decode cX5_divide 102 = .ok (.aload_n 0, 1) := by decide +kernel
theorem dX5_divide_103 : decode cX5_divide 103 = .ok (.getfield 18, 3) := by decide +kernel
theorem dX5_divide_106 : decode cX5_divide 106 = .ok (.iload 5, 2) := by decide +kernel
theorem dX5_divide_108 : decode cX5_divide 108 = .ok (.iconst 1, 1) := by decide +kernel
theorem dX5_divide_109 : decode cX5_divide 109 = .ok (.iastore, 1) := by decide +kernel
theorem dX5_divide_110 : decode cX5_divide 110 = .ok (.aload_n 0, 1) := by decide +kernel
theorem dX5_divide_111 : decode cX5_divide 111 = .ok (.iload 5, 2) := by decide +kernel
theorem dX5_divide_113 : decode cX5_divide 113 = .ok (.iload 4, 2) := by decide +kernel
theorem dX5_divide_115 : decode cX5_divide 115 = .ok (.invokevirtual 52, 3) := by decide +kernel
theorem dX5_divide_118 : decode cX5_divide 118 = .ok (.iload 4, 2) := by decide +kernel
theorem dX5_divide_120 : decode cX5_divide 120 = .ok (.istore 6, 2) := by decide +kernel
theorem dX5_divide_122 : decode cX5_divide 122 = .ok (.iload 6, 2) := by decide +kernel
theorem dX5_divide_124 : decode cX5_divide 124 = .ok (.ifCond .lt 65, 3) := by decide +kernel
theorem dX5_divide_127 : decode cX5_divide 127 = .ok (.aload_n 0, 1) := by decide +kernel
theorem dX5_divide_128 : decode cX5_divide 128 = .ok (.iload_n 1, 1) := by decide +kernel
theorem dX5_divide_129 : decode cX5_divide 129 = .ok (.iload 5, 2) := by decide +kernel
theorem dX5_divide_131 : decode cX5_divide 131 = .ok (.invokevirtual 37, 3) := by decide +kernel
theorem dX5_divide_134 : decode cX5_divide 134 = .ok (.ifCond .lt 43, 3) := by decide +kernel
theorem dX5_divide_137 : decode cX5_divide 137 = .ok (.aload_n 0, 1) := by decide +kernel
theorem dX5_divide_138 : decode cX5_divide 138 = .ok (.iload_n 1, 1) := by decide +kernel
theorem dX5_divide_139 : decode cX5_divide 139 = .ok (.iload_n 1, 1) := by decide +kernel
theorem dX5_divide_140 : decode cX5_divide 140 = .ok (.iload 5, 2) := by decide +kernel
theorem dX5_divide_142 : decode cX5_divide 142 = .ok (.iconst (-1), 1) := by decide +kernel
theorem dX5_divide_143 : decode cX5_divide 143 = .ok (.invokevirtual 55, 3) := by decide +kernel
theorem dX5_divide_146 : decode cX5_divide 146 = .ok (.iload_n 3, 1) := by decide +kernel
theorem dX5_divide_147 : decode cX5_divide 147 = .ok (.iconst (-1), 1) := by decide +kernel
theorem dX5_divide_148 : decode cX5_divide 148 = .ok (.if_icmp .eq 29, 3) := by decide +kernel
theorem dX5_divide_151 : decode cX5_divide 151 = .ok (.aload_n 0, 1) := by decide +kernel
theorem dX5_divide_152 : decode cX5_divide 152 = .ok (.getfield 8, 3) := by decide +kernel
theorem dX5_divide_155 : decode cX5_divide 155 = .ok (.sipush 440, 3) := by decide +kernel
theorem dX5_divide_158 : decode cX5_divide 158 = .ok (.iload_n 3, 1) := by decide +kernel
theorem dX5_divide_159 : decode cX5_divide 159 = .ok (.imul, 1) := by decide +kernel
theorem dX5_divide_160 : decode cX5_divide 160 = .ok (.iload 6, 2) := by decide +kernel
theorem dX5_divide_162 : decode cX5_divide 162 = .ok (.bipush 28, 2) := by decide +kernel
theorem dX5_divide_164 : decode cX5_divide 164 = .ok (.idiv, 1) := by decide +kernel
theorem dX5_divide_165 : decode cX5_divide 165 = .ok (.iadd, 1) := by decide +kernel
theorem dX5_divide_166 : decode cX5_divide 166 = .ok (.dup2, 1) := by decide +kernel
theorem dX5_divide_167 : decode cX5_divide 167 = .ok (.laload, 1) := by decide +kernel
theorem dX5_divide_168 : decode cX5_divide 168 = .ok (.lconst 1, 1) := by decide +kernel
theorem dX5_divide_169 : decode cX5_divide 169 = .ok (.iload 6, 2) := by decide +kernel
theorem dX5_divide_171 : decode cX5_divide 171 = .ok (.bipush 28, 2) := by decide +kernel
theorem dX5_divide_173 : decode cX5_divide 173 = .ok (.irem, 1) := by decide +kernel
theorem dX5_divide_174 : decode cX5_divide 174 = .ok (.lshl, 1) := by decide +kernel
theorem dX5_divide_175 : decode cX5_divide 175 = .ok (.lor, 1) := by decide +kernel
theorem dX5_divide_176 : decode cX5_divide 176 = .ok (.lastore, 1) := by decide +kernel
theorem dX5_divide_177 : decode cX5_divide 177 = .ok (.aload_n 0, 1) := by decide +kernel
theorem dX5_divide_178 : decode cX5_divide 178 = .ok (.iload 5, 2) := by decide +kernel
theorem dX5_divide_180 : decode cX5_divide 180 = .ok (.invokevirtual 59, 3) := by decide +kernel
theorem dX5_divide_183 : decode cX5_divide 183 = .ok (.iinc 6 (-1), 3) := by decide +kernel
theorem dX5_divide_186 : decode cX5_divide 186 = .ok (.goto (-64), 3) := by decide +kernel
theorem dX5_divide_189 : decode cX5_divide 189 = .ok (.iload_n 3, 1) := by decide +kernel
theorem dX5_divide_190 : decode cX5_divide 190 = .ok (.iconst (-1), 1) := by decide +kernel
theorem dX5_divide_191 : decode cX5_divide 191 = .ok (.if_icmp .eq 8, 3) := by decide +kernel
theorem dX5_divide_194 : decode cX5_divide 194 = .ok (.aload_n 0, 1) := by decide +kernel
theorem dX5_divide_195 : decode cX5_divide 195 = .ok (.iload_n 3, 1) := by decide +kernel
theorem dX5_divide_196 : decode cX5_divide 196 = .ok (.invokevirtual 41, 3) := by decide +kernel
theorem dX5_divide_199 : decode cX5_divide 199 = .ok (.return_, 1) := by decide +kernel
theorem dX5_common_0 : decode cX5_common 0 = .ok (.sipush 225, 3) := by decide +kernel
theorem dX5_common_3 : decode cX5_common 3 = .ok (.istore_n 3, 1) := by decide +kernel
theorem dX5_common_4 : decode cX5_common 4 = .ok (.sipush 226, 3) := by decide +kernel
theorem dX5_common_7 : decode cX5_common 7 = .ok (.istore 4, 2) := by decide +kernel
theorem dX5_common_9 : decode cX5_common 9 = .ok (.aload_n 0, 1) := by decide +kernel
theorem dX5_common_10 : decode cX5_common 10 = .ok (.iload_n 1, 1) := by decide +kernel
theorem dX5_common_11 : decode cX5_common 11 = .ok (.iload_n 3, 1) := by decide +kernel
theorem dX5_common_12 : decode cX5_common 12 = .ok (.invokevirtual 33, 3) := by decide +kernel
theorem dX5_common_15 : decode cX5_common 15 = .ok (.aload_n 0, 1) := by decide +kernel
theorem dX5_common_16 : decode cX5_common 16 = .ok (.iload_n 2, 1) := by decide +kernel
theorem dX5_common_17 : decode cX5_common 17 = .ok (.iload 4, 2) := by decide +kernel
theorem dX5_common_19 : decode cX5_common 19 = .ok (.invokevirtual 33, 3) := by decide +kernel
theorem dX5_common_22 : decode cX5_common 22 = .ok (.aload_n 0, 1) := by decide +kernel
theorem dX5_common_23 : decode cX5_common 23 = .ok (.getfield 18, 3) := by decide +kernel
theorem dX5_common_26 : decode cX5_common 26 = .ok (.iload_n 3, 1) := by decide +kernel
theorem dX5_common_27 : decode cX5_common 27 = .ok (.aload_n 0, 1) := by decide +kernel
theorem dX5_common_28 : decode cX5_common 28 = .ok (.getfield 14, 3) := by decide +kernel
theorem dX5_common_31 : decode cX5_common 31 = .ok (.iload_n 3, 1) := by decide +kernel
theorem dX5_common_32 : decode cX5_common 32 = .ok (.iaload, 1) := by decide +kernel
theorem dX5_common_33 : decode cX5_common 33 = .ok (.ifCond .le 7, 3) := by decide +kernel
theorem dX5_common_36 : decode cX5_common 36 = .ok (.iconst 1, 1) := by decide +kernel
theorem dX5_common_37 : decode cX5_common 37 = .ok (.goto 4, 3) := by decide +kernel
theorem dX5_common_40 : decode cX5_common 40 = .ok (.iconst 0, 1) := by decide +kernel
theorem dX5_common_41 : decode cX5_common 41 = .ok (.iastore, 1) := by decide +kernel
theorem dX5_common_42 : decode cX5_common 42 = .ok (.aload_n 0, 1) := by decide +kernel
theorem dX5_common_43 : decode cX5_common 43 = .ok (.getfield 18, 3) := by decide +kernel
theorem dX5_common_46 : decode cX5_common 46 = .ok (.iload 4, 2) := by decide +kernel
theorem dX5_common_48 : decode cX5_common 48 = .ok (.aload_n 0, 1) := by decide +kernel
theorem dX5_common_49 : decode cX5_common 49 = .ok (.getfield 14, 3) := by decide +kernel
theorem dX5_common_52 : decode cX5_common 52 = .ok (.iload 4, 2) := by decide +kernel
theorem dX5_common_54 : decode cX5_common 54 = .ok (.iaload, 1) := by decide +kernel
theorem dX5_common_55 : decode cX5_common 55 = .ok (.ifCond .le 7, 3) := by decide +kernel
theorem dX5_common_58 : decode cX5_common 58 = .ok (.iconst 1, 1) := by decide +kernel
theorem dX5_common_59 : decode cX5_common 59 = .ok (.goto 4, 3) := by decide +kernel
theorem dX5_common_62 : decode cX5_common 62 = .ok (.iconst 0, 1) := by decide +kernel
theorem dX5_common_63 : decode cX5_common 63 = .ok (.iastore, 1) := by decide +kernel
theorem dX5_common_64 : decode cX5_common 64 = .ok (.aload_n 0, 1) := by decide +kernel
theorem dX5_common_65 : decode cX5_common 65 = .ok (.getfield 14, 3) := by decide +kernel
theorem dX5_common_68 : decode cX5_common 68 = .ok (.iload 4, 2) := by decide +kernel
theorem dX5_common_70 : decode cX5_common 70 = .ok (.iaload, 1) := by decide +kernel
theorem dX5_common_71 : decode cX5_common 71 = .ok (.ifCond .le 33, 3) := by decide +kernel
theorem dX5_common_74 : decode cX5_common 74 = .ok (.aload_n 0, 1) := by decide +kernel
theorem dX5_common_75 : decode cX5_common 75 = .ok (.getfield 14, 3) := by decide +kernel
theorem dX5_common_78 : decode cX5_common 78 = .ok (.iload_n 3, 1) := by decide +kernel
theorem dX5_common_79 : decode cX5_common 79 = .ok (.iaload, 1) := by decide +kernel
theorem dX5_common_80 : decode cX5_common 80 = .ok (.ifCond .le 11, 3) := by decide +kernel
theorem dX5_common_83 : decode cX5_common 83 = .ok (.aload_n 0, 1) := by decide +kernel
theorem dX5_common_84 : decode cX5_common 84 = .ok (.iload_n 3, 1) := by decide +kernel
theorem dX5_common_85 : decode cX5_common 85 = .ok (.iload 4, 2) := by decide +kernel
theorem dX5_common_87 : decode cX5_common 87 = .ok (.iconst (-1), 1) := by decide +kernel
theorem dX5_common_88 : decode cX5_common 88 = .ok (.invokevirtual 62, 3) := by decide +kernel
theorem dX5_common_91 : decode cX5_common 91 = .ok (.iload_n 3, 1) := by decide +kernel
theorem dX5_common_92 : decode cX5_common 92 = .ok (.istore 5, 2) := by decide +kernel
theorem dX5_common_94 : decode cX5_common 94 = .ok (.iload 4, 2) := by decide +kernel
theorem dX5_common_96 : decode cX5_common 96 = .ok (.istore_n 3, 1) := by decide +kernel
theorem dX5_common_97 : decode cX5_common 97 = .ok (.iload 5, 2) := by decide +kernel
theorem dX5_common_99 : decode cX5_common 99 = .ok (.istore 4, 2) := by decide +kernel
theorem dX5_common_101 : decode cX5_common 101 = .ok (.goto (-37), 3) := by decide +kernel
theorem dX5_common_104 : decode cX5_common 104 = .ok (.aload_n 0, 1) := by decide +kernel
theorem dX5_common_105 : decode cX5_common 105 = .ok (.iload_n 3, 1) := by decide +kernel
theorem dX5_common_106 : decode cX5_common 106 = .ok (.iload_n 1, 1) := by decide +kernel
theorem dX5_common_107 : decode cX5_common 107 = .ok (.invokevirtual 33, 3) := by decide +kernel
theorem dX5_common_110 : decode cX5_common 110 = .ok (.return_, 1) := by decide +kernel
theorem dX5_at_0 : decode cX5_at 0 = .ok (.bipush 9, 2) := by decide +kernel
theorem dX5_at_2 : decode cX5_at 2 = .ok (.iload_n 0, 1) := by decide +kernel
theorem dX5_at_3 : decode cX5_at 3 = .ok (.imul, 1) := by decide +kernel
theorem dX5_at_4 : decode cX5_at 4 = .ok (.iload_n 1, 1) := by decide +kernel
theorem dX5_at_5 : decode cX5_at 5 = .ok (.iadd, 1) := by decide +kernel
theorem dX5_at_6 : decode cX5_at 6 = .ok (.ireturn, 1) := by decide +kernel
theorem dX5_measure_0 : decode cX5_measure 0 = .ok (.aload_n 0, 1) := by decide +kernel
theorem dX5_measure_1 : decode cX5_measure 1 = .ok (.getfield 21, 3) := by decide +kernel
theorem dX5_measure_4 : decode cX5_measure 4 = .ok (.iload_n 1, 1) := by decide +kernel
theorem dX5_measure_5 : decode cX5_measure 5 = .ok (.bipush 8, 2) := by decide +kernel
theorem dX5_measure_7 : decode cX5_measure 7 = .ok (.iastore, 1) := by decide +kernel
theorem dX5_measure_8 : decode cX5_measure 8 = .ok (.aload_n 0, 1) := by decide +kernel
theorem dX5_measure_9 : decode cX5_measure 9 = .ok (.getfield 21, 3) := by decide +kernel
theorem dX5_measure_12 : decode cX5_measure 12 = .ok (.iload_n 1, 1) := by decide +kernel
theorem dX5_measure_13 : decode cX5_measure 13 = .ok (.iaload, 1) := by decide +kernel
theorem dX5_measure_14 : decode cX5_measure 14 = .ok (.ifCond .lt 34, 3) := by decide +kernel
theorem dX5_measure_17 : decode cX5_measure 17 = .ok (.aload_n 0, 1) := by decide +kernel
theorem dX5_measure_18 : decode cX5_measure 18 = .ok (.getfield 18, 3) := by decide +kernel
theorem dX5_measure_21 : decode cX5_measure 21 = .ok (.iload_n 1, 1) := by decide +kernel
theorem dX5_measure_22 : decode cX5_measure 22 = .ok (.aload_n 0, 1) := by decide +kernel
theorem dX5_measure_23 : decode cX5_measure 23 = .ok (.getfield 21, 3) := by decide +kernel
theorem dX5_measure_26 : decode cX5_measure 26 = .ok (.iload_n 1, 1) := by decide +kernel
theorem dX5_measure_27 : decode cX5_measure 27 = .ok (.iaload, 1) := by decide +kernel
theorem dX5_measure_28 : decode cX5_measure 28 = .ok (.invokestatic 66, 3) := by decide +kernel
theorem dX5_measure_31 : decode cX5_measure 31 = .ok (.iaload, 1) := by decide +kernel
theorem dX5_measure_32 : decode cX5_measure 32 = .ok (.ifCond .ne 16, 3) := by decide +kernel
theorem dX5_measure_35 : decode cX5_measure 35 = .ok (.aload_n 0, 1) := by decide +kernel
theorem dX5_measure_36 : decode cX5_measure 36 = .ok (.getfield 21, 3) := by decide +kernel
theorem dX5_measure_39 : decode cX5_measure 39 = .ok (.iload_n 1, 1) := by decide +kernel
theorem dX5_measure_40 : decode cX5_measure 40 = .ok (.dup2, 1) := by decide +kernel
theorem dX5_measure_41 : decode cX5_measure 41 = .ok (.iaload, 1) := by decide +kernel
theorem dX5_measure_42 : decode cX5_measure 42 = .ok (.iconst 1, 1) := by decide +kernel
theorem dX5_measure_43 : decode cX5_measure 43 = .ok (.isub, 1) := by decide +kernel
theorem dX5_measure_44 : decode cX5_measure 44 = .ok (.iastore, 1) := by decide +kernel
theorem dX5_measure_45 : decode cX5_measure 45 = .ok (.goto (-37), 3) := by decide +kernel
theorem dX5_measure_48 : decode cX5_measure 48 = .ok (.return_, 1) := by decide +kernel
theorem dX5_clear_0 : decode cX5_clear 0 = .ok (.iconst 0, 1) := by decide +kernel
theorem dX5_clear_1 : decode cX5_clear 1 = .ok (.istore_n 2, 1) := by decide +kernel
theorem dX5_clear_2 : decode cX5_clear 2 = .ok (.iload_n 2, 1) := by decide +kernel
theorem dX5_clear_3 : decode cX5_clear 3 = .ok (.bipush 9, 2) := by decide +kernel
theorem dX5_clear_5 : decode cX5_clear 5 = .ok (.if_icmp .ge 18, 3) := by decide +kernel
theorem dX5_clear_8 : decode cX5_clear 8 = .ok (.aload_n 0, 1) := by decide +kernel
theorem dX5_clear_9 : decode cX5_clear 9 = .ok (.iload_n 1, 1) := by decide +kernel
theorem dX5_clear_10 : decode cX5_clear 10 = .ok (.iload_n 2, 1) := by decide +kernel
theorem dX5_clear_11 : decode cX5_clear 11 = .ok (.invokestatic 66, 3) := by decide +kernel
theorem dX5_clear_14 : decode cX5_clear 14 = .ok (.invokevirtual 49, 3) := by decide +kernel
theorem dX5_clear_17 : decode cX5_clear 17 = .ok (.iinc 2 1, 3) := by decide +kernel
theorem dX5_clear_20 : decode cX5_clear 20 = .ok (.goto (-18), 3) := by decide +kernel
theorem dX5_clear_23 : decode cX5_clear 23 = .ok (.aload_n 0, 1) := by decide +kernel
theorem dX5_clear_24 : decode cX5_clear 24 = .ok (.getfield 21, 3) := by decide +kernel
theorem dX5_clear_27 : decode cX5_clear 27 = .ok (.iload_n 1, 1) := by decide +kernel
theorem dX5_clear_28 : decode cX5_clear 28 = .ok (.iconst (-1), 1) := by decide +kernel
theorem dX5_clear_29 : decode cX5_clear 29 = .ok (.iastore, 1) := by decide +kernel
theorem dX5_clear_30 : decode cX5_clear 30 = .ok (.return_, 1) := by decide +kernel
theorem dX5_copyAll_0 : decode cX5_copyAll 0 = .ok (.iconst 0, 1) := by decide +kernel
theorem dX5_copyAll_1 : decode cX5_copyAll 1 = .ok (.istore_n 3, 1) := by decide +kernel
theorem dX5_copyAll_2 : decode cX5_copyAll 2 = .ok (.iload_n 3, 1) := by decide +kernel
theorem dX5_copyAll_3 : decode cX5_copyAll 3 = .ok (.bipush 9, 2) := by decide +kernel
theorem dX5_copyAll_5 : decode cX5_copyAll 5 = .ok (.if_icmp .ge 23, 3) := by decide +kernel
theorem dX5_copyAll_8 : decode cX5_copyAll 8 = .ok (.aload_n 0, 1) := by decide +kernel
theorem dX5_copyAll_9 : decode cX5_copyAll 9 = .ok (.iload_n 1, 1) := by decide +kernel
theorem dX5_copyAll_10 : decode cX5_copyAll 10 = .ok (.iload_n 3, 1) := by decide +kernel
theorem dX5_copyAll_11 : decode cX5_copyAll 11 = .ok (.invokestatic 66, 3) := by decide +kernel
theorem dX5_copyAll_14 : decode cX5_copyAll 14 = .ok (.iload_n 2, 1) := by decide +kernel
theorem dX5_copyAll_15 : decode cX5_copyAll 15 = .ok (.iload_n 3, 1) := by decide +kernel
theorem dX5_copyAll_16 : decode cX5_copyAll 16 = .ok (.invokestatic 66, 3) := by decide +kernel
theorem dX5_copyAll_19 : decode cX5_copyAll 19 = .ok (.invokevirtual 33, 3) := by decide +kernel
theorem dX5_copyAll_22 : decode cX5_copyAll 22 = .ok (.iinc 3 1, 3) := by decide +kernel
theorem dX5_copyAll_25 : decode cX5_copyAll 25 = .ok (.goto (-23), 3) := by decide +kernel
theorem dX5_copyAll_28 : decode cX5_copyAll 28 = .ok (.aload_n 0, 1) := by decide +kernel
theorem dX5_copyAll_29 : decode cX5_copyAll 29 = .ok (.getfield 21, 3) := by decide +kernel
theorem dX5_copyAll_32 : decode cX5_copyAll 32 = .ok (.iload_n 2, 1) := by decide +kernel
theorem dX5_copyAll_33 : decode cX5_copyAll 33 = .ok (.aload_n 0, 1) := by decide +kernel
theorem dX5_copyAll_34 : decode cX5_copyAll 34 = .ok (.getfield 21, 3) := by decide +kernel
theorem dX5_copyAll_37 : decode cX5_copyAll 37 = .ok (.iload_n 1, 1) := by decide +kernel
theorem dX5_copyAll_38 : decode cX5_copyAll 38 = .ok (.iaload, 1) := by decide +kernel
theorem dX5_copyAll_39 : decode cX5_copyAll 39 = .ok (.iastore, 1) := by decide +kernel
theorem dX5_copyAll_40 : decode cX5_copyAll 40 = .ok (.return_, 1) := by decide +kernel
theorem dX5_makePrimitive_0 : decode cX5_makePrimitive 0 = .ok (.sipush 216, 3) := by decide +kernel
theorem dX5_makePrimitive_3 : decode cX5_makePrimitive 3 = .ok (.istore_n 3, 1) := by decide +kernel
theorem dX5_makePrimitive_4 : decode cX5_makePrimitive 4 = .ok (.aload_n 0, 1) := by decide +kernel
theorem dX5_makePrimitive_5 : decode cX5_makePrimitive 5 = .ok (.iload_n 3, 1) := by decide +kernel
theorem dX5_makePrimitive_6 : decode cX5_makePrimitive 6 = .ok (.invokevirtual 49, 3) := by decide +kernel
theorem dX5_makePrimitive_9 : decode cX5_makePrimitive 9 = .ok (.aload_n 0, 1) := by decide +kernel
theorem dX5_makePrimitive_10 : decode cX5_makePrimitive 10 = .ok (.getfield 21, 3) := by decide +kernel
theorem dX5_makePrimitive_13 : decode cX5_makePrimitive 13 = .ok (.iload_n 1, 1) := by decide +kernel
theorem dX5_makePrimitive_14 : decode cX5_makePrimitive 14 = .ok (.iaload, 1) := by decide +kernel
theorem dX5_makePrimitive_15 : decode cX5_makePrimitive 15 = .ok (.istore 4, 2) := by decide +kernel
theorem dX5_makePrimitive_17 : decode cX5_makePrimitive 17 = .ok (.iload 4, 2) := by decide +kernel
theorem dX5_makePrimitive_19 : decode cX5_makePrimitive 19 = .ok (.ifCond .lt 34, 3) := by decide +kernel
theorem dX5_makePrimitive_22 : decode cX5_makePrimitive 22 = .ok (.aload_n 0, 1) := by decide +kernel
theorem dX5_makePrimitive_23 : decode cX5_makePrimitive 23 = .ok (.getfield 18, 3) := by decide +kernel
theorem dX5_makePrimitive_26 : decode cX5_makePrimitive 26 = .ok (.iload_n 1, 1) := by decide +kernel
theorem dX5_makePrimitive_27 : decode cX5_makePrimitive 27 = .ok (.iload 4, 2) := by decide +kernel
theorem dX5_makePrimitive_29 : decode cX5_makePrimitive 29 = .ok (.invokestatic 66, 3) := by decide +kernel
theorem dX5_makePrimitive_32 : decode cX5_makePrimitive 32 = .ok (.iaload, 1) := by decide +kernel
theorem dX5_makePrimitive_33 : decode cX5_makePrimitive 33 = .ok (.ifCond .eq 14, 3) := by decide +kernel
theorem dX5_makePrimitive_36 : decode cX5_makePrimitive 36 = .ok (.aload_n 0, 1) := by decide +kernel
theorem dX5_makePrimitive_37 : decode cX5_makePrimitive 37 = .ok (.iload_n 3, 1) := by decide +kernel
theorem dX5_makePrimitive_38 : decode cX5_makePrimitive 38 = .ok (.iload_n 1, 1) := by decide +kernel
theorem dX5_makePrimitive_39 : decode cX5_makePrimitive 39 = .ok (.iload 4, 2) := by decide +kernel
theorem dX5_makePrimitive_41 : decode cX5_makePrimitive 41 = .ok (.invokestatic 66, 3) := by decide +kernel
theorem dX5_makePrimitive_44 : decode cX5_makePrimitive 44 = .ok (.invokevirtual 69, 3) := by decide +kernel
theorem dX5_makePrimitive_47 : decode cX5_makePrimitive 47 = .ok (.iinc 4 (-1), 3) := by decide +kernel
theorem dX5_makePrimitive_50 : decode cX5_makePrimitive 50 = .ok (.goto (-33), 3) := by decide +kernel
theorem dX5_makePrimitive_53 : decode cX5_makePrimitive 53 = .ok (.iload_n 2, 1) := by decide +kernel
theorem dX5_makePrimitive_54 : decode cX5_makePrimitive 54 = .ok (.ifCond .ne 25, 3) := by decide +kernel
theorem dX5_makePrimitive_57 : decode cX5_makePrimitive 57 = .ok (.aload_n 0, 1) := by decide +kernel
theorem dX5_makePrimitive_58 : decode cX5_makePrimitive 58 = .ok (.getfield 18, 3) := by decide +kernel
theorem dX5_makePrimitive_61 : decode cX5_makePrimitive 61 = .ok (.iload_n 1, 1) := by decide +kernel
theorem dX5_makePrimitive_62 : decode cX5_makePrimitive 62 = .ok (.aload_n 0, 1) := by decide +kernel
theorem dX5_makePrimitive_63 : decode cX5_makePrimitive 63 = .ok (.getfield 21, 3) := by decide +kernel
theorem dX5_makePrimitive_66 : decode cX5_makePrimitive 66 = .ok (.iload_n 1, 1) := by decide +kernel
theorem dX5_makePrimitive_67 : decode cX5_makePrimitive 67 = .ok (.iaload, 1) := by decide +kernel
theorem dX5_makePrimitive_68 : decode cX5_makePrimitive 68 = .ok (.invokestatic 66, 3) := by decide +kernel
theorem dX5_makePrimitive_71 : decode cX5_makePrimitive 71 = .ok (.iaload, 1) := by decide +kernel
theorem dX5_makePrimitive_72 : decode cX5_makePrimitive 72 = .ok (.ifCond .ge 7, 3) := by decide +kernel
theorem dX5_makePrimitive_75 : decode cX5_makePrimitive 75 = .ok (.iconst (-1), 1) := by decide +kernel
theorem dX5_makePrimitive_76 : decode cX5_makePrimitive 76 = .ok (.goto 4, 3) := by decide +kernel
theorem dX5_makePrimitive_79 : decode cX5_makePrimitive 79 = .ok (.iconst 1, 1) := by decide +kernel
theorem dX5_makePrimitive_80 : decode cX5_makePrimitive 80 = .ok (.istore 4, 2) := by decide +kernel
theorem dX5_makePrimitive_82 : decode cX5_makePrimitive 82 = .ok (.iconst 0, 1) := by decide +kernel
theorem dX5_makePrimitive_83 : decode cX5_makePrimitive 83 = .ok (.istore 5, 2) := by decide +kernel
theorem dX5_makePrimitive_85 : decode cX5_makePrimitive 85 = .ok (.iload 5, 2) := by decide +kernel
theorem dX5_makePrimitive_87 : decode cX5_makePrimitive 87 = .ok (.aload_n 0, 1) := by decide +kernel
theorem dX5_makePrimitive_88 : decode cX5_makePrimitive 88 = .ok (.getfield 21, 3) := by decide +kernel
theorem dX5_makePrimitive_91 : decode cX5_makePrimitive 91 = .ok (.iload_n 1, 1) := by decide +kernel
theorem dX5_makePrimitive_92 : decode cX5_makePrimitive 92 = .ok (.iaload, 1) := by decide +kernel
theorem dX5_makePrimitive_93 : decode cX5_makePrimitive 93 = .ok (.if_icmp .gt 76, 3) := by decide +kernel
theorem dX5_makePrimitive_96 : decode cX5_makePrimitive 96 = .ok (.iload_n 1, 1) := by decide +kernel
theorem dX5_makePrimitive_97 : decode cX5_makePrimitive 97 = .ok (.iload 5, 2) := by decide +kernel
theorem dX5_makePrimitive_99 : decode cX5_makePrimitive 99 = .ok (.invokestatic 66, 3) := by decide +kernel
theorem dX5_makePrimitive_102 : decode cX5_makePrimitive 102 = .ok (.istore 6, 2) := by decide +kernel
theorem dX5_makePrimitive_104 : decode cX5_makePrimitive 104 = .ok (.aload_n 0, 1) := by decide +kernel
theorem dX5_makePrimitive_105 : decode cX5_makePrimitive 105 = .ok (.getfield 18, 3) := by decide +kernel
theorem dX5_makePrimitive_108 : decode cX5_makePrimitive 108 = .ok (.iload 6, 2) := by decide +kernel
theorem dX5_makePrimitive_110 : decode cX5_makePrimitive 110 = .ok (.iaload, 1) := by decide +kernel
theorem dX5_makePrimitive_111 : decode cX5_makePrimitive 111 = .ok (.ifCond .eq 52, 3) := by decide +kernel
theorem dX5_makePrimitive_114 : decode cX5_makePrimitive 114 = .ok (.aload_n 0, 1) := by decide +kernel
theorem dX5_makePrimitive_115 : decode cX5_makePrimitive 115 = .ok (.getfield 18, 3) := by decide +kernel
theorem dX5_makePrimitive_118 : decode cX5_makePrimitive 118 = .ok (.iload 6, 2) := by decide +kernel
theorem dX5_makePrimitive_120 : decode cX5_makePrimitive 120 = .ok (.iaload, 1) := by decide +kernel
theorem dX5_makePrimitive_121 : decode cX5_makePrimitive 121 = .ok (.istore 7, 2) := by decide +kernel
theorem dX5_makePrimitive_123 : decode cX5_makePrimitive 123 = .ok (.aload_n 0, 1) := by decide +kernel
theorem dX5_makePrimitive_124 : decode cX5_makePrimitive 124 = .ok (.iload 6, 2) := by decide +kernel
theorem dX5_makePrimitive_126 : decode cX5_makePrimitive 126 = .ok (.sipush 217, 3) := by decide +kernel
theorem dX5_makePrimitive_129 : decode cX5_makePrimitive 129 = .ok (.invokevirtual 33, 3) := by decide +kernel
theorem dX5_makePrimitive_132 : decode cX5_makePrimitive 132 = .ok (.aload_n 0, 1) := by decide +kernel
theorem dX5_makePrimitive_133 : decode cX5_makePrimitive 133 = .ok (.getfield 18, 3) := by decide +kernel
theorem dX5_makePrimitive_136 : decode cX5_makePrimitive 136 = .ok (.sipush 217, 3) := by decide +kernel
theorem dX5_makePrimitive_139 : decode cX5_makePrimitive 139 = .ok (.iconst 1, 1) := by decide +kernel
theorem dX5_makePrimitive_140 : decode cX5_makePrimitive 140 = .ok (.iastore, 1) := by decide +kernel
theorem dX5_makePrimitive_141 : decode cX5_makePrimitive 141 = .ok (.aload_n 0, 1) := by decide +kernel
theorem dX5_makePrimitive_142 : decode cX5_makePrimitive 142 = .ok (.sipush 217, 3) := by decide +kernel
theorem dX5_makePrimitive_145 : decode cX5_makePrimitive 145 = .ok (.iload_n 3, 1) := by decide +kernel
theorem dX5_makePrimitive_146 : decode cX5_makePrimitive 146 = .ok (.iload 6, 2) := by decide +kernel
theorem dX5_makePrimitive_148 : decode cX5_makePrimitive 148 = .ok (.invokevirtual 62, 3) := by decide +kernel
theorem dX5_makePrimitive_151 : decode cX5_makePrimitive 151 = .ok (.aload_n 0, 1) := by decide +kernel
theorem dX5_makePrimitive_152 : decode cX5_makePrimitive 152 = .ok (.getfield 18, 3) := by decide +kernel
theorem dX5_makePrimitive_155 : decode cX5_makePrimitive 155 = .ok (.iload 6, 2) := by decide +kernel
theorem dX5_makePrimitive_157 : decode cX5_makePrimitive 157 = .ok (.iload 7, 2) := by decide +kernel
theorem dX5_makePrimitive_159 : decode cX5_makePrimitive 159 = .ok (.iload 4, 2) := by decide +kernel
theorem dX5_makePrimitive_161 : decode cX5_makePrimitive 161 = .ok (.imul, 1) := by decide +kernel
theorem dX5_makePrimitive_162 : decode cX5_makePrimitive 162 = .ok (.iastore, 1) := by decide +kernel
theorem dX5_makePrimitive_163 : decode cX5_makePrimitive 163 = .ok (.iinc 5 1, 3) := by decide +kernel
theorem dX5_makePrimitive_166 : decode cX5_makePrimitive 166 = .ok (.goto (-81), 3) := by decide +kernel
theorem dX5_makePrimitive_169 : decode cX5_makePrimitive 169 = .ok (.return_, 1) := by decide +kernel
theorem dX5_remain_0 : decode cX5_remain 0 = .ok (.aload_n 0, 1) := by decide +kernel
theorem dX5_remain_1 : decode cX5_remain 1 = .ok (.bipush 18, 2) := by decide +kernel
theorem dX5_remain_3 : decode cX5_remain 3 = .ok (.bipush 20, 2) := by decide +kernel
theorem dX5_remain_5 : decode cX5_remain 5 = .ok (.invokevirtual 72, 3) := by decide +kernel
theorem dX5_remain_8 : decode cX5_remain 8 = .ok (.aload_n 0, 1) := by decide +kernel
theorem dX5_remain_9 : decode cX5_remain 9 = .ok (.getfield 21, 3) := by decide +kernel
theorem dX5_remain_12 : decode cX5_remain 12 = .ok (.bipush 19, 2) := by decide +kernel
theorem dX5_remain_14 : decode cX5_remain 14 = .ok (.iaload, 1) := by decide +kernel
theorem dX5_remain_15 : decode cX5_remain 15 = .ok (.istore_n 2, 1) := by decide +kernel
theorem dX5_remain_16 : decode cX5_remain 16 = .ok (.aload_n 0, 1) := by decide +kernel
theorem dX5_remain_17 : decode cX5_remain 17 = .ok (.getfield 21, 3) := by decide +kernel
theorem dX5_remain_20 : decode cX5_remain 20 = .ok (.bipush 18, 2) := by decide +kernel
theorem dX5_remain_22 : decode cX5_remain 22 = .ok (.iaload, 1) := by decide +kernel
theorem dX5_remain_23 : decode cX5_remain 23 = .ok (.iload_n 2, 1) := by decide +kernel
theorem dX5_remain_24 : decode cX5_remain 24 = .ok (.isub, 1) := by decide +kernel
theorem dX5_remain_25 : decode cX5_remain 25 = .ok (.iconst 1, 1) := by decide +kernel
theorem dX5_remain_26 : decode cX5_remain 26 = .ok (.iadd, 1) := by decide +kernel
theorem dX5_remain_27 : decode cX5_remain 27 = .ok (.istore_n 3, 1) := by decide +kernel
theorem dX5_remain_28 : decode cX5_remain 28 = .ok (.iload_n 3, 1) := by decide +kernel
theorem dX5_remain_29 : decode cX5_remain 29 = .ok (.ifCond .gt 4, 3) := by decide +kernel
theorem dX5_remain_32 : decode cX5_remain 32 = .ok (.return_, 1) := by decide +kernel
theorem dX5_remain_33 : decode cX5_remain 33 = .ok (.bipush 19, 2) := by decide +kernel
theorem dX5_remain_35 : decode cX5_remain 35 = .ok (.iload_n 2, 1) := by decide +kernel
theorem dX5_remain_36 : decode cX5_remain 36 = .ok (.invokestatic 66, 3) := by decide +kernel
theorem dX5_remain_39 : decode cX5_remain 39 = .ok (.istore 4, 2) := by decide +kernel
theorem dX5_remain_41 : decode cX5_remain 41 = .ok (.aload_n 0, 1) := by decide +kernel
theorem dX5_remain_42 : decode cX5_remain 42 = .ok (.getfield 21, 3) := by decide +kernel
theorem dX5_remain_45 : decode cX5_remain 45 = .ok (.bipush 18, 2) := by decide +kernel
theorem dX5_remain_47 : decode cX5_remain 47 = .ok (.iaload, 1) := by decide +kernel
theorem dX5_remain_48 : decode cX5_remain 48 = .ok (.istore 5, 2) := by decide +kernel
theorem dX5_remain_50 : decode cX5_remain 50 = .ok (.iload 5, 2) := by decide +kernel
theorem dX5_remain_52 : decode cX5_remain 52 = .ok (.iload_n 2, 1) := by decide +kernel
theorem dX5_remain_53 : decode cX5_remain 53 = .ok (.if_icmp .lt 133, 3) := by decide +kernel
theorem dX5_remain_56 : decode cX5_remain 56 = .ok (.aload_n 0, 1) := by decide +kernel
theorem dX5_remain_57 : decode cX5_remain 57 = .ok (.bipush 20, 2) := by decide +kernel
theorem dX5_remain_59 : decode cX5_remain 59 = .ok (.iload 5, 2) := by decide +kernel
theorem dX5_remain_61 : decode cX5_remain 61 = .ok (.invokestatic 66, 3) := by decide +kernel
theorem dX5_remain_64 : decode cX5_remain 64 = .ok (.sipush 218, 3) := by decide +kernel
theorem dX5_remain_67 : decode cX5_remain 67 = .ok (.invokevirtual 33, 3) := by decide +kernel
theorem dX5_remain_70 : decode cX5_remain 70 = .ok (.iconst 0, 1) := by decide +kernel
theorem dX5_remain_71 : decode cX5_remain 71 = .ok (.istore 6, 2) := by decide +kernel
theorem dX5_remain_73 : decode cX5_remain 73 = .ok (.iload 6, 2) := by decide +kernel
theorem dX5_remain_75 : decode cX5_remain 75 = .ok (.bipush 8, 2) := by decide +kernel
theorem dX5_remain_77 : decode cX5_remain 77 = .ok (.if_icmp .gt 39, 3) := by decide +kernel
theorem dX5_remain_80 : decode cX5_remain 80 = .ok (.aload_n 0, 1) := by decide +kernel
theorem dX5_remain_81 : decode cX5_remain 81 = .ok (.sipush 219, 3) := by decide +kernel
theorem dX5_remain_84 : decode cX5_remain 84 = .ok (.bipush 20, 2) := by decide +kernel
theorem dX5_remain_86 : decode cX5_remain 86 = .ok (.iload 6, 2) := by decide +kernel
theorem dX5_remain_88 : decode cX5_remain 88 = .ok (.invokestatic 66, 3) := by decide +kernel
theorem dX5_remain_91 : decode cX5_remain 91 = .ok (.iload 4, 2) := by decide +kernel
theorem dX5_remain_93 : decode cX5_remain 93 = .ok (.invokevirtual 75, 3) := by decide +kernel
theorem dX5_remain_96 : decode cX5_remain 96 = .ok (.aload_n 0, 1) := by decide +kernel
theorem dX5_remain_97 : decode cX5_remain 97 = .ok (.sipush 219, 3) := by decide +kernel
theorem dX5_remain_100 : decode cX5_remain 100 = .ok (.bipush 20, 2) := by decide +kernel
theorem dX5_remain_102 : decode cX5_remain 102 = .ok (.iload 6, 2) := by decide +kernel
theorem dX5_remain_104 : decode cX5_remain 104 = .ok (.invokestatic 66, 3) := by decide +kernel
theorem dX5_remain_107 : decode cX5_remain 107 = .ok (.invokevirtual 33, 3) := by decide +kernel
theorem dX5_remain_110 : decode cX5_remain 110 = .ok (.iinc 6 1, 3) := by decide +kernel
theorem dX5_remain_113 : decode cX5_remain 113 = .ok (.goto (-40), 3) := by decide +kernel
theorem dX5_remain_116 : decode cX5_remain 116 = .ok (.iconst 0, 1) := by decide +kernel
theorem dX5_remain_117 : decode cX5_remain 117 = .ok (.istore 6, 2) := by decide +kernel
theorem dX5_remain_119 : decode cX5_remain 119 = .ok (.iload 6, 2) := by decide +kernel
theorem dX5_remain_121 : decode cX5_remain 121 = .ok (.iload_n 2, 1) := by decide +kernel
theorem dX5_remain_122 : decode cX5_remain 122 = .ok (.if_icmp .gt 58, 3) := by decide +kernel
theorem dX5_remain_125 : decode cX5_remain 125 = .ok (.aload_n 0, 1) := by decide +kernel
theorem dX5_remain_126 : decode cX5_remain 126 = .ok (.sipush 219, 3) := by decide +kernel
theorem dX5_remain_129 : decode cX5_remain 129 = .ok (.sipush 218, 3) := by decide +kernel
theorem dX5_remain_132 : decode cX5_remain 132 = .ok (.bipush 19, 2) := by decide +kernel
theorem dX5_remain_134 : decode cX5_remain 134 = .ok (.iload 6, 2) := by decide +kernel
theorem dX5_remain_136 : decode cX5_remain 136 = .ok (.invokestatic 66, 3) := by decide +kernel
theorem dX5_remain_139 : decode cX5_remain 139 = .ok (.invokevirtual 75, 3) := by decide +kernel
theorem dX5_remain_142 : decode cX5_remain 142 = .ok (.aload_n 0, 1) := by decide +kernel
theorem dX5_remain_143 : decode cX5_remain 143 = .ok (.bipush 20, 2) := by decide +kernel
theorem dX5_remain_145 : decode cX5_remain 145 = .ok (.iload 6, 2) := by decide +kernel
theorem dX5_remain_147 : decode cX5_remain 147 = .ok (.iload 5, 2) := by decide +kernel
theorem dX5_remain_149 : decode cX5_remain 149 = .ok (.iadd, 1) := by decide +kernel
theorem dX5_remain_150 : decode cX5_remain 150 = .ok (.iload_n 2, 1) := by decide +kernel
theorem dX5_remain_151 : decode cX5_remain 151 = .ok (.isub, 1) := by decide +kernel
theorem dX5_remain_152 : decode cX5_remain 152 = .ok (.invokestatic 66, 3) := by decide +kernel
theorem dX5_remain_155 : decode cX5_remain 155 = .ok (.bipush 20, 2) := by decide +kernel
theorem dX5_remain_157 : decode cX5_remain 157 = .ok (.iload 6, 2) := by decide +kernel
theorem dX5_remain_159 : decode cX5_remain 159 = .ok (.iload 5, 2) := by decide +kernel
theorem dX5_remain_161 : decode cX5_remain 161 = .ok (.iadd, 1) := by decide +kernel
theorem dX5_remain_162 : decode cX5_remain 162 = .ok (.iload_n 2, 1) := by decide +kernel
theorem dX5_remain_163 : decode cX5_remain 163 = .ok (.isub, 1) := by decide +kernel
theorem dX5_remain_164 : decode cX5_remain 164 = .ok (.invokestatic 66, 3) := by decide +kernel
theorem dX5_remain_167 : decode cX5_remain 167 = .ok (.sipush 219, 3) := by decide +kernel
theorem dX5_remain_170 : decode cX5_remain 170 = .ok (.iconst (-1), 1) := by decide +kernel
theorem dX5_remain_171 : decode cX5_remain 171 = .ok (.invokevirtual 55, 3) := by decide +kernel
theorem dX5_remain_174 : decode cX5_remain 174 = .ok (.iinc 6 1, 3) := by decide +kernel
theorem dX5_remain_177 : decode cX5_remain 177 = .ok (.goto (-58), 3) := by decide +kernel
theorem dX5_remain_180 : decode cX5_remain 180 = .ok (.iinc 5 (-1), 3) := by decide +kernel
theorem dX5_remain_183 : decode cX5_remain 183 = .ok (.goto (-133), 3) := by decide +kernel
theorem dX5_remain_186 : decode cX5_remain 186 = .ok (.aload_n 0, 1) := by decide +kernel
theorem dX5_remain_187 : decode cX5_remain 187 = .ok (.bipush 20, 2) := by decide +kernel
theorem dX5_remain_189 : decode cX5_remain 189 = .ok (.invokevirtual 78, 3) := by decide +kernel
theorem dX5_remain_192 : decode cX5_remain 192 = .ok (.iload_n 1, 1) := by decide +kernel
theorem dX5_remain_193 : decode cX5_remain 193 = .ok (.ifCond .eq 61, 3) := by decide +kernel
theorem dX5_remain_196 : decode cX5_remain 196 = .ok (.aload_n 0, 1) := by decide +kernel
theorem dX5_remain_197 : decode cX5_remain 197 = .ok (.getfield 18, 3) := by decide +kernel
theorem dX5_remain_200 : decode cX5_remain 200 = .ok (.iload 4, 2) := by decide +kernel
theorem dX5_remain_202 : decode cX5_remain 202 = .ok (.iaload, 1) := by decide +kernel
theorem dX5_remain_203 : decode cX5_remain 203 = .ok (.ifCond .ge 51, 3) := by decide +kernel
theorem dX5_remain_206 : decode cX5_remain 206 = .ok (.iload_n 3, 1) := by decide +kernel
theorem dX5_remain_207 : decode cX5_remain 207 = .ok (.iconst 2, 1) := by decide +kernel
theorem dX5_remain_208 : decode cX5_remain 208 = .ok (.irem, 1) := by decide +kernel
theorem dX5_remain_209 : decode cX5_remain 209 = .ok (.iconst 1, 1) := by decide +kernel
theorem dX5_remain_210 : decode cX5_remain 210 = .ok (.if_icmp .ne 44, 3) := by decide +kernel
theorem dX5_remain_213 : decode cX5_remain 213 = .ok (.iconst 0, 1) := by decide +kernel
theorem dX5_remain_214 : decode cX5_remain 214 = .ok (.istore 5, 2) := by decide +kernel
theorem dX5_remain_216 : decode cX5_remain 216 = .ok (.iload 5, 2) := by decide +kernel
theorem dX5_remain_218 : decode cX5_remain 218 = .ok (.bipush 9, 2) := by decide +kernel
theorem dX5_remain_220 : decode cX5_remain 220 = .ok (.if_icmp .ge 34, 3) := by decide +kernel
theorem dX5_remain_223 : decode cX5_remain 223 = .ok (.aload_n 0, 1) := by decide +kernel
theorem dX5_remain_224 : decode cX5_remain 224 = .ok (.getfield 18, 3) := by decide +kernel
theorem dX5_remain_227 : decode cX5_remain 227 = .ok (.bipush 20, 2) := by decide +kernel
theorem dX5_remain_229 : decode cX5_remain 229 = .ok (.iload 5, 2) := by decide +kernel
theorem dX5_remain_231 : decode cX5_remain 231 = .ok (.invokestatic 66, 3) := by decide +kernel
theorem dX5_remain_234 : decode cX5_remain 234 = .ok (.aload_n 0, 1) := by decide +kernel
theorem dX5_remain_235 : decode cX5_remain 235 = .ok (.getfield 18, 3) := by decide +kernel
theorem dX5_remain_238 : decode cX5_remain 238 = .ok (.bipush 20, 2) := by decide +kernel
theorem dX5_remain_240 : decode cX5_remain 240 = .ok (.iload 5, 2) := by decide +kernel
theorem dX5_remain_242 : decode cX5_remain 242 = .ok (.invokestatic 66, 3) := by decide +kernel
theorem dX5_remain_245 : decode cX5_remain 245 = .ok (.iaload, 1) := by decide +kernel
theorem dX5_remain_246 : decode cX5_remain 246 = .ok (.ineg, 1) := by decide +kernel
theorem dX5_remain_247 : decode cX5_remain 247 = .ok (.iastore, 1) := by decide +kernel
theorem dX5_remain_248 : decode cX5_remain 248 = .ok (.iinc 5 1, 3) := by decide +kernel
theorem dX5_remain_251 : decode cX5_remain 251 = .ok (.goto (-35), 3) := by decide +kernel
theorem dX5_remain_254 : decode cX5_remain 254 = .ok (.return_, 1) := by decide +kernel
theorem dX5_divisor_0 : decode cX5_divisor 0 = .ok (.aload_n 0, 1) := by decide +kernel
theorem dX5_divisor_1 : decode cX5_divisor 1 = .ok (.getfield 21, 3) := by decide +kernel
theorem dX5_divisor_4 : decode cX5_divisor 4 = .ok (.bipush 18, 2) := by decide +kernel
theorem dX5_divisor_6 : decode cX5_divisor 6 = .ok (.iaload, 1) := by decide +kernel
theorem dX5_divisor_7 : decode cX5_divisor 7 = .ok (.ifCond .lt 10, 3) := by decide +kernel
theorem dX5_divisor_10 : decode cX5_divisor 10 = .ok (.aload_n 0, 1) := by decide +kernel
theorem dX5_divisor_11 : decode cX5_divisor 11 = .ok (.bipush 18, 2) := by decide +kernel
theorem dX5_divisor_13 : decode cX5_divisor 13 = .ok (.iconst 0, 1) := by decide +kernel
theorem dX5_divisor_14 : decode cX5_divisor 14 = .ok (.invokevirtual 81, 3) := by decide +kernel
theorem dX5_divisor_17 : decode cX5_divisor 17 = .ok (.aload_n 0, 1) := by decide +kernel
theorem dX5_divisor_18 : decode cX5_divisor 18 = .ok (.getfield 21, 3) := by decide +kernel
theorem dX5_divisor_21 : decode cX5_divisor 21 = .ok (.bipush 19, 2) := by decide +kernel
theorem dX5_divisor_23 : decode cX5_divisor 23 = .ok (.iaload, 1) := by decide +kernel
theorem dX5_divisor_24 : decode cX5_divisor 24 = .ok (.ifCond .lt 10, 3) := by decide +kernel
theorem dX5_divisor_27 : decode cX5_divisor 27 = .ok (.aload_n 0, 1) := by decide +kernel
theorem dX5_divisor_28 : decode cX5_divisor 28 = .ok (.bipush 19, 2) := by decide +kernel
theorem dX5_divisor_30 : decode cX5_divisor 30 = .ok (.iconst 0, 1) := by decide +kernel
theorem dX5_divisor_31 : decode cX5_divisor 31 = .ok (.invokevirtual 81, 3) := by decide +kernel
theorem dX5_divisor_34 : decode cX5_divisor 34 = .ok (.aload_n 0, 1) := by decide +kernel
theorem dX5_divisor_35 : decode cX5_divisor 35 = .ok (.getfield 21, 3) := by decide +kernel
theorem dX5_divisor_38 : decode cX5_divisor 38 = .ok (.bipush 19, 2) := by decide +kernel
theorem dX5_divisor_40 : decode cX5_divisor 40 = .ok (.iaload, 1) := by decide +kernel
theorem dX5_divisor_41 : decode cX5_divisor 41 = .ok (.ifCond .lt 69, 3) := by decide +kernel
theorem dX5_divisor_44 : decode cX5_divisor 44 = .ok (.aload_n 0, 1) := by decide +kernel
theorem dX5_divisor_45 : decode cX5_divisor 45 = .ok (.getfield 21, 3) := by decide +kernel
theorem dX5_divisor_48 : decode cX5_divisor 48 = .ok (.bipush 18, 2) := by decide +kernel
theorem dX5_divisor_50 : decode cX5_divisor 50 = .ok (.iaload, 1) := by decide +kernel
theorem dX5_divisor_51 : decode cX5_divisor 51 = .ok (.ifCond .ge 18, 3) := by decide +kernel
theorem dX5_divisor_54 : decode cX5_divisor 54 = .ok (.aload_n 0, 1) := by decide +kernel
theorem dX5_divisor_55 : decode cX5_divisor 55 = .ok (.bipush 19, 2) := by decide +kernel
theorem dX5_divisor_57 : decode cX5_divisor 57 = .ok (.bipush 18, 2) := by decide +kernel
theorem dX5_divisor_59 : decode cX5_divisor 59 = .ok (.invokevirtual 72, 3) := by decide +kernel
theorem dX5_divisor_62 : decode cX5_divisor 62 = .ok (.aload_n 0, 1) := by decide +kernel
theorem dX5_divisor_63 : decode cX5_divisor 63 = .ok (.bipush 19, 2) := by decide +kernel
theorem dX5_divisor_65 : decode cX5_divisor 65 = .ok (.invokevirtual 85, 3) := by decide +kernel
theorem dX5_divisor_68 : decode cX5_divisor 68 = .ok (.return_, 1) := by decide +kernel
theorem dX5_divisor_69 : decode cX5_divisor 69 = .ok (.aload_n 0, 1) := by decide +kernel
theorem dX5_divisor_70 : decode cX5_divisor 70 = .ok (.iconst 0, 1) := by decide +kernel
theorem dX5_divisor_71 : decode cX5_divisor 71 = .ok (.invokevirtual 88, 3) := by decide +kernel
theorem dX5_divisor_74 : decode cX5_divisor 74 = .ok (.aload_n 0, 1) := by decide +kernel
theorem dX5_divisor_75 : decode cX5_divisor 75 = .ok (.bipush 19, 2) := by decide +kernel
theorem dX5_divisor_77 : decode cX5_divisor 77 = .ok (.bipush 18, 2) := by decide +kernel
theorem dX5_divisor_79 : decode cX5_divisor 79 = .ok (.invokevirtual 72, 3) := by decide +kernel
theorem dX5_divisor_82 : decode cX5_divisor 82 = .ok (.aload_n 0, 1) := by decide +kernel
theorem dX5_divisor_83 : decode cX5_divisor 83 = .ok (.bipush 20, 2) := by decide +kernel
theorem dX5_divisor_85 : decode cX5_divisor 85 = .ok (.bipush 19, 2) := by decide +kernel
theorem dX5_divisor_87 : decode cX5_divisor 87 = .ok (.invokevirtual 72, 3) := by decide +kernel
theorem dX5_divisor_90 : decode cX5_divisor 90 = .ok (.aload_n 0, 1) := by decide +kernel
theorem dX5_divisor_91 : decode cX5_divisor 91 = .ok (.getfield 21, 3) := by decide +kernel
theorem dX5_divisor_94 : decode cX5_divisor 94 = .ok (.bipush 19, 2) := by decide +kernel
theorem dX5_divisor_96 : decode cX5_divisor 96 = .ok (.iaload, 1) := by decide +kernel
theorem dX5_divisor_97 : decode cX5_divisor 97 = .ok (.ifCond .lt (-63), 3) := by decide +kernel
theorem dX5_divisor_100 : decode cX5_divisor 100 = .ok (.aload_n 0, 1) := by decide +kernel
theorem dX5_divisor_101 : decode cX5_divisor 101 = .ok (.bipush 19, 2) := by decide +kernel
theorem dX5_divisor_103 : decode cX5_divisor 103 = .ok (.iconst 0, 1) := by decide +kernel
theorem dX5_divisor_104 : decode cX5_divisor 104 = .ok (.invokevirtual 81, 3) := by decide +kernel
theorem dX5_divisor_107 : decode cX5_divisor 107 = .ok (.goto (-73), 3) := by decide +kernel
theorem dX5_divisor_110 : decode cX5_divisor 110 = .ok (.return_, 1) := by decide +kernel
theorem dX5_over_0 : decode cX5_over 0 = .ok (.aload_n 0, 1) := by decide +kernel
theorem dX5_over_1 : decode cX5_over 1 = .ok (.bipush 21, 2) := by decide +kernel
theorem dX5_over_3 : decode cX5_over 3 = .ok (.invokevirtual 85, 3) := by decide +kernel
theorem dX5_over_6 : decode cX5_over 6 = .ok (.aload_n 0, 1) := by decide +kernel
theorem dX5_over_7 : decode cX5_over 7 = .ok (.bipush 18, 2) := by decide +kernel
theorem dX5_over_9 : decode cX5_over 9 = .ok (.bipush 20, 2) := by decide +kernel
theorem dX5_over_11 : decode cX5_over 11 = .ok (.invokevirtual 72, 3) := by decide +kernel
theorem dX5_over_14 : decode cX5_over 14 = .ok (.aload_n 0, 1) := by decide +kernel
theorem dX5_over_15 : decode cX5_over 15 = .ok (.getfield 21, 3) := by decide +kernel
theorem dX5_over_18 : decode cX5_over 18 = .ok (.bipush 19, 2) := by decide +kernel
theorem dX5_over_20 : decode cX5_over 20 = .ok (.iaload, 1) := by decide +kernel
theorem dX5_over_21 : decode cX5_over 21 = .ok (.istore_n 1, 1) := by decide +kernel
theorem dX5_over_22 : decode cX5_over 22 = .ok (.aload_n 0, 1) := by decide +kernel
theorem dX5_over_23 : decode cX5_over 23 = .ok (.getfield 21, 3) := by decide +kernel
theorem dX5_over_26 : decode cX5_over 26 = .ok (.bipush 18, 2) := by decide +kernel
theorem dX5_over_28 : decode cX5_over 28 = .ok (.iaload, 1) := by decide +kernel
theorem dX5_over_29 : decode cX5_over 29 = .ok (.istore_n 2, 1) := by decide +kernel
theorem dX5_over_30 : decode cX5_over 30 = .ok (.iload_n 2, 1) := by decide +kernel
theorem dX5_over_31 : decode cX5_over 31 = .ok (.iload_n 1, 1) := by decide +kernel
theorem dX5_over_32 : decode cX5_over 32 = .ok (.if_icmp .lt 178, 3) := by decide +kernel
theorem dX5_over_35 : decode cX5_over 35 = .ok (.bipush 20, 2) := by decide +kernel
theorem dX5_over_37 : decode cX5_over 37 = .ok (.iload_n 2, 1) := by decide +kernel
theorem dX5_over_38 : decode cX5_over 38 = .ok (.invokestatic 66, 3) := by decide +kernel
theorem dX5_over_41 : decode cX5_over 41 = .ok (.istore_n 3, 1) := by decide +kernel
theorem dX5_over_42 : decode cX5_over 42 = .ok (.aload_n 0, 1) := by decide +kernel
theorem dX5_over_43 : decode cX5_over 43 = .ok (.getfield 18, 3) := by decide +kernel
theorem dX5_over_46 : decode cX5_over 46 = .ok (.iload_n 3, 1) := by decide +kernel
theorem dX5_over_47 : decode cX5_over 47 = .ok (.iaload, 1) := by decide +kernel
theorem dX5_over_48 : decode cX5_over 48 = .ok (.ifCond .eq 156, 3) := by decide +kernel
theorem dX5_over_51 : decode cX5_over 51 = .ok (.aload_n 0, 1) := by decide +kernel
theorem dX5_over_52 : decode cX5_over 52 = .ok (.getfield 18, 3) := by decide +kernel
theorem dX5_over_55 : decode cX5_over 55 = .ok (.iload_n 3, 1) := by decide +kernel
theorem dX5_over_56 : decode cX5_over 56 = .ok (.iaload, 1) := by decide +kernel
theorem dX5_over_57 : decode cX5_over 57 = .ok (.aload_n 0, 1) := by decide +kernel
theorem dX5_over_58 : decode cX5_over 58 = .ok (.getfield 18, 3) := by decide +kernel
theorem dX5_over_61 : decode cX5_over 61 = .ok (.bipush 19, 2) := by decide +kernel
theorem dX5_over_63 : decode cX5_over 63 = .ok (.iload_n 1, 1) := by decide +kernel
theorem dX5_over_64 : decode cX5_over 64 = .ok (.invokestatic 66, 3) := by decide +kernel
theorem dX5_over_67 : decode cX5_over 67 = .ok (.iaload, 1) := by decide +kernel
theorem dX5_over_68 : decode cX5_over 68 = .ok (.imul, 1) := by decide +kernel
theorem dX5_over_69 : decode cX5_over 69 = .ok (.istore 4, 2) := by decide +kernel
theorem dX5_over_71 : decode cX5_over 71 = .ok (.aload_n 0, 1) := by decide +kernel
theorem dX5_over_72 : decode cX5_over 72 = .ok (.iload_n 3, 1) := by decide +kernel
theorem dX5_over_73 : decode cX5_over 73 = .ok (.sipush 217, 3) := by decide +kernel
theorem dX5_over_76 : decode cX5_over 76 = .ok (.invokevirtual 33, 3) := by decide +kernel
theorem dX5_over_79 : decode cX5_over 79 = .ok (.aload_n 0, 1) := by decide +kernel
theorem dX5_over_80 : decode cX5_over 80 = .ok (.getfield 18, 3) := by decide +kernel
theorem dX5_over_83 : decode cX5_over 83 = .ok (.sipush 217, 3) := by decide +kernel
theorem dX5_over_86 : decode cX5_over 86 = .ok (.iconst 1, 1) := by decide +kernel
theorem dX5_over_87 : decode cX5_over 87 = .ok (.iastore, 1) := by decide +kernel
theorem dX5_over_88 : decode cX5_over 88 = .ok (.aload_n 0, 1) := by decide +kernel
theorem dX5_over_89 : decode cX5_over 89 = .ok (.sipush 217, 3) := by decide +kernel
theorem dX5_over_92 : decode cX5_over 92 = .ok (.bipush 19, 2) := by decide +kernel
theorem dX5_over_94 : decode cX5_over 94 = .ok (.iload_n 1, 1) := by decide +kernel
theorem dX5_over_95 : decode cX5_over 95 = .ok (.invokestatic 66, 3) := by decide +kernel
theorem dX5_over_98 : decode cX5_over 98 = .ok (.sipush 220, 3) := by decide +kernel
theorem dX5_over_101 : decode cX5_over 101 = .ok (.invokevirtual 62, 3) := by decide +kernel
theorem dX5_over_104 : decode cX5_over 104 = .ok (.aload_n 0, 1) := by decide +kernel
theorem dX5_over_105 : decode cX5_over 105 = .ok (.getfield 14, 3) := by decide +kernel
theorem dX5_over_108 : decode cX5_over 108 = .ok (.sipush 217, 3) := by decide +kernel
theorem dX5_over_111 : decode cX5_over 111 = .ok (.iaload, 1) := by decide +kernel
theorem dX5_over_112 : decode cX5_over 112 = .ok (.ifCond .le 5, 3) := by decide +kernel
theorem dX5_over_115 : decode cX5_over 115 = .ok (.iconst 0, 1) := by decide +kernel
theorem dX5_over_116 : decode cX5_over 116 = .ok (.ireturn, 1) := by decide +kernel
theorem dX5_over_117 : decode cX5_over 117 = .ok (.aload_n 0, 1) := by decide +kernel
theorem dX5_over_118 : decode cX5_over 118 = .ok (.getfield 18, 3) := by decide +kernel
theorem dX5_over_121 : decode cX5_over 121 = .ok (.sipush 220, 3) := by decide +kernel
theorem dX5_over_124 : decode cX5_over 124 = .ok (.iload 4, 2) := by decide +kernel
theorem dX5_over_126 : decode cX5_over 126 = .ok (.iastore, 1) := by decide +kernel
theorem dX5_over_127 : decode cX5_over 127 = .ok (.aload_n 0, 1) := by decide +kernel
theorem dX5_over_128 : decode cX5_over 128 = .ok (.sipush 220, 3) := by decide +kernel
theorem dX5_over_131 : decode cX5_over 131 = .ok (.bipush 21, 2) := by decide +kernel
theorem dX5_over_133 : decode cX5_over 133 = .ok (.iload_n 2, 1) := by decide +kernel
theorem dX5_over_134 : decode cX5_over 134 = .ok (.iload_n 1, 1) := by decide +kernel
theorem dX5_over_135 : decode cX5_over 135 = .ok (.isub, 1) := by decide +kernel
theorem dX5_over_136 : decode cX5_over 136 = .ok (.invokestatic 66, 3) := by decide +kernel
theorem dX5_over_139 : decode cX5_over 139 = .ok (.invokevirtual 33, 3) := by decide +kernel
theorem dX5_over_142 : decode cX5_over 142 = .ok (.iconst 0, 1) := by decide +kernel
theorem dX5_over_143 : decode cX5_over 143 = .ok (.istore 5, 2) := by decide +kernel
theorem dX5_over_145 : decode cX5_over 145 = .ok (.iload 5, 2) := by decide +kernel
theorem dX5_over_147 : decode cX5_over 147 = .ok (.iload_n 1, 1) := by decide +kernel
theorem dX5_over_148 : decode cX5_over 148 = .ok (.if_icmp .gt 56, 3) := by decide +kernel
theorem dX5_over_151 : decode cX5_over 151 = .ok (.aload_n 0, 1) := by decide +kernel
theorem dX5_over_152 : decode cX5_over 152 = .ok (.sipush 219, 3) := by decide +kernel
theorem dX5_over_155 : decode cX5_over 155 = .ok (.sipush 220, 3) := by decide +kernel
theorem dX5_over_158 : decode cX5_over 158 = .ok (.bipush 19, 2) := by decide +kernel
theorem dX5_over_160 : decode cX5_over 160 = .ok (.iload 5, 2) := by decide +kernel
theorem dX5_over_162 : decode cX5_over 162 = .ok (.invokestatic 66, 3) := by decide +kernel
theorem dX5_over_165 : decode cX5_over 165 = .ok (.invokevirtual 75, 3) := by decide +kernel
theorem dX5_over_168 : decode cX5_over 168 = .ok (.aload_n 0, 1) := by decide +kernel
theorem dX5_over_169 : decode cX5_over 169 = .ok (.bipush 20, 2) := by decide +kernel
theorem dX5_over_171 : decode cX5_over 171 = .ok (.iload 5, 2) := by decide +kernel
theorem dX5_over_173 : decode cX5_over 173 = .ok (.iload_n 2, 1) := by decide +kernel
theorem dX5_over_174 : decode cX5_over 174 = .ok (.iadd, 1) := by decide +kernel
theorem dX5_over_175 : decode cX5_over 175 = .ok (.iload_n 1, 1) := by decide +kernel
theorem dX5_over_176 : decode cX5_over 176 = .ok (.isub, 1) := by decide +kernel
theorem dX5_over_177 : decode cX5_over 177 = .ok (.invokestatic 66, 3) := by decide +kernel
theorem dX5_over_180 : decode cX5_over 180 = .ok (.bipush 20, 2) := by decide +kernel
theorem dX5_over_182 : decode cX5_over 182 = .ok (.iload 5, 2) := by decide +kernel
theorem dX5_over_184 : decode cX5_over 184 = .ok (.iload_n 2, 1) := by decide +kernel
theorem dX5_over_185 : decode cX5_over 185 = .ok (.iadd, 1) := by decide +kernel
theorem dX5_over_186 : decode cX5_over 186 = .ok (.iload_n 1, 1) := by decide +kernel
theorem dX5_over_187 : decode cX5_over 187 = .ok (.isub, 1) := by decide +kernel
theorem dX5_over_188 : decode cX5_over 188 = .ok (.invokestatic 66, 3) := by decide +kernel
theorem dX5_over_191 : decode cX5_over 191 = .ok (.sipush 219, 3) := by decide +kernel
theorem dX5_over_194 : decode cX5_over 194 = .ok (.iconst (-1), 1) := by decide +kernel
theorem dX5_over_195 : decode cX5_over 195 = .ok (.invokevirtual 55, 3) := by decide +kernel
theorem dX5_over_198 : decode cX5_over 198 = .ok (.iinc 5 1, 3) := by decide +kernel
theorem dX5_over_201 : decode cX5_over 201 = .ok (.goto (-56), 3) := by decide +kernel
theorem dX5_over_204 : decode cX5_over 204 = .ok (.iinc 2 (-1), 3) := by decide +kernel
theorem dX5_over_207 : decode cX5_over 207 = .ok (.goto (-177), 3) := by decide +kernel
theorem dX5_over_210 : decode cX5_over 210 = .ok (.aload_n 0, 1) := by decide +kernel
theorem dX5_over_211 : decode cX5_over 211 = .ok (.bipush 20, 2) := by decide +kernel
theorem dX5_over_213 : decode cX5_over 213 = .ok (.invokevirtual 78, 3) := by decide +kernel
theorem dX5_over_216 : decode cX5_over 216 = .ok (.aload_n 0, 1) := by decide +kernel
theorem dX5_over_217 : decode cX5_over 217 = .ok (.bipush 21, 2) := by decide +kernel
theorem dX5_over_219 : decode cX5_over 219 = .ok (.invokevirtual 78, 3) := by decide +kernel
theorem dX5_over_222 : decode cX5_over 222 = .ok (.aload_n 0, 1) := by decide +kernel
theorem dX5_over_223 : decode cX5_over 223 = .ok (.getfield 21, 3) := by decide +kernel
theorem dX5_over_226 : decode cX5_over 226 = .ok (.bipush 20, 2) := by decide +kernel
theorem dX5_over_228 : decode cX5_over 228 = .ok (.iaload, 1) := by decide +kernel
theorem dX5_over_229 : decode cX5_over 229 = .ok (.ifCond .ge 7, 3) := by decide +kernel
theorem dX5_over_232 : decode cX5_over 232 = .ok (.iconst 1, 1) := by decide +kernel
theorem dX5_over_233 : decode cX5_over 233 = .ok (.goto 4, 3) := by decide +kernel
theorem dX5_over_236 : decode cX5_over 236 = .ok (.iconst 0, 1) := by decide +kernel
theorem dX5_over_237 : decode cX5_over 237 = .ok (.ireturn, 1) := by decide +kernel
theorem dX5_deriveTo_0 : decode cX5_deriveTo 0 = .ok (.aload_n 0, 1) := by decide +kernel
theorem dX5_deriveTo_1 : decode cX5_deriveTo 1 = .ok (.iload_n 2, 1) := by decide +kernel
theorem dX5_deriveTo_2 : decode cX5_deriveTo 2 = .ok (.invokevirtual 85, 3) := by decide +kernel
theorem dX5_deriveTo_5 : decode cX5_deriveTo 5 = .ok (.iconst 1, 1) := by decide +kernel
theorem dX5_deriveTo_6 : decode cX5_deriveTo 6 = .ok (.istore_n 3, 1) := by decide +kernel
theorem dX5_deriveTo_7 : decode cX5_deriveTo 7 = .ok (.iload_n 3, 1) := by decide +kernel
theorem dX5_deriveTo_8 : decode cX5_deriveTo 8 = .ok (.aload_n 0, 1) := by decide +kernel
theorem dX5_deriveTo_9 : decode cX5_deriveTo 9 = .ok (.getfield 21, 3) := by decide +kernel
theorem dX5_deriveTo_12 : decode cX5_deriveTo 12 = .ok (.iload_n 1, 1) := by decide +kernel
theorem dX5_deriveTo_13 : decode cX5_deriveTo 13 = .ok (.iaload, 1) := by decide +kernel
theorem dX5_deriveTo_14 : decode cX5_deriveTo 14 = .ok (.if_icmp .gt 47, 3) := by decide +kernel
theorem dX5_deriveTo_17 : decode cX5_deriveTo 17 = .ok (.aload_n 0, 1) := by decide +kernel
theorem dX5_deriveTo_18 : decode cX5_deriveTo 18 = .ok (.sipush 221, 3) := by decide +kernel
theorem dX5_deriveTo_21 : decode cX5_deriveTo 21 = .ok (.iload_n 3, 1) := by decide +kernel
theorem dX5_deriveTo_22 : decode cX5_deriveTo 22 = .ok (.i2l, 1) := by decide +kernel
theorem dX5_deriveTo_23 : decode cX5_deriveTo 23 = .ok (.invokevirtual 92, 3) := by decide +kernel
theorem dX5_deriveTo_26 : decode cX5_deriveTo 26 = .ok (.aload_n 0, 1) := by decide +kernel
theorem dX5_deriveTo_27 : decode cX5_deriveTo 27 = .ok (.sipush 219, 3) := by decide +kernel
theorem dX5_deriveTo_30 : decode cX5_deriveTo 30 = .ok (.iload_n 1, 1) := by decide +kernel
theorem dX5_deriveTo_31 : decode cX5_deriveTo 31 = .ok (.iload_n 3, 1) := by decide +kernel
theorem dX5_deriveTo_32 : decode cX5_deriveTo 32 = .ok (.invokestatic 66, 3) := by decide +kernel
theorem dX5_deriveTo_35 : decode cX5_deriveTo 35 = .ok (.sipush 221, 3) := by decide +kernel
theorem dX5_deriveTo_38 : decode cX5_deriveTo 38 = .ok (.invokevirtual 75, 3) := by decide +kernel
theorem dX5_deriveTo_41 : decode cX5_deriveTo 41 = .ok (.aload_n 0, 1) := by decide +kernel
theorem dX5_deriveTo_42 : decode cX5_deriveTo 42 = .ok (.sipush 219, 3) := by decide +kernel
theorem dX5_deriveTo_45 : decode cX5_deriveTo 45 = .ok (.iload_n 2, 1) := by decide +kernel
theorem dX5_deriveTo_46 : decode cX5_deriveTo 46 = .ok (.iload_n 3, 1) := by decide +kernel
theorem dX5_deriveTo_47 : decode cX5_deriveTo 47 = .ok (.iconst 1, 1) := by decide +kernel
theorem dX5_deriveTo_48 : decode cX5_deriveTo 48 = .ok (.isub, 1) := by decide +kernel
theorem dX5_deriveTo_49 : decode cX5_deriveTo 49 = .ok (.invokestatic 66, 3) := by decide +kernel
theorem dX5_deriveTo_52 : decode cX5_deriveTo 52 = .ok (.invokevirtual 33, 3) := by decide +kernel
theorem dX5_deriveTo_55 : decode cX5_deriveTo 55 = .ok (.iinc 3 1, 3) := by decide +kernel
theorem dX5_deriveTo_58 : decode cX5_deriveTo 58 = .ok (.goto (-51), 3) := by decide +kernel
theorem dX5_deriveTo_61 : decode cX5_deriveTo 61 = .ok (.aload_n 0, 1) := by decide +kernel
theorem dX5_deriveTo_62 : decode cX5_deriveTo 62 = .ok (.iload_n 2, 1) := by decide +kernel
theorem dX5_deriveTo_63 : decode cX5_deriveTo 63 = .ok (.invokevirtual 78, 3) := by decide +kernel
theorem dX5_deriveTo_66 : decode cX5_deriveTo 66 = .ok (.return_, 1) := by decide +kernel
theorem dX5_onceOf_0 : decode cX5_onceOf 0 = .ok (.aload_n 0, 1) := by decide +kernel
theorem dX5_onceOf_1 : decode cX5_onceOf 1 = .ok (.iload_n 1, 1) := by decide +kernel
theorem dX5_onceOf_2 : decode cX5_onceOf 2 = .ok (.bipush 18, 2) := by decide +kernel
theorem dX5_onceOf_4 : decode cX5_onceOf 4 = .ok (.invokevirtual 72, 3) := by decide +kernel
theorem dX5_onceOf_7 : decode cX5_onceOf 7 = .ok (.aload_n 0, 1) := by decide +kernel
theorem dX5_onceOf_8 : decode cX5_onceOf 8 = .ok (.bipush 18, 2) := by decide +kernel
theorem dX5_onceOf_10 : decode cX5_onceOf 10 = .ok (.bipush 19, 2) := by decide +kernel
theorem dX5_onceOf_12 : decode cX5_onceOf 12 = .ok (.invokevirtual 96, 3) := by decide +kernel
theorem dX5_onceOf_15 : decode cX5_onceOf 15 = .ok (.aload_n 0, 1) := by decide +kernel
theorem dX5_onceOf_16 : decode cX5_onceOf 16 = .ok (.invokevirtual 99, 3) := by decide +kernel
theorem dX5_onceOf_19 : decode cX5_onceOf 19 = .ok (.aload_n 0, 1) := by decide +kernel
theorem dX5_onceOf_20 : decode cX5_onceOf 20 = .ok (.bipush 18, 2) := by decide +kernel
theorem dX5_onceOf_22 : decode cX5_onceOf 22 = .ok (.bipush 22, 2) := by decide +kernel
theorem dX5_onceOf_24 : decode cX5_onceOf 24 = .ok (.invokevirtual 72, 3) := by decide +kernel
theorem dX5_onceOf_27 : decode cX5_onceOf 27 = .ok (.aload_n 0, 1) := by decide +kernel
theorem dX5_onceOf_28 : decode cX5_onceOf 28 = .ok (.iload_n 1, 1) := by decide +kernel
theorem dX5_onceOf_29 : decode cX5_onceOf 29 = .ok (.bipush 18, 2) := by decide +kernel
theorem dX5_onceOf_31 : decode cX5_onceOf 31 = .ok (.invokevirtual 72, 3) := by decide +kernel
theorem dX5_onceOf_34 : decode cX5_onceOf 34 = .ok (.aload_n 0, 1) := by decide +kernel
theorem dX5_onceOf_35 : decode cX5_onceOf 35 = .ok (.bipush 18, 2) := by decide +kernel
theorem dX5_onceOf_37 : decode cX5_onceOf 37 = .ok (.iconst 0, 1) := by decide +kernel
theorem dX5_onceOf_38 : decode cX5_onceOf 38 = .ok (.invokevirtual 81, 3) := by decide +kernel
theorem dX5_onceOf_41 : decode cX5_onceOf 41 = .ok (.aload_n 0, 1) := by decide +kernel
theorem dX5_onceOf_42 : decode cX5_onceOf 42 = .ok (.bipush 22, 2) := by decide +kernel
theorem dX5_onceOf_44 : decode cX5_onceOf 44 = .ok (.bipush 19, 2) := by decide +kernel
theorem dX5_onceOf_46 : decode cX5_onceOf 46 = .ok (.invokevirtual 72, 3) := by decide +kernel
theorem dX5_onceOf_49 : decode cX5_onceOf 49 = .ok (.aload_n 0, 1) := by decide +kernel
theorem dX5_onceOf_50 : decode cX5_onceOf 50 = .ok (.invokevirtual 102, 3) := by decide +kernel
theorem dX5_onceOf_53 : decode cX5_onceOf 53 = .ok (.pop, 1) := by decide +kernel
theorem dX5_onceOf_54 : decode cX5_onceOf 54 = .ok (.return_, 1) := by decide +kernel
theorem dX5_isRegister_0 : decode cX5_isRegister 0 = .ok (.iload_n 0, 1) := by decide +kernel
theorem dX5_isRegister_1 : decode cX5_isRegister 1 = .ok (.ifCond .lt 13, 3) := by decide +kernel
theorem dX5_isRegister_4 : decode cX5_isRegister 4 = .ok (.iload_n 0, 1) := by decide +kernel
theorem dX5_isRegister_5 : decode cX5_isRegister 5 = .ok (.bipush 8, 2) := by decide +kernel
theorem dX5_isRegister_7 : decode cX5_isRegister 7 = .ok (.if_icmp .ge 7, 3) := by decide +kernel
theorem dX5_isRegister_10 : decode cX5_isRegister 10 = .ok (.iconst 1, 1) := by decide +kernel
theorem dX5_isRegister_11 : decode cX5_isRegister 11 = .ok (.goto 4, 3) := by decide +kernel
theorem dX5_isRegister_14 : decode cX5_isRegister 14 = .ok (.iconst 0, 1) := by decide +kernel
theorem dX5_isRegister_15 : decode cX5_isRegister 15 = .ok (.ireturn, 1) := by decide +kernel
theorem dX5_isPower_0 : decode cX5_isPower 0 = .ok (.iload_n 0, 1) := by decide +kernel
theorem dX5_isPower_1 : decode cX5_isPower 1 = .ok (.ifCond .lt 13, 3) := by decide +kernel
theorem dX5_isPower_4 : decode cX5_isPower 4 = .ok (.iload_n 0, 1) := by decide +kernel
theorem dX5_isPower_5 : decode cX5_isPower 5 = .ok (.bipush 8, 2) := by decide +kernel
theorem dX5_isPower_7 : decode cX5_isPower 7 = .ok (.if_icmp .gt 7, 3) := by decide +kernel
theorem dX5_isPower_10 : decode cX5_isPower 10 = .ok (.iconst 1, 1) := by decide +kernel
theorem dX5_isPower_11 : decode cX5_isPower 11 = .ok (.goto 4, 3) := by decide +kernel
theorem dX5_isPower_14 : decode cX5_isPower 14 = .ok (.iconst 0, 1) := by decide +kernel
theorem dX5_isPower_15 : decode cX5_isPower 15 = .ok (.ireturn, 1) := by decide +kernel
theorem dX5_result_0 : decode cX5_result 0 = .ok (.iconst 0, 1) := by decide +kernel
theorem dX5_result_1 : decode cX5_result 1 = .ok (.istore_n 3, 1) := by decide +kernel
theorem dX5_result_2 : decode cX5_result 2 = .ok (.iload_n 3, 1) := by decide +kernel
theorem dX5_result_3 : decode cX5_result 3 = .ok (.bipush 9, 2) := by decide +kernel
theorem dX5_result_5 : decode cX5_result 5 = .ok (.if_icmp .ge 26, 3) := by decide +kernel
theorem dX5_result_8 : decode cX5_result 8 = .ok (.aload_n 0, 1) := by decide +kernel
theorem dX5_result_9 : decode cX5_result 9 = .ok (.iload_n 2, 1) := by decide +kernel
theorem dX5_result_10 : decode cX5_result 10 = .ok (.iload_n 3, 1) := by decide +kernel
theorem dX5_result_11 : decode cX5_result 11 = .ok (.invokestatic 66, 3) := by decide +kernel
theorem dX5_result_14 : decode cX5_result 14 = .ok (.invokevirtual 45, 3) := by decide +kernel
theorem dX5_result_17 : decode cX5_result 17 = .ok (.sipush 186, 3) := by decide +kernel
theorem dX5_result_20 : decode cX5_result 20 = .ok (.if_icmp .le 5, 3) := by decide +kernel
theorem dX5_result_23 : decode cX5_result 23 = .ok (.iconst 3, 1) := by decide +kernel
theorem dX5_result_24 : decode cX5_result 24 = .ok (.ireturn, 1) := by decide +kernel
theorem dX5_result_25 : decode cX5_result 25 = .ok (.iinc 3 1, 3) := by decide +kernel
theorem dX5_result_28 : decode cX5_result 28 = .ok (.goto (-26), 3) := by decide +kernel
theorem dX5_result_31 : decode cX5_result 31 = .ok (.aload_n 0, 1) := by decide +kernel
theorem dX5_result_32 : decode cX5_result 32 = .ok (.iload_n 2, 1) := by decide +kernel
theorem dX5_result_33 : decode cX5_result 33 = .ok (.iload_n 1, 1) := by decide +kernel
theorem dX5_result_34 : decode cX5_result 34 = .ok (.invokevirtual 72, 3) := by decide +kernel
theorem dX5_result_37 : decode cX5_result 37 = .ok (.aload_n 0, 1) := by decide +kernel
theorem dX5_result_38 : decode cX5_result 38 = .ok (.aload_n 0, 1) := by decide +kernel
theorem dX5_result_39 : decode cX5_result 39 = .ok (.getfield 24, 3) := by decide +kernel
theorem dX5_result_42 : decode cX5_result 42 = .ok (.iload_n 1, 1) := by decide +kernel
theorem dX5_result_43 : decode cX5_result 43 = .ok (.if_icmp .ne 7, 3) := by decide +kernel
theorem dX5_result_46 : decode cX5_result 46 = .ok (.iconst (-1), 1) := by decide +kernel
theorem dX5_result_47 : decode cX5_result 47 = .ok (.goto 7, 3) := by decide +kernel
theorem dX5_result_50 : decode cX5_result 50 = .ok (.aload_n 0, 1) := by decide +kernel
theorem dX5_result_51 : decode cX5_result 51 = .ok (.getfield 24, 3) := by decide +kernel
theorem dX5_result_54 : decode cX5_result 54 = .ok (.putfield 24, 3) := by decide +kernel
theorem dX5_result_57 : decode cX5_result 57 = .ok (.iconst 0, 1) := by decide +kernel
theorem dX5_result_58 : decode cX5_result 58 = .ok (.ireturn, 1) := by decide +kernel
theorem dX5_coefficient_0 : decode cX5_coefficient 0 = .ok (.aload_n 0, 1) := by decide +kernel
theorem dX5_coefficient_1 : decode cX5_coefficient 1 = .ok (.iconst (-1), 1) := by decide +kernel
theorem dX5_coefficient_2 : decode cX5_coefficient 2 = .ok (.putfield 24, 3) := by decide +kernel
theorem dX5_coefficient_5 : decode cX5_coefficient 5 = .ok (.iload_n 1, 1) := by decide +kernel
theorem dX5_coefficient_6 : decode cX5_coefficient 6 = .ok (.invokestatic 106, 3) := by decide +kernel
theorem dX5_coefficient_9 : decode cX5_coefficient 9 = .ok (.ifCond .eq 10, 3) := by decide +kernel
theorem dX5_coefficient_12 : decode cX5_coefficient 12 = .ok (.iload_n 2, 1) := by decide +kernel
theorem dX5_coefficient_13 : decode cX5_coefficient 13 = .ok (.invokestatic 110, 3) := by decide +kernel
theorem dX5_coefficient_16 : decode cX5_coefficient 16 = .ok (.ifCond .ne 5, 3) := by decide +kernel
theorem dX5_coefficient_19 : decode cX5_coefficient 19 = .ok (.iconst 0, 1) := by decide +kernel
theorem dX5_coefficient_20 : decode cX5_coefficient 20 = .ok (.ireturn, 1) := by decide +kernel
theorem dX5_coefficient_21 : decode cX5_coefficient 21 = .ok (.aload_n 0, 1) := by decide +kernel
theorem dX5_coefficient_22 : decode cX5_coefficient 22 = .ok (.iload_n 1, 1) := by decide +kernel
theorem dX5_coefficient_23 : decode cX5_coefficient 23 = .ok (.putfield 24, 3) := by decide +kernel
theorem dX5_coefficient_26 : decode cX5_coefficient 26 = .ok (.aload_n 0, 1) := by decide +kernel
theorem dX5_coefficient_27 : decode cX5_coefficient 27 = .ok (.iload_n 2, 1) := by decide +kernel
theorem dX5_coefficient_28 : decode cX5_coefficient 28 = .ok (.putfield 113, 3) := by decide +kernel
theorem dX5_coefficient_31 : decode cX5_coefficient 31 = .ok (.aload_n 0, 1) := by decide +kernel
theorem dX5_coefficient_32 : decode cX5_coefficient 32 = .ok (.iload_n 3, 1) := by decide +kernel
theorem dX5_coefficient_33 : decode cX5_coefficient 33 = .ok (.ifCond .ge 7, 3) := by decide +kernel
theorem dX5_coefficient_36 : decode cX5_coefficient 36 = .ok (.iconst (-1), 1) := by decide +kernel
theorem dX5_coefficient_37 : decode cX5_coefficient 37 = .ok (.goto 4, 3) := by decide +kernel
theorem dX5_coefficient_40 : decode cX5_coefficient 40 = .ok (.iconst 1, 1) := by decide +kernel
theorem dX5_coefficient_41 : decode cX5_coefficient 41 = .ok (.putfield 116, 3) := by decide +kernel
theorem dX5_coefficient_44 : decode cX5_coefficient 44 = .ok (.aload_n 0, 1) := by decide +kernel
theorem dX5_coefficient_45 : decode cX5_coefficient 45 = .ok (.iconst 0, 1) := by decide +kernel
theorem dX5_coefficient_46 : decode cX5_coefficient 46 = .ok (.putfield 119, 3) := by decide +kernel
theorem dX5_coefficient_49 : decode cX5_coefficient 49 = .ok (.aload_n 0, 1) := by decide +kernel
theorem dX5_coefficient_50 : decode cX5_coefficient 50 = .ok (.iload_n 1, 1) := by decide +kernel
theorem dX5_coefficient_51 : decode cX5_coefficient 51 = .ok (.iload_n 2, 1) := by decide +kernel
theorem dX5_coefficient_52 : decode cX5_coefficient 52 = .ok (.invokestatic 66, 3) := by decide +kernel
theorem dX5_coefficient_55 : decode cX5_coefficient 55 = .ok (.invokevirtual 49, 3) := by decide +kernel
theorem dX5_coefficient_58 : decode cX5_coefficient 58 = .ok (.aload_n 0, 1) := by decide +kernel
theorem dX5_coefficient_59 : decode cX5_coefficient 59 = .ok (.iload_n 1, 1) := by decide +kernel
theorem dX5_coefficient_60 : decode cX5_coefficient 60 = .ok (.invokevirtual 78, 3) := by decide +kernel
theorem dX5_coefficient_63 : decode cX5_coefficient 63 = .ok (.iconst 1, 1) := by decide +kernel
theorem dX5_coefficient_64 : decode cX5_coefficient 64 = .ok (.ireturn, 1) := by decide +kernel
theorem dX5_word_0 : decode cX5_word 0 = .ok (.aload_n 0, 1) := by decide +kernel
theorem dX5_word_1 : decode cX5_word 1 = .ok (.getfield 24, 3) := by decide +kernel
theorem dX5_word_4 : decode cX5_word 4 = .ok (.iconst (-1), 1) := by decide +kernel
theorem dX5_word_5 : decode cX5_word 5 = .ok (.if_icmp .eq 16, 3) := by decide +kernel
theorem dX5_word_8 : decode cX5_word 8 = .ok (.iload_n 1, 1) := by decide +kernel
theorem dX5_word_9 : decode cX5_word 9 = .ok (.ifCond .lt 12, 3) := by decide +kernel
theorem dX5_word_12 : decode cX5_word 12 = .ok (.aload_n 0, 1) := by decide +kernel
theorem dX5_word_13 : decode cX5_word 13 = .ok (.getfield 119, 3) := by decide +kernel
theorem dX5_word_16 : decode cX5_word 16 = .ok (.bipush 6, 2) := by decide +kernel
theorem dX5_word_18 : decode cX5_word 18 = .ok (.if_icmp .ne 5, 3) := by decide +kernel
theorem dX5_word_21 : decode cX5_word 21 = .ok (.iconst 0, 1) := by decide +kernel
theorem dX5_word_22 : decode cX5_word 22 = .ok (.ireturn, 1) := by decide +kernel
theorem dX5_word_23 : decode cX5_word 23 = .ok (.aload_n 0, 1) := by decide +kernel
theorem dX5_word_24 : decode cX5_word 24 = .ok (.getfield 28, 3) := by decide +kernel
theorem dX5_word_27 : decode cX5_word 27 = .ok (.aload_n 0, 1) := by decide +kernel
theorem dX5_word_28 : decode cX5_word 28 = .ok (.getfield 119, 3) := by decide +kernel
theorem dX5_word_31 : decode cX5_word 31 = .ok (.iload_n 1, 1) := by decide +kernel
theorem dX5_word_32 : decode cX5_word 32 = .ok (.iastore, 1) := by decide +kernel
theorem dX5_word_33 : decode cX5_word 33 = .ok (.aload_n 0, 1) := by decide +kernel
theorem dX5_word_34 : decode cX5_word 34 = .ok (.dup, 1) := by decide +kernel
theorem dX5_word_35 : decode cX5_word 35 = .ok (.getfield 119, 3) := by decide +kernel
theorem dX5_word_38 : decode cX5_word 38 = .ok (.iconst 1, 1) := by decide +kernel
theorem dX5_word_39 : decode cX5_word 39 = .ok (.iadd, 1) := by decide +kernel
theorem dX5_word_40 : decode cX5_word 40 = .ok (.putfield 119, 3) := by decide +kernel
theorem dX5_word_43 : decode cX5_word 43 = .ok (.aload_n 0, 1) := by decide +kernel
theorem dX5_word_44 : decode cX5_word 44 = .ok (.getfield 24, 3) := by decide +kernel
theorem dX5_word_47 : decode cX5_word 47 = .ok (.aload_n 0, 1) := by decide +kernel
theorem dX5_word_48 : decode cX5_word 48 = .ok (.getfield 113, 3) := by decide +kernel
theorem dX5_word_51 : decode cX5_word 51 = .ok (.invokestatic 66, 3) := by decide +kernel
theorem dX5_word_54 : decode cX5_word 54 = .ok (.istore_n 2, 1) := by decide +kernel
theorem dX5_word_55 : decode cX5_word 55 = .ok (.aload_n 0, 1) := by decide +kernel
theorem dX5_word_56 : decode cX5_word 56 = .ok (.iload_n 2, 1) := by decide +kernel
theorem dX5_word_57 : decode cX5_word 57 = .ok (.invokevirtual 49, 3) := by decide +kernel
theorem dX5_word_60 : decode cX5_word 60 = .ok (.aload_n 0, 1) := by decide +kernel
theorem dX5_word_61 : decode cX5_word 61 = .ok (.getfield 119, 3) := by decide +kernel
theorem dX5_word_64 : decode cX5_word 64 = .ok (.iconst 1, 1) := by decide +kernel
theorem dX5_word_65 : decode cX5_word 65 = .ok (.isub, 1) := by decide +kernel
theorem dX5_word_66 : decode cX5_word 66 = .ok (.istore_n 3, 1) := by decide +kernel
theorem dX5_word_67 : decode cX5_word 67 = .ok (.iload_n 3, 1) := by decide +kernel
theorem dX5_word_68 : decode cX5_word 68 = .ok (.ifCond .lt 49, 3) := by decide +kernel
theorem dX5_word_71 : decode cX5_word 71 = .ok (.aload_n 0, 1) := by decide +kernel
theorem dX5_word_72 : decode cX5_word 72 = .ok (.getfield 14, 3) := by decide +kernel
theorem dX5_word_75 : decode cX5_word 75 = .ok (.iload_n 2, 1) := by decide +kernel
theorem dX5_word_76 : decode cX5_word 76 = .ok (.iaload, 1) := by decide +kernel
theorem dX5_word_77 : decode cX5_word 77 = .ok (.ifCond .le 10, 3) := by decide +kernel
theorem dX5_word_80 : decode cX5_word 80 = .ok (.aload_n 0, 1) := by decide +kernel
theorem dX5_word_81 : decode cX5_word 81 = .ok (.iload_n 2, 1) := by decide +kernel
theorem dX5_word_82 : decode cX5_word 82 = .ok (.bipush 31, 2) := by decide +kernel
theorem dX5_word_84 : decode cX5_word 84 = .ok (.invokevirtual 52, 3) := by decide +kernel
theorem dX5_word_87 : decode cX5_word 87 = .ok (.aload_n 0, 1) := by decide +kernel
theorem dX5_word_88 : decode cX5_word 88 = .ok (.sipush 216, 3) := by decide +kernel
theorem dX5_word_91 : decode cX5_word 91 = .ok (.aload_n 0, 1) := by decide +kernel
theorem dX5_word_92 : decode cX5_word 92 = .ok (.getfield 28, 3) := by decide +kernel
theorem dX5_word_95 : decode cX5_word 95 = .ok (.iload_n 3, 1) := by decide +kernel
theorem dX5_word_96 : decode cX5_word 96 = .ok (.iaload, 1) := by decide +kernel
theorem dX5_word_97 : decode cX5_word 97 = .ok (.i2l, 1) := by decide +kernel
theorem dX5_word_98 : decode cX5_word 98 = .ok (.invokevirtual 92, 3) := by decide +kernel
theorem dX5_word_101 : decode cX5_word 101 = .ok (.aload_n 0, 1) := by decide +kernel
theorem dX5_word_102 : decode cX5_word 102 = .ok (.iload_n 2, 1) := by decide +kernel
theorem dX5_word_103 : decode cX5_word 103 = .ok (.iload_n 2, 1) := by decide +kernel
theorem dX5_word_104 : decode cX5_word 104 = .ok (.sipush 216, 3) := by decide +kernel
theorem dX5_word_107 : decode cX5_word 107 = .ok (.iconst 1, 1) := by decide +kernel
theorem dX5_word_108 : decode cX5_word 108 = .ok (.invokevirtual 55, 3) := by decide +kernel
theorem dX5_word_111 : decode cX5_word 111 = .ok (.iinc 3 (-1), 3) := by decide +kernel
theorem dX5_word_114 : decode cX5_word 114 = .ok (.goto (-47), 3) := by decide +kernel
theorem dX5_word_117 : decode cX5_word 117 = .ok (.aload_n 0, 1) := by decide +kernel
theorem dX5_word_118 : decode cX5_word 118 = .ok (.getfield 18, 3) := by decide +kernel
theorem dX5_word_121 : decode cX5_word 121 = .ok (.iload_n 2, 1) := by decide +kernel
theorem dX5_word_122 : decode cX5_word 122 = .ok (.aload_n 0, 1) := by decide +kernel
theorem dX5_word_123 : decode cX5_word 123 = .ok (.getfield 14, 3) := by decide +kernel
theorem dX5_word_126 : decode cX5_word 126 = .ok (.iload_n 2, 1) := by decide +kernel
theorem dX5_word_127 : decode cX5_word 127 = .ok (.iaload, 1) := by decide +kernel
theorem dX5_word_128 : decode cX5_word 128 = .ok (.ifCond .ne 7, 3) := by decide +kernel
theorem dX5_word_131 : decode cX5_word 131 = .ok (.iconst 0, 1) := by decide +kernel
theorem dX5_word_132 : decode cX5_word 132 = .ok (.goto 7, 3) := by decide +kernel
theorem dX5_word_135 : decode cX5_word 135 = .ok (.aload_n 0, 1) := by decide +kernel
theorem dX5_word_136 : decode cX5_word 136 = .ok (.getfield 116, 3) := by decide +kernel
theorem dX5_word_139 : decode cX5_word 139 = .ok (.iastore, 1) := by decide +kernel
theorem dX5_word_140 : decode cX5_word 140 = .ok (.aload_n 0, 1) := by decide +kernel
theorem dX5_word_141 : decode cX5_word 141 = .ok (.aload_n 0, 1) := by decide +kernel
theorem dX5_word_142 : decode cX5_word 142 = .ok (.getfield 24, 3) := by decide +kernel
theorem dX5_word_145 : decode cX5_word 145 = .ok (.invokevirtual 78, 3) := by decide +kernel
theorem dX5_word_148 : decode cX5_word 148 = .ok (.iconst 1, 1) := by decide +kernel
theorem dX5_word_149 : decode cX5_word 149 = .ok (.ireturn, 1) := by decide +kernel
theorem dX5_add_0 : decode cX5_add 0 = .ok (.iload_n 1, 1) := by decide +kernel
theorem dX5_add_1 : decode cX5_add 1 = .ok (.invokestatic 106, 3) := by decide +kernel
theorem dX5_add_4 : decode cX5_add 4 = .ok (.ifCond .eq 17, 3) := by decide +kernel
theorem dX5_add_7 : decode cX5_add 7 = .ok (.iload_n 2, 1) := by decide +kernel
theorem dX5_add_8 : decode cX5_add 8 = .ok (.invokestatic 106, 3) := by decide +kernel
theorem dX5_add_11 : decode cX5_add 11 = .ok (.ifCond .eq 10, 3) := by decide +kernel
theorem dX5_add_14 : decode cX5_add 14 = .ok (.iload_n 3, 1) := by decide +kernel
theorem dX5_add_15 : decode cX5_add 15 = .ok (.invokestatic 106, 3) := by decide +kernel
theorem dX5_add_18 : decode cX5_add 18 = .ok (.ifCond .ne 5, 3) := by decide +kernel
theorem dX5_add_21 : decode cX5_add 21 = .ok (.iconst 1, 1) := by decide +kernel
theorem dX5_add_22 : decode cX5_add 22 = .ok (.ireturn, 1) := by decide +kernel
theorem dX5_add_23 : decode cX5_add 23 = .ok (.iconst 0, 1) := by decide +kernel
theorem dX5_add_24 : decode cX5_add 24 = .ok (.istore 5, 2) := by decide +kernel
theorem dX5_add_26 : decode cX5_add 26 = .ok (.iload 5, 2) := by decide +kernel
theorem dX5_add_28 : decode cX5_add 28 = .ok (.bipush 9, 2) := by decide +kernel
theorem dX5_add_30 : decode cX5_add 30 = .ok (.if_icmp .ge 42, 3) := by decide +kernel
theorem dX5_add_33 : decode cX5_add 33 = .ok (.aload_n 0, 1) := by decide +kernel
theorem dX5_add_34 : decode cX5_add 34 = .ok (.bipush 23, 2) := by decide +kernel
theorem dX5_add_36 : decode cX5_add 36 = .ok (.iload 5, 2) := by decide +kernel
theorem dX5_add_38 : decode cX5_add 38 = .ok (.invokestatic 66, 3) := by decide +kernel
theorem dX5_add_41 : decode cX5_add 41 = .ok (.iload_n 2, 1) := by decide +kernel
theorem dX5_add_42 : decode cX5_add 42 = .ok (.iload 5, 2) := by decide +kernel
theorem dX5_add_44 : decode cX5_add 44 = .ok (.invokestatic 66, 3) := by decide +kernel
theorem dX5_add_47 : decode cX5_add 47 = .ok (.iload_n 3, 1) := by decide +kernel
theorem dX5_add_48 : decode cX5_add 48 = .ok (.iload 5, 2) := by decide +kernel
theorem dX5_add_50 : decode cX5_add 50 = .ok (.invokestatic 66, 3) := by decide +kernel
theorem dX5_add_53 : decode cX5_add 53 = .ok (.iload 4, 2) := by decide +kernel
theorem dX5_add_55 : decode cX5_add 55 = .ok (.ifCond .eq 7, 3) := by decide +kernel
theorem dX5_add_58 : decode cX5_add 58 = .ok (.iconst (-1), 1) := by decide +kernel
theorem dX5_add_59 : decode cX5_add 59 = .ok (.goto 4, 3) := by decide +kernel
theorem dX5_add_62 : decode cX5_add 62 = .ok (.iconst 1, 1) := by decide +kernel
theorem dX5_add_63 : decode cX5_add 63 = .ok (.invokevirtual 55, 3) := by decide +kernel
theorem dX5_add_66 : decode cX5_add 66 = .ok (.iinc 5 1, 3) := by decide +kernel
theorem dX5_add_69 : decode cX5_add 69 = .ok (.goto (-43), 3) := by decide +kernel
theorem dX5_add_72 : decode cX5_add 72 = .ok (.aload_n 0, 1) := by decide +kernel
theorem dX5_add_73 : decode cX5_add 73 = .ok (.bipush 23, 2) := by decide +kernel
theorem dX5_add_75 : decode cX5_add 75 = .ok (.invokevirtual 78, 3) := by decide +kernel
theorem dX5_add_78 : decode cX5_add 78 = .ok (.aload_n 0, 1) := by decide +kernel
theorem dX5_add_79 : decode cX5_add 79 = .ok (.iload_n 1, 1) := by decide +kernel
theorem dX5_add_80 : decode cX5_add 80 = .ok (.bipush 23, 2) := by decide +kernel
theorem dX5_add_82 : decode cX5_add 82 = .ok (.invokevirtual 122, 3) := by decide +kernel
theorem dX5_add_85 : decode cX5_add 85 = .ok (.ireturn, 1) := by decide +kernel
theorem dX5_multiply_0 : decode cX5_multiply 0 = .ok (.iload_n 1, 1) := by decide +kernel
theorem dX5_multiply_1 : decode cX5_multiply 1 = .ok (.invokestatic 106, 3) := by decide +kernel
theorem dX5_multiply_4 : decode cX5_multiply 4 = .ok (.ifCond .eq 17, 3) := by decide +kernel
theorem dX5_multiply_7 : decode cX5_multiply 7 = .ok (.iload_n 2, 1) := by decide +kernel
theorem dX5_multiply_8 : decode cX5_multiply 8 = .ok (.invokestatic 106, 3) := by decide +kernel
theorem dX5_multiply_11 : decode cX5_multiply 11 = .ok (.ifCond .eq 10, 3) := by decide +kernel
theorem dX5_multiply_14 : decode cX5_multiply 14 = .ok (.iload_n 3, 1) := by decide +kernel
theorem dX5_multiply_15 : decode cX5_multiply 15 = .ok (.invokestatic 106, 3) := by decide +kernel
theorem dX5_multiply_18 : decode cX5_multiply 18 = .ok (.ifCond .ne 5, 3) := by decide +kernel
theorem dX5_multiply_21 : decode cX5_multiply 21 = .ok (.iconst 1, 1) := by decide +kernel
theorem dX5_multiply_22 : decode cX5_multiply 22 = .ok (.ireturn, 1) := by decide +kernel
theorem dX5_multiply_23 : decode cX5_multiply 23 = .ok (.aload_n 0, 1) := by decide +kernel
theorem dX5_multiply_24 : decode cX5_multiply 24 = .ok (.bipush 23, 2) := by decide +kernel
theorem dX5_multiply_26 : decode cX5_multiply 26 = .ok (.invokevirtual 85, 3) := by decide +kernel
theorem dX5_multiply_29 : decode cX5_multiply 29 = .ok (.aload_n 0, 1) := by decide +kernel
theorem dX5_multiply_30 : decode cX5_multiply 30 = .ok (.getfield 21, 3) := by decide +kernel
theorem dX5_multiply_33 : decode cX5_multiply 33 = .ok (.iload_n 2, 1) := by decide +kernel
theorem dX5_multiply_34 : decode cX5_multiply 34 = .ok (.iaload, 1) := by decide +kernel
theorem dX5_multiply_35 : decode cX5_multiply 35 = .ok (.ifCond .lt 32, 3) := by decide +kernel
theorem dX5_multiply_38 : decode cX5_multiply 38 = .ok (.aload_n 0, 1) := by decide +kernel
theorem dX5_multiply_39 : decode cX5_multiply 39 = .ok (.getfield 21, 3) := by decide +kernel
theorem dX5_multiply_42 : decode cX5_multiply 42 = .ok (.iload_n 3, 1) := by decide +kernel
theorem dX5_multiply_43 : decode cX5_multiply 43 = .ok (.iaload, 1) := by decide +kernel
theorem dX5_multiply_44 : decode cX5_multiply 44 = .ok (.ifCond .lt 23, 3) := by decide +kernel
theorem dX5_multiply_47 : decode cX5_multiply 47 = .ok (.aload_n 0, 1) := by decide +kernel
theorem dX5_multiply_48 : decode cX5_multiply 48 = .ok (.getfield 21, 3) := by decide +kernel
theorem dX5_multiply_51 : decode cX5_multiply 51 = .ok (.iload_n 2, 1) := by decide +kernel
theorem dX5_multiply_52 : decode cX5_multiply 52 = .ok (.iaload, 1) := by decide +kernel
theorem dX5_multiply_53 : decode cX5_multiply 53 = .ok (.aload_n 0, 1) := by decide +kernel
theorem dX5_multiply_54 : decode cX5_multiply 54 = .ok (.getfield 21, 3) := by decide +kernel
theorem dX5_multiply_57 : decode cX5_multiply 57 = .ok (.iload_n 3, 1) := by decide +kernel
theorem dX5_multiply_58 : decode cX5_multiply 58 = .ok (.iaload, 1) := by decide +kernel
theorem dX5_multiply_59 : decode cX5_multiply 59 = .ok (.iadd, 1) := by decide +kernel
theorem dX5_multiply_60 : decode cX5_multiply 60 = .ok (.bipush 8, 2) := by decide +kernel
theorem dX5_multiply_62 : decode cX5_multiply 62 = .ok (.if_icmp .le 5, 3) := by decide +kernel
theorem dX5_multiply_65 : decode cX5_multiply 65 = .ok (.iconst 3, 1) := by decide +kernel
theorem dX5_multiply_66 : decode cX5_multiply 66 = .ok (.ireturn, 1) := by decide +kernel
theorem dX5_multiply_67 : decode cX5_multiply 67 = .ok (.iconst 0, 1) := by decide +kernel
theorem dX5_multiply_68 : decode cX5_multiply 68 = .ok (.istore 4, 2) := by decide +kernel
theorem dX5_multiply_70 : decode cX5_multiply 70 = .ok (.iload 4, 2) := by decide +kernel
theorem dX5_multiply_72 : decode cX5_multiply 72 = .ok (.aload_n 0, 1) := by decide +kernel
theorem dX5_multiply_73 : decode cX5_multiply 73 = .ok (.getfield 21, 3) := by decide +kernel
theorem dX5_multiply_76 : decode cX5_multiply 76 = .ok (.iload_n 2, 1) := by decide +kernel
theorem dX5_multiply_77 : decode cX5_multiply 77 = .ok (.iaload, 1) := by decide +kernel
theorem dX5_multiply_78 : decode cX5_multiply 78 = .ok (.if_icmp .gt 76, 3) := by decide +kernel
theorem dX5_multiply_81 : decode cX5_multiply 81 = .ok (.iconst 0, 1) := by decide +kernel
theorem dX5_multiply_82 : decode cX5_multiply 82 = .ok (.istore 5, 2) := by decide +kernel
theorem dX5_multiply_84 : decode cX5_multiply 84 = .ok (.iload 5, 2) := by decide +kernel
theorem dX5_multiply_86 : decode cX5_multiply 86 = .ok (.aload_n 0, 1) := by decide +kernel
theorem dX5_multiply_87 : decode cX5_multiply 87 = .ok (.getfield 21, 3) := by decide +kernel
theorem dX5_multiply_90 : decode cX5_multiply 90 = .ok (.iload_n 3, 1) := by decide +kernel
theorem dX5_multiply_91 : decode cX5_multiply 91 = .ok (.iaload, 1) := by decide +kernel
theorem dX5_multiply_92 : decode cX5_multiply 92 = .ok (.if_icmp .gt 56, 3) := by decide +kernel
theorem dX5_multiply_95 : decode cX5_multiply 95 = .ok (.aload_n 0, 1) := by decide +kernel
theorem dX5_multiply_96 : decode cX5_multiply 96 = .ok (.sipush 219, 3) := by decide +kernel
theorem dX5_multiply_99 : decode cX5_multiply 99 = .ok (.iload_n 2, 1) := by decide +kernel
theorem dX5_multiply_100 : decode cX5_multiply 100 = .ok (.iload 4, 2) := by decide +kernel
theorem dX5_multiply_102 : decode cX5_multiply 102 = .ok (.invokestatic 66, 3) := by decide +kernel
theorem dX5_multiply_105 : decode cX5_multiply 105 = .ok (.iload_n 3, 1) := by decide +kernel
theorem dX5_multiply_106 : decode cX5_multiply 106 = .ok (.iload 5, 2) := by decide +kernel
theorem dX5_multiply_108 : decode cX5_multiply 108 = .ok (.invokestatic 66, 3) := by decide +kernel
theorem dX5_multiply_111 : decode cX5_multiply 111 = .ok (.invokevirtual 75, 3) := by decide +kernel
theorem dX5_multiply_114 : decode cX5_multiply 114 = .ok (.aload_n 0, 1) := by decide +kernel
theorem dX5_multiply_115 : decode cX5_multiply 115 = .ok (.bipush 23, 2) := by decide +kernel
theorem dX5_multiply_117 : decode cX5_multiply 117 = .ok (.iload 4, 2) := by decide +kernel
theorem dX5_multiply_119 : decode cX5_multiply 119 = .ok (.iload 5, 2) := by decide +kernel
theorem dX5_multiply_121 : decode cX5_multiply 121 = .ok (.iadd, 1) := by decide +kernel
theorem dX5_multiply_122 : decode cX5_multiply 122 = .ok (.invokestatic 66, 3) := by decide +kernel
theorem dX5_multiply_125 : decode cX5_multiply 125 = .ok (.bipush 23, 2) := by decide +kernel
theorem dX5_multiply_127 : decode cX5_multiply 127 = .ok (.iload 4, 2) := by decide +kernel
theorem dX5_multiply_129 : decode cX5_multiply 129 = .ok (.iload 5, 2) := by decide +kernel
theorem dX5_multiply_131 : decode cX5_multiply 131 = .ok (.iadd, 1) := by decide +kernel
theorem dX5_multiply_132 : decode cX5_multiply 132 = .ok (.invokestatic 66, 3) := by decide +kernel
theorem dX5_multiply_135 : decode cX5_multiply 135 = .ok (.sipush 219, 3) := by decide +kernel
theorem dX5_multiply_138 : decode cX5_multiply 138 = .ok (.iconst 1, 1) := by decide +kernel
theorem dX5_multiply_139 : decode cX5_multiply 139 = .ok (.invokevirtual 55, 3) := by decide +kernel
theorem dX5_multiply_142 : decode cX5_multiply 142 = .ok (.iinc 5 1, 3) := by decide +kernel
theorem dX5_multiply_145 : decode cX5_multiply 145 = .ok (.goto (-61), 3) := by decide +kernel
theorem dX5_multiply_148 : decode cX5_multiply 148 = .ok (.iinc 4 1, 3) := by decide +kernel
theorem dX5_multiply_151 : decode cX5_multiply 151 = .ok (.goto (-81), 3) := by decide +kernel
theorem dX5_multiply_154 : decode cX5_multiply 154 = .ok (.aload_n 0, 1) := by decide +kernel
theorem dX5_multiply_155 : decode cX5_multiply 155 = .ok (.bipush 23, 2) := by decide +kernel
theorem dX5_multiply_157 : decode cX5_multiply 157 = .ok (.invokevirtual 78, 3) := by decide +kernel
theorem dX5_multiply_160 : decode cX5_multiply 160 = .ok (.aload_n 0, 1) := by decide +kernel
theorem dX5_multiply_161 : decode cX5_multiply 161 = .ok (.iload_n 1, 1) := by decide +kernel
theorem dX5_multiply_162 : decode cX5_multiply 162 = .ok (.bipush 23, 2) := by decide +kernel
theorem dX5_multiply_164 : decode cX5_multiply 164 = .ok (.invokevirtual 122, 3) := by decide +kernel
theorem dX5_multiply_167 : decode cX5_multiply 167 = .ok (.ireturn, 1) := by decide +kernel
theorem dX5_derive_0 : decode cX5_derive 0 = .ok (.iload_n 1, 1) := by decide +kernel
theorem dX5_derive_1 : decode cX5_derive 1 = .ok (.invokestatic 106, 3) := by decide +kernel
theorem dX5_derive_4 : decode cX5_derive 4 = .ok (.ifCond .eq 10, 3) := by decide +kernel
theorem dX5_derive_7 : decode cX5_derive 7 = .ok (.iload_n 2, 1) := by decide +kernel
theorem dX5_derive_8 : decode cX5_derive 8 = .ok (.invokestatic 106, 3) := by decide +kernel
theorem dX5_derive_11 : decode cX5_derive 11 = .ok (.ifCond .ne 5, 3) := by decide +kernel
theorem dX5_derive_14 : decode cX5_derive 14 = .ok (.iconst 1, 1) := by decide +kernel
theorem dX5_derive_15 : decode cX5_derive 15 = .ok (.ireturn, 1) := by decide +kernel
theorem dX5_derive_16 : decode cX5_derive 16 = .ok (.aload_n 0, 1) := by decide +kernel
theorem dX5_derive_17 : decode cX5_derive 17 = .ok (.iload_n 2, 1) := by decide +kernel
theorem dX5_derive_18 : decode cX5_derive 18 = .ok (.bipush 23, 2) := by decide +kernel
theorem dX5_derive_20 : decode cX5_derive 20 = .ok (.invokevirtual 96, 3) := by decide +kernel
theorem dX5_derive_23 : decode cX5_derive 23 = .ok (.aload_n 0, 1) := by decide +kernel
theorem dX5_derive_24 : decode cX5_derive 24 = .ok (.iload_n 1, 1) := by decide +kernel
theorem dX5_derive_25 : decode cX5_derive 25 = .ok (.bipush 23, 2) := by decide +kernel
theorem dX5_derive_27 : decode cX5_derive 27 = .ok (.invokevirtual 122, 3) := by decide +kernel
theorem dX5_derive_30 : decode cX5_derive 30 = .ok (.ireturn, 1) := by decide +kernel
theorem dX5_shift_0 : decode cX5_shift 0 = .ok (.iload_n 1, 1) := by decide +kernel
theorem dX5_shift_1 : decode cX5_shift 1 = .ok (.invokestatic 106, 3) := by decide +kernel
theorem dX5_shift_4 : decode cX5_shift 4 = .ok (.ifCond .eq 10, 3) := by decide +kernel
theorem dX5_shift_7 : decode cX5_shift 7 = .ok (.iload_n 2, 1) := by decide +kernel
theorem dX5_shift_8 : decode cX5_shift 8 = .ok (.invokestatic 106, 3) := by decide +kernel
theorem dX5_shift_11 : decode cX5_shift 11 = .ok (.ifCond .ne 5, 3) := by decide +kernel
theorem dX5_shift_14 : decode cX5_shift 14 = .ok (.iconst 1, 1) := by decide +kernel
theorem dX5_shift_15 : decode cX5_shift 15 = .ok (.ireturn, 1) := by decide +kernel
theorem dX5_shift_16 : decode cX5_shift 16 = .ok (.aload_n 0, 1) := by decide +kernel
theorem dX5_shift_17 : decode cX5_shift 17 = .ok (.bipush 23, 2) := by decide +kernel
theorem dX5_shift_19 : decode cX5_shift 19 = .ok (.invokevirtual 85, 3) := by decide +kernel
theorem dX5_shift_22 : decode cX5_shift 22 = .ok (.aload_n 0, 1) := by decide +kernel
theorem dX5_shift_23 : decode cX5_shift 23 = .ok (.sipush 221, 3) := by decide +kernel
theorem dX5_shift_26 : decode cX5_shift 26 = .ok (.iload_n 3, 1) := by decide +kernel
theorem dX5_shift_27 : decode cX5_shift 27 = .ok (.i2l, 1) := by decide +kernel
theorem dX5_shift_28 : decode cX5_shift 28 = .ok (.invokevirtual 92, 3) := by decide +kernel
theorem dX5_shift_31 : decode cX5_shift 31 = .ok (.aload_n 0, 1) := by decide +kernel
theorem dX5_shift_32 : decode cX5_shift 32 = .ok (.getfield 21, 3) := by decide +kernel
theorem dX5_shift_35 : decode cX5_shift 35 = .ok (.iload_n 2, 1) := by decide +kernel
theorem dX5_shift_36 : decode cX5_shift 36 = .ok (.iaload, 1) := by decide +kernel
theorem dX5_shift_37 : decode cX5_shift 37 = .ok (.istore 4, 2) := by decide +kernel
theorem dX5_shift_39 : decode cX5_shift 39 = .ok (.iload 4, 2) := by decide +kernel
theorem dX5_shift_41 : decode cX5_shift 41 = .ok (.ifCond .lt 111, 3) := by decide +kernel
theorem dX5_shift_44 : decode cX5_shift 44 = .ok (.bipush 8, 2) := by decide +kernel
theorem dX5_shift_46 : decode cX5_shift 46 = .ok (.istore 5, 2) := by decide +kernel
theorem dX5_shift_48 : decode cX5_shift 48 = .ok (.iload 5, 2) := by decide +kernel
theorem dX5_shift_50 : decode cX5_shift 50 = .ok (.ifCond .lt 73, 3) := by decide +kernel
theorem dX5_shift_53 : decode cX5_shift 53 = .ok (.aload_n 0, 1) := by decide +kernel
theorem dX5_shift_54 : decode cX5_shift 54 = .ok (.sipush 219, 3) := by decide +kernel
theorem dX5_shift_57 : decode cX5_shift 57 = .ok (.bipush 23, 2) := by decide +kernel
theorem dX5_shift_59 : decode cX5_shift 59 = .ok (.iload 5, 2) := by decide +kernel
theorem dX5_shift_61 : decode cX5_shift 61 = .ok (.invokestatic 66, 3) := by decide +kernel
theorem dX5_shift_64 : decode cX5_shift 64 = .ok (.sipush 221, 3) := by decide +kernel
theorem dX5_shift_67 : decode cX5_shift 67 = .ok (.invokevirtual 75, 3) := by decide +kernel
theorem dX5_shift_70 : decode cX5_shift 70 = .ok (.aload_n 0, 1) := by decide +kernel
theorem dX5_shift_71 : decode cX5_shift 71 = .ok (.sipush 219, 3) := by decide +kernel
theorem dX5_shift_74 : decode cX5_shift 74 = .ok (.bipush 23, 2) := by decide +kernel
theorem dX5_shift_76 : decode cX5_shift 76 = .ok (.iload 5, 2) := by decide +kernel
theorem dX5_shift_78 : decode cX5_shift 78 = .ok (.invokestatic 66, 3) := by decide +kernel
theorem dX5_shift_81 : decode cX5_shift 81 = .ok (.invokevirtual 33, 3) := by decide +kernel
theorem dX5_shift_84 : decode cX5_shift 84 = .ok (.iload 5, 2) := by decide +kernel
theorem dX5_shift_86 : decode cX5_shift 86 = .ok (.ifCond .le 31, 3) := by decide +kernel
theorem dX5_shift_89 : decode cX5_shift 89 = .ok (.aload_n 0, 1) := by decide +kernel
theorem dX5_shift_90 : decode cX5_shift 90 = .ok (.bipush 23, 2) := by decide +kernel
theorem dX5_shift_92 : decode cX5_shift 92 = .ok (.iload 5, 2) := by decide +kernel
theorem dX5_shift_94 : decode cX5_shift 94 = .ok (.invokestatic 66, 3) := by decide +kernel
theorem dX5_shift_97 : decode cX5_shift 97 = .ok (.bipush 23, 2) := by decide +kernel
theorem dX5_shift_99 : decode cX5_shift 99 = .ok (.iload 5, 2) := by decide +kernel
theorem dX5_shift_101 : decode cX5_shift 101 = .ok (.invokestatic 66, 3) := by decide +kernel
theorem dX5_shift_104 : decode cX5_shift 104 = .ok (.bipush 23, 2) := by decide +kernel
theorem dX5_shift_106 : decode cX5_shift 106 = .ok (.iload 5, 2) := by decide +kernel
theorem dX5_shift_108 : decode cX5_shift 108 = .ok (.iconst 1, 1) := by decide +kernel
theorem dX5_shift_109 : decode cX5_shift 109 = .ok (.isub, 1) := by decide +kernel
theorem dX5_shift_110 : decode cX5_shift 110 = .ok (.invokestatic 66, 3) := by decide +kernel
theorem dX5_shift_113 : decode cX5_shift 113 = .ok (.iconst 1, 1) := by decide +kernel
theorem dX5_shift_114 : decode cX5_shift 114 = .ok (.invokevirtual 55, 3) := by decide +kernel
theorem dX5_shift_117 : decode cX5_shift 117 = .ok (.iinc 5 (-1), 3) := by decide +kernel
theorem dX5_shift_120 : decode cX5_shift 120 = .ok (.goto (-72), 3) := by decide +kernel
theorem dX5_shift_123 : decode cX5_shift 123 = .ok (.aload_n 0, 1) := by decide +kernel
theorem dX5_shift_124 : decode cX5_shift 124 = .ok (.bipush 23, 2) := by decide +kernel
theorem dX5_shift_126 : decode cX5_shift 126 = .ok (.iconst 0, 1) := by decide +kernel
theorem dX5_shift_127 : decode cX5_shift 127 = .ok (.invokestatic 66, 3) := by decide +kernel
theorem dX5_shift_130 : decode cX5_shift 130 = .ok (.bipush 23, 2) := by decide +kernel
theorem dX5_shift_132 : decode cX5_shift 132 = .ok (.iconst 0, 1) := by decide +kernel
theorem dX5_shift_133 : decode cX5_shift 133 = .ok (.invokestatic 66, 3) := by decide +kernel
theorem dX5_shift_136 : decode cX5_shift 136 = .ok (.iload_n 2, 1) := by decide +kernel
theorem dX5_shift_137 : decode cX5_shift 137 = .ok (.iload 4, 2) := by decide +kernel
theorem dX5_shift_139 : decode cX5_shift 139 = .ok (.invokestatic 66, 3) := by decide +kernel
theorem dX5_shift_142 : decode cX5_shift 142 = .ok (.iconst 1, 1) := by decide +kernel
theorem dX5_shift_143 : decode cX5_shift 143 = .ok (.invokevirtual 55, 3) := by decide +kernel
theorem dX5_shift_146 : decode cX5_shift 146 = .ok (.iinc 4 (-1), 3) := by decide +kernel
theorem dX5_shift_149 : decode cX5_shift 149 = .ok (.goto (-110), 3) := by decide +kernel
theorem dX5_shift_152 : decode cX5_shift 152 = .ok (.aload_n 0, 1) := by decide +kernel
theorem dX5_shift_153 : decode cX5_shift 153 = .ok (.bipush 23, 2) := by decide +kernel
theorem dX5_shift_155 : decode cX5_shift 155 = .ok (.invokevirtual 78, 3) := by decide +kernel
theorem dX5_shift_158 : decode cX5_shift 158 = .ok (.aload_n 0, 1) := by decide +kernel
theorem dX5_shift_159 : decode cX5_shift 159 = .ok (.iload_n 1, 1) := by decide +kernel
theorem dX5_shift_160 : decode cX5_shift 160 = .ok (.bipush 23, 2) := by decide +kernel
theorem dX5_shift_162 : decode cX5_shift 162 = .ok (.invokevirtual 122, 3) := by decide +kernel
theorem dX5_shift_165 : decode cX5_shift 165 = .ok (.ireturn, 1) := by decide +kernel
theorem dX5_remainder_0 : decode cX5_remainder 0 = .ok (.iload_n 1, 1) := by decide +kernel
theorem dX5_remainder_1 : decode cX5_remainder 1 = .ok (.invokestatic 106, 3) := by decide +kernel
theorem dX5_remainder_4 : decode cX5_remainder 4 = .ok (.ifCond .eq 17, 3) := by decide +kernel
theorem dX5_remainder_7 : decode cX5_remainder 7 = .ok (.iload_n 2, 1) := by decide +kernel
theorem dX5_remainder_8 : decode cX5_remainder 8 = .ok (.invokestatic 106, 3) := by decide +kernel
theorem dX5_remainder_11 : decode cX5_remainder 11 = .ok (.ifCond .eq 10, 3) := by decide +kernel
theorem dX5_remainder_14 : decode cX5_remainder 14 = .ok (.iload_n 3, 1) := by decide +kernel
theorem dX5_remainder_15 : decode cX5_remainder 15 = .ok (.invokestatic 106, 3) := by decide +kernel
theorem dX5_remainder_18 : decode cX5_remainder 18 = .ok (.ifCond .ne 5, 3) := by decide +kernel
theorem dX5_remainder_21 : decode cX5_remainder 21 = .ok (.iconst 1, 1) := by decide +kernel
theorem dX5_remainder_22 : decode cX5_remainder 22 = .ok (.ireturn, 1) := by decide +kernel
theorem dX5_remainder_23 : decode cX5_remainder 23 = .ok (.aload_n 0, 1) := by decide +kernel
theorem dX5_remainder_24 : decode cX5_remainder 24 = .ok (.getfield 21, 3) := by decide +kernel
theorem dX5_remainder_27 : decode cX5_remainder 27 = .ok (.iload_n 3, 1) := by decide +kernel
theorem dX5_remainder_28 : decode cX5_remainder 28 = .ok (.iaload, 1) := by decide +kernel
theorem dX5_remainder_29 : decode cX5_remainder 29 = .ok (.ifCond .ge 5, 3) := by decide +kernel
theorem dX5_remainder_32 : decode cX5_remainder 32 = .ok (.iconst 2, 1) := by decide +kernel
theorem dX5_remainder_33 : decode cX5_remainder 33 = .ok (.ireturn, 1) := by decide +kernel
theorem dX5_remainder_34 : decode cX5_remainder 34 = .ok (.aload_n 0, 1) := by decide +kernel
theorem dX5_remainder_35 : decode cX5_remainder 35 = .ok (.iload_n 2, 1) := by decide +kernel
theorem dX5_remainder_36 : decode cX5_remainder 36 = .ok (.bipush 18, 2) := by decide +kernel
theorem dX5_remainder_38 : decode cX5_remainder 38 = .ok (.invokevirtual 72, 3) := by decide +kernel
theorem dX5_remainder_41 : decode cX5_remainder 41 = .ok (.aload_n 0, 1) := by decide +kernel
theorem dX5_remainder_42 : decode cX5_remainder 42 = .ok (.iload_n 3, 1) := by decide +kernel
theorem dX5_remainder_43 : decode cX5_remainder 43 = .ok (.bipush 19, 2) := by decide +kernel
theorem dX5_remainder_45 : decode cX5_remainder 45 = .ok (.invokevirtual 72, 3) := by decide +kernel
theorem dX5_remainder_48 : decode cX5_remainder 48 = .ok (.aload_n 0, 1) := by decide +kernel
theorem dX5_remainder_49 : decode cX5_remainder 49 = .ok (.iconst 0, 1) := by decide +kernel
theorem dX5_remainder_50 : decode cX5_remainder 50 = .ok (.invokevirtual 88, 3) := by decide +kernel
theorem dX5_remainder_53 : decode cX5_remainder 53 = .ok (.aload_n 0, 1) := by decide +kernel
theorem dX5_remainder_54 : decode cX5_remainder 54 = .ok (.iload_n 1, 1) := by decide +kernel
theorem dX5_remainder_55 : decode cX5_remainder 55 = .ok (.bipush 20, 2) := by decide +kernel
theorem dX5_remainder_57 : decode cX5_remainder 57 = .ok (.invokevirtual 122, 3) := by decide +kernel
theorem dX5_remainder_60 : decode cX5_remainder 60 = .ok (.ireturn, 1) := by decide +kernel
theorem dX5_quotient_0 : decode cX5_quotient 0 = .ok (.iload_n 1, 1) := by decide +kernel
theorem dX5_quotient_1 : decode cX5_quotient 1 = .ok (.invokestatic 106, 3) := by decide +kernel
theorem dX5_quotient_4 : decode cX5_quotient 4 = .ok (.ifCond .eq 17, 3) := by decide +kernel
theorem dX5_quotient_7 : decode cX5_quotient 7 = .ok (.iload_n 2, 1) := by decide +kernel
theorem dX5_quotient_8 : decode cX5_quotient 8 = .ok (.invokestatic 106, 3) := by decide +kernel
theorem dX5_quotient_11 : decode cX5_quotient 11 = .ok (.ifCond .eq 10, 3) := by decide +kernel
theorem dX5_quotient_14 : decode cX5_quotient 14 = .ok (.iload_n 3, 1) := by decide +kernel
theorem dX5_quotient_15 : decode cX5_quotient 15 = .ok (.invokestatic 106, 3) := by decide +kernel
theorem dX5_quotient_18 : decode cX5_quotient 18 = .ok (.ifCond .ne 5, 3) := by decide +kernel
theorem dX5_quotient_21 : decode cX5_quotient 21 = .ok (.iconst 1, 1) := by decide +kernel
theorem dX5_quotient_22 : decode cX5_quotient 22 = .ok (.ireturn, 1) := by decide +kernel
theorem dX5_quotient_23 : decode cX5_quotient 23 = .ok (.aload_n 0, 1) := by decide +kernel
theorem dX5_quotient_24 : decode cX5_quotient 24 = .ok (.getfield 21, 3) := by decide +kernel
theorem dX5_quotient_27 : decode cX5_quotient 27 = .ok (.iload_n 3, 1) := by decide +kernel
theorem dX5_quotient_28 : decode cX5_quotient 28 = .ok (.iaload, 1) := by decide +kernel
theorem dX5_quotient_29 : decode cX5_quotient 29 = .ok (.ifCond .ge 5, 3) := by decide +kernel
theorem dX5_quotient_32 : decode cX5_quotient 32 = .ok (.iconst 2, 1) := by decide +kernel
theorem dX5_quotient_33 : decode cX5_quotient 33 = .ok (.ireturn, 1) := by decide +kernel
theorem dX5_quotient_34 : decode cX5_quotient 34 = .ok (.aload_n 0, 1) := by decide +kernel
theorem dX5_quotient_35 : decode cX5_quotient 35 = .ok (.iload_n 2, 1) := by decide +kernel
theorem dX5_quotient_36 : decode cX5_quotient 36 = .ok (.bipush 18, 2) := by decide +kernel
theorem dX5_quotient_38 : decode cX5_quotient 38 = .ok (.invokevirtual 72, 3) := by decide +kernel
theorem dX5_quotient_41 : decode cX5_quotient 41 = .ok (.aload_n 0, 1) := by decide +kernel
theorem dX5_quotient_42 : decode cX5_quotient 42 = .ok (.iload_n 3, 1) := by decide +kernel
theorem dX5_quotient_43 : decode cX5_quotient 43 = .ok (.bipush 19, 2) := by decide +kernel
theorem dX5_quotient_45 : decode cX5_quotient 45 = .ok (.invokevirtual 72, 3) := by decide +kernel
theorem dX5_quotient_48 : decode cX5_quotient 48 = .ok (.aload_n 0, 1) := by decide +kernel
theorem dX5_quotient_49 : decode cX5_quotient 49 = .ok (.invokevirtual 102, 3) := by decide +kernel
theorem dX5_quotient_52 : decode cX5_quotient 52 = .ok (.ifCond .eq 13, 3) := by decide +kernel
theorem dX5_quotient_55 : decode cX5_quotient 55 = .ok (.aload_n 0, 1) := by decide +kernel
theorem dX5_quotient_56 : decode cX5_quotient 56 = .ok (.iload_n 1, 1) := by decide +kernel
theorem dX5_quotient_57 : decode cX5_quotient 57 = .ok (.bipush 21, 2) := by decide +kernel
theorem dX5_quotient_59 : decode cX5_quotient 59 = .ok (.invokevirtual 122, 3) := by decide +kernel
theorem dX5_quotient_62 : decode cX5_quotient 62 = .ok (.goto 4, 3) := by decide +kernel
theorem dX5_quotient_65 : decode cX5_quotient 65 = .ok (.iconst 2, 1) := by decide +kernel
theorem dX5_quotient_66 : decode cX5_quotient 66 = .ok (.ireturn, 1) := by decide +kernel
theorem dX5_gcd_0 : decode cX5_gcd 0 = .ok (.iload_n 1, 1) := by decide +kernel
theorem dX5_gcd_1 : decode cX5_gcd 1 = .ok (.invokestatic 106, 3) := by decide +kernel
theorem dX5_gcd_4 : decode cX5_gcd 4 = .ok (.ifCond .eq 17, 3) := by decide +kernel
theorem dX5_gcd_7 : decode cX5_gcd 7 = .ok (.iload_n 2, 1) := by decide +kernel
theorem dX5_gcd_8 : decode cX5_gcd 8 = .ok (.invokestatic 106, 3) := by decide +kernel
theorem dX5_gcd_11 : decode cX5_gcd 11 = .ok (.ifCond .eq 10, 3) := by decide +kernel
theorem dX5_gcd_14 : decode cX5_gcd 14 = .ok (.iload_n 3, 1) := by decide +kernel
theorem dX5_gcd_15 : decode cX5_gcd 15 = .ok (.invokestatic 106, 3) := by decide +kernel
theorem dX5_gcd_18 : decode cX5_gcd 18 = .ok (.ifCond .ne 5, 3) := by decide +kernel
theorem dX5_gcd_21 : decode cX5_gcd 21 = .ok (.iconst 1, 1) := by decide +kernel
theorem dX5_gcd_22 : decode cX5_gcd 22 = .ok (.ireturn, 1) := by decide +kernel
theorem dX5_gcd_23 : decode cX5_gcd 23 = .ok (.aload_n 0, 1) := by decide +kernel
theorem dX5_gcd_24 : decode cX5_gcd 24 = .ok (.iload_n 2, 1) := by decide +kernel
theorem dX5_gcd_25 : decode cX5_gcd 25 = .ok (.bipush 18, 2) := by decide +kernel
theorem dX5_gcd_27 : decode cX5_gcd 27 = .ok (.invokevirtual 72, 3) := by decide +kernel
theorem dX5_gcd_30 : decode cX5_gcd 30 = .ok (.aload_n 0, 1) := by decide +kernel
theorem dX5_gcd_31 : decode cX5_gcd 31 = .ok (.iload_n 3, 1) := by decide +kernel
theorem dX5_gcd_32 : decode cX5_gcd 32 = .ok (.bipush 19, 2) := by decide +kernel
theorem dX5_gcd_34 : decode cX5_gcd 34 = .ok (.invokevirtual 72, 3) := by decide +kernel
theorem dX5_gcd_37 : decode cX5_gcd 37 = .ok (.aload_n 0, 1) := by decide +kernel
theorem dX5_gcd_38 : decode cX5_gcd 38 = .ok (.invokevirtual 99, 3) := by decide +kernel
theorem dX5_gcd_41 : decode cX5_gcd 41 = .ok (.aload_n 0, 1) := by decide +kernel
theorem dX5_gcd_42 : decode cX5_gcd 42 = .ok (.iload_n 1, 1) := by decide +kernel
theorem dX5_gcd_43 : decode cX5_gcd 43 = .ok (.bipush 18, 2) := by decide +kernel
theorem dX5_gcd_45 : decode cX5_gcd 45 = .ok (.invokevirtual 122, 3) := by decide +kernel
theorem dX5_gcd_48 : decode cX5_gcd 48 = .ok (.ireturn, 1) := by decide +kernel
theorem dX5_once_0 : decode cX5_once 0 = .ok (.iload_n 1, 1) := by decide +kernel
theorem dX5_once_1 : decode cX5_once 1 = .ok (.invokestatic 106, 3) := by decide +kernel
theorem dX5_once_4 : decode cX5_once 4 = .ok (.ifCond .eq 10, 3) := by decide +kernel
theorem dX5_once_7 : decode cX5_once 7 = .ok (.iload_n 2, 1) := by decide +kernel
theorem dX5_once_8 : decode cX5_once 8 = .ok (.invokestatic 106, 3) := by decide +kernel
theorem dX5_once_11 : decode cX5_once 11 = .ok (.ifCond .ne 5, 3) := by decide +kernel
theorem dX5_once_14 : decode cX5_once 14 = .ok (.iconst 1, 1) := by decide +kernel
theorem dX5_once_15 : decode cX5_once 15 = .ok (.ireturn, 1) := by decide +kernel
theorem dX5_once_16 : decode cX5_once 16 = .ok (.aload_n 0, 1) := by decide +kernel
theorem dX5_once_17 : decode cX5_once 17 = .ok (.getfield 21, 3) := by decide +kernel
theorem dX5_once_20 : decode cX5_once 20 = .ok (.iload_n 2, 1) := by decide +kernel
theorem dX5_once_21 : decode cX5_once 21 = .ok (.iaload, 1) := by decide +kernel
theorem dX5_once_22 : decode cX5_once 22 = .ok (.ifCond .ge 5, 3) := by decide +kernel
theorem dX5_once_25 : decode cX5_once 25 = .ok (.iconst 2, 1) := by decide +kernel
theorem dX5_once_26 : decode cX5_once 26 = .ok (.ireturn, 1) := by decide +kernel
theorem dX5_once_27 : decode cX5_once 27 = .ok (.aload_n 0, 1) := by decide +kernel
theorem dX5_once_28 : decode cX5_once 28 = .ok (.iload_n 2, 1) := by decide +kernel
theorem dX5_once_29 : decode cX5_once 29 = .ok (.invokevirtual 125, 3) := by decide +kernel
theorem dX5_once_32 : decode cX5_once 32 = .ok (.aload_n 0, 1) := by decide +kernel
theorem dX5_once_33 : decode cX5_once 33 = .ok (.iload_n 1, 1) := by decide +kernel
theorem dX5_once_34 : decode cX5_once 34 = .ok (.bipush 21, 2) := by decide +kernel
theorem dX5_once_36 : decode cX5_once 36 = .ok (.invokevirtual 122, 3) := by decide +kernel
theorem dX5_once_39 : decode cX5_once 39 = .ok (.ireturn, 1) := by decide +kernel
theorem dX5_signAt_0 : decode cX5_signAt 0 = .ok (.aload_n 0, 1) := by decide +kernel
theorem dX5_signAt_1 : decode cX5_signAt 1 = .ok (.sipush 222, 3) := by decide +kernel
theorem dX5_signAt_4 : decode cX5_signAt 4 = .ok (.invokevirtual 49, 3) := by decide +kernel
theorem dX5_signAt_7 : decode cX5_signAt 7 = .ok (.aload_n 0, 1) := by decide +kernel
theorem dX5_signAt_8 : decode cX5_signAt 8 = .ok (.sipush 223, 3) := by decide +kernel
theorem dX5_signAt_11 : decode cX5_signAt 11 = .ok (.lconst 1, 1) := by decide +kernel
theorem dX5_signAt_12 : decode cX5_signAt 12 = .ok (.invokevirtual 92, 3) := by decide +kernel
theorem dX5_signAt_15 : decode cX5_signAt 15 = .ok (.aload_n 0, 1) := by decide +kernel
theorem dX5_signAt_16 : decode cX5_signAt 16 = .ok (.getfield 21, 3) := by decide +kernel
theorem dX5_signAt_19 : decode cX5_signAt 19 = .ok (.iload_n 1, 1) := by decide +kernel
theorem dX5_signAt_20 : decode cX5_signAt 20 = .ok (.iaload, 1) := by decide +kernel
theorem dX5_signAt_21 : decode cX5_signAt 21 = .ok (.istore 6, 2) := by decide +kernel
theorem dX5_signAt_23 : decode cX5_signAt 23 = .ok (.iload 6, 2) := by decide +kernel
theorem dX5_signAt_25 : decode cX5_signAt 25 = .ok (.ifCond .lt 92, 3) := by decide +kernel
theorem dX5_signAt_28 : decode cX5_signAt 28 = .ok (.aload_n 0, 1) := by decide +kernel
theorem dX5_signAt_29 : decode cX5_signAt 29 = .ok (.sipush 221, 3) := by decide +kernel
theorem dX5_signAt_32 : decode cX5_signAt 32 = .ok (.lload_n 2, 1) := by decide +kernel
theorem dX5_signAt_33 : decode cX5_signAt 33 = .ok (.invokevirtual 92, 3) := by decide +kernel
theorem dX5_signAt_36 : decode cX5_signAt 36 = .ok (.aload_n 0, 1) := by decide +kernel
theorem dX5_signAt_37 : decode cX5_signAt 37 = .ok (.sipush 219, 3) := by decide +kernel
theorem dX5_signAt_40 : decode cX5_signAt 40 = .ok (.sipush 222, 3) := by decide +kernel
theorem dX5_signAt_43 : decode cX5_signAt 43 = .ok (.sipush 221, 3) := by decide +kernel
theorem dX5_signAt_46 : decode cX5_signAt 46 = .ok (.invokevirtual 75, 3) := by decide +kernel
theorem dX5_signAt_49 : decode cX5_signAt 49 = .ok (.aload_n 0, 1) := by decide +kernel
theorem dX5_signAt_50 : decode cX5_signAt 50 = .ok (.sipush 220, 3) := by decide +kernel
theorem dX5_signAt_53 : decode cX5_signAt 53 = .ok (.iload_n 1, 1) := by decide +kernel
theorem dX5_signAt_54 : decode cX5_signAt 54 = .ok (.iload 6, 2) := by decide +kernel
theorem dX5_signAt_56 : decode cX5_signAt 56 = .ok (.invokestatic 66, 3) := by decide +kernel
theorem dX5_signAt_59 : decode cX5_signAt 59 = .ok (.sipush 223, 3) := by decide +kernel
theorem dX5_signAt_62 : decode cX5_signAt 62 = .ok (.invokevirtual 75, 3) := by decide +kernel
theorem dX5_signAt_65 : decode cX5_signAt 65 = .ok (.aload_n 0, 1) := by decide +kernel
theorem dX5_signAt_66 : decode cX5_signAt 66 = .ok (.sipush 222, 3) := by decide +kernel
theorem dX5_signAt_69 : decode cX5_signAt 69 = .ok (.sipush 219, 3) := by decide +kernel
theorem dX5_signAt_72 : decode cX5_signAt 72 = .ok (.sipush 220, 3) := by decide +kernel
theorem dX5_signAt_75 : decode cX5_signAt 75 = .ok (.iconst 1, 1) := by decide +kernel
theorem dX5_signAt_76 : decode cX5_signAt 76 = .ok (.invokevirtual 55, 3) := by decide +kernel
theorem dX5_signAt_79 : decode cX5_signAt 79 = .ok (.aload_n 0, 1) := by decide +kernel
theorem dX5_signAt_80 : decode cX5_signAt 80 = .ok (.sipush 221, 3) := by decide +kernel
theorem dX5_signAt_83 : decode cX5_signAt 83 = .ok (.lload 4, 2) := by decide +kernel
theorem dX5_signAt_85 : decode cX5_signAt 85 = .ok (.invokevirtual 92, 3) := by decide +kernel
theorem dX5_signAt_88 : decode cX5_signAt 88 = .ok (.aload_n 0, 1) := by decide +kernel
theorem dX5_signAt_89 : decode cX5_signAt 89 = .ok (.sipush 219, 3) := by decide +kernel
theorem dX5_signAt_92 : decode cX5_signAt 92 = .ok (.sipush 223, 3) := by decide +kernel
theorem dX5_signAt_95 : decode cX5_signAt 95 = .ok (.sipush 221, 3) := by decide +kernel
theorem dX5_signAt_98 : decode cX5_signAt 98 = .ok (.invokevirtual 75, 3) := by decide +kernel
theorem dX5_signAt_101 : decode cX5_signAt 101 = .ok (.aload_n 0, 1) := by decide +kernel
theorem dX5_signAt_102 : decode cX5_signAt 102 = .ok (.sipush 219, 3) := by decide +kernel
theorem dX5_signAt_105 : decode cX5_signAt 105 = .ok (.sipush 223, 3) := by decide +kernel
theorem dX5_signAt_108 : decode cX5_signAt 108 = .ok (.invokevirtual 33, 3) := by decide +kernel
theorem dX5_signAt_111 : decode cX5_signAt 111 = .ok (.iinc 6 (-1), 3) := by decide +kernel
theorem dX5_signAt_114 : decode cX5_signAt 114 = .ok (.goto (-91), 3) := by decide +kernel
theorem dX5_signAt_117 : decode cX5_signAt 117 = .ok (.aload_n 0, 1) := by decide +kernel
theorem dX5_signAt_118 : decode cX5_signAt 118 = .ok (.getfield 18, 3) := by decide +kernel
theorem dX5_signAt_121 : decode cX5_signAt 121 = .ok (.sipush 222, 3) := by decide +kernel
theorem dX5_signAt_124 : decode cX5_signAt 124 = .ok (.iaload, 1) := by decide +kernel
theorem dX5_signAt_125 : decode cX5_signAt 125 = .ok (.ireturn, 1) := by decide +kernel
theorem dX5_sign_0 : decode cX5_sign 0 = .ok (.iload_n 1, 1) := by decide +kernel
theorem dX5_sign_1 : decode cX5_sign 1 = .ok (.invokestatic 106, 3) := by decide +kernel
theorem dX5_sign_4 : decode cX5_sign 4 = .ok (.ifCond .eq 7, 3) := by decide +kernel
theorem dX5_sign_7 : decode cX5_sign 7 = .ok (.iload_n 3, 1) := by decide +kernel
theorem dX5_sign_8 : decode cX5_sign 8 = .ok (.ifCond .ne 5, 3) := by decide +kernel
theorem dX5_sign_11 : decode cX5_sign 11 = .ok (.iconst 2, 1) := by decide +kernel
theorem dX5_sign_12 : decode cX5_sign 12 = .ok (.ireturn, 1) := by decide +kernel
theorem dX5_sign_13 : decode cX5_sign 13 = .ok (.iload_n 3, 1) := by decide +kernel
theorem dX5_sign_14 : decode cX5_sign 14 = .ok (.ifCond .ge 17, 3) := by decide +kernel
theorem dX5_sign_17 : decode cX5_sign 17 = .ok (.aload_n 0, 1) := by decide +kernel
theorem dX5_sign_18 : decode cX5_sign 18 = .ok (.iload_n 1, 1) := by decide +kernel
theorem dX5_sign_19 : decode cX5_sign 19 = .ok (.iload_n 2, 1) := by decide +kernel
theorem dX5_sign_20 : decode cX5_sign 20 = .ok (.i2l, 1) := by decide +kernel
theorem dX5_sign_21 : decode cX5_sign 21 = .ok (.lneg, 1) := by decide +kernel
theorem dX5_sign_22 : decode cX5_sign 22 = .ok (.iload_n 3, 1) := by decide +kernel
theorem dX5_sign_23 : decode cX5_sign 23 = .ok (.i2l, 1) := by decide +kernel
theorem dX5_sign_24 : decode cX5_sign 24 = .ok (.lneg, 1) := by decide +kernel
theorem dX5_sign_25 : decode cX5_sign 25 = .ok (.invokevirtual 128, 3) := by decide +kernel
theorem dX5_sign_28 : decode cX5_sign 28 = .ok (.goto 12, 3) := by decide +kernel
theorem dX5_sign_31 : decode cX5_sign 31 = .ok (.aload_n 0, 1) := by decide +kernel
theorem dX5_sign_32 : decode cX5_sign 32 = .ok (.iload_n 1, 1) := by decide +kernel
theorem dX5_sign_33 : decode cX5_sign 33 = .ok (.iload_n 2, 1) := by decide +kernel
theorem dX5_sign_34 : decode cX5_sign 34 = .ok (.i2l, 1) := by decide +kernel
theorem dX5_sign_35 : decode cX5_sign 35 = .ok (.iload_n 3, 1) := by decide +kernel
theorem dX5_sign_36 : decode cX5_sign 36 = .ok (.i2l, 1) := by decide +kernel
theorem dX5_sign_37 : decode cX5_sign 37 = .ok (.invokevirtual 128, 3) := by decide +kernel
theorem dX5_sign_40 : decode cX5_sign 40 = .ok (.ireturn, 1) := by decide +kernel
theorem dX5_makeChain_0 : decode cX5_makeChain 0 = .ok (.aload_n 0, 1) := by decide +kernel
theorem dX5_makeChain_1 : decode cX5_makeChain 1 = .ok (.iload_n 1, 1) := by decide +kernel
theorem dX5_makeChain_2 : decode cX5_makeChain 2 = .ok (.invokevirtual 125, 3) := by decide +kernel
theorem dX5_makeChain_5 : decode cX5_makeChain 5 = .ok (.aload_n 0, 1) := by decide +kernel
theorem dX5_makeChain_6 : decode cX5_makeChain 6 = .ok (.bipush 21, 2) := by decide +kernel
theorem dX5_makeChain_8 : decode cX5_makeChain 8 = .ok (.bipush 8, 2) := by decide +kernel
theorem dX5_makeChain_10 : decode cX5_makeChain 10 = .ok (.invokevirtual 72, 3) := by decide +kernel
theorem dX5_makeChain_13 : decode cX5_makeChain 13 = .ok (.aload_n 0, 1) := by decide +kernel
theorem dX5_makeChain_14 : decode cX5_makeChain 14 = .ok (.bipush 8, 2) := by decide +kernel
theorem dX5_makeChain_16 : decode cX5_makeChain 16 = .ok (.bipush 9, 2) := by decide +kernel
theorem dX5_makeChain_18 : decode cX5_makeChain 18 = .ok (.invokevirtual 96, 3) := by decide +kernel
theorem dX5_makeChain_21 : decode cX5_makeChain 21 = .ok (.aload_n 0, 1) := by decide +kernel
theorem dX5_makeChain_22 : decode cX5_makeChain 22 = .ok (.aload_n 0, 1) := by decide +kernel
theorem dX5_makeChain_23 : decode cX5_makeChain 23 = .ok (.getfield 21, 3) := by decide +kernel
theorem dX5_makeChain_26 : decode cX5_makeChain 26 = .ok (.bipush 9, 2) := by decide +kernel
theorem dX5_makeChain_28 : decode cX5_makeChain 28 = .ok (.iaload, 1) := by decide +kernel
theorem dX5_makeChain_29 : decode cX5_makeChain 29 = .ok (.ifCond .ge 7, 3) := by decide +kernel
theorem dX5_makeChain_32 : decode cX5_makeChain 32 = .ok (.iconst 1, 1) := by decide +kernel
theorem dX5_makeChain_33 : decode cX5_makeChain 33 = .ok (.goto 4, 3) := by decide +kernel
theorem dX5_makeChain_36 : decode cX5_makeChain 36 = .ok (.iconst 2, 1) := by decide +kernel
theorem dX5_makeChain_37 : decode cX5_makeChain 37 = .ok (.putfield 132, 3) := by decide +kernel
theorem dX5_makeChain_40 : decode cX5_makeChain 40 = .ok (.aload_n 0, 1) := by decide +kernel
theorem dX5_makeChain_41 : decode cX5_makeChain 41 = .ok (.getfield 132, 3) := by decide +kernel
theorem dX5_makeChain_44 : decode cX5_makeChain 44 = .ok (.iconst 2, 1) := by decide +kernel
theorem dX5_makeChain_45 : decode cX5_makeChain 45 = .ok (.if_icmp .ne 7, 3) := by decide +kernel
theorem dX5_makeChain_48 : decode cX5_makeChain 48 = .ok (.iconst 1, 1) := by decide +kernel
theorem dX5_makeChain_49 : decode cX5_makeChain 49 = .ok (.goto 4, 3) := by decide +kernel
theorem dX5_makeChain_52 : decode cX5_makeChain 52 = .ok (.iconst 0, 1) := by decide +kernel
theorem dX5_makeChain_53 : decode cX5_makeChain 53 = .ok (.istore_n 2, 1) := by decide +kernel
theorem dX5_makeChain_54 : decode cX5_makeChain 54 = .ok (.iload_n 2, 1) := by decide +kernel
theorem dX5_makeChain_55 : decode cX5_makeChain 55 = .ok (.ifCond .eq 10, 3) := by decide +kernel
theorem dX5_makeChain_58 : decode cX5_makeChain 58 = .ok (.aload_n 0, 1) := by decide +kernel
theorem dX5_makeChain_59 : decode cX5_makeChain 59 = .ok (.bipush 9, 2) := by decide +kernel
theorem dX5_makeChain_61 : decode cX5_makeChain 61 = .ok (.iconst 1, 1) := by decide +kernel
theorem dX5_makeChain_62 : decode cX5_makeChain 62 = .ok (.invokevirtual 81, 3) := by decide +kernel
theorem dX5_makeChain_65 : decode cX5_makeChain 65 = .ok (.iload_n 2, 1) := by decide +kernel
theorem dX5_makeChain_66 : decode cX5_makeChain 66 = .ok (.ifCond .eq 150, 3) := by decide +kernel
theorem dX5_makeChain_69 : decode cX5_makeChain 69 = .ok (.aload_n 0, 1) := by decide +kernel
theorem dX5_makeChain_70 : decode cX5_makeChain 70 = .ok (.getfield 21, 3) := by decide +kernel
theorem dX5_makeChain_73 : decode cX5_makeChain 73 = .ok (.bipush 8, 2) := by decide +kernel
theorem dX5_makeChain_75 : decode cX5_makeChain 75 = .ok (.aload_n 0, 1) := by decide +kernel
theorem dX5_makeChain_76 : decode cX5_makeChain 76 = .ok (.getfield 132, 3) := by decide +kernel
theorem dX5_makeChain_79 : decode cX5_makeChain 79 = .ok (.iadd, 1) := by decide +kernel
theorem dX5_makeChain_80 : decode cX5_makeChain 80 = .ok (.iconst 1, 1) := by decide +kernel
theorem dX5_makeChain_81 : decode cX5_makeChain 81 = .ok (.isub, 1) := by decide +kernel
theorem dX5_makeChain_82 : decode cX5_makeChain 82 = .ok (.iaload, 1) := by decide +kernel
theorem dX5_makeChain_83 : decode cX5_makeChain 83 = .ok (.ifCond .le 133, 3) := by decide +kernel
theorem dX5_makeChain_86 : decode cX5_makeChain 86 = .ok (.aload_n 0, 1) := by decide +kernel
theorem dX5_makeChain_87 : decode cX5_makeChain 87 = .ok (.bipush 8, 2) := by decide +kernel
theorem dX5_makeChain_89 : decode cX5_makeChain 89 = .ok (.aload_n 0, 1) := by decide +kernel
theorem dX5_makeChain_90 : decode cX5_makeChain 90 = .ok (.getfield 132, 3) := by decide +kernel
theorem dX5_makeChain_93 : decode cX5_makeChain 93 = .ok (.iadd, 1) := by decide +kernel
theorem dX5_makeChain_94 : decode cX5_makeChain 94 = .ok (.iconst 2, 1) := by decide +kernel
theorem dX5_makeChain_95 : decode cX5_makeChain 95 = .ok (.isub, 1) := by decide +kernel
theorem dX5_makeChain_96 : decode cX5_makeChain 96 = .ok (.bipush 18, 2) := by decide +kernel
theorem dX5_makeChain_98 : decode cX5_makeChain 98 = .ok (.invokevirtual 72, 3) := by decide +kernel
theorem dX5_makeChain_101 : decode cX5_makeChain 101 = .ok (.aload_n 0, 1) := by decide +kernel
theorem dX5_makeChain_102 : decode cX5_makeChain 102 = .ok (.bipush 8, 2) := by decide +kernel
theorem dX5_makeChain_104 : decode cX5_makeChain 104 = .ok (.aload_n 0, 1) := by decide +kernel
theorem dX5_makeChain_105 : decode cX5_makeChain 105 = .ok (.getfield 132, 3) := by decide +kernel
theorem dX5_makeChain_108 : decode cX5_makeChain 108 = .ok (.iadd, 1) := by decide +kernel
theorem dX5_makeChain_109 : decode cX5_makeChain 109 = .ok (.iconst 1, 1) := by decide +kernel
theorem dX5_makeChain_110 : decode cX5_makeChain 110 = .ok (.isub, 1) := by decide +kernel
theorem dX5_makeChain_111 : decode cX5_makeChain 111 = .ok (.bipush 19, 2) := by decide +kernel
theorem dX5_makeChain_113 : decode cX5_makeChain 113 = .ok (.invokevirtual 72, 3) := by decide +kernel
theorem dX5_makeChain_116 : decode cX5_makeChain 116 = .ok (.aload_n 0, 1) := by decide +kernel
theorem dX5_makeChain_117 : decode cX5_makeChain 117 = .ok (.iconst 1, 1) := by decide +kernel
theorem dX5_makeChain_118 : decode cX5_makeChain 118 = .ok (.invokevirtual 88, 3) := by decide +kernel
theorem dX5_makeChain_121 : decode cX5_makeChain 121 = .ok (.aload_n 0, 1) := by decide +kernel
theorem dX5_makeChain_122 : decode cX5_makeChain 122 = .ok (.getfield 21, 3) := by decide +kernel
theorem dX5_makeChain_125 : decode cX5_makeChain 125 = .ok (.bipush 20, 2) := by decide +kernel
theorem dX5_makeChain_127 : decode cX5_makeChain 127 = .ok (.iaload, 1) := by decide +kernel
theorem dX5_makeChain_128 : decode cX5_makeChain 128 = .ok (.ifCond .lt 7, 3) := by decide +kernel
theorem dX5_makeChain_131 : decode cX5_makeChain 131 = .ok (.iconst 1, 1) := by decide +kernel
theorem dX5_makeChain_132 : decode cX5_makeChain 132 = .ok (.goto 4, 3) := by decide +kernel
theorem dX5_makeChain_135 : decode cX5_makeChain 135 = .ok (.iconst 0, 1) := by decide +kernel
theorem dX5_makeChain_136 : decode cX5_makeChain 136 = .ok (.istore_n 2, 1) := by decide +kernel
theorem dX5_makeChain_137 : decode cX5_makeChain 137 = .ok (.iload_n 2, 1) := by decide +kernel
theorem dX5_makeChain_138 : decode cX5_makeChain 138 = .ok (.ifCond .eq (-73), 3) := by decide +kernel
theorem dX5_makeChain_141 : decode cX5_makeChain 141 = .ok (.aload_n 0, 1) := by decide +kernel
theorem dX5_makeChain_142 : decode cX5_makeChain 142 = .ok (.bipush 20, 2) := by decide +kernel
theorem dX5_makeChain_144 : decode cX5_makeChain 144 = .ok (.iconst 1, 1) := by decide +kernel
theorem dX5_makeChain_145 : decode cX5_makeChain 145 = .ok (.invokevirtual 81, 3) := by decide +kernel
theorem dX5_makeChain_148 : decode cX5_makeChain 148 = .ok (.aload_n 0, 1) := by decide +kernel
theorem dX5_makeChain_149 : decode cX5_makeChain 149 = .ok (.bipush 20, 2) := by decide +kernel
theorem dX5_makeChain_151 : decode cX5_makeChain 151 = .ok (.bipush 8, 2) := by decide +kernel
theorem dX5_makeChain_153 : decode cX5_makeChain 153 = .ok (.aload_n 0, 1) := by decide +kernel
theorem dX5_makeChain_154 : decode cX5_makeChain 154 = .ok (.getfield 132, 3) := by decide +kernel
theorem dX5_makeChain_157 : decode cX5_makeChain 157 = .ok (.iadd, 1) := by decide +kernel
theorem dX5_makeChain_158 : decode cX5_makeChain 158 = .ok (.invokevirtual 72, 3) := by decide +kernel
theorem dX5_makeChain_161 : decode cX5_makeChain 161 = .ok (.iconst 0, 1) := by decide +kernel
theorem dX5_makeChain_162 : decode cX5_makeChain 162 = .ok (.istore_n 3, 1) := by decide +kernel
theorem dX5_makeChain_163 : decode cX5_makeChain 163 = .ok (.iload_n 3, 1) := by decide +kernel
theorem dX5_makeChain_164 : decode cX5_makeChain 164 = .ok (.bipush 9, 2) := by decide +kernel
theorem dX5_makeChain_166 : decode cX5_makeChain 166 = .ok (.if_icmp .ge 37, 3) := by decide +kernel
theorem dX5_makeChain_169 : decode cX5_makeChain 169 = .ok (.aload_n 0, 1) := by decide +kernel
theorem dX5_makeChain_170 : decode cX5_makeChain 170 = .ok (.getfield 18, 3) := by decide +kernel
theorem dX5_makeChain_173 : decode cX5_makeChain 173 = .ok (.bipush 8, 2) := by decide +kernel
theorem dX5_makeChain_175 : decode cX5_makeChain 175 = .ok (.aload_n 0, 1) := by decide +kernel
theorem dX5_makeChain_176 : decode cX5_makeChain 176 = .ok (.getfield 132, 3) := by decide +kernel
theorem dX5_makeChain_179 : decode cX5_makeChain 179 = .ok (.iadd, 1) := by decide +kernel
theorem dX5_makeChain_180 : decode cX5_makeChain 180 = .ok (.iload_n 3, 1) := by decide +kernel
theorem dX5_makeChain_181 : decode cX5_makeChain 181 = .ok (.invokestatic 66, 3) := by decide +kernel
theorem dX5_makeChain_184 : decode cX5_makeChain 184 = .ok (.aload_n 0, 1) := by decide +kernel
theorem dX5_makeChain_185 : decode cX5_makeChain 185 = .ok (.getfield 18, 3) := by decide +kernel
theorem dX5_makeChain_188 : decode cX5_makeChain 188 = .ok (.bipush 20, 2) := by decide +kernel
theorem dX5_makeChain_190 : decode cX5_makeChain 190 = .ok (.iload_n 3, 1) := by decide +kernel
theorem dX5_makeChain_191 : decode cX5_makeChain 191 = .ok (.invokestatic 66, 3) := by decide +kernel
theorem dX5_makeChain_194 : decode cX5_makeChain 194 = .ok (.iaload, 1) := by decide +kernel
theorem dX5_makeChain_195 : decode cX5_makeChain 195 = .ok (.ineg, 1) := by decide +kernel
theorem dX5_makeChain_196 : decode cX5_makeChain 196 = .ok (.iastore, 1) := by decide +kernel
theorem dX5_makeChain_197 : decode cX5_makeChain 197 = .ok (.iinc 3 1, 3) := by decide +kernel
theorem dX5_makeChain_200 : decode cX5_makeChain 200 = .ok (.goto (-37), 3) := by decide +kernel
theorem dX5_makeChain_203 : decode cX5_makeChain 203 = .ok (.aload_n 0, 1) := by decide +kernel
theorem dX5_makeChain_204 : decode cX5_makeChain 204 = .ok (.dup, 1) := by decide +kernel
theorem dX5_makeChain_205 : decode cX5_makeChain 205 = .ok (.getfield 132, 3) := by decide +kernel
theorem dX5_makeChain_208 : decode cX5_makeChain 208 = .ok (.iconst 1, 1) := by decide +kernel
theorem dX5_makeChain_209 : decode cX5_makeChain 209 = .ok (.iadd, 1) := by decide +kernel
theorem dX5_makeChain_210 : decode cX5_makeChain 210 = .ok (.putfield 132, 3) := by decide +kernel
theorem dX5_makeChain_213 : decode cX5_makeChain 213 = .ok (.goto (-148), 3) := by decide +kernel
theorem dX5_makeChain_216 : decode cX5_makeChain 216 = .ok (.return_, 1) := by decide +kernel
theorem dX5_changes_0 : decode cX5_changes 0 = .ok (.iconst 0, 1) := by decide +kernel
theorem dX5_changes_1 : decode cX5_changes 1 = .ok (.istore_n 3, 1) := by decide +kernel
theorem dX5_changes_2 : decode cX5_changes 2 = .ok (.iconst 0, 1) := by decide +kernel
theorem dX5_changes_3 : decode cX5_changes 3 = .ok (.istore 4, 2) := by decide +kernel
theorem dX5_changes_5 : decode cX5_changes 5 = .ok (.iconst 0, 1) := by decide +kernel
theorem dX5_changes_6 : decode cX5_changes 6 = .ok (.istore 5, 2) := by decide +kernel
theorem dX5_changes_8 : decode cX5_changes 8 = .ok (.iload 5, 2) := by decide +kernel
theorem dX5_changes_10 : decode cX5_changes 10 = .ok (.aload_n 0, 1) := by decide +kernel
theorem dX5_changes_11 : decode cX5_changes 11 = .ok (.getfield 132, 3) := by decide +kernel
theorem dX5_changes_14 : decode cX5_changes 14 = .ok (.if_icmp .ge 59, 3) := by decide +kernel
theorem dX5_changes_17 : decode cX5_changes 17 = .ok (.aload_n 0, 1) := by decide +kernel
theorem dX5_changes_18 : decode cX5_changes 18 = .ok (.bipush 8, 2) := by decide +kernel
theorem dX5_changes_20 : decode cX5_changes 20 = .ok (.iload 5, 2) := by decide +kernel
theorem dX5_changes_22 : decode cX5_changes 22 = .ok (.iadd, 1) := by decide +kernel
theorem dX5_changes_23 : decode cX5_changes 23 = .ok (.lload_n 1, 1) := by decide +kernel
theorem dX5_changes_24 : decode cX5_changes 24 = .ok (.lconst 1, 1) := by decide +kernel
theorem dX5_changes_25 : decode cX5_changes 25 = .ok (.invokevirtual 128, 3) := by decide +kernel
theorem dX5_changes_28 : decode cX5_changes 28 = .ok (.istore 6, 2) := by decide +kernel
theorem dX5_changes_30 : decode cX5_changes 30 = .ok (.iload 4, 2) := by decide +kernel
theorem dX5_changes_32 : decode cX5_changes 32 = .ok (.iload 6, 2) := by decide +kernel
theorem dX5_changes_34 : decode cX5_changes 34 = .ok (.ifCond .eq 17, 3) := by decide +kernel
theorem dX5_changes_37 : decode cX5_changes 37 = .ok (.iload_n 3, 1) := by decide +kernel
theorem dX5_changes_38 : decode cX5_changes 38 = .ok (.ifCond .eq 13, 3) := by decide +kernel
theorem dX5_changes_41 : decode cX5_changes 41 = .ok (.iload 6, 2) := by decide +kernel
theorem dX5_changes_43 : decode cX5_changes 43 = .ok (.iload_n 3, 1) := by decide +kernel
theorem dX5_changes_44 : decode cX5_changes 44 = .ok (.if_icmp .eq 7, 3) := by decide +kernel
theorem dX5_changes_47 : decode cX5_changes 47 = .ok (.iconst 1, 1) := by decide +kernel
theorem dX5_changes_48 : decode cX5_changes 48 = .ok (.goto 4, 3) := by decide +kernel
theorem dX5_changes_51 : decode cX5_changes 51 = .ok (.iconst 0, 1) := by decide +kernel
theorem dX5_changes_52 : decode cX5_changes 52 = .ok (.iadd, 1) := by decide +kernel
theorem dX5_changes_53 : decode cX5_changes 53 = .ok (.istore 4, 2) := by decide +kernel
theorem dX5_changes_55 : decode cX5_changes 55 = .ok (.iload 6, 2) := by decide +kernel
theorem dX5_changes_57 : decode cX5_changes 57 = .ok (.ifCond .ne 7, 3) := by decide +kernel
theorem dX5_changes_60 : decode cX5_changes 60 = .ok (.iload_n 3, 1) := by decide +kernel
theorem dX5_changes_61 : decode cX5_changes 61 = .ok (.goto 5, 3) := by decide +kernel
theorem dX5_changes_64 : decode cX5_changes 64 = .ok (.iload 6, 2) := by decide +kernel
theorem dX5_changes_66 : decode cX5_changes 66 = .ok (.istore_n 3, 1) := by decide +kernel
theorem dX5_changes_67 : decode cX5_changes 67 = .ok (.iinc 5 1, 3) := by decide +kernel
theorem dX5_changes_70 : decode cX5_changes 70 = .ok (.goto (-62), 3) := by decide +kernel
theorem dX5_changes_73 : decode cX5_changes 73 = .ok (.iload 4, 2) := by decide +kernel
theorem dX5_changes_75 : decode cX5_changes 75 = .ok (.ireturn, 1) := by decide +kernel
theorem dX5_changesFar_0 : decode cX5_changesFar 0 = .ok (.iconst 0, 1) := by decide +kernel
theorem dX5_changesFar_1 : decode cX5_changesFar 1 = .ok (.istore_n 2, 1) := by decide +kernel
theorem dX5_changesFar_2 : decode cX5_changesFar 2 = .ok (.iconst 0, 1) := by decide +kernel
theorem dX5_changesFar_3 : decode cX5_changesFar 3 = .ok (.istore_n 3, 1) := by decide +kernel
theorem dX5_changesFar_4 : decode cX5_changesFar 4 = .ok (.iconst 0, 1) := by decide +kernel
theorem dX5_changesFar_5 : decode cX5_changesFar 5 = .ok (.istore 4, 2) := by decide +kernel
theorem dX5_changesFar_7 : decode cX5_changesFar 7 = .ok (.iload 4, 2) := by decide +kernel
theorem dX5_changesFar_9 : decode cX5_changesFar 9 = .ok (.aload_n 0, 1) := by decide +kernel
theorem dX5_changesFar_10 : decode cX5_changesFar 10 = .ok (.getfield 132, 3) := by decide +kernel
theorem dX5_changesFar_13 : decode cX5_changesFar 13 = .ok (.if_icmp .ge 83, 3) := by decide +kernel
theorem dX5_changesFar_16 : decode cX5_changesFar 16 = .ok (.bipush 8, 2) := by decide +kernel
theorem dX5_changesFar_18 : decode cX5_changesFar 18 = .ok (.iload 4, 2) := by decide +kernel
theorem dX5_changesFar_20 : decode cX5_changesFar 20 = .ok (.iadd, 1) := by decide +kernel
theorem dX5_changesFar_21 : decode cX5_changesFar 21 = .ok (.istore 5, 2) := by decide +kernel
theorem dX5_changesFar_23 : decode cX5_changesFar 23 = .ok (.aload_n 0, 1) := by decide +kernel
theorem dX5_changesFar_24 : decode cX5_changesFar 24 = .ok (.getfield 18, 3) := by decide +kernel
theorem dX5_changesFar_27 : decode cX5_changesFar 27 = .ok (.iload 5, 2) := by decide +kernel
theorem dX5_changesFar_29 : decode cX5_changesFar 29 = .ok (.aload_n 0, 1) := by decide +kernel
theorem dX5_changesFar_30 : decode cX5_changesFar 30 = .ok (.getfield 21, 3) := by decide +kernel
theorem dX5_changesFar_33 : decode cX5_changesFar 33 = .ok (.iload 5, 2) := by decide +kernel
theorem dX5_changesFar_35 : decode cX5_changesFar 35 = .ok (.iaload, 1) := by decide +kernel
theorem dX5_changesFar_36 : decode cX5_changesFar 36 = .ok (.invokestatic 66, 3) := by decide +kernel
theorem dX5_changesFar_39 : decode cX5_changesFar 39 = .ok (.iaload, 1) := by decide +kernel
theorem dX5_changesFar_40 : decode cX5_changesFar 40 = .ok (.istore 6, 2) := by decide +kernel
theorem dX5_changesFar_42 : decode cX5_changesFar 42 = .ok (.iload_n 1, 1) := by decide +kernel
theorem dX5_changesFar_43 : decode cX5_changesFar 43 = .ok (.ifCond .ne 22, 3) := by decide +kernel
theorem dX5_changesFar_46 : decode cX5_changesFar 46 = .ok (.aload_n 0, 1) := by decide +kernel
theorem dX5_changesFar_47 : decode cX5_changesFar 47 = .ok (.getfield 21, 3) := by decide +kernel
theorem dX5_changesFar_50 : decode cX5_changesFar 50 = .ok (.iload 5, 2) := by decide +kernel
theorem dX5_changesFar_52 : decode cX5_changesFar 52 = .ok (.iaload, 1) := by decide +kernel
theorem dX5_changesFar_53 : decode cX5_changesFar 53 = .ok (.iconst 2, 1) := by decide +kernel
theorem dX5_changesFar_54 : decode cX5_changesFar 54 = .ok (.irem, 1) := by decide +kernel
theorem dX5_changesFar_55 : decode cX5_changesFar 55 = .ok (.iconst 1, 1) := by decide +kernel
theorem dX5_changesFar_56 : decode cX5_changesFar 56 = .ok (.if_icmp .ne 9, 3) := by decide +kernel
theorem dX5_changesFar_59 : decode cX5_changesFar 59 = .ok (.iload 6, 2) := by decide +kernel
theorem dX5_changesFar_61 : decode cX5_changesFar 61 = .ok (.ineg, 1) := by decide +kernel
theorem dX5_changesFar_62 : decode cX5_changesFar 62 = .ok (.goto 5, 3) := by decide +kernel
theorem dX5_changesFar_65 : decode cX5_changesFar 65 = .ok (.iload 6, 2) := by decide +kernel
theorem dX5_changesFar_67 : decode cX5_changesFar 67 = .ok (.istore 6, 2) := by decide +kernel
theorem dX5_changesFar_69 : decode cX5_changesFar 69 = .ok (.iload_n 3, 1) := by decide +kernel
theorem dX5_changesFar_70 : decode cX5_changesFar 70 = .ok (.iload_n 2, 1) := by decide +kernel
theorem dX5_changesFar_71 : decode cX5_changesFar 71 = .ok (.ifCond .eq 13, 3) := by decide +kernel
theorem dX5_changesFar_74 : decode cX5_changesFar 74 = .ok (.iload 6, 2) := by decide +kernel
theorem dX5_changesFar_76 : decode cX5_changesFar 76 = .ok (.iload_n 2, 1) := by decide +kernel
theorem dX5_changesFar_77 : decode cX5_changesFar 77 = .ok (.if_icmp .eq 7, 3) := by decide +kernel
theorem dX5_changesFar_80 : decode cX5_changesFar 80 = .ok (.iconst 1, 1) := by decide +kernel
theorem dX5_changesFar_81 : decode cX5_changesFar 81 = .ok (.goto 4, 3) := by decide +kernel
theorem dX5_changesFar_84 : decode cX5_changesFar 84 = .ok (.iconst 0, 1) := by decide +kernel
theorem dX5_changesFar_85 : decode cX5_changesFar 85 = .ok (.iadd, 1) := by decide +kernel
theorem dX5_changesFar_86 : decode cX5_changesFar 86 = .ok (.istore_n 3, 1) := by decide +kernel
theorem dX5_changesFar_87 : decode cX5_changesFar 87 = .ok (.iload 6, 2) := by decide +kernel
theorem dX5_changesFar_89 : decode cX5_changesFar 89 = .ok (.istore_n 2, 1) := by decide +kernel
theorem dX5_changesFar_90 : decode cX5_changesFar 90 = .ok (.iinc 4 1, 3) := by decide +kernel
theorem dX5_changesFar_93 : decode cX5_changesFar 93 = .ok (.goto (-86), 3) := by decide +kernel
theorem dX5_changesFar_96 : decode cX5_changesFar 96 = .ok (.iload_n 3, 1) := by decide +kernel
theorem dX5_changesFar_97 : decode cX5_changesFar 97 = .ok (.ireturn, 1) := by decide +kernel
theorem dX5_roots_0 : decode cX5_roots 0 = .ok (.iload_n 1, 1) := by decide +kernel
theorem dX5_roots_1 : decode cX5_roots 1 = .ok (.invokestatic 106, 3) := by decide +kernel
theorem dX5_roots_4 : decode cX5_roots 4 = .ok (.ifCond .eq 17, 3) := by decide +kernel
theorem dX5_roots_7 : decode cX5_roots 7 = .ok (.aload_n 0, 1) := by decide +kernel
theorem dX5_roots_8 : decode cX5_roots 8 = .ok (.getfield 21, 3) := by decide +kernel
theorem dX5_roots_11 : decode cX5_roots 11 = .ok (.iload_n 1, 1) := by decide +kernel
theorem dX5_roots_12 : decode cX5_roots 12 = .ok (.iaload, 1) := by decide +kernel
theorem dX5_roots_13 : decode cX5_roots 13 = .ok (.ifCond .lt 8, 3) := by decide +kernel
theorem dX5_roots_16 : decode cX5_roots 16 = .ok (.iload_n 2, 1) := by decide +kernel
theorem dX5_roots_17 : decode cX5_roots 17 = .ok (.iload_n 3, 1) := by decide +kernel
theorem dX5_roots_18 : decode cX5_roots 18 = .ok (.if_icmp .le 5, 3) := by decide +kernel
theorem dX5_roots_21 : decode cX5_roots 21 = .ok (.iconst (-1), 1) := by decide +kernel
theorem dX5_roots_22 : decode cX5_roots 22 = .ok (.ireturn, 1) := by decide +kernel
theorem dX5_roots_23 : decode cX5_roots 23 = .ok (.aload_n 0, 1) := by decide +kernel
theorem dX5_roots_24 : decode cX5_roots 24 = .ok (.iload_n 1, 1) := by decide +kernel
theorem dX5_roots_25 : decode cX5_roots 25 = .ok (.invokevirtual 135, 3) := by decide +kernel
theorem dX5_roots_28 : decode cX5_roots 28 = .ok (.aload_n 0, 1) := by decide +kernel
theorem dX5_roots_29 : decode cX5_roots 29 = .ok (.iload_n 2, 1) := by decide +kernel
theorem dX5_roots_30 : decode cX5_roots 30 = .ok (.i2l, 1) := by decide +kernel
theorem dX5_roots_31 : decode cX5_roots 31 = .ok (.invokevirtual 138, 3) := by decide +kernel
theorem dX5_roots_34 : decode cX5_roots 34 = .ok (.aload_n 0, 1) := by decide +kernel
theorem dX5_roots_35 : decode cX5_roots 35 = .ok (.iload_n 3, 1) := by decide +kernel
theorem dX5_roots_36 : decode cX5_roots 36 = .ok (.i2l, 1) := by decide +kernel
theorem dX5_roots_37 : decode cX5_roots 37 = .ok (.invokevirtual 138, 3) := by decide +kernel
theorem dX5_roots_40 : decode cX5_roots 40 = .ok (.isub, 1) := by decide +kernel
theorem dX5_roots_41 : decode cX5_roots 41 = .ok (.ireturn, 1) := by decide +kernel
theorem dX5_allRoots_0 : decode cX5_allRoots 0 = .ok (.iload_n 1, 1) := by decide +kernel
theorem dX5_allRoots_1 : decode cX5_allRoots 1 = .ok (.invokestatic 106, 3) := by decide +kernel
theorem dX5_allRoots_4 : decode cX5_allRoots 4 = .ok (.ifCond .eq 12, 3) := by decide +kernel
theorem dX5_allRoots_7 : decode cX5_allRoots 7 = .ok (.aload_n 0, 1) := by decide +kernel
theorem dX5_allRoots_8 : decode cX5_allRoots 8 = .ok (.getfield 21, 3) := by decide +kernel
theorem dX5_allRoots_11 : decode cX5_allRoots 11 = .ok (.iload_n 1, 1) := by decide +kernel
theorem dX5_allRoots_12 : decode cX5_allRoots 12 = .ok (.iaload, 1) := by decide +kernel
theorem dX5_allRoots_13 : decode cX5_allRoots 13 = .ok (.ifCond .ge 5, 3) := by decide +kernel
theorem dX5_allRoots_16 : decode cX5_allRoots 16 = .ok (.iconst (-1), 1) := by decide +kernel
theorem dX5_allRoots_17 : decode cX5_allRoots 17 = .ok (.ireturn, 1) := by decide +kernel
theorem dX5_allRoots_18 : decode cX5_allRoots 18 = .ok (.aload_n 0, 1) := by decide +kernel
theorem dX5_allRoots_19 : decode cX5_allRoots 19 = .ok (.iload_n 1, 1) := by decide +kernel
theorem dX5_allRoots_20 : decode cX5_allRoots 20 = .ok (.invokevirtual 135, 3) := by decide +kernel
theorem dX5_allRoots_23 : decode cX5_allRoots 23 = .ok (.aload_n 0, 1) := by decide +kernel
theorem dX5_allRoots_24 : decode cX5_allRoots 24 = .ok (.iconst 0, 1) := by decide +kernel
theorem dX5_allRoots_25 : decode cX5_allRoots 25 = .ok (.invokevirtual 142, 3) := by decide +kernel
theorem dX5_allRoots_28 : decode cX5_allRoots 28 = .ok (.aload_n 0, 1) := by decide +kernel
theorem dX5_allRoots_29 : decode cX5_allRoots 29 = .ok (.iconst 1, 1) := by decide +kernel
theorem dX5_allRoots_30 : decode cX5_allRoots 30 = .ok (.invokevirtual 142, 3) := by decide +kernel
theorem dX5_allRoots_33 : decode cX5_allRoots 33 = .ok (.isub, 1) := by decide +kernel
theorem dX5_allRoots_34 : decode cX5_allRoots 34 = .ok (.ireturn, 1) := by decide +kernel
theorem dX5_below_0 : decode cX5_below 0 = .ok (.aload_n 0, 1) := by decide +kernel
theorem dX5_below_1 : decode cX5_below 1 = .ok (.iconst 0, 1) := by decide +kernel
theorem dX5_below_2 : decode cX5_below 2 = .ok (.invokevirtual 142, 3) := by decide +kernel
theorem dX5_below_5 : decode cX5_below 5 = .ok (.aload_n 0, 1) := by decide +kernel
theorem dX5_below_6 : decode cX5_below 6 = .ok (.lload_n 1, 1) := by decide +kernel
theorem dX5_below_7 : decode cX5_below 7 = .ok (.invokevirtual 138, 3) := by decide +kernel
theorem dX5_below_10 : decode cX5_below 10 = .ok (.isub, 1) := by decide +kernel
theorem dX5_below_11 : decode cX5_below 11 = .ok (.aload_n 0, 1) := by decide +kernel
theorem dX5_below_12 : decode cX5_below 12 = .ok (.bipush 8, 2) := by decide +kernel
theorem dX5_below_14 : decode cX5_below 14 = .ok (.lload_n 1, 1) := by decide +kernel
theorem dX5_below_15 : decode cX5_below 15 = .ok (.lconst 1, 1) := by decide +kernel
theorem dX5_below_16 : decode cX5_below 16 = .ok (.invokevirtual 128, 3) := by decide +kernel
theorem dX5_below_19 : decode cX5_below 19 = .ok (.ifCond .ne 7, 3) := by decide +kernel
theorem dX5_below_22 : decode cX5_below 22 = .ok (.iconst 1, 1) := by decide +kernel
theorem dX5_below_23 : decode cX5_below 23 = .ok (.goto 4, 3) := by decide +kernel
theorem dX5_below_26 : decode cX5_below 26 = .ok (.iconst 0, 1) := by decide +kernel
theorem dX5_below_27 : decode cX5_below 27 = .ok (.isub, 1) := by decide +kernel
theorem dX5_below_28 : decode cX5_below 28 = .ok (.ireturn, 1) := by decide +kernel
theorem dX5_place_0 : decode cX5_place 0 = .ok (.ldc2_w 146, 3) := by decide +kernel
theorem dX5_place_3 : decode cX5_place 3 = .ok (.lstore_n 3, 1) := by decide +kernel
theorem dX5_place_4 : decode cX5_place 4 = .ok (.iload_n 1, 1) := by decide +kernel
theorem dX5_place_5 : decode cX5_place 5 = .ok (.invokestatic 106, 3) := by decide +kernel
theorem dX5_place_8 : decode cX5_place 8 = .ok (.ifCond .eq 16, 3) := by decide +kernel
theorem dX5_place_11 : decode cX5_place 11 = .ok (.aload_n 0, 1) := by decide +kernel
theorem dX5_place_12 : decode cX5_place 12 = .ok (.getfield 21, 3) := by decide +kernel
theorem dX5_place_15 : decode cX5_place 15 = .ok (.iload_n 1, 1) := by decide +kernel
theorem dX5_place_16 : decode cX5_place 16 = .ok (.iaload, 1) := by decide +kernel
theorem dX5_place_17 : decode cX5_place 17 = .ok (.ifCond .lt 7, 3) := by decide +kernel
theorem dX5_place_20 : decode cX5_place 20 = .ok (.iload_n 2, 1) := by decide +kernel
theorem dX5_place_21 : decode cX5_place 21 = .ok (.ifCond .ge 5, 3) := by decide +kernel
theorem dX5_place_24 : decode cX5_place 24 = .ok (.lload_n 3, 1) := by decide +kernel
theorem dX5_place_25 : decode cX5_place 25 = .ok (.lreturn, 1) := by decide +kernel
theorem dX5_place_26 : decode cX5_place 26 = .ok (.aload_n 0, 1) := by decide +kernel
theorem dX5_place_27 : decode cX5_place 27 = .ok (.iload_n 1, 1) := by decide +kernel
theorem dX5_place_28 : decode cX5_place 28 = .ok (.invokevirtual 135, 3) := by decide +kernel
theorem dX5_place_31 : decode cX5_place 31 = .ok (.iload_n 2, 1) := by decide +kernel
theorem dX5_place_32 : decode cX5_place 32 = .ok (.aload_n 0, 1) := by decide +kernel
theorem dX5_place_33 : decode cX5_place 33 = .ok (.iconst 0, 1) := by decide +kernel
theorem dX5_place_34 : decode cX5_place 34 = .ok (.invokevirtual 142, 3) := by decide +kernel
theorem dX5_place_37 : decode cX5_place 37 = .ok (.aload_n 0, 1) := by decide +kernel
theorem dX5_place_38 : decode cX5_place 38 = .ok (.iconst 1, 1) := by decide +kernel
theorem dX5_place_39 : decode cX5_place 39 = .ok (.invokevirtual 142, 3) := by decide +kernel
theorem dX5_place_42 : decode cX5_place 42 = .ok (.isub, 1) := by decide +kernel
theorem dX5_place_43 : decode cX5_place 43 = .ok (.if_icmp .lt 5, 3) := by decide +kernel
theorem dX5_place_46 : decode cX5_place 46 = .ok (.lload_n 3, 1) := by decide +kernel
theorem dX5_place_47 : decode cX5_place 47 = .ok (.lreturn, 1) := by decide +kernel
theorem dX5_place_48 : decode cX5_place 48 = .ok (.ldc2_w 148, 3) := by decide +kernel
theorem dX5_place_51 : decode cX5_place 51 = .ok (.lstore 5, 2) := by decide +kernel
theorem dX5_place_53 : decode cX5_place 53 = .ok (.ldc2_w 150, 3) := by decide +kernel
theorem dX5_place_56 : decode cX5_place 56 = .ok (.lstore 7, 2) := by decide +kernel
theorem dX5_place_58 : decode cX5_place 58 = .ok (.aload_n 0, 1) := by decide +kernel
theorem dX5_place_59 : decode cX5_place 59 = .ok (.lload 5, 2) := by decide +kernel
theorem dX5_place_61 : decode cX5_place 61 = .ok (.invokevirtual 152, 3) := by decide +kernel
theorem dX5_place_64 : decode cX5_place 64 = .ok (.iload_n 2, 1) := by decide +kernel
theorem dX5_place_65 : decode cX5_place 65 = .ok (.if_icmp .gt 13, 3) := by decide +kernel
theorem dX5_place_68 : decode cX5_place 68 = .ok (.aload_n 0, 1) := by decide +kernel
theorem dX5_place_69 : decode cX5_place 69 = .ok (.lload 7, 2) := by decide +kernel
theorem dX5_place_71 : decode cX5_place 71 = .ok (.invokevirtual 152, 3) := by decide +kernel
theorem dX5_place_74 : decode cX5_place 74 = .ok (.iload_n 2, 1) := by decide +kernel
theorem dX5_place_75 : decode cX5_place 75 = .ok (.if_icmp .gt 5, 3) := by decide +kernel
theorem dX5_place_78 : decode cX5_place 78 = .ok (.lload_n 3, 1) := by decide +kernel
theorem dX5_place_79 : decode cX5_place 79 = .ok (.lreturn, 1) := by decide +kernel
theorem dX5_place_80 : decode cX5_place 80 = .ok (.lload 7, 2) := by decide +kernel
theorem dX5_place_82 : decode cX5_place 82 = .ok (.lload 5, 2) := by decide +kernel
theorem dX5_place_84 : decode cX5_place 84 = .ok (.lsub, 1) := by decide +kernel
theorem dX5_place_85 : decode cX5_place 85 = .ok (.lconst 1, 1) := by decide +kernel
theorem dX5_place_86 : decode cX5_place 86 = .ok (.lcmp, 1) := by decide +kernel
theorem dX5_place_87 : decode cX5_place 87 = .ok (.ifCond .le 36, 3) := by decide +kernel
theorem dX5_place_90 : decode cX5_place 90 = .ok (.lload 5, 2) := by decide +kernel
theorem dX5_place_92 : decode cX5_place 92 = .ok (.lload 7, 2) := by decide +kernel
theorem dX5_place_94 : decode cX5_place 94 = .ok (.ladd, 1) := by decide +kernel
theorem dX5_place_95 : decode cX5_place 95 = .ok (.iconst 1, 1) := by decide +kernel
theorem dX5_place_96 : decode cX5_place 96 = .ok (.lshr, 1) := by decide +kernel
theorem dX5_place_97 : decode cX5_place 97 = .ok (.lstore 9, 2) := by decide +kernel
theorem dX5_place_99 : decode cX5_place 99 = .ok (.aload_n 0, 1) := by decide +kernel
theorem dX5_place_100 : decode cX5_place 100 = .ok (.lload 9, 2) := by decide +kernel
theorem dX5_place_102 : decode cX5_place 102 = .ok (.invokevirtual 152, 3) := by decide +kernel
theorem dX5_place_105 : decode cX5_place 105 = .ok (.iload_n 2, 1) := by decide +kernel
theorem dX5_place_106 : decode cX5_place 106 = .ok (.if_icmp .gt 10, 3) := by decide +kernel
theorem dX5_place_109 : decode cX5_place 109 = .ok (.lload 9, 2) := by decide +kernel
theorem dX5_place_111 : decode cX5_place 111 = .ok (.lstore 5, 2) := by decide +kernel
theorem dX5_place_113 : decode cX5_place 113 = .ok (.goto 7, 3) := by decide +kernel
theorem dX5_place_116 : decode cX5_place 116 = .ok (.lload 9, 2) := by decide +kernel
theorem dX5_place_118 : decode cX5_place 118 = .ok (.lstore 7, 2) := by decide +kernel
theorem dX5_place_120 : decode cX5_place 120 = .ok (.goto (-40), 3) := by decide +kernel
theorem dX5_place_123 : decode cX5_place 123 = .ok (.lload 5, 2) := by decide +kernel
theorem dX5_place_125 : decode cX5_place 125 = .ok (.lreturn, 1) := by decide +kernel
theorem dX5_degree_0 : decode cX5_degree 0 = .ok (.iload_n 1, 1) := by decide +kernel
theorem dX5_degree_1 : decode cX5_degree 1 = .ok (.invokestatic 106, 3) := by decide +kernel
theorem dX5_degree_4 : decode cX5_degree 4 = .ok (.ifCond .eq 12, 3) := by decide +kernel
theorem dX5_degree_7 : decode cX5_degree 7 = .ok (.aload_n 0, 1) := by decide +kernel
theorem dX5_degree_8 : decode cX5_degree 8 = .ok (.getfield 21, 3) := by decide +kernel
theorem dX5_degree_11 : decode cX5_degree 11 = .ok (.iload_n 1, 1) := by decide +kernel
theorem dX5_degree_12 : decode cX5_degree 12 = .ok (.iaload, 1) := by decide +kernel
theorem dX5_degree_13 : decode cX5_degree 13 = .ok (.goto 5, 3) := by decide +kernel
theorem dX5_degree_16 : decode cX5_degree 16 = .ok (.bipush (-2), 2) := by decide +kernel
theorem dX5_degree_18 : decode cX5_degree 18 = .ok (.ireturn, 1) := by decide +kernel
theorem dX5_signOf_0 : decode cX5_signOf 0 = .ok (.iload_n 1, 1) := by decide +kernel
theorem dX5_signOf_1 : decode cX5_signOf 1 = .ok (.invokestatic 106, 3) := by decide +kernel
theorem dX5_signOf_4 : decode cX5_signOf 4 = .ok (.ifCond .eq 23, 3) := by decide +kernel
theorem dX5_signOf_7 : decode cX5_signOf 7 = .ok (.iload_n 2, 1) := by decide +kernel
theorem dX5_signOf_8 : decode cX5_signOf 8 = .ok (.invokestatic 110, 3) := by decide +kernel
theorem dX5_signOf_11 : decode cX5_signOf 11 = .ok (.ifCond .eq 16, 3) := by decide +kernel
theorem dX5_signOf_14 : decode cX5_signOf 14 = .ok (.aload_n 0, 1) := by decide +kernel
theorem dX5_signOf_15 : decode cX5_signOf 15 = .ok (.getfield 18, 3) := by decide +kernel
theorem dX5_signOf_18 : decode cX5_signOf 18 = .ok (.iload_n 1, 1) := by decide +kernel
theorem dX5_signOf_19 : decode cX5_signOf 19 = .ok (.iload_n 2, 1) := by decide +kernel
theorem dX5_signOf_20 : decode cX5_signOf 20 = .ok (.invokestatic 66, 3) := by decide +kernel
theorem dX5_signOf_23 : decode cX5_signOf 23 = .ok (.iaload, 1) := by decide +kernel
theorem dX5_signOf_24 : decode cX5_signOf 24 = .ok (.goto 4, 3) := by decide +kernel
theorem dX5_signOf_27 : decode cX5_signOf 27 = .ok (.iconst 2, 1) := by decide +kernel
theorem dX5_signOf_28 : decode cX5_signOf 28 = .ok (.ireturn, 1) := by decide +kernel
theorem dX5_words_0 : decode cX5_words 0 = .ok (.iload_n 1, 1) := by decide +kernel
theorem dX5_words_1 : decode cX5_words 1 = .ok (.invokestatic 106, 3) := by decide +kernel
theorem dX5_words_4 : decode cX5_words 4 = .ok (.ifCond .eq 28, 3) := by decide +kernel
theorem dX5_words_7 : decode cX5_words 7 = .ok (.iload_n 2, 1) := by decide +kernel
theorem dX5_words_8 : decode cX5_words 8 = .ok (.invokestatic 110, 3) := by decide +kernel
theorem dX5_words_11 : decode cX5_words 11 = .ok (.ifCond .eq 21, 3) := by decide +kernel
theorem dX5_words_14 : decode cX5_words 14 = .ok (.aload_n 0, 1) := by decide +kernel
theorem dX5_words_15 : decode cX5_words 15 = .ok (.iload_n 1, 1) := by decide +kernel
theorem dX5_words_16 : decode cX5_words 16 = .ok (.iload_n 2, 1) := by decide +kernel
theorem dX5_words_17 : decode cX5_words 17 = .ok (.invokestatic 66, 3) := by decide +kernel
theorem dX5_words_20 : decode cX5_words 20 = .ok (.invokevirtual 45, 3) := by decide +kernel
theorem dX5_words_23 : decode cX5_words 23 = .ok (.bipush 30, 2) := by decide +kernel
theorem dX5_words_25 : decode cX5_words 25 = .ok (.iadd, 1) := by decide +kernel
theorem dX5_words_26 : decode cX5_words 26 = .ok (.bipush 31, 2) := by decide +kernel
theorem dX5_words_28 : decode cX5_words 28 = .ok (.idiv, 1) := by decide +kernel
theorem dX5_words_29 : decode cX5_words 29 = .ok (.goto 4, 3) := by decide +kernel
theorem dX5_words_32 : decode cX5_words 32 = .ok (.iconst (-1), 1) := by decide +kernel
theorem dX5_words_33 : decode cX5_words 33 = .ok (.ireturn, 1) := by decide +kernel
theorem dX5_wordOf_0 : decode cX5_wordOf 0 = .ok (.iload_n 3, 1) := by decide +kernel
theorem dX5_wordOf_1 : decode cX5_wordOf 1 = .ok (.ifCond .lt 13, 3) := by decide +kernel
theorem dX5_wordOf_4 : decode cX5_wordOf 4 = .ok (.iload_n 3, 1) := by decide +kernel
theorem dX5_wordOf_5 : decode cX5_wordOf 5 = .ok (.aload_n 0, 1) := by decide +kernel
theorem dX5_wordOf_6 : decode cX5_wordOf 6 = .ok (.iload_n 1, 1) := by decide +kernel
theorem dX5_wordOf_7 : decode cX5_wordOf 7 = .ok (.iload_n 2, 1) := by decide +kernel
theorem dX5_wordOf_8 : decode cX5_wordOf 8 = .ok (.invokevirtual 155, 3) := by decide +kernel
theorem dX5_wordOf_11 : decode cX5_wordOf 11 = .ok (.if_icmp .lt 5, 3) := by decide +kernel
theorem dX5_wordOf_14 : decode cX5_wordOf 14 = .ok (.iconst (-1), 1) := by decide +kernel
theorem dX5_wordOf_15 : decode cX5_wordOf 15 = .ok (.ireturn, 1) := by decide +kernel
theorem dX5_wordOf_16 : decode cX5_wordOf 16 = .ok (.iload_n 1, 1) := by decide +kernel
theorem dX5_wordOf_17 : decode cX5_wordOf 17 = .ok (.iload_n 2, 1) := by decide +kernel
theorem dX5_wordOf_18 : decode cX5_wordOf 18 = .ok (.invokestatic 66, 3) := by decide +kernel
theorem dX5_wordOf_21 : decode cX5_wordOf 21 = .ok (.istore 4, 2) := by decide +kernel
theorem dX5_wordOf_23 : decode cX5_wordOf 23 = .ok (.iconst 0, 1) := by decide +kernel
theorem dX5_wordOf_24 : decode cX5_wordOf 24 = .ok (.istore 5, 2) := by decide +kernel
theorem dX5_wordOf_26 : decode cX5_wordOf 26 = .ok (.bipush 30, 2) := by decide +kernel
theorem dX5_wordOf_28 : decode cX5_wordOf 28 = .ok (.istore 6, 2) := by decide +kernel
theorem dX5_wordOf_30 : decode cX5_wordOf 30 = .ok (.iload 6, 2) := by decide +kernel
theorem dX5_wordOf_32 : decode cX5_wordOf 32 = .ok (.ifCond .lt 74, 3) := by decide +kernel
theorem dX5_wordOf_35 : decode cX5_wordOf 35 = .ok (.bipush 31, 2) := by decide +kernel
theorem dX5_wordOf_37 : decode cX5_wordOf 37 = .ok (.iload_n 3, 1) := by decide +kernel
theorem dX5_wordOf_38 : decode cX5_wordOf 38 = .ok (.imul, 1) := by decide +kernel
theorem dX5_wordOf_39 : decode cX5_wordOf 39 = .ok (.iload 6, 2) := by decide +kernel
theorem dX5_wordOf_41 : decode cX5_wordOf 41 = .ok (.iadd, 1) := by decide +kernel
theorem dX5_wordOf_42 : decode cX5_wordOf 42 = .ok (.istore 7, 2) := by decide +kernel
theorem dX5_wordOf_44 : decode cX5_wordOf 44 = .ok (.iload 7, 2) := by decide +kernel
theorem dX5_wordOf_46 : decode cX5_wordOf 46 = .ok (.bipush 28, 2) := by decide +kernel
theorem dX5_wordOf_48 : decode cX5_wordOf 48 = .ok (.idiv, 1) := by decide +kernel
theorem dX5_wordOf_49 : decode cX5_wordOf 49 = .ok (.aload_n 0, 1) := by decide +kernel
theorem dX5_wordOf_50 : decode cX5_wordOf 50 = .ok (.getfield 14, 3) := by decide +kernel
theorem dX5_wordOf_53 : decode cX5_wordOf 53 = .ok (.iload 4, 2) := by decide +kernel
theorem dX5_wordOf_55 : decode cX5_wordOf 55 = .ok (.iaload, 1) := by decide +kernel
theorem dX5_wordOf_56 : decode cX5_wordOf 56 = .ok (.if_icmp .ge 23, 3) := by decide +kernel
theorem dX5_wordOf_59 : decode cX5_wordOf 59 = .ok (.aload_n 0, 1) := by decide +kernel
theorem dX5_wordOf_60 : decode cX5_wordOf 60 = .ok (.getfield 8, 3) := by decide +kernel
theorem dX5_wordOf_63 : decode cX5_wordOf 63 = .ok (.sipush 440, 3) := by decide +kernel
theorem dX5_wordOf_66 : decode cX5_wordOf 66 = .ok (.iload 4, 2) := by decide +kernel
theorem dX5_wordOf_68 : decode cX5_wordOf 68 = .ok (.imul, 1) := by decide +kernel
theorem dX5_wordOf_69 : decode cX5_wordOf 69 = .ok (.iload 7, 2) := by decide +kernel
theorem dX5_wordOf_71 : decode cX5_wordOf 71 = .ok (.bipush 28, 2) := by decide +kernel
theorem dX5_wordOf_73 : decode cX5_wordOf 73 = .ok (.idiv, 1) := by decide +kernel
theorem dX5_wordOf_74 : decode cX5_wordOf 74 = .ok (.iadd, 1) := by decide +kernel
theorem dX5_wordOf_75 : decode cX5_wordOf 75 = .ok (.laload, 1) := by decide +kernel
theorem dX5_wordOf_76 : decode cX5_wordOf 76 = .ok (.goto 4, 3) := by decide +kernel
theorem dX5_wordOf_79 : decode cX5_wordOf 79 = .ok (.lconst 0, 1) := by decide +kernel
theorem dX5_wordOf_80 : decode cX5_wordOf 80 = .ok (.lstore 8, 2) := by decide +kernel
theorem dX5_wordOf_82 : decode cX5_wordOf 82 = .ok (.iload 5, 2) := by decide +kernel
theorem dX5_wordOf_84 : decode cX5_wordOf 84 = .ok (.iconst 1, 1) := by decide +kernel
theorem dX5_wordOf_85 : decode cX5_wordOf 85 = .ok (.ishl, 1) := by decide +kernel
theorem dX5_wordOf_86 : decode cX5_wordOf 86 = .ok (.lload 8, 2) := by decide +kernel
theorem dX5_wordOf_88 : decode cX5_wordOf 88 = .ok (.iload 7, 2) := by decide +kernel
theorem dX5_wordOf_90 : decode cX5_wordOf 90 = .ok (.bipush 28, 2) := by decide +kernel
theorem dX5_wordOf_92 : decode cX5_wordOf 92 = .ok (.irem, 1) := by decide +kernel
theorem dX5_wordOf_93 : decode cX5_wordOf 93 = .ok (.lshr, 1) := by decide +kernel
theorem dX5_wordOf_94 : decode cX5_wordOf 94 = .ok (.lconst 1, 1) := by decide +kernel
theorem dX5_wordOf_95 : decode cX5_wordOf 95 = .ok (.land, 1) := by decide +kernel
theorem dX5_wordOf_96 : decode cX5_wordOf 96 = .ok (.l2i, 1) := by decide +kernel
theorem dX5_wordOf_97 : decode cX5_wordOf 97 = .ok (.ior, 1) := by decide +kernel
theorem dX5_wordOf_98 : decode cX5_wordOf 98 = .ok (.istore 5, 2) := by decide +kernel
theorem dX5_wordOf_100 : decode cX5_wordOf 100 = .ok (.iinc 6 (-1), 3) := by decide +kernel
theorem dX5_wordOf_103 : decode cX5_wordOf 103 = .ok (.goto (-73), 3) := by decide +kernel
theorem dX5_wordOf_106 : decode cX5_wordOf 106 = .ok (.iload 5, 2) := by decide +kernel
theorem dX5_wordOf_108 : decode cX5_wordOf 108 = .ok (.ireturn, 1) := by decide +kernel
theorem dX5_same_0 : decode cX5_same 0 = .ok (.iload_n 1, 1) := by decide +kernel
theorem dX5_same_1 : decode cX5_same 1 = .ok (.invokestatic 106, 3) := by decide +kernel
theorem dX5_same_4 : decode cX5_same 4 = .ok (.ifCond .eq 10, 3) := by decide +kernel
theorem dX5_same_7 : decode cX5_same 7 = .ok (.iload_n 2, 1) := by decide +kernel
theorem dX5_same_8 : decode cX5_same 8 = .ok (.invokestatic 106, 3) := by decide +kernel
theorem dX5_same_11 : decode cX5_same 11 = .ok (.ifCond .ne 5, 3) := by decide +kernel
theorem dX5_same_14 : decode cX5_same 14 = .ok (.iconst 0, 1) := by decide +kernel
theorem dX5_same_15 : decode cX5_same 15 = .ok (.ireturn, 1) := by decide +kernel
theorem dX5_same_16 : decode cX5_same 16 = .ok (.iconst 1, 1) := by decide +kernel
theorem dX5_same_17 : decode cX5_same 17 = .ok (.istore_n 3, 1) := by decide +kernel
theorem dX5_same_18 : decode cX5_same 18 = .ok (.iconst 0, 1) := by decide +kernel
theorem dX5_same_19 : decode cX5_same 19 = .ok (.istore 4, 2) := by decide +kernel
theorem dX5_same_21 : decode cX5_same 21 = .ok (.iload 4, 2) := by decide +kernel
theorem dX5_same_23 : decode cX5_same 23 = .ok (.bipush 9, 2) := by decide +kernel
theorem dX5_same_25 : decode cX5_same 25 = .ok (.if_icmp .ge 63, 3) := by decide +kernel
theorem dX5_same_28 : decode cX5_same 28 = .ok (.iload_n 3, 1) := by decide +kernel
theorem dX5_same_29 : decode cX5_same 29 = .ok (.ifCond .eq 51, 3) := by decide +kernel
theorem dX5_same_32 : decode cX5_same 32 = .ok (.aload_n 0, 1) := by decide +kernel
theorem dX5_same_33 : decode cX5_same 33 = .ok (.getfield 18, 3) := by decide +kernel
theorem dX5_same_36 : decode cX5_same 36 = .ok (.iload_n 1, 1) := by decide +kernel
theorem dX5_same_37 : decode cX5_same 37 = .ok (.iload 4, 2) := by decide +kernel
theorem dX5_same_39 : decode cX5_same 39 = .ok (.invokestatic 66, 3) := by decide +kernel
theorem dX5_same_42 : decode cX5_same 42 = .ok (.iaload, 1) := by decide +kernel
theorem dX5_same_43 : decode cX5_same 43 = .ok (.aload_n 0, 1) := by decide +kernel
theorem dX5_same_44 : decode cX5_same 44 = .ok (.getfield 18, 3) := by decide +kernel
theorem dX5_same_47 : decode cX5_same 47 = .ok (.iload_n 2, 1) := by decide +kernel
theorem dX5_same_48 : decode cX5_same 48 = .ok (.iload 4, 2) := by decide +kernel
theorem dX5_same_50 : decode cX5_same 50 = .ok (.invokestatic 66, 3) := by decide +kernel
theorem dX5_same_53 : decode cX5_same 53 = .ok (.iaload, 1) := by decide +kernel
theorem dX5_same_54 : decode cX5_same 54 = .ok (.if_icmp .ne 26, 3) := by decide +kernel
theorem dX5_same_57 : decode cX5_same 57 = .ok (.aload_n 0, 1) := by decide +kernel
theorem dX5_same_58 : decode cX5_same 58 = .ok (.iload_n 1, 1) := by decide +kernel
theorem dX5_same_59 : decode cX5_same 59 = .ok (.iload 4, 2) := by decide +kernel
theorem dX5_same_61 : decode cX5_same 61 = .ok (.invokestatic 66, 3) := by decide +kernel
theorem dX5_same_64 : decode cX5_same 64 = .ok (.iload_n 2, 1) := by decide +kernel
theorem dX5_same_65 : decode cX5_same 65 = .ok (.iload 4, 2) := by decide +kernel
theorem dX5_same_67 : decode cX5_same 67 = .ok (.invokestatic 66, 3) := by decide +kernel
theorem dX5_same_70 : decode cX5_same 70 = .ok (.invokevirtual 37, 3) := by decide +kernel
theorem dX5_same_73 : decode cX5_same 73 = .ok (.ifCond .ne 7, 3) := by decide +kernel
theorem dX5_same_76 : decode cX5_same 76 = .ok (.iconst 1, 1) := by decide +kernel
theorem dX5_same_77 : decode cX5_same 77 = .ok (.goto 4, 3) := by decide +kernel
theorem dX5_same_80 : decode cX5_same 80 = .ok (.iconst 0, 1) := by decide +kernel
theorem dX5_same_81 : decode cX5_same 81 = .ok (.istore_n 3, 1) := by decide +kernel
theorem dX5_same_82 : decode cX5_same 82 = .ok (.iinc 4 1, 3) := by decide +kernel
theorem dX5_same_85 : decode cX5_same 85 = .ok (.goto (-64), 3) := by decide +kernel
theorem dX5_same_88 : decode cX5_same 88 = .ok (.iload_n 3, 1) := by decide +kernel
theorem dX5_same_89 : decode cX5_same 89 = .ok (.ireturn, 1) := by decide +kernel
