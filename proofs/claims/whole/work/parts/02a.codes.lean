theorem dX0_init_0 : decode cX0_init 0 = .ok (.aload_n 0, 1) := by decide +kernel
theorem dX0_init_1 : decode cX0_init 1 = .ok (.invokespecial 3, 3) := by decide +kernel
theorem dX0_init_4 : decode cX0_init 4 = .ok (.aload_n 0, 1) := by decide +kernel
theorem dX0_init_5 : decode cX0_init 5 = .ok (.iconst 3, 1) := by decide +kernel
theorem dX0_init_6 : decode cX0_init 6 = .ok (.newarray .int, 2) := by decide +kernel
theorem dX0_init_8 : decode cX0_init 8 = .ok (.putfield 9, 3) := by decide +kernel
theorem dX0_init_11 : decode cX0_init 11 = .ok (.aload_n 0, 1) := by decide +kernel
theorem dX0_init_12 : decode cX0_init 12 = .ok (.bipush 11, 2) := by decide +kernel
theorem dX0_init_14 : decode cX0_init 14 = .ok (.newarray .int, 2) := by decide +kernel
theorem dX0_init_16 : decode cX0_init 16 = .ok (.putfield 15, 3) := by decide +kernel
theorem dX0_init_19 : decode cX0_init 19 = .ok (.return_, 1) := by decide +kernel
theorem dX0_kindsOf_0 : decode cX0_kindsOf 0 = .ok (.aload_n 0, 1) := by decide +kernel
theorem dX0_kindsOf_1 : decode cX0_kindsOf 1 = .ok (.aload_n 1, 1) := by decide +kernel
theorem dX0_kindsOf_2 : decode cX0_kindsOf 2 = .ok (.iload_n 2, 1) := by decide +kernel
theorem dX0_kindsOf_3 : decode cX0_kindsOf 3 = .ok (.invokevirtual 18, 3) := by decide +kernel
theorem dX0_kindsOf_6 : decode cX0_kindsOf 6 = .ok (.iconst 0, 1) := by decide +kernel
theorem dX0_kindsOf_7 : decode cX0_kindsOf 7 = .ok (.istore 5, 2) := by decide +kernel
theorem dX0_kindsOf_9 : decode cX0_kindsOf 9 = .ok (.iconst 0, 1) := by decide +kernel
theorem dX0_kindsOf_10 : decode cX0_kindsOf 10 = .ok (.istore 6, 2) := by decide +kernel
theorem dX0_kindsOf_12 : decode cX0_kindsOf 12 = .ok (.iload 6, 2) := by decide +kernel
theorem dX0_kindsOf_14 : decode cX0_kindsOf 14 = .ok (.bipush 6, 2) := by decide +kernel
theorem dX0_kindsOf_16 : decode cX0_kindsOf 16 = .ok (.if_icmp .ge 34, 3) := by decide +kernel
theorem dX0_kindsOf_19 : decode cX0_kindsOf 19 = .ok (.aload_n 0, 1) := by decide +kernel
theorem dX0_kindsOf_20 : decode cX0_kindsOf 20 = .ok (.iload 6, 2) := by decide +kernel
theorem dX0_kindsOf_22 : decode cX0_kindsOf 22 = .ok (.aload_n 1, 1) := by decide +kernel
theorem dX0_kindsOf_23 : decode cX0_kindsOf 23 = .ok (.getfield 22, 3) := by decide +kernel
theorem dX0_kindsOf_26 : decode cX0_kindsOf 26 = .ok (.aload_n 3, 1) := by decide +kernel
theorem dX0_kindsOf_27 : decode cX0_kindsOf 27 = .ok (.iload 4, 2) := by decide +kernel
theorem dX0_kindsOf_29 : decode cX0_kindsOf 29 = .ok (.invokevirtual 28, 3) := by decide +kernel
theorem dX0_kindsOf_32 : decode cX0_kindsOf 32 = .ok (.ifCond .eq 12, 3) := by decide +kernel
theorem dX0_kindsOf_35 : decode cX0_kindsOf 35 = .ok (.iload 5, 2) := by decide +kernel
theorem dX0_kindsOf_37 : decode cX0_kindsOf 37 = .ok (.iconst 1, 1) := by decide +kernel
theorem dX0_kindsOf_38 : decode cX0_kindsOf 38 = .ok (.iload 6, 2) := by decide +kernel
theorem dX0_kindsOf_40 : decode cX0_kindsOf 40 = .ok (.ishl, 1) := by decide +kernel
theorem dX0_kindsOf_41 : decode cX0_kindsOf 41 = .ok (.ior, 1) := by decide +kernel
theorem dX0_kindsOf_42 : decode cX0_kindsOf 42 = .ok (.istore 5, 2) := by decide +kernel
theorem dX0_kindsOf_44 : decode cX0_kindsOf 44 = .ok (.iinc 6 1, 3) := by decide +kernel
theorem dX0_kindsOf_47 : decode cX0_kindsOf 47 = .ok (.goto (-35), 3) := by decide +kernel
theorem dX0_kindsOf_50 : decode cX0_kindsOf 50 = .ok (.iload 5, 2) := by decide +kernel
theorem dX0_kindsOf_52 : decode cX0_kindsOf 52 = .ok (.ireturn, 1) := by decide +kernel
theorem dX0_figuresOf_0 : decode cX0_figuresOf 0 = .ok (.aload_n 0, 1) := by decide +kernel
theorem dX0_figuresOf_1 : decode cX0_figuresOf 1 = .ok (.aload_n 1, 1) := by decide +kernel
theorem dX0_figuresOf_2 : decode cX0_figuresOf 2 = .ok (.iload_n 2, 1) := by decide +kernel
theorem dX0_figuresOf_3 : decode cX0_figuresOf 3 = .ok (.invokevirtual 18, 3) := by decide +kernel
theorem dX0_figuresOf_6 : decode cX0_figuresOf 6 = .ok (.iconst 0, 1) := by decide +kernel
theorem dX0_figuresOf_7 : decode cX0_figuresOf 7 = .ok (.istore 6, 2) := by decide +kernel
theorem dX0_figuresOf_9 : decode cX0_figuresOf 9 = .ok (.iconst 0, 1) := by decide +kernel
theorem dX0_figuresOf_10 : decode cX0_figuresOf 10 = .ok (.istore 7, 2) := by decide +kernel
theorem dX0_figuresOf_12 : decode cX0_figuresOf 12 = .ok (.iload 7, 2) := by decide +kernel
theorem dX0_figuresOf_14 : decode cX0_figuresOf 14 = .ok (.bipush 10, 2) := by decide +kernel
theorem dX0_figuresOf_16 : decode cX0_figuresOf 16 = .ok (.if_icmp .ge 47, 3) := by decide +kernel
theorem dX0_figuresOf_19 : decode cX0_figuresOf 19 = .ok (.aload_n 0, 1) := by decide +kernel
theorem dX0_figuresOf_20 : decode cX0_figuresOf 20 = .ok (.getfield 9, 3) := by decide +kernel
theorem dX0_figuresOf_23 : decode cX0_figuresOf 23 = .ok (.iload_n 3, 1) := by decide +kernel
theorem dX0_figuresOf_24 : decode cX0_figuresOf 24 = .ok (.iload 7, 2) := by decide +kernel
theorem dX0_figuresOf_26 : decode cX0_figuresOf 26 = .ok (.iastore, 1) := by decide +kernel
theorem dX0_figuresOf_27 : decode cX0_figuresOf 27 = .ok (.aload_n 0, 1) := by decide +kernel
theorem dX0_figuresOf_28 : decode cX0_figuresOf 28 = .ok (.aload_n 1, 1) := by decide +kernel
theorem dX0_figuresOf_29 : decode cX0_figuresOf 29 = .ok (.getfield 32, 3) := by decide +kernel
theorem dX0_figuresOf_32 : decode cX0_figuresOf 32 = .ok (.iload_n 2, 1) := by decide +kernel
theorem dX0_figuresOf_33 : decode cX0_figuresOf 33 = .ok (.iaload, 1) := by decide +kernel
theorem dX0_figuresOf_34 : decode cX0_figuresOf 34 = .ok (.aload_n 1, 1) := by decide +kernel
theorem dX0_figuresOf_35 : decode cX0_figuresOf 35 = .ok (.getfield 22, 3) := by decide +kernel
theorem dX0_figuresOf_38 : decode cX0_figuresOf 38 = .ok (.aload 4, 2) := by decide +kernel
theorem dX0_figuresOf_40 : decode cX0_figuresOf 40 = .ok (.iload 5, 2) := by decide +kernel
theorem dX0_figuresOf_42 : decode cX0_figuresOf 42 = .ok (.invokevirtual 28, 3) := by decide +kernel
theorem dX0_figuresOf_45 : decode cX0_figuresOf 45 = .ok (.ifCond .eq 12, 3) := by decide +kernel
theorem dX0_figuresOf_48 : decode cX0_figuresOf 48 = .ok (.iload 6, 2) := by decide +kernel
theorem dX0_figuresOf_50 : decode cX0_figuresOf 50 = .ok (.iconst 1, 1) := by decide +kernel
theorem dX0_figuresOf_51 : decode cX0_figuresOf 51 = .ok (.iload 7, 2) := by decide +kernel
theorem dX0_figuresOf_53 : decode cX0_figuresOf 53 = .ok (.ishl, 1) := by decide +kernel
theorem dX0_figuresOf_54 : decode cX0_figuresOf 54 = .ok (.ior, 1) := by decide +kernel
theorem dX0_figuresOf_55 : decode cX0_figuresOf 55 = .ok (.istore 6, 2) := by decide +kernel
theorem dX0_figuresOf_57 : decode cX0_figuresOf 57 = .ok (.iinc 7 1, 3) := by decide +kernel
theorem dX0_figuresOf_60 : decode cX0_figuresOf 60 = .ok (.goto (-48), 3) := by decide +kernel
theorem dX0_figuresOf_63 : decode cX0_figuresOf 63 = .ok (.iload 6, 2) := by decide +kernel
theorem dX0_figuresOf_65 : decode cX0_figuresOf 65 = .ok (.ireturn, 1) := by decide +kernel
theorem dX0_greatestPart_0 : decode cX0_greatestPart 0 = .ok (.aload_n 0, 1) := by decide +kernel
theorem dX0_greatestPart_1 : decode cX0_greatestPart 1 = .ok (.aload_n 1, 1) := by decide +kernel
theorem dX0_greatestPart_2 : decode cX0_greatestPart 2 = .ok (.iload_n 2, 1) := by decide +kernel
theorem dX0_greatestPart_3 : decode cX0_greatestPart 3 = .ok (.invokevirtual 18, 3) := by decide +kernel
theorem dX0_greatestPart_6 : decode cX0_greatestPart 6 = .ok (.iconst 0, 1) := by decide +kernel
theorem dX0_greatestPart_7 : decode cX0_greatestPart 7 = .ok (.istore 5, 2) := by decide +kernel
theorem dX0_greatestPart_9 : decode cX0_greatestPart 9 = .ok (.iload 5, 2) := by decide +kernel
theorem dX0_greatestPart_11 : decode cX0_greatestPart 11 = .ok (.bipush 11, 2) := by decide +kernel
theorem dX0_greatestPart_13 : decode cX0_greatestPart 13 = .ok (.if_icmp .ge 17, 3) := by decide +kernel
theorem dX0_greatestPart_16 : decode cX0_greatestPart 16 = .ok (.aload_n 0, 1) := by decide +kernel
theorem dX0_greatestPart_17 : decode cX0_greatestPart 17 = .ok (.getfield 15, 3) := by decide +kernel
theorem dX0_greatestPart_20 : decode cX0_greatestPart 20 = .ok (.iload 5, 2) := by decide +kernel
theorem dX0_greatestPart_22 : decode cX0_greatestPart 22 = .ok (.iconst 0, 1) := by decide +kernel
theorem dX0_greatestPart_23 : decode cX0_greatestPart 23 = .ok (.iastore, 1) := by decide +kernel
theorem dX0_greatestPart_24 : decode cX0_greatestPart 24 = .ok (.iinc 5 1, 3) := by decide +kernel
theorem dX0_greatestPart_27 : decode cX0_greatestPart 27 = .ok (.goto (-18), 3) := by decide +kernel
theorem dX0_greatestPart_30 : decode cX0_greatestPart 30 = .ok (.iconst 0, 1) := by decide +kernel
theorem dX0_greatestPart_31 : decode cX0_greatestPart 31 = .ok (.istore 5, 2) := by decide +kernel
theorem dX0_greatestPart_33 : decode cX0_greatestPart 33 = .ok (.iconst 0, 1) := by decide +kernel
theorem dX0_greatestPart_34 : decode cX0_greatestPart 34 = .ok (.istore 6, 2) := by decide +kernel
theorem dX0_greatestPart_36 : decode cX0_greatestPart 36 = .ok (.iload 6, 2) := by decide +kernel
theorem dX0_greatestPart_38 : decode cX0_greatestPart 38 = .ok (.bipush 6, 2) := by decide +kernel
theorem dX0_greatestPart_40 : decode cX0_greatestPart 40 = .ok (.if_icmp .ge 61, 3) := by decide +kernel
theorem dX0_greatestPart_43 : decode cX0_greatestPart 43 = .ok (.iload 4, 2) := by decide +kernel
theorem dX0_greatestPart_45 : decode cX0_greatestPart 45 = .ok (.iload 6, 2) := by decide +kernel
theorem dX0_greatestPart_47 : decode cX0_greatestPart 47 = .ok (.ishr, 1) := by decide +kernel
theorem dX0_greatestPart_48 : decode cX0_greatestPart 48 = .ok (.iconst 1, 1) := by decide +kernel
theorem dX0_greatestPart_49 : decode cX0_greatestPart 49 = .ok (.iand, 1) := by decide +kernel
theorem dX0_greatestPart_50 : decode cX0_greatestPart 50 = .ok (.ifCond .eq 45, 3) := by decide +kernel
theorem dX0_greatestPart_53 : decode cX0_greatestPart 53 = .ok (.iload 6, 2) := by decide +kernel
theorem dX0_greatestPart_55 : decode cX0_greatestPart 55 = .ok (.aload_n 0, 1) := by decide +kernel
theorem dX0_greatestPart_56 : decode cX0_greatestPart 56 = .ok (.getfield 9, 3) := by decide +kernel
theorem dX0_greatestPart_59 : decode cX0_greatestPart 59 = .ok (.iconst 0, 1) := by decide +kernel
theorem dX0_greatestPart_60 : decode cX0_greatestPart 60 = .ok (.iload_n 3, 1) := by decide +kernel
theorem dX0_greatestPart_61 : decode cX0_greatestPart 61 = .ok (.aload_n 1, 1) := by decide +kernel
theorem dX0_greatestPart_62 : decode cX0_greatestPart 62 = .ok (.getfield 22, 3) := by decide +kernel
theorem dX0_greatestPart_65 : decode cX0_greatestPart 65 = .ok (.invokestatic 35, 3) := by decide +kernel
theorem dX0_greatestPart_68 : decode cX0_greatestPart 68 = .ok (.istore 7, 2) := by decide +kernel
theorem dX0_greatestPart_70 : decode cX0_greatestPart 70 = .ok (.aload_n 0, 1) := by decide +kernel
theorem dX0_greatestPart_71 : decode cX0_greatestPart 71 = .ok (.getfield 15, 3) := by decide +kernel
theorem dX0_greatestPart_74 : decode cX0_greatestPart 74 = .ok (.iload 7, 2) := by decide +kernel
theorem dX0_greatestPart_76 : decode cX0_greatestPart 76 = .ok (.dup2, 1) := by decide +kernel
theorem dX0_greatestPart_77 : decode cX0_greatestPart 77 = .ok (.iaload, 1) := by decide +kernel
theorem dX0_greatestPart_78 : decode cX0_greatestPart 78 = .ok (.iconst 1, 1) := by decide +kernel
theorem dX0_greatestPart_79 : decode cX0_greatestPart 79 = .ok (.iadd, 1) := by decide +kernel
theorem dX0_greatestPart_80 : decode cX0_greatestPart 80 = .ok (.iastore, 1) := by decide +kernel
theorem dX0_greatestPart_81 : decode cX0_greatestPart 81 = .ok (.iload 5, 2) := by decide +kernel
theorem dX0_greatestPart_83 : decode cX0_greatestPart 83 = .ok (.aload_n 0, 1) := by decide +kernel
theorem dX0_greatestPart_84 : decode cX0_greatestPart 84 = .ok (.getfield 15, 3) := by decide +kernel
theorem dX0_greatestPart_87 : decode cX0_greatestPart 87 = .ok (.iload 7, 2) := by decide +kernel
theorem dX0_greatestPart_89 : decode cX0_greatestPart 89 = .ok (.iaload, 1) := by decide +kernel
theorem dX0_greatestPart_90 : decode cX0_greatestPart 90 = .ok (.invokestatic 39, 3) := by decide +kernel
theorem dX0_greatestPart_93 : decode cX0_greatestPart 93 = .ok (.istore 5, 2) := by decide +kernel
theorem dX0_greatestPart_95 : decode cX0_greatestPart 95 = .ok (.iinc 6 1, 3) := by decide +kernel
theorem dX0_greatestPart_98 : decode cX0_greatestPart 98 = .ok (.goto (-62), 3) := by decide +kernel
theorem dX0_greatestPart_101 : decode cX0_greatestPart 101 = .ok (.iload 5, 2) := by decide +kernel
theorem dX0_greatestPart_103 : decode cX0_greatestPart 103 = .ok (.ireturn, 1) := by decide +kernel
theorem dX0_suppose_0 : decode cX0_suppose 0 = .ok (.iconst 0, 1) := by decide +kernel
theorem dX0_suppose_1 : decode cX0_suppose 1 = .ok (.istore_n 3, 1) := by decide +kernel
theorem dX0_suppose_2 : decode cX0_suppose 2 = .ok (.iload_n 3, 1) := by decide +kernel
theorem dX0_suppose_3 : decode cX0_suppose 3 = .ok (.iconst 3, 1) := by decide +kernel
theorem dX0_suppose_4 : decode cX0_suppose 4 = .ok (.if_icmp .ge 21, 3) := by decide +kernel
theorem dX0_suppose_7 : decode cX0_suppose 7 = .ok (.aload_n 0, 1) := by decide +kernel
theorem dX0_suppose_8 : decode cX0_suppose 8 = .ok (.getfield 9, 3) := by decide +kernel
theorem dX0_suppose_11 : decode cX0_suppose 11 = .ok (.iload_n 3, 1) := by decide +kernel
theorem dX0_suppose_12 : decode cX0_suppose 12 = .ok (.aload_n 1, 1) := by decide +kernel
theorem dX0_suppose_13 : decode cX0_suppose 13 = .ok (.iload_n 2, 1) := by decide +kernel
theorem dX0_suppose_14 : decode cX0_suppose 14 = .ok (.iload_n 3, 1) := by decide +kernel
theorem dX0_suppose_15 : decode cX0_suppose 15 = .ok (.invokevirtual 45, 3) := by decide +kernel
theorem dX0_suppose_18 : decode cX0_suppose 18 = .ok (.iastore, 1) := by decide +kernel
theorem dX0_suppose_19 : decode cX0_suppose 19 = .ok (.iinc 3 1, 3) := by decide +kernel
theorem dX0_suppose_22 : decode cX0_suppose 22 = .ok (.goto (-20), 3) := by decide +kernel
theorem dX0_suppose_25 : decode cX0_suppose 25 = .ok (.return_, 1) := by decide +kernel
theorem dX0_fits_0 : decode cX0_fits 0 = .ok (.iconst 0, 1) := by decide +kernel
theorem dX0_fits_1 : decode cX0_fits 1 = .ok (.istore 5, 2) := by decide +kernel
theorem dX0_fits_3 : decode cX0_fits 3 = .ok (.iload 5, 2) := by decide +kernel
theorem dX0_fits_5 : decode cX0_fits 5 = .ok (.iconst 1, 1) := by decide +kernel
theorem dX0_fits_6 : decode cX0_fits 6 = .ok (.iadd, 1) := by decide +kernel
theorem dX0_fits_7 : decode cX0_fits 7 = .ok (.aload_n 3, 1) := by decide +kernel
theorem dX0_fits_8 : decode cX0_fits 8 = .ok (.iload 4, 2) := by decide +kernel
theorem dX0_fits_10 : decode cX0_fits 10 = .ok (.invokevirtual 48, 3) := by decide +kernel
theorem dX0_fits_13 : decode cX0_fits 13 = .ok (.if_icmp .ge 42, 3) := by decide +kernel
theorem dX0_fits_16 : decode cX0_fits 16 = .ok (.iload_n 1, 1) := by decide +kernel
theorem dX0_fits_17 : decode cX0_fits 17 = .ok (.aload_n 0, 1) := by decide +kernel
theorem dX0_fits_18 : decode cX0_fits 18 = .ok (.getfield 9, 3) := by decide +kernel
theorem dX0_fits_21 : decode cX0_fits 21 = .ok (.iconst 0, 1) := by decide +kernel
theorem dX0_fits_22 : decode cX0_fits 22 = .ok (.aload_n 3, 1) := by decide +kernel
theorem dX0_fits_23 : decode cX0_fits 23 = .ok (.iload 4, 2) := by decide +kernel
theorem dX0_fits_25 : decode cX0_fits 25 = .ok (.iload 5, 2) := by decide +kernel
theorem dX0_fits_27 : decode cX0_fits 27 = .ok (.invokevirtual 54, 3) := by decide +kernel
theorem dX0_fits_30 : decode cX0_fits 30 = .ok (.iload_n 2, 1) := by decide +kernel
theorem dX0_fits_31 : decode cX0_fits 31 = .ok (.invokestatic 35, 3) := by decide +kernel
theorem dX0_fits_34 : decode cX0_fits 34 = .ok (.aload_n 3, 1) := by decide +kernel
theorem dX0_fits_35 : decode cX0_fits 35 = .ok (.iload 4, 2) := by decide +kernel
theorem dX0_fits_37 : decode cX0_fits 37 = .ok (.iload 5, 2) := by decide +kernel
theorem dX0_fits_39 : decode cX0_fits 39 = .ok (.iconst 1, 1) := by decide +kernel
theorem dX0_fits_40 : decode cX0_fits 40 = .ok (.iadd, 1) := by decide +kernel
theorem dX0_fits_41 : decode cX0_fits 41 = .ok (.invokevirtual 54, 3) := by decide +kernel
theorem dX0_fits_44 : decode cX0_fits 44 = .ok (.if_icmp .eq 5, 3) := by decide +kernel
theorem dX0_fits_47 : decode cX0_fits 47 = .ok (.iconst 0, 1) := by decide +kernel
theorem dX0_fits_48 : decode cX0_fits 48 = .ok (.ireturn, 1) := by decide +kernel
theorem dX0_fits_49 : decode cX0_fits 49 = .ok (.iinc 5 2, 3) := by decide +kernel
theorem dX0_fits_52 : decode cX0_fits 52 = .ok (.goto (-49), 3) := by decide +kernel
theorem dX0_fits_55 : decode cX0_fits 55 = .ok (.iconst 1, 1) := by decide +kernel
theorem dX0_fits_56 : decode cX0_fits 56 = .ok (.ireturn, 1) := by decide +kernel
theorem dX1_init_0 : decode cX1_init 0 = .ok (.aload_n 0, 1) := by decide +kernel
theorem dX1_init_1 : decode cX1_init 1 = .ok (.invokespecial 3, 3) := by decide +kernel
theorem dX1_init_4 : decode cX1_init 4 = .ok (.aload_n 0, 1) := by decide +kernel
theorem dX1_init_5 : decode cX1_init 5 = .ok (.bipush 6, 2) := by decide +kernel
theorem dX1_init_7 : decode cX1_init 7 = .ok (.newarray .int, 2) := by decide +kernel
theorem dX1_init_9 : decode cX1_init 9 = .ok (.putfield 9, 3) := by decide +kernel
theorem dX1_init_12 : decode cX1_init 12 = .ok (.aload_n 0, 1) := by decide +kernel
theorem dX1_init_13 : decode cX1_init 13 = .ok (.bipush 18, 2) := by decide +kernel
theorem dX1_init_15 : decode cX1_init 15 = .ok (.newarray .int, 2) := by decide +kernel
theorem dX1_init_17 : decode cX1_init 17 = .ok (.putfield 15, 3) := by decide +kernel
theorem dX1_init_20 : decode cX1_init 20 = .ok (.aload_n 0, 1) := by decide +kernel
theorem dX1_init_21 : decode cX1_init 21 = .ok (.bipush 18, 2) := by decide +kernel
theorem dX1_init_23 : decode cX1_init 23 = .ok (.newarray .int, 2) := by decide +kernel
theorem dX1_init_25 : decode cX1_init 25 = .ok (.putfield 18, 3) := by decide +kernel
theorem dX1_init_28 : decode cX1_init 28 = .ok (.aload_n 0, 1) := by decide +kernel
theorem dX1_init_29 : decode cX1_init 29 = .ok (.bipush 6, 2) := by decide +kernel
theorem dX1_init_31 : decode cX1_init 31 = .ok (.newarray .int, 2) := by decide +kernel
theorem dX1_init_33 : decode cX1_init 33 = .ok (.putfield 21, 3) := by decide +kernel
theorem dX1_init_36 : decode cX1_init 36 = .ok (.aload_n 0, 1) := by decide +kernel
theorem dX1_init_37 : decode cX1_init 37 = .ok (.bipush 6, 2) := by decide +kernel
theorem dX1_init_39 : decode cX1_init 39 = .ok (.newarray .int, 2) := by decide +kernel
theorem dX1_init_41 : decode cX1_init 41 = .ok (.putfield 24, 3) := by decide +kernel
theorem dX1_init_44 : decode cX1_init 44 = .ok (.aload_n 0, 1) := by decide +kernel
theorem dX1_init_45 : decode cX1_init 45 = .ok (.bipush 6, 2) := by decide +kernel
theorem dX1_init_47 : decode cX1_init 47 = .ok (.newarray .int, 2) := by decide +kernel
theorem dX1_init_49 : decode cX1_init 49 = .ok (.putfield 27, 3) := by decide +kernel
theorem dX1_init_52 : decode cX1_init 52 = .ok (.aload_n 0, 1) := by decide +kernel
theorem dX1_init_53 : decode cX1_init 53 = .ok (.bipush 40, 2) := by decide +kernel
theorem dX1_init_55 : decode cX1_init 55 = .ok (.newarray .int, 2) := by decide +kernel
theorem dX1_init_57 : decode cX1_init 57 = .ok (.putfield 30, 3) := by decide +kernel
theorem dX1_init_60 : decode cX1_init 60 = .ok (.aload_n 0, 1) := by decide +kernel
theorem dX1_init_61 : decode cX1_init 61 = .ok (.iconst 0, 1) := by decide +kernel
theorem dX1_init_62 : decode cX1_init 62 = .ok (.putfield 33, 3) := by decide +kernel
theorem dX1_init_65 : decode cX1_init 65 = .ok (.aload_n 0, 1) := by decide +kernel
theorem dX1_init_66 : decode cX1_init 66 = .ok (.iconst 0, 1) := by decide +kernel
theorem dX1_init_67 : decode cX1_init 67 = .ok (.putfield 37, 3) := by decide +kernel
theorem dX1_init_70 : decode cX1_init 70 = .ok (.aload_n 0, 1) := by decide +kernel
theorem dX1_init_71 : decode cX1_init 71 = .ok (.iconst 0, 1) := by decide +kernel
theorem dX1_init_72 : decode cX1_init 72 = .ok (.putfield 40, 3) := by decide +kernel
theorem dX1_init_75 : decode cX1_init 75 = .ok (.return_, 1) := by decide +kernel
theorem dX1_begin_0 : decode cX1_begin 0 = .ok (.aload_n 0, 1) := by decide +kernel
theorem dX1_begin_1 : decode cX1_begin 1 = .ok (.aload_n 1, 1) := by decide +kernel
theorem dX1_begin_2 : decode cX1_begin 2 = .ok (.getfield 43, 3) := by decide +kernel
theorem dX1_begin_5 : decode cX1_begin 5 = .ok (.putfield 33, 3) := by decide +kernel
theorem dX1_begin_8 : decode cX1_begin 8 = .ok (.iconst 0, 1) := by decide +kernel
theorem dX1_begin_9 : decode cX1_begin 9 = .ok (.istore_n 2, 1) := by decide +kernel
theorem dX1_begin_10 : decode cX1_begin 10 = .ok (.iload_n 2, 1) := by decide +kernel
theorem dX1_begin_11 : decode cX1_begin 11 = .ok (.aload_n 0, 1) := by decide +kernel
theorem dX1_begin_12 : decode cX1_begin 12 = .ok (.getfield 33, 3) := by decide +kernel
theorem dX1_begin_15 : decode cX1_begin 15 = .ok (.if_icmp .ge 21, 3) := by decide +kernel
theorem dX1_begin_18 : decode cX1_begin 18 = .ok (.aload_n 0, 1) := by decide +kernel
theorem dX1_begin_19 : decode cX1_begin 19 = .ok (.getfield 9, 3) := by decide +kernel
theorem dX1_begin_22 : decode cX1_begin 22 = .ok (.iload_n 2, 1) := by decide +kernel
theorem dX1_begin_23 : decode cX1_begin 23 = .ok (.aload_n 1, 1) := by decide +kernel
theorem dX1_begin_24 : decode cX1_begin 24 = .ok (.getfield 46, 3) := by decide +kernel
theorem dX1_begin_27 : decode cX1_begin 27 = .ok (.iload_n 2, 1) := by decide +kernel
theorem dX1_begin_28 : decode cX1_begin 28 = .ok (.iaload, 1) := by decide +kernel
theorem dX1_begin_29 : decode cX1_begin 29 = .ok (.iastore, 1) := by decide +kernel
theorem dX1_begin_30 : decode cX1_begin 30 = .ok (.iinc 2 1, 3) := by decide +kernel
theorem dX1_begin_33 : decode cX1_begin 33 = .ok (.goto (-23), 3) := by decide +kernel
theorem dX1_begin_36 : decode cX1_begin 36 = .ok (.iconst 0, 1) := by decide +kernel
theorem dX1_begin_37 : decode cX1_begin 37 = .ok (.istore_n 2, 1) := by decide +kernel
theorem dX1_begin_38 : decode cX1_begin 38 = .ok (.iload_n 2, 1) := by decide +kernel
theorem dX1_begin_39 : decode cX1_begin 39 = .ok (.aload_n 0, 1) := by decide +kernel
theorem dX1_begin_40 : decode cX1_begin 40 = .ok (.getfield 33, 3) := by decide +kernel
theorem dX1_begin_43 : decode cX1_begin 43 = .ok (.iconst 3, 1) := by decide +kernel
theorem dX1_begin_44 : decode cX1_begin 44 = .ok (.imul, 1) := by decide +kernel
theorem dX1_begin_45 : decode cX1_begin 45 = .ok (.if_icmp .ge 21, 3) := by decide +kernel
theorem dX1_begin_48 : decode cX1_begin 48 = .ok (.aload_n 0, 1) := by decide +kernel
theorem dX1_begin_49 : decode cX1_begin 49 = .ok (.getfield 15, 3) := by decide +kernel
theorem dX1_begin_52 : decode cX1_begin 52 = .ok (.iload_n 2, 1) := by decide +kernel
theorem dX1_begin_53 : decode cX1_begin 53 = .ok (.aload_n 1, 1) := by decide +kernel
theorem dX1_begin_54 : decode cX1_begin 54 = .ok (.getfield 47, 3) := by decide +kernel
theorem dX1_begin_57 : decode cX1_begin 57 = .ok (.iload_n 2, 1) := by decide +kernel
theorem dX1_begin_58 : decode cX1_begin 58 = .ok (.iaload, 1) := by decide +kernel
theorem dX1_begin_59 : decode cX1_begin 59 = .ok (.iastore, 1) := by decide +kernel
theorem dX1_begin_60 : decode cX1_begin 60 = .ok (.iinc 2 1, 3) := by decide +kernel
theorem dX1_begin_63 : decode cX1_begin 63 = .ok (.goto (-25), 3) := by decide +kernel
theorem dX1_begin_66 : decode cX1_begin 66 = .ok (.aload_n 0, 1) := by decide +kernel
theorem dX1_begin_67 : decode cX1_begin 67 = .ok (.iconst 0, 1) := by decide +kernel
theorem dX1_begin_68 : decode cX1_begin 68 = .ok (.invokevirtual 48, 3) := by decide +kernel
theorem dX1_begin_71 : decode cX1_begin 71 = .ok (.return_, 1) := by decide +kernel
theorem dX1_redo_0 : decode cX1_redo 0 = .ok (.iconst 0, 1) := by decide +kernel
theorem dX1_redo_1 : decode cX1_redo 1 = .ok (.istore_n 2, 1) := by decide +kernel
theorem dX1_redo_2 : decode cX1_redo 2 = .ok (.iload_n 2, 1) := by decide +kernel
theorem dX1_redo_3 : decode cX1_redo 3 = .ok (.aload_n 0, 1) := by decide +kernel
theorem dX1_redo_4 : decode cX1_redo 4 = .ok (.getfield 33, 3) := by decide +kernel
theorem dX1_redo_7 : decode cX1_redo 7 = .ok (.if_icmp .ge 16, 3) := by decide +kernel
theorem dX1_redo_10 : decode cX1_redo 10 = .ok (.aload_n 0, 1) := by decide +kernel
theorem dX1_redo_11 : decode cX1_redo 11 = .ok (.getfield 21, 3) := by decide +kernel
theorem dX1_redo_14 : decode cX1_redo 14 = .ok (.iload_n 2, 1) := by decide +kernel
theorem dX1_redo_15 : decode cX1_redo 15 = .ok (.iload_n 2, 1) := by decide +kernel
theorem dX1_redo_16 : decode cX1_redo 16 = .ok (.iastore, 1) := by decide +kernel
theorem dX1_redo_17 : decode cX1_redo 17 = .ok (.iinc 2 1, 3) := by decide +kernel
theorem dX1_redo_20 : decode cX1_redo 20 = .ok (.goto (-18), 3) := by decide +kernel
theorem dX1_redo_23 : decode cX1_redo 23 = .ok (.iconst 0, 1) := by decide +kernel
theorem dX1_redo_24 : decode cX1_redo 24 = .ok (.istore_n 2, 1) := by decide +kernel
theorem dX1_redo_25 : decode cX1_redo 25 = .ok (.iload_n 2, 1) := by decide +kernel
theorem dX1_redo_26 : decode cX1_redo 26 = .ok (.aload_n 0, 1) := by decide +kernel
theorem dX1_redo_27 : decode cX1_redo 27 = .ok (.getfield 33, 3) := by decide +kernel
theorem dX1_redo_30 : decode cX1_redo 30 = .ok (.iconst 3, 1) := by decide +kernel
theorem dX1_redo_31 : decode cX1_redo 31 = .ok (.imul, 1) := by decide +kernel
theorem dX1_redo_32 : decode cX1_redo 32 = .ok (.if_icmp .ge 21, 3) := by decide +kernel
theorem dX1_redo_35 : decode cX1_redo 35 = .ok (.aload_n 0, 1) := by decide +kernel
theorem dX1_redo_36 : decode cX1_redo 36 = .ok (.getfield 18, 3) := by decide +kernel
theorem dX1_redo_39 : decode cX1_redo 39 = .ok (.iload_n 2, 1) := by decide +kernel
theorem dX1_redo_40 : decode cX1_redo 40 = .ok (.aload_n 0, 1) := by decide +kernel
theorem dX1_redo_41 : decode cX1_redo 41 = .ok (.getfield 15, 3) := by decide +kernel
theorem dX1_redo_44 : decode cX1_redo 44 = .ok (.iload_n 2, 1) := by decide +kernel
theorem dX1_redo_45 : decode cX1_redo 45 = .ok (.iaload, 1) := by decide +kernel
theorem dX1_redo_46 : decode cX1_redo 46 = .ok (.iastore, 1) := by decide +kernel
theorem dX1_redo_47 : decode cX1_redo 47 = .ok (.iinc 2 1, 3) := by decide +kernel
theorem dX1_redo_50 : decode cX1_redo 50 = .ok (.goto (-25), 3) := by decide +kernel
theorem dX1_redo_53 : decode cX1_redo 53 = .ok (.aload_n 0, 1) := by decide +kernel
theorem dX1_redo_54 : decode cX1_redo 54 = .ok (.iconst 0, 1) := by decide +kernel
theorem dX1_redo_55 : decode cX1_redo 55 = .ok (.putfield 37, 3) := by decide +kernel
theorem dX1_redo_58 : decode cX1_redo 58 = .ok (.aload_n 0, 1) := by decide +kernel
theorem dX1_redo_59 : decode cX1_redo 59 = .ok (.iload_n 1, 1) := by decide +kernel
theorem dX1_redo_60 : decode cX1_redo 60 = .ok (.putfield 40, 3) := by decide +kernel
theorem dX1_redo_63 : decode cX1_redo 63 = .ok (.iconst 0, 1) := by decide +kernel
theorem dX1_redo_64 : decode cX1_redo 64 = .ok (.istore_n 2, 1) := by decide +kernel
theorem dX1_redo_65 : decode cX1_redo 65 = .ok (.iload_n 2, 1) := by decide +kernel
theorem dX1_redo_66 : decode cX1_redo 66 = .ok (.iload_n 1, 1) := by decide +kernel
theorem dX1_redo_67 : decode cX1_redo 67 = .ok (.if_icmp .ge 19, 3) := by decide +kernel
theorem dX1_redo_70 : decode cX1_redo 70 = .ok (.aload_n 0, 1) := by decide +kernel
theorem dX1_redo_71 : decode cX1_redo 71 = .ok (.aload_n 0, 1) := by decide +kernel
theorem dX1_redo_72 : decode cX1_redo 72 = .ok (.getfield 30, 3) := by decide +kernel
theorem dX1_redo_75 : decode cX1_redo 75 = .ok (.iload_n 2, 1) := by decide +kernel
theorem dX1_redo_76 : decode cX1_redo 76 = .ok (.iaload, 1) := by decide +kernel
theorem dX1_redo_77 : decode cX1_redo 77 = .ok (.invokevirtual 52, 3) := by decide +kernel
theorem dX1_redo_80 : decode cX1_redo 80 = .ok (.iinc 2 1, 3) := by decide +kernel
theorem dX1_redo_83 : decode cX1_redo 83 = .ok (.goto (-18), 3) := by decide +kernel
theorem dX1_redo_86 : decode cX1_redo 86 = .ok (.return_, 1) := by decide +kernel
theorem dX1_add_0 : decode cX1_add 0 = .ok (.aload_n 0, 1) := by decide +kernel
theorem dX1_add_1 : decode cX1_add 1 = .ok (.getfield 40, 3) := by decide +kernel
theorem dX1_add_4 : decode cX1_add 4 = .ok (.bipush 40, 2) := by decide +kernel
theorem dX1_add_6 : decode cX1_add 6 = .ok (.if_icmp .ge 28, 3) := by decide +kernel
theorem dX1_add_9 : decode cX1_add 9 = .ok (.aload_n 0, 1) := by decide +kernel
theorem dX1_add_10 : decode cX1_add 10 = .ok (.getfield 30, 3) := by decide +kernel
theorem dX1_add_13 : decode cX1_add 13 = .ok (.aload_n 0, 1) := by decide +kernel
theorem dX1_add_14 : decode cX1_add 14 = .ok (.getfield 40, 3) := by decide +kernel
theorem dX1_add_17 : decode cX1_add 17 = .ok (.iload_n 1, 1) := by decide +kernel
theorem dX1_add_18 : decode cX1_add 18 = .ok (.iastore, 1) := by decide +kernel
theorem dX1_add_19 : decode cX1_add 19 = .ok (.aload_n 0, 1) := by decide +kernel
theorem dX1_add_20 : decode cX1_add 20 = .ok (.dup, 1) := by decide +kernel
theorem dX1_add_21 : decode cX1_add 21 = .ok (.getfield 40, 3) := by decide +kernel
theorem dX1_add_24 : decode cX1_add 24 = .ok (.iconst 1, 1) := by decide +kernel
theorem dX1_add_25 : decode cX1_add 25 = .ok (.iadd, 1) := by decide +kernel
theorem dX1_add_26 : decode cX1_add 26 = .ok (.putfield 40, 3) := by decide +kernel
theorem dX1_add_29 : decode cX1_add 29 = .ok (.aload_n 0, 1) := by decide +kernel
theorem dX1_add_30 : decode cX1_add 30 = .ok (.iload_n 1, 1) := by decide +kernel
theorem dX1_add_31 : decode cX1_add 31 = .ok (.invokevirtual 52, 3) := by decide +kernel
theorem dX1_add_34 : decode cX1_add 34 = .ok (.aload_n 0, 1) := by decide +kernel
theorem dX1_add_35 : decode cX1_add 35 = .ok (.getfield 21, 3) := by decide +kernel
theorem dX1_add_38 : decode cX1_add 38 = .ok (.iconst 0, 1) := by decide +kernel
theorem dX1_add_39 : decode cX1_add 39 = .ok (.iaload, 1) := by decide +kernel
theorem dX1_add_40 : decode cX1_add 40 = .ok (.ireturn, 1) := by decide +kernel
theorem dX1_carryOut_0 : decode cX1_carryOut 0 = .ok (.iload_n 1, 1) := by decide +kernel
theorem dX1_carryOut_1 : decode cX1_carryOut 1 = .ok (.bipush 100, 2) := by decide +kernel
theorem dX1_carryOut_3 : decode cX1_carryOut 3 = .ok (.idiv, 1) := by decide +kernel
theorem dX1_carryOut_4 : decode cX1_carryOut 4 = .ok (.bipush 10, 2) := by decide +kernel
theorem dX1_carryOut_6 : decode cX1_carryOut 6 = .ok (.irem, 1) := by decide +kernel
theorem dX1_carryOut_7 : decode cX1_carryOut 7 = .ok (.istore_n 2, 1) := by decide +kernel
theorem dX1_carryOut_8 : decode cX1_carryOut 8 = .ok (.iload_n 1, 1) := by decide +kernel
theorem dX1_carryOut_9 : decode cX1_carryOut 9 = .ok (.sipush 1000, 3) := by decide +kernel
theorem dX1_carryOut_12 : decode cX1_carryOut 12 = .ok (.idiv, 1) := by decide +kernel
theorem dX1_carryOut_13 : decode cX1_carryOut 13 = .ok (.tableswitch 74 0 2 #[27, 59, 66], 27) := by decide +kernel
theorem dX1_carryOut_40 : decode cX1_carryOut 40 = .ok (.aload_n 0, 1) := by decide +kernel
theorem dX1_carryOut_41 : decode cX1_carryOut 41 = .ok (.aload_n 0, 1) := by decide +kernel
theorem dX1_carryOut_42 : decode cX1_carryOut 42 = .ok (.getfield 21, 3) := by decide +kernel
theorem dX1_carryOut_45 : decode cX1_carryOut 45 = .ok (.aload_n 0, 1) := by decide +kernel
theorem dX1_carryOut_46 : decode cX1_carryOut 46 = .ok (.getfield 21, 3) := by decide +kernel
theorem dX1_carryOut_49 : decode cX1_carryOut 49 = .ok (.iload_n 2, 1) := by decide +kernel
theorem dX1_carryOut_50 : decode cX1_carryOut 50 = .ok (.aload_n 0, 1) := by decide +kernel
theorem dX1_carryOut_51 : decode cX1_carryOut 51 = .ok (.getfield 37, 3) := by decide +kernel
theorem dX1_carryOut_54 : decode cX1_carryOut 54 = .ok (.iconst 0, 1) := by decide +kernel
theorem dX1_carryOut_55 : decode cX1_carryOut 55 = .ok (.invokevirtual 55, 3) := by decide +kernel
theorem dX1_carryOut_58 : decode cX1_carryOut 58 = .ok (.aload_n 0, 1) := by decide +kernel
theorem dX1_carryOut_59 : decode cX1_carryOut 59 = .ok (.aload_n 0, 1) := by decide +kernel
theorem dX1_carryOut_60 : decode cX1_carryOut 60 = .ok (.getfield 37, 3) := by decide +kernel
theorem dX1_carryOut_63 : decode cX1_carryOut 63 = .ok (.invokestatic 59, 3) := by decide +kernel
theorem dX1_carryOut_66 : decode cX1_carryOut 66 = .ok (.putfield 37, 3) := by decide +kernel
theorem dX1_carryOut_69 : decode cX1_carryOut 69 = .ok (.goto 38, 3) := by decide +kernel
theorem dX1_carryOut_72 : decode cX1_carryOut 72 = .ok (.aload_n 0, 1) := by decide +kernel
theorem dX1_carryOut_73 : decode cX1_carryOut 73 = .ok (.invokevirtual 63, 3) := by decide +kernel
theorem dX1_carryOut_76 : decode cX1_carryOut 76 = .ok (.goto 31, 3) := by decide +kernel
theorem dX1_carryOut_79 : decode cX1_carryOut 79 = .ok (.aload_n 0, 1) := by decide +kernel
theorem dX1_carryOut_80 : decode cX1_carryOut 80 = .ok (.iload_n 2, 1) := by decide +kernel
theorem dX1_carryOut_81 : decode cX1_carryOut 81 = .ok (.invokevirtual 66, 3) := by decide +kernel
theorem dX1_carryOut_84 : decode cX1_carryOut 84 = .ok (.goto 23, 3) := by decide +kernel
theorem dX1_carryOut_87 : decode cX1_carryOut 87 = .ok (.aload_n 0, 1) := by decide +kernel
theorem dX1_carryOut_88 : decode cX1_carryOut 88 = .ok (.getfield 18, 3) := by decide +kernel
theorem dX1_carryOut_91 : decode cX1_carryOut 91 = .ok (.iload_n 2, 1) := by decide +kernel
theorem dX1_carryOut_92 : decode cX1_carryOut 92 = .ok (.iconst 3, 1) := by decide +kernel
theorem dX1_carryOut_93 : decode cX1_carryOut 93 = .ok (.imul, 1) := by decide +kernel
theorem dX1_carryOut_94 : decode cX1_carryOut 94 = .ok (.iload_n 1, 1) := by decide +kernel
theorem dX1_carryOut_95 : decode cX1_carryOut 95 = .ok (.bipush 10, 2) := by decide +kernel
theorem dX1_carryOut_97 : decode cX1_carryOut 97 = .ok (.idiv, 1) := by decide +kernel
theorem dX1_carryOut_98 : decode cX1_carryOut 98 = .ok (.bipush 10, 2) := by decide +kernel
theorem dX1_carryOut_100 : decode cX1_carryOut 100 = .ok (.irem, 1) := by decide +kernel
theorem dX1_carryOut_101 : decode cX1_carryOut 101 = .ok (.iadd, 1) := by decide +kernel
theorem dX1_carryOut_102 : decode cX1_carryOut 102 = .ok (.iload_n 1, 1) := by decide +kernel
theorem dX1_carryOut_103 : decode cX1_carryOut 103 = .ok (.bipush 10, 2) := by decide +kernel
theorem dX1_carryOut_105 : decode cX1_carryOut 105 = .ok (.irem, 1) := by decide +kernel
theorem dX1_carryOut_106 : decode cX1_carryOut 106 = .ok (.iastore, 1) := by decide +kernel
theorem dX1_carryOut_107 : decode cX1_carryOut 107 = .ok (.return_, 1) := by decide +kernel
theorem dX1_turnOver_0 : decode cX1_turnOver 0 = .ok (.iconst 0, 1) := by decide +kernel
theorem dX1_turnOver_1 : decode cX1_turnOver 1 = .ok (.istore_n 1, 1) := by decide +kernel
theorem dX1_turnOver_2 : decode cX1_turnOver 2 = .ok (.iload_n 1, 1) := by decide +kernel
theorem dX1_turnOver_3 : decode cX1_turnOver 3 = .ok (.aload_n 0, 1) := by decide +kernel
theorem dX1_turnOver_4 : decode cX1_turnOver 4 = .ok (.getfield 33, 3) := by decide +kernel
theorem dX1_turnOver_7 : decode cX1_turnOver 7 = .ok (.iconst 2, 1) := by decide +kernel
theorem dX1_turnOver_8 : decode cX1_turnOver 8 = .ok (.idiv, 1) := by decide +kernel
theorem dX1_turnOver_9 : decode cX1_turnOver 9 = .ok (.if_icmp .ge 49, 3) := by decide +kernel
theorem dX1_turnOver_12 : decode cX1_turnOver 12 = .ok (.aload_n 0, 1) := by decide +kernel
theorem dX1_turnOver_13 : decode cX1_turnOver 13 = .ok (.getfield 21, 3) := by decide +kernel
theorem dX1_turnOver_16 : decode cX1_turnOver 16 = .ok (.iload_n 1, 1) := by decide +kernel
theorem dX1_turnOver_17 : decode cX1_turnOver 17 = .ok (.iaload, 1) := by decide +kernel
theorem dX1_turnOver_18 : decode cX1_turnOver 18 = .ok (.istore_n 2, 1) := by decide +kernel
theorem dX1_turnOver_19 : decode cX1_turnOver 19 = .ok (.aload_n 0, 1) := by decide +kernel
theorem dX1_turnOver_20 : decode cX1_turnOver 20 = .ok (.getfield 21, 3) := by decide +kernel
theorem dX1_turnOver_23 : decode cX1_turnOver 23 = .ok (.iload_n 1, 1) := by decide +kernel
theorem dX1_turnOver_24 : decode cX1_turnOver 24 = .ok (.aload_n 0, 1) := by decide +kernel
theorem dX1_turnOver_25 : decode cX1_turnOver 25 = .ok (.getfield 21, 3) := by decide +kernel
theorem dX1_turnOver_28 : decode cX1_turnOver 28 = .ok (.aload_n 0, 1) := by decide +kernel
theorem dX1_turnOver_29 : decode cX1_turnOver 29 = .ok (.getfield 33, 3) := by decide +kernel
theorem dX1_turnOver_32 : decode cX1_turnOver 32 = .ok (.iconst 1, 1) := by decide +kernel
theorem dX1_turnOver_33 : decode cX1_turnOver 33 = .ok (.isub, 1) := by decide +kernel
theorem dX1_turnOver_34 : decode cX1_turnOver 34 = .ok (.iload_n 1, 1) := by decide +kernel
theorem dX1_turnOver_35 : decode cX1_turnOver 35 = .ok (.isub, 1) := by decide +kernel
theorem dX1_turnOver_36 : decode cX1_turnOver 36 = .ok (.iaload, 1) := by decide +kernel
theorem dX1_turnOver_37 : decode cX1_turnOver 37 = .ok (.iastore, 1) := by decide +kernel
theorem dX1_turnOver_38 : decode cX1_turnOver 38 = .ok (.aload_n 0, 1) := by decide +kernel
theorem dX1_turnOver_39 : decode cX1_turnOver 39 = .ok (.getfield 21, 3) := by decide +kernel
theorem dX1_turnOver_42 : decode cX1_turnOver 42 = .ok (.aload_n 0, 1) := by decide +kernel
theorem dX1_turnOver_43 : decode cX1_turnOver 43 = .ok (.getfield 33, 3) := by decide +kernel
theorem dX1_turnOver_46 : decode cX1_turnOver 46 = .ok (.iconst 1, 1) := by decide +kernel
theorem dX1_turnOver_47 : decode cX1_turnOver 47 = .ok (.isub, 1) := by decide +kernel
theorem dX1_turnOver_48 : decode cX1_turnOver 48 = .ok (.iload_n 1, 1) := by decide +kernel
theorem dX1_turnOver_49 : decode cX1_turnOver 49 = .ok (.isub, 1) := by decide +kernel
theorem dX1_turnOver_50 : decode cX1_turnOver 50 = .ok (.iload_n 2, 1) := by decide +kernel
theorem dX1_turnOver_51 : decode cX1_turnOver 51 = .ok (.iastore, 1) := by decide +kernel
theorem dX1_turnOver_52 : decode cX1_turnOver 52 = .ok (.iinc 1 1, 3) := by decide +kernel
theorem dX1_turnOver_55 : decode cX1_turnOver 55 = .ok (.goto (-53), 3) := by decide +kernel
theorem dX1_turnOver_58 : decode cX1_turnOver 58 = .ok (.return_, 1) := by decide +kernel
theorem dX1_liftOff_0 : decode cX1_liftOff 0 = .ok (.iconst 0, 1) := by decide +kernel
theorem dX1_liftOff_1 : decode cX1_liftOff 1 = .ok (.istore_n 2, 1) := by decide +kernel
theorem dX1_liftOff_2 : decode cX1_liftOff 2 = .ok (.iload_n 2, 1) := by decide +kernel
theorem dX1_liftOff_3 : decode cX1_liftOff 3 = .ok (.aload_n 0, 1) := by decide +kernel
theorem dX1_liftOff_4 : decode cX1_liftOff 4 = .ok (.getfield 33, 3) := by decide +kernel
theorem dX1_liftOff_7 : decode cX1_liftOff 7 = .ok (.if_icmp .ge 21, 3) := by decide +kernel
theorem dX1_liftOff_10 : decode cX1_liftOff 10 = .ok (.aload_n 0, 1) := by decide +kernel
theorem dX1_liftOff_11 : decode cX1_liftOff 11 = .ok (.getfield 24, 3) := by decide +kernel
theorem dX1_liftOff_14 : decode cX1_liftOff 14 = .ok (.iload_n 2, 1) := by decide +kernel
theorem dX1_liftOff_15 : decode cX1_liftOff 15 = .ok (.aload_n 0, 1) := by decide +kernel
theorem dX1_liftOff_16 : decode cX1_liftOff 16 = .ok (.getfield 21, 3) := by decide +kernel
theorem dX1_liftOff_19 : decode cX1_liftOff 19 = .ok (.iload_n 2, 1) := by decide +kernel
theorem dX1_liftOff_20 : decode cX1_liftOff 20 = .ok (.iaload, 1) := by decide +kernel
theorem dX1_liftOff_21 : decode cX1_liftOff 21 = .ok (.iastore, 1) := by decide +kernel
theorem dX1_liftOff_22 : decode cX1_liftOff 22 = .ok (.iinc 2 1, 3) := by decide +kernel
theorem dX1_liftOff_25 : decode cX1_liftOff 25 = .ok (.goto (-23), 3) := by decide +kernel
theorem dX1_liftOff_28 : decode cX1_liftOff 28 = .ok (.iconst 0, 1) := by decide +kernel
theorem dX1_liftOff_29 : decode cX1_liftOff 29 = .ok (.istore_n 2, 1) := by decide +kernel
theorem dX1_liftOff_30 : decode cX1_liftOff 30 = .ok (.iload_n 2, 1) := by decide +kernel
theorem dX1_liftOff_31 : decode cX1_liftOff 31 = .ok (.aload_n 0, 1) := by decide +kernel
theorem dX1_liftOff_32 : decode cX1_liftOff 32 = .ok (.getfield 33, 3) := by decide +kernel
theorem dX1_liftOff_35 : decode cX1_liftOff 35 = .ok (.if_icmp .ge 28, 3) := by decide +kernel
theorem dX1_liftOff_38 : decode cX1_liftOff 38 = .ok (.aload_n 0, 1) := by decide +kernel
theorem dX1_liftOff_39 : decode cX1_liftOff 39 = .ok (.getfield 21, 3) := by decide +kernel
theorem dX1_liftOff_42 : decode cX1_liftOff 42 = .ok (.iload_n 2, 1) := by decide +kernel
theorem dX1_liftOff_43 : decode cX1_liftOff 43 = .ok (.aload_n 0, 1) := by decide +kernel
theorem dX1_liftOff_44 : decode cX1_liftOff 44 = .ok (.getfield 24, 3) := by decide +kernel
theorem dX1_liftOff_47 : decode cX1_liftOff 47 = .ok (.iload_n 2, 1) := by decide +kernel
theorem dX1_liftOff_48 : decode cX1_liftOff 48 = .ok (.iload_n 1, 1) := by decide +kernel
theorem dX1_liftOff_49 : decode cX1_liftOff 49 = .ok (.iadd, 1) := by decide +kernel
theorem dX1_liftOff_50 : decode cX1_liftOff 50 = .ok (.aload_n 0, 1) := by decide +kernel
theorem dX1_liftOff_51 : decode cX1_liftOff 51 = .ok (.getfield 33, 3) := by decide +kernel
theorem dX1_liftOff_54 : decode cX1_liftOff 54 = .ok (.irem, 1) := by decide +kernel
theorem dX1_liftOff_55 : decode cX1_liftOff 55 = .ok (.iaload, 1) := by decide +kernel
theorem dX1_liftOff_56 : decode cX1_liftOff 56 = .ok (.iastore, 1) := by decide +kernel
theorem dX1_liftOff_57 : decode cX1_liftOff 57 = .ok (.iinc 2 1, 3) := by decide +kernel
theorem dX1_liftOff_60 : decode cX1_liftOff 60 = .ok (.goto (-30), 3) := by decide +kernel
theorem dX1_liftOff_63 : decode cX1_liftOff 63 = .ok (.return_, 1) := by decide +kernel
theorem dX1_sift_0 : decode cX1_sift 0 = .ok (.iconst 0, 1) := by decide +kernel
theorem dX1_sift_1 : decode cX1_sift 1 = .ok (.istore 6, 2) := by decide +kernel
theorem dX1_sift_3 : decode cX1_sift 3 = .ok (.iload 6, 2) := by decide +kernel
theorem dX1_sift_5 : decode cX1_sift 5 = .ok (.aload_n 0, 1) := by decide +kernel
theorem dX1_sift_6 : decode cX1_sift 6 = .ok (.getfield 33, 3) := by decide +kernel
theorem dX1_sift_9 : decode cX1_sift 9 = .ok (.if_icmp .ge 158, 3) := by decide +kernel
theorem dX1_sift_12 : decode cX1_sift 12 = .ok (.aload_n 1, 1) := by decide +kernel
theorem dX1_sift_13 : decode cX1_sift 13 = .ok (.iload 6, 2) := by decide +kernel
theorem dX1_sift_15 : decode cX1_sift 15 = .ok (.iaload, 1) := by decide +kernel
theorem dX1_sift_16 : decode cX1_sift 16 = .ok (.istore 7, 2) := by decide +kernel
theorem dX1_sift_18 : decode cX1_sift 18 = .ok (.iload 5, 2) := by decide +kernel
theorem dX1_sift_20 : decode cX1_sift 20 = .ok (.iload 7, 2) := by decide +kernel
theorem dX1_sift_22 : decode cX1_sift 22 = .ok (.ishr, 1) := by decide +kernel
theorem dX1_sift_23 : decode cX1_sift 23 = .ok (.iconst 1, 1) := by decide +kernel
theorem dX1_sift_24 : decode cX1_sift 24 = .ok (.iand, 1) := by decide +kernel
theorem dX1_sift_25 : decode cX1_sift 25 = .ok (.ifCond .eq 7, 3) := by decide +kernel
theorem dX1_sift_28 : decode cX1_sift 28 = .ok (.iconst 1, 1) := by decide +kernel
theorem dX1_sift_29 : decode cX1_sift 29 = .ok (.goto 4, 3) := by decide +kernel
theorem dX1_sift_32 : decode cX1_sift 32 = .ok (.iconst 0, 1) := by decide +kernel
theorem dX1_sift_33 : decode cX1_sift 33 = .ok (.istore 8, 2) := by decide +kernel
theorem dX1_sift_35 : decode cX1_sift 35 = .ok (.iload 8, 2) := by decide +kernel
theorem dX1_sift_37 : decode cX1_sift 37 = .ok (.ifCond .eq 8, 3) := by decide +kernel
theorem dX1_sift_40 : decode cX1_sift 40 = .ok (.bipush 10, 2) := by decide +kernel
theorem dX1_sift_42 : decode cX1_sift 42 = .ok (.goto 24, 3) := by decide +kernel
theorem dX1_sift_45 : decode cX1_sift 45 = .ok (.aload_n 0, 1) := by decide +kernel
theorem dX1_sift_46 : decode cX1_sift 46 = .ok (.getfield 9, 3) := by decide +kernel
theorem dX1_sift_49 : decode cX1_sift 49 = .ok (.iload 7, 2) := by decide +kernel
theorem dX1_sift_51 : decode cX1_sift 51 = .ok (.iaload, 1) := by decide +kernel
theorem dX1_sift_52 : decode cX1_sift 52 = .ok (.aload_n 0, 1) := by decide +kernel
theorem dX1_sift_53 : decode cX1_sift 53 = .ok (.getfield 18, 3) := by decide +kernel
theorem dX1_sift_56 : decode cX1_sift 56 = .ok (.iload 7, 2) := by decide +kernel
theorem dX1_sift_58 : decode cX1_sift 58 = .ok (.iconst 3, 1) := by decide +kernel
theorem dX1_sift_59 : decode cX1_sift 59 = .ok (.imul, 1) := by decide +kernel
theorem dX1_sift_60 : decode cX1_sift 60 = .ok (.iload_n 3, 1) := by decide +kernel
theorem dX1_sift_61 : decode cX1_sift 61 = .ok (.iload 4, 2) := by decide +kernel
theorem dX1_sift_63 : decode cX1_sift 63 = .ok (.invokestatic 69, 3) := by decide +kernel
theorem dX1_sift_66 : decode cX1_sift 66 = .ok (.istore 9, 2) := by decide +kernel
theorem dX1_sift_68 : decode cX1_sift 68 = .ok (.iconst 2, 1) := by decide +kernel
theorem dX1_sift_69 : decode cX1_sift 69 = .ok (.iload 9, 2) := by decide +kernel
theorem dX1_sift_71 : decode cX1_sift 71 = .ok (.imul, 1) := by decide +kernel
theorem dX1_sift_72 : decode cX1_sift 72 = .ok (.aload_n 0, 1) := by decide +kernel
theorem dX1_sift_73 : decode cX1_sift 73 = .ok (.getfield 9, 3) := by decide +kernel
theorem dX1_sift_76 : decode cX1_sift 76 = .ok (.iload 7, 2) := by decide +kernel
theorem dX1_sift_78 : decode cX1_sift 78 = .ok (.iaload, 1) := by decide +kernel
theorem dX1_sift_79 : decode cX1_sift 79 = .ok (.iconst 5, 1) := by decide +kernel
theorem dX1_sift_80 : decode cX1_sift 80 = .ok (.if_icmp .ne 7, 3) := by decide +kernel
theorem dX1_sift_83 : decode cX1_sift 83 = .ok (.iconst 0, 1) := by decide +kernel
theorem dX1_sift_84 : decode cX1_sift 84 = .ok (.goto 4, 3) := by decide +kernel
theorem dX1_sift_87 : decode cX1_sift 87 = .ok (.iconst 1, 1) := by decide +kernel
theorem dX1_sift_88 : decode cX1_sift 88 = .ok (.iadd, 1) := by decide +kernel
theorem dX1_sift_89 : decode cX1_sift 89 = .ok (.istore 10, 2) := by decide +kernel
theorem dX1_sift_91 : decode cX1_sift 91 = .ok (.iload 6, 2) := by decide +kernel
theorem dX1_sift_93 : decode cX1_sift 93 = .ok (.istore 11, 2) := by decide +kernel
theorem dX1_sift_95 : decode cX1_sift 95 = .ok (.iload 11, 2) := by decide +kernel
theorem dX1_sift_97 : decode cX1_sift 97 = .ok (.ifCond .le 49, 3) := by decide +kernel
theorem dX1_sift_100 : decode cX1_sift 100 = .ok (.aload_n 0, 1) := by decide +kernel
theorem dX1_sift_101 : decode cX1_sift 101 = .ok (.getfield 27, 3) := by decide +kernel
theorem dX1_sift_104 : decode cX1_sift 104 = .ok (.iload 11, 2) := by decide +kernel
theorem dX1_sift_106 : decode cX1_sift 106 = .ok (.iconst 1, 1) := by decide +kernel
theorem dX1_sift_107 : decode cX1_sift 107 = .ok (.isub, 1) := by decide +kernel
theorem dX1_sift_108 : decode cX1_sift 108 = .ok (.iaload, 1) := by decide +kernel
theorem dX1_sift_109 : decode cX1_sift 109 = .ok (.iload 10, 2) := by decide +kernel
theorem dX1_sift_111 : decode cX1_sift 111 = .ok (.if_icmp .le 35, 3) := by decide +kernel
theorem dX1_sift_114 : decode cX1_sift 114 = .ok (.aload_n 0, 1) := by decide +kernel
theorem dX1_sift_115 : decode cX1_sift 115 = .ok (.getfield 27, 3) := by decide +kernel
theorem dX1_sift_118 : decode cX1_sift 118 = .ok (.iload 11, 2) := by decide +kernel
theorem dX1_sift_120 : decode cX1_sift 120 = .ok (.aload_n 0, 1) := by decide +kernel
theorem dX1_sift_121 : decode cX1_sift 121 = .ok (.getfield 27, 3) := by decide +kernel
theorem dX1_sift_124 : decode cX1_sift 124 = .ok (.iload 11, 2) := by decide +kernel
theorem dX1_sift_126 : decode cX1_sift 126 = .ok (.iconst 1, 1) := by decide +kernel
theorem dX1_sift_127 : decode cX1_sift 127 = .ok (.isub, 1) := by decide +kernel
theorem dX1_sift_128 : decode cX1_sift 128 = .ok (.iaload, 1) := by decide +kernel
theorem dX1_sift_129 : decode cX1_sift 129 = .ok (.iastore, 1) := by decide +kernel
theorem dX1_sift_130 : decode cX1_sift 130 = .ok (.aload_n 2, 1) := by decide +kernel
theorem dX1_sift_131 : decode cX1_sift 131 = .ok (.iload 11, 2) := by decide +kernel
theorem dX1_sift_133 : decode cX1_sift 133 = .ok (.aload_n 2, 1) := by decide +kernel
theorem dX1_sift_134 : decode cX1_sift 134 = .ok (.iload 11, 2) := by decide +kernel
theorem dX1_sift_136 : decode cX1_sift 136 = .ok (.iconst 1, 1) := by decide +kernel
theorem dX1_sift_137 : decode cX1_sift 137 = .ok (.isub, 1) := by decide +kernel
theorem dX1_sift_138 : decode cX1_sift 138 = .ok (.iaload, 1) := by decide +kernel
theorem dX1_sift_139 : decode cX1_sift 139 = .ok (.iastore, 1) := by decide +kernel
theorem dX1_sift_140 : decode cX1_sift 140 = .ok (.iinc 11 (-1), 3) := by decide +kernel
theorem dX1_sift_143 : decode cX1_sift 143 = .ok (.goto (-48), 3) := by decide +kernel
theorem dX1_sift_146 : decode cX1_sift 146 = .ok (.aload_n 0, 1) := by decide +kernel
theorem dX1_sift_147 : decode cX1_sift 147 = .ok (.getfield 27, 3) := by decide +kernel
theorem dX1_sift_150 : decode cX1_sift 150 = .ok (.iload 11, 2) := by decide +kernel
theorem dX1_sift_152 : decode cX1_sift 152 = .ok (.iload 10, 2) := by decide +kernel
theorem dX1_sift_154 : decode cX1_sift 154 = .ok (.iastore, 1) := by decide +kernel
theorem dX1_sift_155 : decode cX1_sift 155 = .ok (.aload_n 2, 1) := by decide +kernel
theorem dX1_sift_156 : decode cX1_sift 156 = .ok (.iload 11, 2) := by decide +kernel
theorem dX1_sift_158 : decode cX1_sift 158 = .ok (.iload 7, 2) := by decide +kernel
theorem dX1_sift_160 : decode cX1_sift 160 = .ok (.iastore, 1) := by decide +kernel
theorem dX1_sift_161 : decode cX1_sift 161 = .ok (.iinc 6 1, 3) := by decide +kernel
theorem dX1_sift_164 : decode cX1_sift 164 = .ok (.goto (-161), 3) := by decide +kernel
theorem dX1_sift_167 : decode cX1_sift 167 = .ok (.return_, 1) := by decide +kernel
theorem dX1_readsBehind_0 : decode cX1_readsBehind 0 = .ok (.aload_n 0, 1) := by decide +kernel
theorem dX1_readsBehind_1 : decode cX1_readsBehind 1 = .ok (.getfield 9, 3) := by decide +kernel
theorem dX1_readsBehind_4 : decode cX1_readsBehind 4 = .ok (.iload_n 1, 1) := by decide +kernel
theorem dX1_readsBehind_5 : decode cX1_readsBehind 5 = .ok (.iaload, 1) := by decide +kernel
theorem dX1_readsBehind_6 : decode cX1_readsBehind 6 = .ok (.aload_n 0, 1) := by decide +kernel
theorem dX1_readsBehind_7 : decode cX1_readsBehind 7 = .ok (.getfield 18, 3) := by decide +kernel
theorem dX1_readsBehind_10 : decode cX1_readsBehind 10 = .ok (.iload_n 1, 1) := by decide +kernel
theorem dX1_readsBehind_11 : decode cX1_readsBehind 11 = .ok (.iconst 3, 1) := by decide +kernel
theorem dX1_readsBehind_12 : decode cX1_readsBehind 12 = .ok (.imul, 1) := by decide +kernel
theorem dX1_readsBehind_13 : decode cX1_readsBehind 13 = .ok (.iload_n 2, 1) := by decide +kernel
theorem dX1_readsBehind_14 : decode cX1_readsBehind 14 = .ok (.iload_n 3, 1) := by decide +kernel
theorem dX1_readsBehind_15 : decode cX1_readsBehind 15 = .ok (.invokestatic 69, 3) := by decide +kernel
theorem dX1_readsBehind_18 : decode cX1_readsBehind 18 = .ok (.ireturn, 1) := by decide +kernel
theorem dX1_figureOf_0 : decode cX1_figureOf 0 = .ok (.aload_n 0, 1) := by decide +kernel
theorem dX1_figureOf_1 : decode cX1_figureOf 1 = .ok (.getfield 18, 3) := by decide +kernel
theorem dX1_figureOf_4 : decode cX1_figureOf 4 = .ok (.iload_n 1, 1) := by decide +kernel
theorem dX1_figureOf_5 : decode cX1_figureOf 5 = .ok (.iconst 3, 1) := by decide +kernel
theorem dX1_figureOf_6 : decode cX1_figureOf 6 = .ok (.imul, 1) := by decide +kernel
theorem dX1_figureOf_7 : decode cX1_figureOf 7 = .ok (.iload_n 2, 1) := by decide +kernel
theorem dX1_figureOf_8 : decode cX1_figureOf 8 = .ok (.iadd, 1) := by decide +kernel
theorem dX1_figureOf_9 : decode cX1_figureOf 9 = .ok (.iaload, 1) := by decide +kernel
theorem dX1_figureOf_10 : decode cX1_figureOf 10 = .ok (.ireturn, 1) := by decide +kernel
theorem dX1_placeOf_0 : decode cX1_placeOf 0 = .ok (.aload_n 0, 1) := by decide +kernel
theorem dX1_placeOf_1 : decode cX1_placeOf 1 = .ok (.getfield 21, 3) := by decide +kernel
theorem dX1_placeOf_4 : decode cX1_placeOf 4 = .ok (.iload_n 1, 1) := by decide +kernel
theorem dX1_placeOf_5 : decode cX1_placeOf 5 = .ok (.aload_n 0, 1) := by decide +kernel
theorem dX1_placeOf_6 : decode cX1_placeOf 6 = .ok (.getfield 33, 3) := by decide +kernel
theorem dX1_placeOf_9 : decode cX1_placeOf 9 = .ok (.invokestatic 73, 3) := by decide +kernel
theorem dX1_placeOf_12 : decode cX1_placeOf 12 = .ok (.ireturn, 1) := by decide +kernel
theorem dX1_sumOf_0 : decode cX1_sumOf 0 = .ok (.iconst 0, 1) := by decide +kernel
theorem dX1_sumOf_1 : decode cX1_sumOf 1 = .ok (.istore_n 3, 1) := by decide +kernel
theorem dX1_sumOf_2 : decode cX1_sumOf 2 = .ok (.iconst 0, 1) := by decide +kernel
theorem dX1_sumOf_3 : decode cX1_sumOf 3 = .ok (.istore 4, 2) := by decide +kernel
theorem dX1_sumOf_5 : decode cX1_sumOf 5 = .ok (.iload 4, 2) := by decide +kernel
theorem dX1_sumOf_7 : decode cX1_sumOf 7 = .ok (.aload_n 0, 1) := by decide +kernel
theorem dX1_sumOf_8 : decode cX1_sumOf 8 = .ok (.getfield 33, 3) := by decide +kernel
theorem dX1_sumOf_11 : decode cX1_sumOf 11 = .ok (.if_icmp .ge 28, 3) := by decide +kernel
theorem dX1_sumOf_14 : decode cX1_sumOf 14 = .ok (.iload_n 1, 1) := by decide +kernel
theorem dX1_sumOf_15 : decode cX1_sumOf 15 = .ok (.iload 4, 2) := by decide +kernel
theorem dX1_sumOf_17 : decode cX1_sumOf 17 = .ok (.ishr, 1) := by decide +kernel
theorem dX1_sumOf_18 : decode cX1_sumOf 18 = .ok (.iconst 1, 1) := by decide +kernel
theorem dX1_sumOf_19 : decode cX1_sumOf 19 = .ok (.iand, 1) := by decide +kernel
theorem dX1_sumOf_20 : decode cX1_sumOf 20 = .ok (.ifCond .eq 13, 3) := by decide +kernel
theorem dX1_sumOf_23 : decode cX1_sumOf 23 = .ok (.iload_n 3, 1) := by decide +kernel
theorem dX1_sumOf_24 : decode cX1_sumOf 24 = .ok (.aload_n 0, 1) := by decide +kernel
theorem dX1_sumOf_25 : decode cX1_sumOf 25 = .ok (.iload 4, 2) := by decide +kernel
theorem dX1_sumOf_27 : decode cX1_sumOf 27 = .ok (.iload_n 2, 1) := by decide +kernel
theorem dX1_sumOf_28 : decode cX1_sumOf 28 = .ok (.invokevirtual 77, 3) := by decide +kernel
theorem dX1_sumOf_31 : decode cX1_sumOf 31 = .ok (.iadd, 1) := by decide +kernel
theorem dX1_sumOf_32 : decode cX1_sumOf 32 = .ok (.istore_n 3, 1) := by decide +kernel
theorem dX1_sumOf_33 : decode cX1_sumOf 33 = .ok (.iinc 4 1, 3) := by decide +kernel
theorem dX1_sumOf_36 : decode cX1_sumOf 36 = .ok (.goto (-31), 3) := by decide +kernel
theorem dX1_sumOf_39 : decode cX1_sumOf 39 = .ok (.iload_n 3, 1) := by decide +kernel
theorem dX1_sumOf_40 : decode cX1_sumOf 40 = .ok (.ireturn, 1) := by decide +kernel
theorem dX1_sumOfAll_0 : decode cX1_sumOfAll 0 = .ok (.iconst 0, 1) := by decide +kernel
theorem dX1_sumOfAll_1 : decode cX1_sumOfAll 1 = .ok (.istore_n 1, 1) := by decide +kernel
theorem dX1_sumOfAll_2 : decode cX1_sumOfAll 2 = .ok (.iconst 0, 1) := by decide +kernel
theorem dX1_sumOfAll_3 : decode cX1_sumOfAll 3 = .ok (.istore_n 2, 1) := by decide +kernel
theorem dX1_sumOfAll_4 : decode cX1_sumOfAll 4 = .ok (.iload_n 2, 1) := by decide +kernel
theorem dX1_sumOfAll_5 : decode cX1_sumOfAll 5 = .ok (.iconst 3, 1) := by decide +kernel
theorem dX1_sumOfAll_6 : decode cX1_sumOfAll 6 = .ok (.if_icmp .ge 25, 3) := by decide +kernel
theorem dX1_sumOfAll_9 : decode cX1_sumOfAll 9 = .ok (.iload_n 1, 1) := by decide +kernel
theorem dX1_sumOfAll_10 : decode cX1_sumOfAll 10 = .ok (.aload_n 0, 1) := by decide +kernel
theorem dX1_sumOfAll_11 : decode cX1_sumOfAll 11 = .ok (.iconst 1, 1) := by decide +kernel
theorem dX1_sumOfAll_12 : decode cX1_sumOfAll 12 = .ok (.aload_n 0, 1) := by decide +kernel
theorem dX1_sumOfAll_13 : decode cX1_sumOfAll 13 = .ok (.getfield 33, 3) := by decide +kernel
theorem dX1_sumOfAll_16 : decode cX1_sumOfAll 16 = .ok (.ishl, 1) := by decide +kernel
theorem dX1_sumOfAll_17 : decode cX1_sumOfAll 17 = .ok (.iconst 1, 1) := by decide +kernel
theorem dX1_sumOfAll_18 : decode cX1_sumOfAll 18 = .ok (.isub, 1) := by decide +kernel
theorem dX1_sumOfAll_19 : decode cX1_sumOfAll 19 = .ok (.iload_n 2, 1) := by decide +kernel
theorem dX1_sumOfAll_20 : decode cX1_sumOfAll 20 = .ok (.invokevirtual 81, 3) := by decide +kernel
theorem dX1_sumOfAll_23 : decode cX1_sumOfAll 23 = .ok (.iadd, 1) := by decide +kernel
theorem dX1_sumOfAll_24 : decode cX1_sumOfAll 24 = .ok (.istore_n 1, 1) := by decide +kernel
theorem dX1_sumOfAll_25 : decode cX1_sumOfAll 25 = .ok (.iinc 2 1, 3) := by decide +kernel
theorem dX1_sumOfAll_28 : decode cX1_sumOfAll 28 = .ok (.goto (-24), 3) := by decide +kernel
theorem dX1_sumOfAll_31 : decode cX1_sumOfAll 31 = .ok (.iload_n 1, 1) := by decide +kernel
theorem dX1_sumOfAll_32 : decode cX1_sumOfAll 32 = .ok (.ireturn, 1) := by decide +kernel
theorem dX1_manyOf_0 : decode cX1_manyOf 0 = .ok (.iconst 0, 1) := by decide +kernel
theorem dX1_manyOf_1 : decode cX1_manyOf 1 = .ok (.istore_n 2, 1) := by decide +kernel
theorem dX1_manyOf_2 : decode cX1_manyOf 2 = .ok (.iconst 0, 1) := by decide +kernel
theorem dX1_manyOf_3 : decode cX1_manyOf 3 = .ok (.istore_n 3, 1) := by decide +kernel
theorem dX1_manyOf_4 : decode cX1_manyOf 4 = .ok (.iload_n 3, 1) := by decide +kernel
theorem dX1_manyOf_5 : decode cX1_manyOf 5 = .ok (.aload_n 0, 1) := by decide +kernel
theorem dX1_manyOf_6 : decode cX1_manyOf 6 = .ok (.getfield 33, 3) := by decide +kernel
theorem dX1_manyOf_9 : decode cX1_manyOf 9 = .ok (.if_icmp .ge 25, 3) := by decide +kernel
theorem dX1_manyOf_12 : decode cX1_manyOf 12 = .ok (.aload_n 0, 1) := by decide +kernel
theorem dX1_manyOf_13 : decode cX1_manyOf 13 = .ok (.getfield 9, 3) := by decide +kernel
theorem dX1_manyOf_16 : decode cX1_manyOf 16 = .ok (.iload_n 3, 1) := by decide +kernel
theorem dX1_manyOf_17 : decode cX1_manyOf 17 = .ok (.iaload, 1) := by decide +kernel
theorem dX1_manyOf_18 : decode cX1_manyOf 18 = .ok (.iload_n 1, 1) := by decide +kernel
theorem dX1_manyOf_19 : decode cX1_manyOf 19 = .ok (.invokestatic 84, 3) := by decide +kernel
theorem dX1_manyOf_22 : decode cX1_manyOf 22 = .ok (.ifCond .eq 6, 3) := by decide +kernel
theorem dX1_manyOf_25 : decode cX1_manyOf 25 = .ok (.iinc 2 1, 3) := by decide +kernel
theorem dX1_manyOf_28 : decode cX1_manyOf 28 = .ok (.iinc 3 1, 3) := by decide +kernel
theorem dX1_manyOf_31 : decode cX1_manyOf 31 = .ok (.goto (-27), 3) := by decide +kernel
theorem dX1_manyOf_34 : decode cX1_manyOf 34 = .ok (.iload_n 2, 1) := by decide +kernel
theorem dX1_manyOf_35 : decode cX1_manyOf 35 = .ok (.ireturn, 1) := by decide +kernel
theorem dX2_init_0 : decode cX2_init 0 = .ok (.aload_n 0, 1) := by decide +kernel
theorem dX2_init_1 : decode cX2_init 1 = .ok (.invokespecial 3, 3) := by decide +kernel
theorem dX2_init_4 : decode cX2_init 4 = .ok (.aload_n 0, 1) := by decide +kernel
theorem dX2_init_5 : decode cX2_init 5 = .ok (.bipush 6, 2) := by decide +kernel
theorem dX2_init_7 : decode cX2_init 7 = .ok (.newarray .int, 2) := by decide +kernel
theorem dX2_init_9 : decode cX2_init 9 = .ok (.putfield 9, 3) := by decide +kernel
theorem dX2_init_12 : decode cX2_init 12 = .ok (.aload_n 0, 1) := by decide +kernel
theorem dX2_init_13 : decode cX2_init 13 = .ok (.bipush 18, 2) := by decide +kernel
theorem dX2_init_15 : decode cX2_init 15 = .ok (.newarray .int, 2) := by decide +kernel
theorem dX2_init_17 : decode cX2_init 17 = .ok (.putfield 15, 3) := by decide +kernel
theorem dX2_init_20 : decode cX2_init 20 = .ok (.aload_n 0, 1) := by decide +kernel
theorem dX2_init_21 : decode cX2_init 21 = .ok (.iconst 0, 1) := by decide +kernel
theorem dX2_init_22 : decode cX2_init 22 = .ok (.putfield 18, 3) := by decide +kernel
theorem dX2_init_25 : decode cX2_init 25 = .ok (.return_, 1) := by decide +kernel
theorem dX2_faultOf_0 : decode cX2_faultOf 0 = .ok (.aload_n 1, 1) := by decide +kernel
theorem dX2_faultOf_1 : decode cX2_faultOf 1 = .ok (.iload_n 2, 1) := by decide +kernel
theorem dX2_faultOf_2 : decode cX2_faultOf 2 = .ok (.invokevirtual 22, 3) := by decide +kernel
theorem dX2_faultOf_5 : decode cX2_faultOf 5 = .ok (.istore_n 3, 1) := by decide +kernel
theorem dX2_faultOf_6 : decode cX2_faultOf 6 = .ok (.iconst 3, 1) := by decide +kernel
theorem dX2_faultOf_7 : decode cX2_faultOf 7 = .ok (.istore 4, 2) := by decide +kernel
theorem dX2_faultOf_9 : decode cX2_faultOf 9 = .ok (.aload_n 0, 1) := by decide +kernel
theorem dX2_faultOf_10 : decode cX2_faultOf 10 = .ok (.iconst 0, 1) := by decide +kernel
theorem dX2_faultOf_11 : decode cX2_faultOf 11 = .ok (.putfield 18, 3) := by decide +kernel
theorem dX2_faultOf_14 : decode cX2_faultOf 14 = .ok (.iconst 0, 1) := by decide +kernel
theorem dX2_faultOf_15 : decode cX2_faultOf 15 = .ok (.istore 5, 2) := by decide +kernel
theorem dX2_faultOf_17 : decode cX2_faultOf 17 = .ok (.iload 5, 2) := by decide +kernel
theorem dX2_faultOf_19 : decode cX2_faultOf 19 = .ok (.iload_n 3, 1) := by decide +kernel
theorem dX2_faultOf_20 : decode cX2_faultOf 20 = .ok (.if_icmp .ge 127, 3) := by decide +kernel
theorem dX2_faultOf_23 : decode cX2_faultOf 23 = .ok (.aload_n 1, 1) := by decide +kernel
theorem dX2_faultOf_24 : decode cX2_faultOf 24 = .ok (.iload_n 2, 1) := by decide +kernel
theorem dX2_faultOf_25 : decode cX2_faultOf 25 = .ok (.iload 5, 2) := by decide +kernel
theorem dX2_faultOf_27 : decode cX2_faultOf 27 = .ok (.invokevirtual 28, 3) := by decide +kernel
theorem dX2_faultOf_30 : decode cX2_faultOf 30 = .ok (.istore 6, 2) := by decide +kernel
theorem dX2_faultOf_32 : decode cX2_faultOf 32 = .ok (.iload 4, 2) := by decide +kernel
theorem dX2_faultOf_34 : decode cX2_faultOf 34 = .ok (.iconst 3, 1) := by decide +kernel
theorem dX2_faultOf_35 : decode cX2_faultOf 35 = .ok (.if_icmp .ge 49, 3) := by decide +kernel
theorem dX2_faultOf_38 : decode cX2_faultOf 38 = .ok (.iload 6, 2) := by decide +kernel
theorem dX2_faultOf_40 : decode cX2_faultOf 40 = .ok (.bipush 48, 2) := by decide +kernel
theorem dX2_faultOf_42 : decode cX2_faultOf 42 = .ok (.isub, 1) := by decide +kernel
theorem dX2_faultOf_43 : decode cX2_faultOf 43 = .ok (.istore 7, 2) := by decide +kernel
theorem dX2_faultOf_45 : decode cX2_faultOf 45 = .ok (.iload 7, 2) := by decide +kernel
theorem dX2_faultOf_47 : decode cX2_faultOf 47 = .ok (.ifCond .lt 10, 3) := by decide +kernel
theorem dX2_faultOf_50 : decode cX2_faultOf 50 = .ok (.iload 7, 2) := by decide +kernel
theorem dX2_faultOf_52 : decode cX2_faultOf 52 = .ok (.bipush 10, 2) := by decide +kernel
theorem dX2_faultOf_54 : decode cX2_faultOf 54 = .ok (.if_icmp .lt 6, 3) := by decide +kernel
theorem dX2_faultOf_57 : decode cX2_faultOf 57 = .ok (.iload 5, 2) := by decide +kernel
theorem dX2_faultOf_59 : decode cX2_faultOf 59 = .ok (.ireturn, 1) := by decide +kernel
theorem dX2_faultOf_60 : decode cX2_faultOf 60 = .ok (.aload_n 0, 1) := by decide +kernel
theorem dX2_faultOf_61 : decode cX2_faultOf 61 = .ok (.getfield 15, 3) := by decide +kernel
theorem dX2_faultOf_64 : decode cX2_faultOf 64 = .ok (.aload_n 0, 1) := by decide +kernel
theorem dX2_faultOf_65 : decode cX2_faultOf 65 = .ok (.getfield 18, 3) := by decide +kernel
theorem dX2_faultOf_68 : decode cX2_faultOf 68 = .ok (.iconst 1, 1) := by decide +kernel
theorem dX2_faultOf_69 : decode cX2_faultOf 69 = .ok (.isub, 1) := by decide +kernel
theorem dX2_faultOf_70 : decode cX2_faultOf 70 = .ok (.iconst 3, 1) := by decide +kernel
theorem dX2_faultOf_71 : decode cX2_faultOf 71 = .ok (.imul, 1) := by decide +kernel
theorem dX2_faultOf_72 : decode cX2_faultOf 72 = .ok (.iload 4, 2) := by decide +kernel
theorem dX2_faultOf_74 : decode cX2_faultOf 74 = .ok (.iadd, 1) := by decide +kernel
theorem dX2_faultOf_75 : decode cX2_faultOf 75 = .ok (.iload 7, 2) := by decide +kernel
theorem dX2_faultOf_77 : decode cX2_faultOf 77 = .ok (.iastore, 1) := by decide +kernel
theorem dX2_faultOf_78 : decode cX2_faultOf 78 = .ok (.iinc 4 1, 3) := by decide +kernel
theorem dX2_faultOf_81 : decode cX2_faultOf 81 = .ok (.goto 60, 3) := by decide +kernel
theorem dX2_faultOf_84 : decode cX2_faultOf 84 = .ok (.iload 6, 2) := by decide +kernel
theorem dX2_faultOf_86 : decode cX2_faultOf 86 = .ok (.bipush 32, 2) := by decide +kernel
theorem dX2_faultOf_88 : decode cX2_faultOf 88 = .ok (.if_icmp .eq 53, 3) := by decide +kernel
theorem dX2_faultOf_91 : decode cX2_faultOf 91 = .ok (.iload 6, 2) := by decide +kernel
theorem dX2_faultOf_93 : decode cX2_faultOf 93 = .ok (.invokestatic 32, 3) := by decide +kernel
theorem dX2_faultOf_96 : decode cX2_faultOf 96 = .ok (.istore 7, 2) := by decide +kernel
theorem dX2_faultOf_98 : decode cX2_faultOf 98 = .ok (.iload 7, 2) := by decide +kernel
theorem dX2_faultOf_100 : decode cX2_faultOf 100 = .ok (.bipush (-9), 2) := by decide +kernel
theorem dX2_faultOf_102 : decode cX2_faultOf 102 = .ok (.if_icmp .eq 12, 3) := by decide +kernel
theorem dX2_faultOf_105 : decode cX2_faultOf 105 = .ok (.aload_n 0, 1) := by decide +kernel
theorem dX2_faultOf_106 : decode cX2_faultOf 106 = .ok (.getfield 18, 3) := by decide +kernel
theorem dX2_faultOf_109 : decode cX2_faultOf 109 = .ok (.bipush 6, 2) := by decide +kernel
theorem dX2_faultOf_111 : decode cX2_faultOf 111 = .ok (.if_icmp .lt 6, 3) := by decide +kernel
theorem dX2_faultOf_114 : decode cX2_faultOf 114 = .ok (.iload 5, 2) := by decide +kernel
theorem dX2_faultOf_116 : decode cX2_faultOf 116 = .ok (.ireturn, 1) := by decide +kernel
theorem dX2_faultOf_117 : decode cX2_faultOf 117 = .ok (.aload_n 0, 1) := by decide +kernel
theorem dX2_faultOf_118 : decode cX2_faultOf 118 = .ok (.getfield 9, 3) := by decide +kernel
theorem dX2_faultOf_121 : decode cX2_faultOf 121 = .ok (.aload_n 0, 1) := by decide +kernel
theorem dX2_faultOf_122 : decode cX2_faultOf 122 = .ok (.getfield 18, 3) := by decide +kernel
theorem dX2_faultOf_125 : decode cX2_faultOf 125 = .ok (.iload 7, 2) := by decide +kernel
theorem dX2_faultOf_127 : decode cX2_faultOf 127 = .ok (.iastore, 1) := by decide +kernel
theorem dX2_faultOf_128 : decode cX2_faultOf 128 = .ok (.aload_n 0, 1) := by decide +kernel
theorem dX2_faultOf_129 : decode cX2_faultOf 129 = .ok (.dup, 1) := by decide +kernel
theorem dX2_faultOf_130 : decode cX2_faultOf 130 = .ok (.getfield 18, 3) := by decide +kernel
theorem dX2_faultOf_133 : decode cX2_faultOf 133 = .ok (.iconst 1, 1) := by decide +kernel
theorem dX2_faultOf_134 : decode cX2_faultOf 134 = .ok (.iadd, 1) := by decide +kernel
theorem dX2_faultOf_135 : decode cX2_faultOf 135 = .ok (.putfield 18, 3) := by decide +kernel
theorem dX2_faultOf_138 : decode cX2_faultOf 138 = .ok (.iconst 0, 1) := by decide +kernel
theorem dX2_faultOf_139 : decode cX2_faultOf 139 = .ok (.istore 4, 2) := by decide +kernel
theorem dX2_faultOf_141 : decode cX2_faultOf 141 = .ok (.iinc 5 1, 3) := by decide +kernel
theorem dX2_faultOf_144 : decode cX2_faultOf 144 = .ok (.goto (-127), 3) := by decide +kernel
theorem dX2_faultOf_147 : decode cX2_faultOf 147 = .ok (.iload 4, 2) := by decide +kernel
theorem dX2_faultOf_149 : decode cX2_faultOf 149 = .ok (.iconst 3, 1) := by decide +kernel
theorem dX2_faultOf_150 : decode cX2_faultOf 150 = .ok (.if_icmp .lt 11, 3) := by decide +kernel
theorem dX2_faultOf_153 : decode cX2_faultOf 153 = .ok (.aload_n 0, 1) := by decide +kernel
theorem dX2_faultOf_154 : decode cX2_faultOf 154 = .ok (.getfield 18, 3) := by decide +kernel
theorem dX2_faultOf_157 : decode cX2_faultOf 157 = .ok (.iconst 2, 1) := by decide +kernel
theorem dX2_faultOf_158 : decode cX2_faultOf 158 = .ok (.if_icmp .ge 7, 3) := by decide +kernel
theorem dX2_faultOf_161 : decode cX2_faultOf 161 = .ok (.iload_n 3, 1) := by decide +kernel
theorem dX2_faultOf_162 : decode cX2_faultOf 162 = .ok (.goto 5, 3) := by decide +kernel
theorem dX2_faultOf_165 : decode cX2_faultOf 165 = .ok (.bipush (-9), 2) := by decide +kernel
theorem dX2_faultOf_167 : decode cX2_faultOf 167 = .ok (.ireturn, 1) := by decide +kernel
theorem dX2_kindBy_0 : decode cX2_kindBy 0 = .ok (.iconst 0, 1) := by decide +kernel
theorem dX2_kindBy_1 : decode cX2_kindBy 1 = .ok (.istore_n 1, 1) := by decide +kernel
theorem dX2_kindBy_2 : decode cX2_kindBy 2 = .ok (.iload_n 1, 1) := by decide +kernel
theorem dX2_kindBy_3 : decode cX2_kindBy 3 = .ok (.bipush 6, 2) := by decide +kernel
theorem dX2_kindBy_5 : decode cX2_kindBy 5 = .ok (.if_icmp .ge 20, 3) := by decide +kernel
theorem dX2_kindBy_8 : decode cX2_kindBy 8 = .ok (.getstatic 35, 3) := by decide +kernel
theorem dX2_kindBy_11 : decode cX2_kindBy 11 = .ok (.iload_n 1, 1) := by decide +kernel
theorem dX2_kindBy_12 : decode cX2_kindBy 12 = .ok (.iaload, 1) := by decide +kernel
theorem dX2_kindBy_13 : decode cX2_kindBy 13 = .ok (.iload_n 0, 1) := by decide +kernel
theorem dX2_kindBy_14 : decode cX2_kindBy 14 = .ok (.if_icmp .ne 5, 3) := by decide +kernel
theorem dX2_kindBy_17 : decode cX2_kindBy 17 = .ok (.iload_n 1, 1) := by decide +kernel
theorem dX2_kindBy_18 : decode cX2_kindBy 18 = .ok (.ireturn, 1) := by decide +kernel
theorem dX2_kindBy_19 : decode cX2_kindBy 19 = .ok (.iinc 1 1, 3) := by decide +kernel
theorem dX2_kindBy_22 : decode cX2_kindBy 22 = .ok (.goto (-20), 3) := by decide +kernel
theorem dX2_kindBy_25 : decode cX2_kindBy 25 = .ok (.bipush (-9), 2) := by decide +kernel
theorem dX2_kindBy_27 : decode cX2_kindBy 27 = .ok (.ireturn, 1) := by decide +kernel
theorem dX3_init_0 : decode cX3_init 0 = .ok (.aload_n 0, 1) := by decide +kernel
theorem dX3_init_1 : decode cX3_init 1 = .ok (.invokespecial 1, 3) := by decide +kernel
theorem dX3_init_4 : decode cX3_init 4 = .ok (.aload_n 0, 1) := by decide +kernel
theorem dX3_init_5 : decode cX3_init 5 = .ok (.iload_n 2, 1) := by decide +kernel
theorem dX3_init_6 : decode cX3_init 6 = .ok (.putfield 7, 3) := by decide +kernel
theorem dX3_init_9 : decode cX3_init 9 = .ok (.aload_n 0, 1) := by decide +kernel
theorem dX3_init_10 : decode cX3_init 10 = .ok (.iload_n 1, 1) := by decide +kernel
theorem dX3_init_11 : decode cX3_init 11 = .ok (.iload_n 2, 1) := by decide +kernel
theorem dX3_init_12 : decode cX3_init 12 = .ok (.imul, 1) := by decide +kernel
theorem dX3_init_13 : decode cX3_init 13 = .ok (.newarray .int, 2) := by decide +kernel
theorem dX3_init_15 : decode cX3_init 15 = .ok (.putfield 13, 3) := by decide +kernel
theorem dX3_init_18 : decode cX3_init 18 = .ok (.aload_n 0, 1) := by decide +kernel
theorem dX3_init_19 : decode cX3_init 19 = .ok (.iload_n 1, 1) := by decide +kernel
theorem dX3_init_20 : decode cX3_init 20 = .ok (.newarray .int, 2) := by decide +kernel
theorem dX3_init_22 : decode cX3_init 22 = .ok (.putfield 17, 3) := by decide +kernel
theorem dX3_init_25 : decode cX3_init 25 = .ok (.iconst 0, 1) := by decide +kernel
theorem dX3_init_26 : decode cX3_init 26 = .ok (.istore_n 3, 1) := by decide +kernel
theorem dX3_init_27 : decode cX3_init 27 = .ok (.iload_n 3, 1) := by decide +kernel
theorem dX3_init_28 : decode cX3_init 28 = .ok (.iload_n 1, 1) := by decide +kernel
theorem dX3_init_29 : decode cX3_init 29 = .ok (.if_icmp .ge 16, 3) := by decide +kernel
theorem dX3_init_32 : decode cX3_init 32 = .ok (.aload_n 0, 1) := by decide +kernel
theorem dX3_init_33 : decode cX3_init 33 = .ok (.getfield 17, 3) := by decide +kernel
theorem dX3_init_36 : decode cX3_init 36 = .ok (.iload_n 3, 1) := by decide +kernel
theorem dX3_init_37 : decode cX3_init 37 = .ok (.iconst (-1), 1) := by decide +kernel
theorem dX3_init_38 : decode cX3_init 38 = .ok (.iastore, 1) := by decide +kernel
theorem dX3_init_39 : decode cX3_init 39 = .ok (.iinc 3 1, 3) := by decide +kernel
theorem dX3_init_42 : decode cX3_init 42 = .ok (.goto (-15), 3) := by decide +kernel
theorem dX3_init_45 : decode cX3_init 45 = .ok (.return_, 1) := by decide +kernel
theorem dX3_make_0 : decode cX3_make 0 = .ok (.iload_n 1, 1) := by decide +kernel
theorem dX3_make_1 : decode cX3_make 1 = .ok (.ifCond .lt 24, 3) := by decide +kernel
theorem dX3_make_4 : decode cX3_make 4 = .ok (.iload_n 1, 1) := by decide +kernel
theorem dX3_make_5 : decode cX3_make 5 = .ok (.aload_n 0, 1) := by decide +kernel
theorem dX3_make_6 : decode cX3_make 6 = .ok (.getfield 17, 3) := by decide +kernel
theorem dX3_make_9 : decode cX3_make 9 = .ok (.arraylength, 1) := by decide +kernel
theorem dX3_make_10 : decode cX3_make 10 = .ok (.if_icmp .ge 15, 3) := by decide +kernel
theorem dX3_make_13 : decode cX3_make 13 = .ok (.iload_n 2, 1) := by decide +kernel
theorem dX3_make_14 : decode cX3_make 14 = .ok (.ifCond .lt 11, 3) := by decide +kernel
theorem dX3_make_17 : decode cX3_make 17 = .ok (.iload_n 2, 1) := by decide +kernel
theorem dX3_make_18 : decode cX3_make 18 = .ok (.aload_n 0, 1) := by decide +kernel
theorem dX3_make_19 : decode cX3_make 19 = .ok (.getfield 7, 3) := by decide +kernel
theorem dX3_make_22 : decode cX3_make 22 = .ok (.if_icmp .le 4, 3) := by decide +kernel
theorem dX3_make_25 : decode cX3_make 25 = .ok (.return_, 1) := by decide +kernel
theorem dX3_make_26 : decode cX3_make 26 = .ok (.aload_n 0, 1) := by decide +kernel
theorem dX3_make_27 : decode cX3_make 27 = .ok (.getfield 17, 3) := by decide +kernel
theorem dX3_make_30 : decode cX3_make 30 = .ok (.iload_n 1, 1) := by decide +kernel
theorem dX3_make_31 : decode cX3_make 31 = .ok (.iload_n 2, 1) := by decide +kernel
theorem dX3_make_32 : decode cX3_make 32 = .ok (.iastore, 1) := by decide +kernel
theorem dX3_make_33 : decode cX3_make 33 = .ok (.iconst 0, 1) := by decide +kernel
theorem dX3_make_34 : decode cX3_make 34 = .ok (.istore 4, 2) := by decide +kernel
theorem dX3_make_36 : decode cX3_make 36 = .ok (.iload 4, 2) := by decide +kernel
theorem dX3_make_38 : decode cX3_make 38 = .ok (.iload_n 2, 1) := by decide +kernel
theorem dX3_make_39 : decode cX3_make 39 = .ok (.if_icmp .ge 24, 3) := by decide +kernel
theorem dX3_make_42 : decode cX3_make 42 = .ok (.aload_n 0, 1) := by decide +kernel
theorem dX3_make_43 : decode cX3_make 43 = .ok (.getfield 13, 3) := by decide +kernel
theorem dX3_make_46 : decode cX3_make 46 = .ok (.iload_n 1, 1) := by decide +kernel
theorem dX3_make_47 : decode cX3_make 47 = .ok (.aload_n 0, 1) := by decide +kernel
theorem dX3_make_48 : decode cX3_make 48 = .ok (.getfield 7, 3) := by decide +kernel
theorem dX3_make_51 : decode cX3_make 51 = .ok (.imul, 1) := by decide +kernel
theorem dX3_make_52 : decode cX3_make 52 = .ok (.iload 4, 2) := by decide +kernel
theorem dX3_make_54 : decode cX3_make 54 = .ok (.iadd, 1) := by decide +kernel
theorem dX3_make_55 : decode cX3_make 55 = .ok (.iload_n 3, 1) := by decide +kernel
theorem dX3_make_56 : decode cX3_make 56 = .ok (.iastore, 1) := by decide +kernel
theorem dX3_make_57 : decode cX3_make 57 = .ok (.iinc 4 1, 3) := by decide +kernel
theorem dX3_make_60 : decode cX3_make 60 = .ok (.goto (-24), 3) := by decide +kernel
theorem dX3_make_63 : decode cX3_make 63 = .ok (.return_, 1) := by decide +kernel
theorem dX3_fill_0 : decode cX3_fill 0 = .ok (.aload_n 0, 1) := by decide +kernel
theorem dX3_fill_1 : decode cX3_fill 1 = .ok (.iload_n 1, 1) := by decide +kernel
theorem dX3_fill_2 : decode cX3_fill 2 = .ok (.iload_n 3, 1) := by decide +kernel
theorem dX3_fill_3 : decode cX3_fill 3 = .ok (.iconst 0, 1) := by decide +kernel
theorem dX3_fill_4 : decode cX3_fill 4 = .ok (.invokevirtual 20, 3) := by decide +kernel
theorem dX3_fill_7 : decode cX3_fill 7 = .ok (.iconst 0, 1) := by decide +kernel
theorem dX3_fill_8 : decode cX3_fill 8 = .ok (.istore 4, 2) := by decide +kernel
theorem dX3_fill_10 : decode cX3_fill 10 = .ok (.iload 4, 2) := by decide +kernel
theorem dX3_fill_12 : decode cX3_fill 12 = .ok (.iload_n 3, 1) := by decide +kernel
theorem dX3_fill_13 : decode cX3_fill 13 = .ok (.if_icmp .ge 27, 3) := by decide +kernel
theorem dX3_fill_16 : decode cX3_fill 16 = .ok (.iload 4, 2) := by decide +kernel
theorem dX3_fill_18 : decode cX3_fill 18 = .ok (.aload_n 2, 1) := by decide +kernel
theorem dX3_fill_19 : decode cX3_fill 19 = .ok (.arraylength, 1) := by decide +kernel
theorem dX3_fill_20 : decode cX3_fill 20 = .ok (.if_icmp .ge 20, 3) := by decide +kernel
theorem dX3_fill_23 : decode cX3_fill 23 = .ok (.aload_n 0, 1) := by decide +kernel
theorem dX3_fill_24 : decode cX3_fill 24 = .ok (.iload_n 1, 1) := by decide +kernel
theorem dX3_fill_25 : decode cX3_fill 25 = .ok (.iload 4, 2) := by decide +kernel
theorem dX3_fill_27 : decode cX3_fill 27 = .ok (.aload_n 2, 1) := by decide +kernel
theorem dX3_fill_28 : decode cX3_fill 28 = .ok (.iload 4, 2) := by decide +kernel
theorem dX3_fill_30 : decode cX3_fill 30 = .ok (.iaload, 1) := by decide +kernel
theorem dX3_fill_31 : decode cX3_fill 31 = .ok (.invokevirtual 24, 3) := by decide +kernel
theorem dX3_fill_34 : decode cX3_fill 34 = .ok (.iinc 4 1, 3) := by decide +kernel
theorem dX3_fill_37 : decode cX3_fill 37 = .ok (.goto (-27), 3) := by decide +kernel
theorem dX3_fill_40 : decode cX3_fill 40 = .ok (.return_, 1) := by decide +kernel
theorem dX3_remove_0 : decode cX3_remove 0 = .ok (.iload_n 1, 1) := by decide +kernel
theorem dX3_remove_1 : decode cX3_remove 1 = .ok (.ifCond .lt 19, 3) := by decide +kernel
theorem dX3_remove_4 : decode cX3_remove 4 = .ok (.iload_n 1, 1) := by decide +kernel
theorem dX3_remove_5 : decode cX3_remove 5 = .ok (.aload_n 0, 1) := by decide +kernel
theorem dX3_remove_6 : decode cX3_remove 6 = .ok (.getfield 17, 3) := by decide +kernel
theorem dX3_remove_9 : decode cX3_remove 9 = .ok (.arraylength, 1) := by decide +kernel
theorem dX3_remove_10 : decode cX3_remove 10 = .ok (.if_icmp .ge 10, 3) := by decide +kernel
theorem dX3_remove_13 : decode cX3_remove 13 = .ok (.aload_n 0, 1) := by decide +kernel
theorem dX3_remove_14 : decode cX3_remove 14 = .ok (.getfield 17, 3) := by decide +kernel
theorem dX3_remove_17 : decode cX3_remove 17 = .ok (.iload_n 1, 1) := by decide +kernel
theorem dX3_remove_18 : decode cX3_remove 18 = .ok (.iconst (-1), 1) := by decide +kernel
theorem dX3_remove_19 : decode cX3_remove 19 = .ok (.iastore, 1) := by decide +kernel
theorem dX3_remove_20 : decode cX3_remove 20 = .ok (.return_, 1) := by decide +kernel
theorem dX3_sizeOf_0 : decode cX3_sizeOf 0 = .ok (.iload_n 1, 1) := by decide +kernel
theorem dX3_sizeOf_1 : decode cX3_sizeOf 1 = .ok (.ifCond .lt 21, 3) := by decide +kernel
theorem dX3_sizeOf_4 : decode cX3_sizeOf 4 = .ok (.iload_n 1, 1) := by decide +kernel
theorem dX3_sizeOf_5 : decode cX3_sizeOf 5 = .ok (.aload_n 0, 1) := by decide +kernel
theorem dX3_sizeOf_6 : decode cX3_sizeOf 6 = .ok (.getfield 17, 3) := by decide +kernel
theorem dX3_sizeOf_9 : decode cX3_sizeOf 9 = .ok (.arraylength, 1) := by decide +kernel
theorem dX3_sizeOf_10 : decode cX3_sizeOf 10 = .ok (.if_icmp .ge 12, 3) := by decide +kernel
theorem dX3_sizeOf_13 : decode cX3_sizeOf 13 = .ok (.aload_n 0, 1) := by decide +kernel
theorem dX3_sizeOf_14 : decode cX3_sizeOf 14 = .ok (.getfield 17, 3) := by decide +kernel
theorem dX3_sizeOf_17 : decode cX3_sizeOf 17 = .ok (.iload_n 1, 1) := by decide +kernel
theorem dX3_sizeOf_18 : decode cX3_sizeOf 18 = .ok (.iaload, 1) := by decide +kernel
theorem dX3_sizeOf_19 : decode cX3_sizeOf 19 = .ok (.goto 4, 3) := by decide +kernel
theorem dX3_sizeOf_22 : decode cX3_sizeOf 22 = .ok (.iconst (-1), 1) := by decide +kernel
theorem dX3_sizeOf_23 : decode cX3_sizeOf 23 = .ok (.ireturn, 1) := by decide +kernel
theorem dX3_holds_0 : decode cX3_holds 0 = .ok (.aload_n 0, 1) := by decide +kernel
theorem dX3_holds_1 : decode cX3_holds 1 = .ok (.iload_n 1, 1) := by decide +kernel
theorem dX3_holds_2 : decode cX3_holds 2 = .ok (.invokevirtual 27, 3) := by decide +kernel
theorem dX3_holds_5 : decode cX3_holds 5 = .ok (.ifCond .lt 7, 3) := by decide +kernel
theorem dX3_holds_8 : decode cX3_holds 8 = .ok (.iconst 1, 1) := by decide +kernel
theorem dX3_holds_9 : decode cX3_holds 9 = .ok (.goto 4, 3) := by decide +kernel
theorem dX3_holds_12 : decode cX3_holds 12 = .ok (.iconst 0, 1) := by decide +kernel
theorem dX3_holds_13 : decode cX3_holds 13 = .ok (.ireturn, 1) := by decide +kernel
theorem dX3_spans_0 : decode cX3_spans 0 = .ok (.iload_n 2, 1) := by decide +kernel
theorem dX3_spans_1 : decode cX3_spans 1 = .ok (.ifCond .lt 31, 3) := by decide +kernel
theorem dX3_spans_4 : decode cX3_spans 4 = .ok (.iload_n 3, 1) := by decide +kernel
theorem dX3_spans_5 : decode cX3_spans 5 = .ok (.ifCond .lt 27, 3) := by decide +kernel
theorem dX3_spans_8 : decode cX3_spans 8 = .ok (.iload_n 2, 1) := by decide +kernel
theorem dX3_spans_9 : decode cX3_spans 9 = .ok (.aload_n 0, 1) := by decide +kernel
theorem dX3_spans_10 : decode cX3_spans 10 = .ok (.iload_n 1, 1) := by decide +kernel
theorem dX3_spans_11 : decode cX3_spans 11 = .ok (.invokevirtual 27, 3) := by decide +kernel
theorem dX3_spans_14 : decode cX3_spans 14 = .ok (.if_icmp .gt 18, 3) := by decide +kernel
theorem dX3_spans_17 : decode cX3_spans 17 = .ok (.iload_n 3, 1) := by decide +kernel
theorem dX3_spans_18 : decode cX3_spans 18 = .ok (.aload_n 0, 1) := by decide +kernel
theorem dX3_spans_19 : decode cX3_spans 19 = .ok (.iload_n 1, 1) := by decide +kernel
theorem dX3_spans_20 : decode cX3_spans 20 = .ok (.invokevirtual 27, 3) := by decide +kernel
theorem dX3_spans_23 : decode cX3_spans 23 = .ok (.iload_n 2, 1) := by decide +kernel
theorem dX3_spans_24 : decode cX3_spans 24 = .ok (.isub, 1) := by decide +kernel
theorem dX3_spans_25 : decode cX3_spans 25 = .ok (.if_icmp .gt 7, 3) := by decide +kernel
theorem dX3_spans_28 : decode cX3_spans 28 = .ok (.iconst 1, 1) := by decide +kernel
theorem dX3_spans_29 : decode cX3_spans 29 = .ok (.goto 4, 3) := by decide +kernel
theorem dX3_spans_32 : decode cX3_spans 32 = .ok (.iconst 0, 1) := by decide +kernel
theorem dX3_spans_33 : decode cX3_spans 33 = .ok (.ireturn, 1) := by decide +kernel
theorem dX3_get_0 : decode cX3_get 0 = .ok (.aload_n 0, 1) := by decide +kernel
theorem dX3_get_1 : decode cX3_get 1 = .ok (.iload_n 1, 1) := by decide +kernel
theorem dX3_get_2 : decode cX3_get 2 = .ok (.iload_n 2, 1) := by decide +kernel
theorem dX3_get_3 : decode cX3_get 3 = .ok (.iconst 1, 1) := by decide +kernel
theorem dX3_get_4 : decode cX3_get 4 = .ok (.invokevirtual 31, 3) := by decide +kernel
theorem dX3_get_7 : decode cX3_get 7 = .ok (.ifCond .eq 19, 3) := by decide +kernel
theorem dX3_get_10 : decode cX3_get 10 = .ok (.aload_n 0, 1) := by decide +kernel
theorem dX3_get_11 : decode cX3_get 11 = .ok (.getfield 13, 3) := by decide +kernel
theorem dX3_get_14 : decode cX3_get 14 = .ok (.iload_n 1, 1) := by decide +kernel
theorem dX3_get_15 : decode cX3_get 15 = .ok (.aload_n 0, 1) := by decide +kernel
theorem dX3_get_16 : decode cX3_get 16 = .ok (.getfield 7, 3) := by decide +kernel
theorem dX3_get_19 : decode cX3_get 19 = .ok (.imul, 1) := by decide +kernel
theorem dX3_get_20 : decode cX3_get 20 = .ok (.iload_n 2, 1) := by decide +kernel
theorem dX3_get_21 : decode cX3_get 21 = .ok (.iadd, 1) := by decide +kernel
theorem dX3_get_22 : decode cX3_get 22 = .ok (.iaload, 1) := by decide +kernel
theorem dX3_get_23 : decode cX3_get 23 = .ok (.goto 4, 3) := by decide +kernel
theorem dX3_get_26 : decode cX3_get 26 = .ok (.iconst 0, 1) := by decide +kernel
theorem dX3_get_27 : decode cX3_get 27 = .ok (.ireturn, 1) := by decide +kernel
theorem dX3_set_0 : decode cX3_set 0 = .ok (.aload_n 0, 1) := by decide +kernel
theorem dX3_set_1 : decode cX3_set 1 = .ok (.iload_n 1, 1) := by decide +kernel
theorem dX3_set_2 : decode cX3_set 2 = .ok (.iload_n 2, 1) := by decide +kernel
theorem dX3_set_3 : decode cX3_set 3 = .ok (.iconst 1, 1) := by decide +kernel
theorem dX3_set_4 : decode cX3_set 4 = .ok (.invokevirtual 31, 3) := by decide +kernel
theorem dX3_set_7 : decode cX3_set 7 = .ok (.ifCond .eq 17, 3) := by decide +kernel
theorem dX3_set_10 : decode cX3_set 10 = .ok (.aload_n 0, 1) := by decide +kernel
theorem dX3_set_11 : decode cX3_set 11 = .ok (.getfield 13, 3) := by decide +kernel
theorem dX3_set_14 : decode cX3_set 14 = .ok (.iload_n 1, 1) := by decide +kernel
theorem dX3_set_15 : decode cX3_set 15 = .ok (.aload_n 0, 1) := by decide +kernel
theorem dX3_set_16 : decode cX3_set 16 = .ok (.getfield 7, 3) := by decide +kernel
theorem dX3_set_19 : decode cX3_set 19 = .ok (.imul, 1) := by decide +kernel
theorem dX3_set_20 : decode cX3_set 20 = .ok (.iload_n 2, 1) := by decide +kernel
theorem dX3_set_21 : decode cX3_set 21 = .ok (.iadd, 1) := by decide +kernel
theorem dX3_set_22 : decode cX3_set 22 = .ok (.iload_n 3, 1) := by decide +kernel
theorem dX3_set_23 : decode cX3_set 23 = .ok (.iastore, 1) := by decide +kernel
theorem dX3_set_24 : decode cX3_set 24 = .ok (.return_, 1) := by decide +kernel
theorem dX3_held_0 : decode cX3_held 0 = .ok (.iconst 0, 1) := by decide +kernel
theorem dX3_held_1 : decode cX3_held 1 = .ok (.istore_n 1, 1) := by decide +kernel
theorem dX3_held_2 : decode cX3_held 2 = .ok (.iconst 0, 1) := by decide +kernel
theorem dX3_held_3 : decode cX3_held 3 = .ok (.istore_n 2, 1) := by decide +kernel
theorem dX3_held_4 : decode cX3_held 4 = .ok (.iload_n 2, 1) := by decide +kernel
theorem dX3_held_5 : decode cX3_held 5 = .ok (.aload_n 0, 1) := by decide +kernel
theorem dX3_held_6 : decode cX3_held 6 = .ok (.getfield 17, 3) := by decide +kernel
theorem dX3_held_9 : decode cX3_held 9 = .ok (.arraylength, 1) := by decide +kernel
theorem dX3_held_10 : decode cX3_held 10 = .ok (.if_icmp .ge 21, 3) := by decide +kernel
theorem dX3_held_13 : decode cX3_held 13 = .ok (.aload_n 0, 1) := by decide +kernel
theorem dX3_held_14 : decode cX3_held 14 = .ok (.getfield 17, 3) := by decide +kernel
theorem dX3_held_17 : decode cX3_held 17 = .ok (.iload_n 2, 1) := by decide +kernel
theorem dX3_held_18 : decode cX3_held 18 = .ok (.iaload, 1) := by decide +kernel
theorem dX3_held_19 : decode cX3_held 19 = .ok (.ifCond .lt 6, 3) := by decide +kernel
theorem dX3_held_22 : decode cX3_held 22 = .ok (.iinc 1 1, 3) := by decide +kernel
theorem dX3_held_25 : decode cX3_held 25 = .ok (.iinc 2 1, 3) := by decide +kernel
theorem dX3_held_28 : decode cX3_held 28 = .ok (.goto (-24), 3) := by decide +kernel
theorem dX3_held_31 : decode cX3_held 31 = .ok (.iload_n 1, 1) := by decide +kernel
theorem dX3_held_32 : decode cX3_held 32 = .ok (.ireturn, 1) := by decide +kernel
theorem dX3_digestOn_0 : decode cX3_digestOn 0 = .ok (.iconst 0, 1) := by decide +kernel
theorem dX3_digestOn_1 : decode cX3_digestOn 1 = .ok (.istore_n 3, 1) := by decide +kernel
theorem dX3_digestOn_2 : decode cX3_digestOn 2 = .ok (.iload_n 3, 1) := by decide +kernel
theorem dX3_digestOn_3 : decode cX3_digestOn 3 = .ok (.aload_n 0, 1) := by decide +kernel
theorem dX3_digestOn_4 : decode cX3_digestOn 4 = .ok (.getfield 17, 3) := by decide +kernel
theorem dX3_digestOn_7 : decode cX3_digestOn 7 = .ok (.arraylength, 1) := by decide +kernel
theorem dX3_digestOn_8 : decode cX3_digestOn 8 = .ok (.if_icmp .ge 58, 3) := by decide +kernel
theorem dX3_digestOn_11 : decode cX3_digestOn 11 = .ok (.ldc2_w 35, 3) := by decide +kernel
theorem dX3_digestOn_14 : decode cX3_digestOn 14 = .ok (.lload_n 1, 1) := by decide +kernel
theorem dX3_digestOn_15 : decode cX3_digestOn 15 = .ok (.lmul, 1) := by decide +kernel
theorem dX3_digestOn_16 : decode cX3_digestOn 16 = .ok (.aload_n 0, 1) := by decide +kernel
theorem dX3_digestOn_17 : decode cX3_digestOn 17 = .ok (.getfield 17, 3) := by decide +kernel
theorem dX3_digestOn_20 : decode cX3_digestOn 20 = .ok (.iload_n 3, 1) := by decide +kernel
theorem dX3_digestOn_21 : decode cX3_digestOn 21 = .ok (.iaload, 1) := by decide +kernel
theorem dX3_digestOn_22 : decode cX3_digestOn 22 = .ok (.i2l, 1) := by decide +kernel
theorem dX3_digestOn_23 : decode cX3_digestOn 23 = .ok (.ladd, 1) := by decide +kernel
theorem dX3_digestOn_24 : decode cX3_digestOn 24 = .ok (.lstore_n 1, 1) := by decide +kernel
theorem dX3_digestOn_25 : decode cX3_digestOn 25 = .ok (.iconst 0, 1) := by decide +kernel
theorem dX3_digestOn_26 : decode cX3_digestOn 26 = .ok (.istore 4, 2) := by decide +kernel
theorem dX3_digestOn_28 : decode cX3_digestOn 28 = .ok (.iload 4, 2) := by decide +kernel
theorem dX3_digestOn_30 : decode cX3_digestOn 30 = .ok (.aload_n 0, 1) := by decide +kernel
theorem dX3_digestOn_31 : decode cX3_digestOn 31 = .ok (.getfield 17, 3) := by decide +kernel
theorem dX3_digestOn_34 : decode cX3_digestOn 34 = .ok (.iload_n 3, 1) := by decide +kernel
theorem dX3_digestOn_35 : decode cX3_digestOn 35 = .ok (.iaload, 1) := by decide +kernel
theorem dX3_digestOn_36 : decode cX3_digestOn 36 = .ok (.if_icmp .ge 24, 3) := by decide +kernel
theorem dX3_digestOn_39 : decode cX3_digestOn 39 = .ok (.ldc2_w 35, 3) := by decide +kernel
theorem dX3_digestOn_42 : decode cX3_digestOn 42 = .ok (.lload_n 1, 1) := by decide +kernel
theorem dX3_digestOn_43 : decode cX3_digestOn 43 = .ok (.lmul, 1) := by decide +kernel
theorem dX3_digestOn_44 : decode cX3_digestOn 44 = .ok (.aload_n 0, 1) := by decide +kernel
theorem dX3_digestOn_45 : decode cX3_digestOn 45 = .ok (.iload_n 3, 1) := by decide +kernel
theorem dX3_digestOn_46 : decode cX3_digestOn 46 = .ok (.iload 4, 2) := by decide +kernel
theorem dX3_digestOn_48 : decode cX3_digestOn 48 = .ok (.invokevirtual 37, 3) := by decide +kernel
theorem dX3_digestOn_51 : decode cX3_digestOn 51 = .ok (.i2l, 1) := by decide +kernel
theorem dX3_digestOn_52 : decode cX3_digestOn 52 = .ok (.ladd, 1) := by decide +kernel
theorem dX3_digestOn_53 : decode cX3_digestOn 53 = .ok (.lstore_n 1, 1) := by decide +kernel
theorem dX3_digestOn_54 : decode cX3_digestOn 54 = .ok (.iinc 4 1, 3) := by decide +kernel
theorem dX3_digestOn_57 : decode cX3_digestOn 57 = .ok (.goto (-29), 3) := by decide +kernel
theorem dX3_digestOn_60 : decode cX3_digestOn 60 = .ok (.iinc 3 1, 3) := by decide +kernel
theorem dX3_digestOn_63 : decode cX3_digestOn 63 = .ok (.goto (-61), 3) := by decide +kernel
theorem dX3_digestOn_66 : decode cX3_digestOn 66 = .ok (.lload_n 1, 1) := by decide +kernel
theorem dX3_digestOn_67 : decode cX3_digestOn 67 = .ok (.lreturn, 1) := by decide +kernel
theorem dX4_init_0 : decode cX4_init 0 = .ok (.aload_n 0, 1) := by decide +kernel
theorem dX4_init_1 : decode cX4_init 1 = .ok (.invokespecial 3, 3) := by decide +kernel
theorem dX4_init_4 : decode cX4_init 4 = .ok (.aload_n 0, 1) := by decide +kernel
theorem dX4_init_5 : decode cX4_init 5 = .ok (.bipush 7, 2) := by decide +kernel
theorem dX4_init_7 : decode cX4_init 7 = .ok (.bipush 6, 2) := by decide +kernel
theorem dX4_init_9 : decode cX4_init 9 = .ok (.multianewarray 9 2, 4) := by decide +kernel
theorem dX4_init_13 : decode cX4_init 13 = .ok (.putfield 11, 3) := by decide +kernel
theorem dX4_init_16 : decode cX4_init 16 = .ok (.aload_n 0, 1) := by decide +kernel
theorem dX4_init_17 : decode cX4_init 17 = .ok (.iconst 5, 1) := by decide +kernel
theorem dX4_init_18 : decode cX4_init 18 = .ok (.newarray .int, 2) := by decide +kernel
theorem dX4_init_20 : decode cX4_init 20 = .ok (.putfield 16, 3) := by decide +kernel
theorem dX4_init_23 : decode cX4_init 23 = .ok (.aload_n 0, 1) := by decide +kernel
theorem dX4_init_24 : decode cX4_init 24 = .ok (.iconst 0, 1) := by decide +kernel
theorem dX4_init_25 : decode cX4_init 25 = .ok (.putfield 20, 3) := by decide +kernel
theorem dX4_init_28 : decode cX4_init 28 = .ok (.aload_n 0, 1) := by decide +kernel
theorem dX4_init_29 : decode cX4_init 29 = .ok (.iconst 0, 1) := by decide +kernel
theorem dX4_init_30 : decode cX4_init 30 = .ok (.putfield 24, 3) := by decide +kernel
theorem dX4_init_33 : decode cX4_init 33 = .ok (.aload_n 0, 1) := by decide +kernel
theorem dX4_init_34 : decode cX4_init 34 = .ok (.iconst 0, 1) := by decide +kernel
theorem dX4_init_35 : decode cX4_init 35 = .ok (.putfield 28, 3) := by decide +kernel
theorem dX4_init_38 : decode cX4_init 38 = .ok (.aload_n 0, 1) := by decide +kernel
theorem dX4_init_39 : decode cX4_init 39 = .ok (.iconst 0, 1) := by decide +kernel
theorem dX4_init_40 : decode cX4_init 40 = .ok (.putfield 31, 3) := by decide +kernel
theorem dX4_init_43 : decode cX4_init 43 = .ok (.aload_n 0, 1) := by decide +kernel
theorem dX4_init_44 : decode cX4_init 44 = .ok (.iconst 0, 1) := by decide +kernel
theorem dX4_init_45 : decode cX4_init 45 = .ok (.putfield 34, 3) := by decide +kernel
theorem dX4_init_48 : decode cX4_init 48 = .ok (.aload_n 0, 1) := by decide +kernel
theorem dX4_init_49 : decode cX4_init 49 = .ok (.iconst 0, 1) := by decide +kernel
theorem dX4_init_50 : decode cX4_init 50 = .ok (.putfield 37, 3) := by decide +kernel
theorem dX4_init_53 : decode cX4_init 53 = .ok (.return_, 1) := by decide +kernel
theorem dX4_start_0 : decode cX4_start 0 = .ok (.aload_n 1, 1) := by decide +kernel
theorem dX4_start_1 : decode cX4_start 1 = .ok (.getfield 40, 3) := by decide +kernel
theorem dX4_start_4 : decode cX4_start 4 = .ok (.aload_n 0, 1) := by decide +kernel
theorem dX4_start_5 : decode cX4_start 5 = .ok (.getfield 11, 3) := by decide +kernel
theorem dX4_start_8 : decode cX4_start 8 = .ok (.iconst 0, 1) := by decide +kernel
theorem dX4_start_9 : decode cX4_start 9 = .ok (.aaload, 1) := by decide +kernel
theorem dX4_start_10 : decode cX4_start 10 = .ok (.aload_n 1, 1) := by decide +kernel
theorem dX4_start_11 : decode cX4_start 11 = .ok (.getfield 45, 3) := by decide +kernel
theorem dX4_start_14 : decode cX4_start 14 = .ok (.invokestatic 48, 3) := by decide +kernel
theorem dX4_start_17 : decode cX4_start 17 = .ok (.return_, 1) := by decide +kernel
theorem dX4_layAs_0 : decode cX4_layAs 0 = .ok (.iconst 0, 1) := by decide +kernel
theorem dX4_layAs_1 : decode cX4_layAs 1 = .ok (.istore_n 3, 1) := by decide +kernel
theorem dX4_layAs_2 : decode cX4_layAs 2 = .ok (.iload_n 3, 1) := by decide +kernel
theorem dX4_layAs_3 : decode cX4_layAs 3 = .ok (.iload_n 2, 1) := by decide +kernel
theorem dX4_layAs_4 : decode cX4_layAs 4 = .ok (.if_icmp .ge 15, 3) := by decide +kernel
theorem dX4_layAs_7 : decode cX4_layAs 7 = .ok (.aload_n 1, 1) := by decide +kernel
theorem dX4_layAs_8 : decode cX4_layAs 8 = .ok (.iload_n 3, 1) := by decide +kernel
theorem dX4_layAs_9 : decode cX4_layAs 9 = .ok (.aload_n 0, 1) := by decide +kernel
theorem dX4_layAs_10 : decode cX4_layAs 10 = .ok (.iload_n 3, 1) := by decide +kernel
theorem dX4_layAs_11 : decode cX4_layAs 11 = .ok (.iaload, 1) := by decide +kernel
theorem dX4_layAs_12 : decode cX4_layAs 12 = .ok (.iastore, 1) := by decide +kernel
theorem dX4_layAs_13 : decode cX4_layAs 13 = .ok (.iinc 3 1, 3) := by decide +kernel
theorem dX4_layAs_16 : decode cX4_layAs 16 = .ok (.goto (-14), 3) := by decide +kernel
theorem dX4_layAs_19 : decode cX4_layAs 19 = .ok (.return_, 1) := by decide +kernel
theorem dX4_passOnce_0 : decode cX4_passOnce 0 = .ok (.aload_n 1, 1) := by decide +kernel
theorem dX4_passOnce_1 : decode cX4_passOnce 1 = .ok (.aload_n 1, 1) := by decide +kernel
theorem dX4_passOnce_2 : decode cX4_passOnce 2 = .ok (.getfield 40, 3) := by decide +kernel
theorem dX4_passOnce_5 : decode cX4_passOnce 5 = .ok (.aload_n 0, 1) := by decide +kernel
theorem dX4_passOnce_6 : decode cX4_passOnce 6 = .ok (.getfield 11, 3) := by decide +kernel
theorem dX4_passOnce_9 : decode cX4_passOnce 9 = .ok (.iconst 0, 1) := by decide +kernel
theorem dX4_passOnce_10 : decode cX4_passOnce 10 = .ok (.aaload, 1) := by decide +kernel
theorem dX4_passOnce_11 : decode cX4_passOnce 11 = .ok (.iload_n 2, 1) := by decide +kernel
theorem dX4_passOnce_12 : decode cX4_passOnce 12 = .ok (.aload_n 1, 1) := by decide +kernel
theorem dX4_passOnce_13 : decode cX4_passOnce 13 = .ok (.getfield 52, 3) := by decide +kernel
theorem dX4_passOnce_16 : decode cX4_passOnce 16 = .ok (.iload_n 3, 1) := by decide +kernel
theorem dX4_passOnce_17 : decode cX4_passOnce 17 = .ok (.invokevirtual 55, 3) := by decide +kernel
theorem dX4_passOnce_20 : decode cX4_passOnce 20 = .ok (.aload_n 0, 1) := by decide +kernel
theorem dX4_passOnce_21 : decode cX4_passOnce 21 = .ok (.getfield 11, 3) := by decide +kernel
theorem dX4_passOnce_24 : decode cX4_passOnce 24 = .ok (.iconst 0, 1) := by decide +kernel
theorem dX4_passOnce_25 : decode cX4_passOnce 25 = .ok (.aaload, 1) := by decide +kernel
theorem dX4_passOnce_26 : decode cX4_passOnce 26 = .ok (.areturn, 1) := by decide +kernel
theorem dX4_passAll_0 : decode cX4_passAll 0 = .ok (.aload_n 0, 1) := by decide +kernel
theorem dX4_passAll_1 : decode cX4_passAll 1 = .ok (.aload_n 1, 1) := by decide +kernel
theorem dX4_passAll_2 : decode cX4_passAll 2 = .ok (.invokevirtual 59, 3) := by decide +kernel
theorem dX4_passAll_5 : decode cX4_passAll 5 = .ok (.aload_n 1, 1) := by decide +kernel
theorem dX4_passAll_6 : decode cX4_passAll 6 = .ok (.getfield 52, 3) := by decide +kernel
theorem dX4_passAll_9 : decode cX4_passAll 9 = .ok (.istore 4, 2) := by decide +kernel
theorem dX4_passAll_11 : decode cX4_passAll 11 = .ok (.iconst 0, 1) := by decide +kernel
theorem dX4_passAll_12 : decode cX4_passAll 12 = .ok (.istore 5, 2) := by decide +kernel
theorem dX4_passAll_14 : decode cX4_passAll 14 = .ok (.iload 5, 2) := by decide +kernel
theorem dX4_passAll_16 : decode cX4_passAll 16 = .ok (.aload_n 2, 1) := by decide +kernel
theorem dX4_passAll_17 : decode cX4_passAll 17 = .ok (.iload_n 3, 1) := by decide +kernel
theorem dX4_passAll_18 : decode cX4_passAll 18 = .ok (.invokevirtual 63, 3) := by decide +kernel
theorem dX4_passAll_21 : decode cX4_passAll 21 = .ok (.if_icmp .ge 42, 3) := by decide +kernel
theorem dX4_passAll_24 : decode cX4_passAll 24 = .ok (.aload_n 1, 1) := by decide +kernel
theorem dX4_passAll_25 : decode cX4_passAll 25 = .ok (.aload_n 0, 1) := by decide +kernel
theorem dX4_passAll_26 : decode cX4_passAll 26 = .ok (.getfield 11, 3) := by decide +kernel
theorem dX4_passAll_29 : decode cX4_passAll 29 = .ok (.iconst 0, 1) := by decide +kernel
theorem dX4_passAll_30 : decode cX4_passAll 30 = .ok (.aaload, 1) := by decide +kernel
theorem dX4_passAll_31 : decode cX4_passAll 31 = .ok (.aload_n 0, 1) := by decide +kernel
theorem dX4_passAll_32 : decode cX4_passAll 32 = .ok (.getfield 11, 3) := by decide +kernel
theorem dX4_passAll_35 : decode cX4_passAll 35 = .ok (.iconst 0, 1) := by decide +kernel
theorem dX4_passAll_36 : decode cX4_passAll 36 = .ok (.aaload, 1) := by decide +kernel
theorem dX4_passAll_37 : decode cX4_passAll 37 = .ok (.aload_n 2, 1) := by decide +kernel
theorem dX4_passAll_38 : decode cX4_passAll 38 = .ok (.iload_n 3, 1) := by decide +kernel
theorem dX4_passAll_39 : decode cX4_passAll 39 = .ok (.iload 5, 2) := by decide +kernel
theorem dX4_passAll_41 : decode cX4_passAll 41 = .ok (.invokevirtual 69, 3) := by decide +kernel
theorem dX4_passAll_44 : decode cX4_passAll 44 = .ok (.iload 4, 2) := by decide +kernel
theorem dX4_passAll_46 : decode cX4_passAll 46 = .ok (.iconst 0, 1) := by decide +kernel
theorem dX4_passAll_47 : decode cX4_passAll 47 = .ok (.invokevirtual 55, 3) := by decide +kernel
theorem dX4_passAll_50 : decode cX4_passAll 50 = .ok (.iload 4, 2) := by decide +kernel
theorem dX4_passAll_52 : decode cX4_passAll 52 = .ok (.invokestatic 73, 3) := by decide +kernel
theorem dX4_passAll_55 : decode cX4_passAll 55 = .ok (.istore 4, 2) := by decide +kernel
theorem dX4_passAll_57 : decode cX4_passAll 57 = .ok (.iinc 5 1, 3) := by decide +kernel
theorem dX4_passAll_60 : decode cX4_passAll 60 = .ok (.goto (-46), 3) := by decide +kernel
theorem dX4_passAll_63 : decode cX4_passAll 63 = .ok (.aload_n 0, 1) := by decide +kernel
theorem dX4_passAll_64 : decode cX4_passAll 64 = .ok (.getfield 11, 3) := by decide +kernel
theorem dX4_passAll_67 : decode cX4_passAll 67 = .ok (.iconst 0, 1) := by decide +kernel
theorem dX4_passAll_68 : decode cX4_passAll 68 = .ok (.aaload, 1) := by decide +kernel
theorem dX4_passAll_69 : decode cX4_passAll 69 = .ok (.areturn, 1) := by decide +kernel
theorem dX4_wantPlace_0 : decode cX4_wantPlace 0 = .ok (.aload_n 0, 1) := by decide +kernel
theorem dX4_wantPlace_1 : decode cX4_wantPlace 1 = .ok (.iconst 1, 1) := by decide +kernel
theorem dX4_wantPlace_2 : decode cX4_wantPlace 2 = .ok (.putfield 20, 3) := by decide +kernel
theorem dX4_wantPlace_5 : decode cX4_wantPlace 5 = .ok (.aload_n 0, 1) := by decide +kernel
theorem dX4_wantPlace_6 : decode cX4_wantPlace 6 = .ok (.iload_n 1, 1) := by decide +kernel
theorem dX4_wantPlace_7 : decode cX4_wantPlace 7 = .ok (.putfield 24, 3) := by decide +kernel
theorem dX4_wantPlace_10 : decode cX4_wantPlace 10 = .ok (.aload_n 0, 1) := by decide +kernel
theorem dX4_wantPlace_11 : decode cX4_wantPlace 11 = .ok (.iload_n 2, 1) := by decide +kernel
theorem dX4_wantPlace_12 : decode cX4_wantPlace 12 = .ok (.putfield 28, 3) := by decide +kernel
theorem dX4_wantPlace_15 : decode cX4_wantPlace 15 = .ok (.return_, 1) := by decide +kernel
theorem dX4_wantOrder_0 : decode cX4_wantOrder 0 = .ok (.aload_n 0, 1) := by decide +kernel
theorem dX4_wantOrder_1 : decode cX4_wantOrder 1 = .ok (.iconst 0, 1) := by decide +kernel
theorem dX4_wantOrder_2 : decode cX4_wantOrder 2 = .ok (.putfield 20, 3) := by decide +kernel
theorem dX4_wantOrder_5 : decode cX4_wantOrder 5 = .ok (.aload_n 0, 1) := by decide +kernel
theorem dX4_wantOrder_6 : decode cX4_wantOrder 6 = .ok (.iload_n 1, 1) := by decide +kernel
theorem dX4_wantOrder_7 : decode cX4_wantOrder 7 = .ok (.putfield 31, 3) := by decide +kernel
theorem dX4_wantOrder_10 : decode cX4_wantOrder 10 = .ok (.return_, 1) := by decide +kernel
theorem dX4_seek_0 : decode cX4_seek 0 = .ok (.aload_n 0, 1) := by decide +kernel
theorem dX4_seek_1 : decode cX4_seek 1 = .ok (.aload_n 1, 1) := by decide +kernel
theorem dX4_seek_2 : decode cX4_seek 2 = .ok (.invokevirtual 59, 3) := by decide +kernel
theorem dX4_seek_5 : decode cX4_seek 5 = .ok (.iconst 0, 1) := by decide +kernel
theorem dX4_seek_6 : decode cX4_seek 6 = .ok (.istore_n 2, 1) := by decide +kernel
theorem dX4_seek_7 : decode cX4_seek 7 = .ok (.iload_n 2, 1) := by decide +kernel
theorem dX4_seek_8 : decode cX4_seek 8 = .ok (.iconst 5, 1) := by decide +kernel
theorem dX4_seek_9 : decode cX4_seek 9 = .ok (.if_icmp .gt 25, 3) := by decide +kernel
theorem dX4_seek_12 : decode cX4_seek 12 = .ok (.aload_n 0, 1) := by decide +kernel
theorem dX4_seek_13 : decode cX4_seek 13 = .ok (.aload_n 1, 1) := by decide +kernel
theorem dX4_seek_14 : decode cX4_seek 14 = .ok (.iconst 0, 1) := by decide +kernel
theorem dX4_seek_15 : decode cX4_seek 15 = .ok (.iload_n 2, 1) := by decide +kernel
theorem dX4_seek_16 : decode cX4_seek 16 = .ok (.aload_n 1, 1) := by decide +kernel
theorem dX4_seek_17 : decode cX4_seek 17 = .ok (.getfield 52, 3) := by decide +kernel
theorem dX4_seek_20 : decode cX4_seek 20 = .ok (.invokevirtual 76, 3) := by decide +kernel
theorem dX4_seek_23 : decode cX4_seek 23 = .ok (.ifCond .eq 5, 3) := by decide +kernel
theorem dX4_seek_26 : decode cX4_seek 26 = .ok (.iload_n 2, 1) := by decide +kernel
theorem dX4_seek_27 : decode cX4_seek 27 = .ok (.ireturn, 1) := by decide +kernel
theorem dX4_seek_28 : decode cX4_seek 28 = .ok (.iinc 2 1, 3) := by decide +kernel
theorem dX4_seek_31 : decode cX4_seek 31 = .ok (.goto (-24), 3) := by decide +kernel
theorem dX4_seek_34 : decode cX4_seek 34 = .ok (.bipush (-9), 2) := by decide +kernel
theorem dX4_seek_36 : decode cX4_seek 36 = .ok (.ireturn, 1) := by decide +kernel
theorem dX4_reaches_0 : decode cX4_reaches 0 = .ok (.iload_n 2, 1) := by decide +kernel
theorem dX4_reaches_1 : decode cX4_reaches 1 = .ok (.iload_n 3, 1) := by decide +kernel
theorem dX4_reaches_2 : decode cX4_reaches 2 = .ok (.if_icmp .ge 8, 3) := by decide +kernel
theorem dX4_reaches_5 : decode cX4_reaches 5 = .ok (.iload_n 2, 1) := by decide +kernel
theorem dX4_reaches_6 : decode cX4_reaches 6 = .ok (.iconst 5, 1) := by decide +kernel
theorem dX4_reaches_7 : decode cX4_reaches 7 = .ok (.if_icmp .lt 50, 3) := by decide +kernel
theorem dX4_reaches_10 : decode cX4_reaches 10 = .ok (.aload_n 0, 1) := by decide +kernel
theorem dX4_reaches_11 : decode cX4_reaches 11 = .ok (.getfield 20, 3) := by decide +kernel
theorem dX4_reaches_14 : decode cX4_reaches 14 = .ok (.ifCond .eq 29, 3) := by decide +kernel
theorem dX4_reaches_17 : decode cX4_reaches 17 = .ok (.aload_n 0, 1) := by decide +kernel
theorem dX4_reaches_18 : decode cX4_reaches 18 = .ok (.getfield 11, 3) := by decide +kernel
theorem dX4_reaches_21 : decode cX4_reaches 21 = .ok (.iload_n 2, 1) := by decide +kernel
theorem dX4_reaches_22 : decode cX4_reaches 22 = .ok (.aaload, 1) := by decide +kernel
theorem dX4_reaches_23 : decode cX4_reaches 23 = .ok (.aload_n 0, 1) := by decide +kernel
theorem dX4_reaches_24 : decode cX4_reaches 24 = .ok (.getfield 28, 3) := by decide +kernel
theorem dX4_reaches_27 : decode cX4_reaches 27 = .ok (.iaload, 1) := by decide +kernel
theorem dX4_reaches_28 : decode cX4_reaches 28 = .ok (.aload_n 0, 1) := by decide +kernel
theorem dX4_reaches_29 : decode cX4_reaches 29 = .ok (.getfield 24, 3) := by decide +kernel
theorem dX4_reaches_32 : decode cX4_reaches 32 = .ok (.if_icmp .ne 7, 3) := by decide +kernel
theorem dX4_reaches_35 : decode cX4_reaches 35 = .ok (.iconst 1, 1) := by decide +kernel
theorem dX4_reaches_36 : decode cX4_reaches 36 = .ok (.goto 20, 3) := by decide +kernel
theorem dX4_reaches_39 : decode cX4_reaches 39 = .ok (.iconst 0, 1) := by decide +kernel
theorem dX4_reaches_40 : decode cX4_reaches 40 = .ok (.goto 16, 3) := by decide +kernel
theorem dX4_reaches_43 : decode cX4_reaches 43 = .ok (.aload_n 0, 1) := by decide +kernel
theorem dX4_reaches_44 : decode cX4_reaches 44 = .ok (.aload_n 1, 1) := by decide +kernel
theorem dX4_reaches_45 : decode cX4_reaches 45 = .ok (.aload_n 0, 1) := by decide +kernel
theorem dX4_reaches_46 : decode cX4_reaches 46 = .ok (.getfield 11, 3) := by decide +kernel
theorem dX4_reaches_49 : decode cX4_reaches 49 = .ok (.iload_n 2, 1) := by decide +kernel
theorem dX4_reaches_50 : decode cX4_reaches 50 = .ok (.aaload, 1) := by decide +kernel
theorem dX4_reaches_51 : decode cX4_reaches 51 = .ok (.iload 4, 2) := by decide +kernel
theorem dX4_reaches_53 : decode cX4_reaches 53 = .ok (.invokevirtual 80, 3) := by decide +kernel
theorem dX4_reaches_56 : decode cX4_reaches 56 = .ok (.ireturn, 1) := by decide +kernel
theorem dX4_reaches_57 : decode cX4_reaches 57 = .ok (.iconst 0, 1) := by decide +kernel
theorem dX4_reaches_58 : decode cX4_reaches 58 = .ok (.istore 5, 2) := by decide +kernel
theorem dX4_reaches_60 : decode cX4_reaches 60 = .ok (.iload 5, 2) := by decide +kernel
theorem dX4_reaches_62 : decode cX4_reaches 62 = .ok (.iconst 3, 1) := by decide +kernel
theorem dX4_reaches_63 : decode cX4_reaches 63 = .ok (.if_icmp .ge 59, 3) := by decide +kernel
theorem dX4_reaches_66 : decode cX4_reaches 66 = .ok (.aload_n 0, 1) := by decide +kernel
theorem dX4_reaches_67 : decode cX4_reaches 67 = .ok (.getfield 16, 3) := by decide +kernel
theorem dX4_reaches_70 : decode cX4_reaches 70 = .ok (.iload_n 2, 1) := by decide +kernel
theorem dX4_reaches_71 : decode cX4_reaches 71 = .ok (.iload 5, 2) := by decide +kernel
theorem dX4_reaches_73 : decode cX4_reaches 73 = .ok (.iastore, 1) := by decide +kernel
theorem dX4_reaches_74 : decode cX4_reaches 74 = .ok (.aload_n 1, 1) := by decide +kernel
theorem dX4_reaches_75 : decode cX4_reaches 75 = .ok (.aload_n 0, 1) := by decide +kernel
theorem dX4_reaches_76 : decode cX4_reaches 76 = .ok (.getfield 11, 3) := by decide +kernel
theorem dX4_reaches_79 : decode cX4_reaches 79 = .ok (.iload_n 2, 1) := by decide +kernel
theorem dX4_reaches_80 : decode cX4_reaches 80 = .ok (.aaload, 1) := by decide +kernel
theorem dX4_reaches_81 : decode cX4_reaches 81 = .ok (.aload_n 0, 1) := by decide +kernel
theorem dX4_reaches_82 : decode cX4_reaches 82 = .ok (.getfield 11, 3) := by decide +kernel
theorem dX4_reaches_85 : decode cX4_reaches 85 = .ok (.iload_n 2, 1) := by decide +kernel
theorem dX4_reaches_86 : decode cX4_reaches 86 = .ok (.iconst 1, 1) := by decide +kernel
theorem dX4_reaches_87 : decode cX4_reaches 87 = .ok (.iadd, 1) := by decide +kernel
theorem dX4_reaches_88 : decode cX4_reaches 88 = .ok (.aaload, 1) := by decide +kernel
theorem dX4_reaches_89 : decode cX4_reaches 89 = .ok (.iload 5, 2) := by decide +kernel
theorem dX4_reaches_91 : decode cX4_reaches 91 = .ok (.iload 4, 2) := by decide +kernel
theorem dX4_reaches_93 : decode cX4_reaches 93 = .ok (.iconst 0, 1) := by decide +kernel
theorem dX4_reaches_94 : decode cX4_reaches 94 = .ok (.invokevirtual 55, 3) := by decide +kernel
theorem dX4_reaches_97 : decode cX4_reaches 97 = .ok (.aload_n 0, 1) := by decide +kernel
theorem dX4_reaches_98 : decode cX4_reaches 98 = .ok (.aload_n 1, 1) := by decide +kernel
theorem dX4_reaches_99 : decode cX4_reaches 99 = .ok (.iload_n 2, 1) := by decide +kernel
theorem dX4_reaches_100 : decode cX4_reaches 100 = .ok (.iconst 1, 1) := by decide +kernel
theorem dX4_reaches_101 : decode cX4_reaches 101 = .ok (.iadd, 1) := by decide +kernel
theorem dX4_reaches_102 : decode cX4_reaches 102 = .ok (.iload_n 3, 1) := by decide +kernel
theorem dX4_reaches_103 : decode cX4_reaches 103 = .ok (.iload 4, 2) := by decide +kernel
theorem dX4_reaches_105 : decode cX4_reaches 105 = .ok (.invokestatic 73, 3) := by decide +kernel
theorem dX4_reaches_108 : decode cX4_reaches 108 = .ok (.invokevirtual 76, 3) := by decide +kernel
theorem dX4_reaches_111 : decode cX4_reaches 111 = .ok (.ifCond .eq 5, 3) := by decide +kernel
theorem dX4_reaches_114 : decode cX4_reaches 114 = .ok (.iconst 1, 1) := by decide +kernel
theorem dX4_reaches_115 : decode cX4_reaches 115 = .ok (.ireturn, 1) := by decide +kernel
theorem dX4_reaches_116 : decode cX4_reaches 116 = .ok (.iinc 5 1, 3) := by decide +kernel
theorem dX4_reaches_119 : decode cX4_reaches 119 = .ok (.goto (-59), 3) := by decide +kernel
theorem dX4_reaches_122 : decode cX4_reaches 122 = .ok (.iconst 0, 1) := by decide +kernel
theorem dX4_reaches_123 : decode cX4_reaches 123 = .ok (.ireturn, 1) := by decide +kernel
theorem dX4_inOrder_0 : decode cX4_inOrder 0 = .ok (.iconst 0, 1) := by decide +kernel
theorem dX4_inOrder_1 : decode cX4_inOrder 1 = .ok (.istore 4, 2) := by decide +kernel
theorem dX4_inOrder_3 : decode cX4_inOrder 3 = .ok (.iconst 0, 1) := by decide +kernel
theorem dX4_inOrder_4 : decode cX4_inOrder 4 = .ok (.istore 5, 2) := by decide +kernel
theorem dX4_inOrder_6 : decode cX4_inOrder 6 = .ok (.iload 5, 2) := by decide +kernel
theorem dX4_inOrder_8 : decode cX4_inOrder 8 = .ok (.aload_n 1, 1) := by decide +kernel
theorem dX4_inOrder_9 : decode cX4_inOrder 9 = .ok (.getfield 45, 3) := by decide +kernel
theorem dX4_inOrder_12 : decode cX4_inOrder 12 = .ok (.if_icmp .ge 37, 3) := by decide +kernel
theorem dX4_inOrder_15 : decode cX4_inOrder 15 = .ok (.aload_n 1, 1) := by decide +kernel
theorem dX4_inOrder_16 : decode cX4_inOrder 16 = .ok (.aload_n 2, 1) := by decide +kernel
theorem dX4_inOrder_17 : decode cX4_inOrder 17 = .ok (.iload 5, 2) := by decide +kernel
theorem dX4_inOrder_19 : decode cX4_inOrder 19 = .ok (.iaload, 1) := by decide +kernel
theorem dX4_inOrder_20 : decode cX4_inOrder 20 = .ok (.aload_n 0, 1) := by decide +kernel
theorem dX4_inOrder_21 : decode cX4_inOrder 21 = .ok (.getfield 31, 3) := by decide +kernel
theorem dX4_inOrder_24 : decode cX4_inOrder 24 = .ok (.iload_n 3, 1) := by decide +kernel
theorem dX4_inOrder_25 : decode cX4_inOrder 25 = .ok (.invokevirtual 84, 3) := by decide +kernel
theorem dX4_inOrder_28 : decode cX4_inOrder 28 = .ok (.istore 6, 2) := by decide +kernel
theorem dX4_inOrder_30 : decode cX4_inOrder 30 = .ok (.iload 6, 2) := by decide +kernel
theorem dX4_inOrder_32 : decode cX4_inOrder 32 = .ok (.iload 4, 2) := by decide +kernel
theorem dX4_inOrder_34 : decode cX4_inOrder 34 = .ok (.if_icmp .ge 5, 3) := by decide +kernel
theorem dX4_inOrder_37 : decode cX4_inOrder 37 = .ok (.iconst 0, 1) := by decide +kernel
theorem dX4_inOrder_38 : decode cX4_inOrder 38 = .ok (.ireturn, 1) := by decide +kernel
theorem dX4_inOrder_39 : decode cX4_inOrder 39 = .ok (.iload 6, 2) := by decide +kernel
theorem dX4_inOrder_41 : decode cX4_inOrder 41 = .ok (.istore 4, 2) := by decide +kernel
theorem dX4_inOrder_43 : decode cX4_inOrder 43 = .ok (.iinc 5 1, 3) := by decide +kernel
theorem dX4_inOrder_46 : decode cX4_inOrder 46 = .ok (.goto (-40), 3) := by decide +kernel
theorem dX4_inOrder_49 : decode cX4_inOrder 49 = .ok (.iconst 1, 1) := by decide +kernel
theorem dX4_inOrder_50 : decode cX4_inOrder 50 = .ok (.ireturn, 1) := by decide +kernel
theorem dX4_duelOf_0 : decode cX4_duelOf 0 = .ok (.aload_n 0, 1) := by decide +kernel
theorem dX4_duelOf_1 : decode cX4_duelOf 1 = .ok (.aload_n 1, 1) := by decide +kernel
theorem dX4_duelOf_2 : decode cX4_duelOf 2 = .ok (.invokevirtual 59, 3) := by decide +kernel
theorem dX4_duelOf_5 : decode cX4_duelOf 5 = .ok (.aload_n 0, 1) := by decide +kernel
theorem dX4_duelOf_6 : decode cX4_duelOf 6 = .ok (.iload_n 2, 1) := by decide +kernel
theorem dX4_duelOf_7 : decode cX4_duelOf 7 = .ok (.putfield 24, 3) := by decide +kernel
theorem dX4_duelOf_10 : decode cX4_duelOf 10 = .ok (.aload_n 0, 1) := by decide +kernel
theorem dX4_duelOf_11 : decode cX4_duelOf 11 = .ok (.iload_n 3, 1) := by decide +kernel
theorem dX4_duelOf_12 : decode cX4_duelOf 12 = .ok (.putfield 34, 3) := by decide +kernel
theorem dX4_duelOf_15 : decode cX4_duelOf 15 = .ok (.aload_n 0, 1) := by decide +kernel
theorem dX4_duelOf_16 : decode cX4_duelOf 16 = .ok (.iconst 2, 1) := by decide +kernel
theorem dX4_duelOf_17 : decode cX4_duelOf 17 = .ok (.iload 4, 2) := by decide +kernel
theorem dX4_duelOf_19 : decode cX4_duelOf 19 = .ok (.imul, 1) := by decide +kernel
theorem dX4_duelOf_20 : decode cX4_duelOf 20 = .ok (.putfield 37, 3) := by decide +kernel
theorem dX4_duelOf_23 : decode cX4_duelOf 23 = .ok (.aload_n 0, 1) := by decide +kernel
theorem dX4_duelOf_24 : decode cX4_duelOf 24 = .ok (.aload_n 1, 1) := by decide +kernel
theorem dX4_duelOf_25 : decode cX4_duelOf 25 = .ok (.iconst 0, 1) := by decide +kernel
theorem dX4_duelOf_26 : decode cX4_duelOf 26 = .ok (.aload_n 1, 1) := by decide +kernel
theorem dX4_duelOf_27 : decode cX4_duelOf 27 = .ok (.getfield 52, 3) := by decide +kernel
theorem dX4_duelOf_30 : decode cX4_duelOf 30 = .ok (.bipush (-6), 2) := by decide +kernel
theorem dX4_duelOf_32 : decode cX4_duelOf 32 = .ok (.bipush 6, 2) := by decide +kernel
theorem dX4_duelOf_34 : decode cX4_duelOf 34 = .ok (.invokevirtual 88, 3) := by decide +kernel
theorem dX4_duelOf_37 : decode cX4_duelOf 37 = .ok (.ireturn, 1) := by decide +kernel
theorem dX4_outcome_0 : decode cX4_outcome 0 = .ok (.iload_n 2, 1) := by decide +kernel
theorem dX4_outcome_1 : decode cX4_outcome 1 = .ok (.aload_n 0, 1) := by decide +kernel
theorem dX4_outcome_2 : decode cX4_outcome 2 = .ok (.getfield 37, 3) := by decide +kernel
theorem dX4_outcome_5 : decode cX4_outcome 5 = .ok (.if_icmp .ge 9, 3) := by decide +kernel
theorem dX4_outcome_8 : decode cX4_outcome 8 = .ok (.iload_n 2, 1) := by decide +kernel
theorem dX4_outcome_9 : decode cX4_outcome 9 = .ok (.bipush 6, 2) := by decide +kernel
theorem dX4_outcome_11 : decode cX4_outcome 11 = .ok (.if_icmp .lt 39, 3) := by decide +kernel
theorem dX4_outcome_14 : decode cX4_outcome 14 = .ok (.aload_n 0, 1) := by decide +kernel
theorem dX4_outcome_15 : decode cX4_outcome 15 = .ok (.getfield 11, 3) := by decide +kernel
theorem dX4_outcome_18 : decode cX4_outcome 18 = .ok (.iload_n 2, 1) := by decide +kernel
theorem dX4_outcome_19 : decode cX4_outcome 19 = .ok (.aaload, 1) := by decide +kernel
theorem dX4_outcome_20 : decode cX4_outcome 20 = .ok (.aload_n 0, 1) := by decide +kernel
theorem dX4_outcome_21 : decode cX4_outcome 21 = .ok (.getfield 34, 3) := by decide +kernel
theorem dX4_outcome_24 : decode cX4_outcome 24 = .ok (.aload_n 1, 1) := by decide +kernel
theorem dX4_outcome_25 : decode cX4_outcome 25 = .ok (.getfield 45, 3) := by decide +kernel
theorem dX4_outcome_28 : decode cX4_outcome 28 = .ok (.invokestatic 92, 3) := by decide +kernel
theorem dX4_outcome_31 : decode cX4_outcome 31 = .ok (.aload_n 0, 1) := by decide +kernel
theorem dX4_outcome_32 : decode cX4_outcome 32 = .ok (.getfield 11, 3) := by decide +kernel
theorem dX4_outcome_35 : decode cX4_outcome 35 = .ok (.iload_n 2, 1) := by decide +kernel
theorem dX4_outcome_36 : decode cX4_outcome 36 = .ok (.aaload, 1) := by decide +kernel
theorem dX4_outcome_37 : decode cX4_outcome 37 = .ok (.aload_n 0, 1) := by decide +kernel
theorem dX4_outcome_38 : decode cX4_outcome 38 = .ok (.getfield 24, 3) := by decide +kernel
theorem dX4_outcome_41 : decode cX4_outcome 41 = .ok (.aload_n 1, 1) := by decide +kernel
theorem dX4_outcome_42 : decode cX4_outcome 42 = .ok (.getfield 45, 3) := by decide +kernel
theorem dX4_outcome_45 : decode cX4_outcome 45 = .ok (.invokestatic 92, 3) := by decide +kernel
theorem dX4_outcome_48 : decode cX4_outcome 48 = .ok (.isub, 1) := by decide +kernel
theorem dX4_outcome_49 : decode cX4_outcome 49 = .ok (.ireturn, 1) := by decide +kernel
theorem dX4_outcome_50 : decode cX4_outcome 50 = .ok (.iload_n 2, 1) := by decide +kernel
theorem dX4_outcome_51 : decode cX4_outcome 51 = .ok (.iconst 2, 1) := by decide +kernel
theorem dX4_outcome_52 : decode cX4_outcome 52 = .ok (.irem, 1) := by decide +kernel
theorem dX4_outcome_53 : decode cX4_outcome 53 = .ok (.ifCond .ne 7, 3) := by decide +kernel
theorem dX4_outcome_56 : decode cX4_outcome 56 = .ok (.iconst 1, 1) := by decide +kernel
theorem dX4_outcome_57 : decode cX4_outcome 57 = .ok (.goto 4, 3) := by decide +kernel
theorem dX4_outcome_60 : decode cX4_outcome 60 = .ok (.iconst 0, 1) := by decide +kernel
theorem dX4_outcome_61 : decode cX4_outcome 61 = .ok (.istore 6, 2) := by decide +kernel
theorem dX4_outcome_63 : decode cX4_outcome 63 = .ok (.iconst 0, 1) := by decide +kernel
theorem dX4_outcome_64 : decode cX4_outcome 64 = .ok (.istore 7, 2) := by decide +kernel
theorem dX4_outcome_66 : decode cX4_outcome 66 = .ok (.iload 7, 2) := by decide +kernel
theorem dX4_outcome_68 : decode cX4_outcome 68 = .ok (.iconst 3, 1) := by decide +kernel
theorem dX4_outcome_69 : decode cX4_outcome 69 = .ok (.if_icmp .gt 69, 3) := by decide +kernel
theorem dX4_outcome_72 : decode cX4_outcome 72 = .ok (.iload 4, 2) := by decide +kernel
theorem dX4_outcome_74 : decode cX4_outcome 74 = .ok (.iload 5, 2) := by decide +kernel
theorem dX4_outcome_76 : decode cX4_outcome 76 = .ok (.if_icmp .ge 62, 3) := by decide +kernel
theorem dX4_outcome_79 : decode cX4_outcome 79 = .ok (.aload_n 0, 1) := by decide +kernel
theorem dX4_outcome_80 : decode cX4_outcome 80 = .ok (.aload_n 1, 1) := by decide +kernel
theorem dX4_outcome_81 : decode cX4_outcome 81 = .ok (.iload_n 2, 1) := by decide +kernel
theorem dX4_outcome_82 : decode cX4_outcome 82 = .ok (.iload 7, 2) := by decide +kernel
theorem dX4_outcome_84 : decode cX4_outcome 84 = .ok (.iload_n 3, 1) := by decide +kernel
theorem dX4_outcome_85 : decode cX4_outcome 85 = .ok (.invokevirtual 96, 3) := by decide +kernel
theorem dX4_outcome_88 : decode cX4_outcome 88 = .ok (.istore 8, 2) := by decide +kernel
theorem dX4_outcome_90 : decode cX4_outcome 90 = .ok (.aload_n 0, 1) := by decide +kernel
theorem dX4_outcome_91 : decode cX4_outcome 91 = .ok (.aload_n 1, 1) := by decide +kernel
theorem dX4_outcome_92 : decode cX4_outcome 92 = .ok (.iload_n 2, 1) := by decide +kernel
theorem dX4_outcome_93 : decode cX4_outcome 93 = .ok (.iconst 1, 1) := by decide +kernel
theorem dX4_outcome_94 : decode cX4_outcome 94 = .ok (.iadd, 1) := by decide +kernel
theorem dX4_outcome_95 : decode cX4_outcome 95 = .ok (.iload 8, 2) := by decide +kernel
theorem dX4_outcome_97 : decode cX4_outcome 97 = .ok (.iload 4, 2) := by decide +kernel
theorem dX4_outcome_99 : decode cX4_outcome 99 = .ok (.iload 5, 2) := by decide +kernel
theorem dX4_outcome_101 : decode cX4_outcome 101 = .ok (.invokevirtual 88, 3) := by decide +kernel
theorem dX4_outcome_104 : decode cX4_outcome 104 = .ok (.istore 9, 2) := by decide +kernel
theorem dX4_outcome_106 : decode cX4_outcome 106 = .ok (.iload 6, 2) := by decide +kernel
theorem dX4_outcome_108 : decode cX4_outcome 108 = .ok (.ifCond .eq 15, 3) := by decide +kernel
theorem dX4_outcome_111 : decode cX4_outcome 111 = .ok (.iload 4, 2) := by decide +kernel
theorem dX4_outcome_113 : decode cX4_outcome 113 = .ok (.iload 9, 2) := by decide +kernel
theorem dX4_outcome_115 : decode cX4_outcome 115 = .ok (.invokestatic 100, 3) := by decide +kernel
theorem dX4_outcome_118 : decode cX4_outcome 118 = .ok (.istore 4, 2) := by decide +kernel
theorem dX4_outcome_120 : decode cX4_outcome 120 = .ok (.goto 12, 3) := by decide +kernel
theorem dX4_outcome_123 : decode cX4_outcome 123 = .ok (.iload 5, 2) := by decide +kernel
theorem dX4_outcome_125 : decode cX4_outcome 125 = .ok (.iload 9, 2) := by decide +kernel
theorem dX4_outcome_127 : decode cX4_outcome 127 = .ok (.invokestatic 105, 3) := by decide +kernel
theorem dX4_outcome_130 : decode cX4_outcome 130 = .ok (.istore 5, 2) := by decide +kernel
theorem dX4_outcome_132 : decode cX4_outcome 132 = .ok (.iinc 7 1, 3) := by decide +kernel
theorem dX4_outcome_135 : decode cX4_outcome 135 = .ok (.goto (-69), 3) := by decide +kernel
theorem dX4_outcome_138 : decode cX4_outcome 138 = .ok (.iload 6, 2) := by decide +kernel
theorem dX4_outcome_140 : decode cX4_outcome 140 = .ok (.ifCond .eq 8, 3) := by decide +kernel
theorem dX4_outcome_143 : decode cX4_outcome 143 = .ok (.iload 4, 2) := by decide +kernel
theorem dX4_outcome_145 : decode cX4_outcome 145 = .ok (.goto 5, 3) := by decide +kernel
theorem dX4_outcome_148 : decode cX4_outcome 148 = .ok (.iload 5, 2) := by decide +kernel
theorem dX4_outcome_150 : decode cX4_outcome 150 = .ok (.ireturn, 1) := by decide +kernel
theorem dX4_step_0 : decode cX4_step 0 = .ok (.iload_n 3, 1) := by decide +kernel
theorem dX4_step_1 : decode cX4_step 1 = .ok (.iconst 3, 1) := by decide +kernel
theorem dX4_step_2 : decode cX4_step 2 = .ok (.if_icmp .lt 27, 3) := by decide +kernel
theorem dX4_step_5 : decode cX4_step 5 = .ok (.aload_n 0, 1) := by decide +kernel
theorem dX4_step_6 : decode cX4_step 6 = .ok (.getfield 11, 3) := by decide +kernel
theorem dX4_step_9 : decode cX4_step 9 = .ok (.iload_n 2, 1) := by decide +kernel
theorem dX4_step_10 : decode cX4_step 10 = .ok (.aaload, 1) := by decide +kernel
theorem dX4_step_11 : decode cX4_step 11 = .ok (.aload_n 0, 1) := by decide +kernel
theorem dX4_step_12 : decode cX4_step 12 = .ok (.getfield 11, 3) := by decide +kernel
theorem dX4_step_15 : decode cX4_step 15 = .ok (.iload_n 2, 1) := by decide +kernel
theorem dX4_step_16 : decode cX4_step 16 = .ok (.iconst 1, 1) := by decide +kernel
theorem dX4_step_17 : decode cX4_step 17 = .ok (.iadd, 1) := by decide +kernel
theorem dX4_step_18 : decode cX4_step 18 = .ok (.aaload, 1) := by decide +kernel
theorem dX4_step_19 : decode cX4_step 19 = .ok (.aload_n 1, 1) := by decide +kernel
theorem dX4_step_20 : decode cX4_step 20 = .ok (.getfield 45, 3) := by decide +kernel
theorem dX4_step_23 : decode cX4_step 23 = .ok (.invokestatic 48, 3) := by decide +kernel
theorem dX4_step_26 : decode cX4_step 26 = .ok (.iload 4, 2) := by decide +kernel
theorem dX4_step_28 : decode cX4_step 28 = .ok (.ireturn, 1) := by decide +kernel
theorem dX4_step_29 : decode cX4_step 29 = .ok (.aload_n 1, 1) := by decide +kernel
theorem dX4_step_30 : decode cX4_step 30 = .ok (.aload_n 0, 1) := by decide +kernel
theorem dX4_step_31 : decode cX4_step 31 = .ok (.getfield 11, 3) := by decide +kernel
theorem dX4_step_34 : decode cX4_step 34 = .ok (.iload_n 2, 1) := by decide +kernel
theorem dX4_step_35 : decode cX4_step 35 = .ok (.aaload, 1) := by decide +kernel
theorem dX4_step_36 : decode cX4_step 36 = .ok (.aload_n 0, 1) := by decide +kernel
theorem dX4_step_37 : decode cX4_step 37 = .ok (.getfield 11, 3) := by decide +kernel
theorem dX4_step_40 : decode cX4_step 40 = .ok (.iload_n 2, 1) := by decide +kernel
theorem dX4_step_41 : decode cX4_step 41 = .ok (.iconst 1, 1) := by decide +kernel
theorem dX4_step_42 : decode cX4_step 42 = .ok (.iadd, 1) := by decide +kernel
theorem dX4_step_43 : decode cX4_step 43 = .ok (.aaload, 1) := by decide +kernel
theorem dX4_step_44 : decode cX4_step 44 = .ok (.iload_n 3, 1) := by decide +kernel
theorem dX4_step_45 : decode cX4_step 45 = .ok (.iload 4, 2) := by decide +kernel
theorem dX4_step_47 : decode cX4_step 47 = .ok (.iconst 0, 1) := by decide +kernel
theorem dX4_step_48 : decode cX4_step 48 = .ok (.invokevirtual 55, 3) := by decide +kernel
theorem dX4_step_51 : decode cX4_step 51 = .ok (.iload 4, 2) := by decide +kernel
theorem dX4_step_53 : decode cX4_step 53 = .ok (.invokestatic 73, 3) := by decide +kernel
theorem dX4_step_56 : decode cX4_step 56 = .ok (.ireturn, 1) := by decide +kernel
theorem dX5_init_0 : decode cX5_init 0 = .ok (.aload_n 0, 1) := by decide +kernel
theorem dX5_init_1 : decode cX5_init 1 = .ok (.invokespecial 1, 3) := by decide +kernel
theorem dX5_init_4 : decode cX5_init 4 = .ok (.aload_n 0, 1) := by decide +kernel
theorem dX5_init_5 : decode cX5_init 5 = .ok (.new 7, 3) := by decide +kernel
theorem dX5_init_8 : decode cX5_init 8 = .ok (.dup, 1) := by decide +kernel
theorem dX5_init_9 : decode cX5_init 9 = .ok (.bipush 6, 2) := by decide +kernel
theorem dX5_init_11 : decode cX5_init 11 = .ok (.bipush 40, 2) := by decide +kernel
theorem dX5_init_13 : decode cX5_init 13 = .ok (.invokespecial 11, 3) := by decide +kernel
theorem dX5_init_16 : decode cX5_init 16 = .ok (.putfield 14, 3) := by decide +kernel
theorem dX5_init_19 : decode cX5_init 19 = .ok (.aload_n 0, 1) := by decide +kernel
theorem dX5_init_20 : decode cX5_init 20 = .ok (.new 7, 3) := by decide +kernel
theorem dX5_init_23 : decode cX5_init 23 = .ok (.dup, 1) := by decide +kernel
theorem dX5_init_24 : decode cX5_init 24 = .ok (.iconst 4, 1) := by decide +kernel
theorem dX5_init_25 : decode cX5_init 25 = .ok (.bipush 60, 2) := by decide +kernel
theorem dX5_init_27 : decode cX5_init 27 = .ok (.invokespecial 11, 3) := by decide +kernel
theorem dX5_init_30 : decode cX5_init 30 = .ok (.putfield 18, 3) := by decide +kernel
theorem dX5_init_33 : decode cX5_init 33 = .ok (.aload_n 0, 1) := by decide +kernel
theorem dX5_init_34 : decode cX5_init 34 = .ok (.new 7, 3) := by decide +kernel
theorem dX5_init_37 : decode cX5_init 37 = .ok (.dup, 1) := by decide +kernel
theorem dX5_init_38 : decode cX5_init 38 = .ok (.iconst 3, 1) := by decide +kernel
theorem dX5_init_39 : decode cX5_init 39 = .ok (.bipush 40, 2) := by decide +kernel
theorem dX5_init_41 : decode cX5_init 41 = .ok (.invokespecial 11, 3) := by decide +kernel
theorem dX5_init_44 : decode cX5_init 44 = .ok (.putfield 21, 3) := by decide +kernel
theorem dX5_init_47 : decode cX5_init 47 = .ok (.aload_n 0, 1) := by decide +kernel
theorem dX5_init_48 : decode cX5_init 48 = .ok (.new 24, 3) := by decide +kernel
theorem dX5_init_51 : decode cX5_init 51 = .ok (.dup, 1) := by decide +kernel
theorem dX5_init_52 : decode cX5_init 52 = .ok (.invokespecial 26, 3) := by decide +kernel
theorem dX5_init_55 : decode cX5_init 55 = .ok (.putfield 27, 3) := by decide +kernel
theorem dX5_init_58 : decode cX5_init 58 = .ok (.aload_n 0, 1) := by decide +kernel
theorem dX5_init_59 : decode cX5_init 59 = .ok (.new 31, 3) := by decide +kernel
theorem dX5_init_62 : decode cX5_init 62 = .ok (.dup, 1) := by decide +kernel
theorem dX5_init_63 : decode cX5_init 63 = .ok (.invokespecial 33, 3) := by decide +kernel
theorem dX5_init_66 : decode cX5_init 66 = .ok (.putfield 34, 3) := by decide +kernel
theorem dX5_init_69 : decode cX5_init 69 = .ok (.aload_n 0, 1) := by decide +kernel
theorem dX5_init_70 : decode cX5_init 70 = .ok (.new 38, 3) := by decide +kernel
theorem dX5_init_73 : decode cX5_init 73 = .ok (.dup, 1) := by decide +kernel
theorem dX5_init_74 : decode cX5_init 74 = .ok (.invokespecial 40, 3) := by decide +kernel
theorem dX5_init_77 : decode cX5_init 77 = .ok (.putfield 41, 3) := by decide +kernel
theorem dX5_init_80 : decode cX5_init 80 = .ok (.aload_n 0, 1) := by decide +kernel
theorem dX5_init_81 : decode cX5_init 81 = .ok (.new 45, 3) := by decide +kernel
theorem dX5_init_84 : decode cX5_init 84 = .ok (.dup, 1) := by decide +kernel
theorem dX5_init_85 : decode cX5_init 85 = .ok (.invokespecial 47, 3) := by decide +kernel
theorem dX5_init_88 : decode cX5_init 88 = .ok (.putfield 48, 3) := by decide +kernel
theorem dX5_init_91 : decode cX5_init 91 = .ok (.aload_n 0, 1) := by decide +kernel
theorem dX5_init_92 : decode cX5_init 92 = .ok (.bipush 6, 2) := by decide +kernel
theorem dX5_init_94 : decode cX5_init 94 = .ok (.newarray .int, 2) := by decide +kernel
theorem dX5_init_96 : decode cX5_init 96 = .ok (.putfield 52, 3) := by decide +kernel
theorem dX5_init_99 : decode cX5_init 99 = .ok (.aload_n 0, 1) := by decide +kernel
theorem dX5_init_100 : decode cX5_init 100 = .ok (.iconst 0, 1) := by decide +kernel
theorem dX5_init_101 : decode cX5_init 101 = .ok (.putfield 56, 3) := by decide +kernel
theorem dX5_init_104 : decode cX5_init 104 = .ok (.aload_n 0, 1) := by decide +kernel
theorem dX5_init_105 : decode cX5_init 105 = .ok (.iconst 0, 1) := by decide +kernel
theorem dX5_init_106 : decode cX5_init 106 = .ok (.putfield 60, 3) := by decide +kernel
theorem dX5_init_109 : decode cX5_init 109 = .ok (.aload_n 0, 1) := by decide +kernel
theorem dX5_init_110 : decode cX5_init 110 = .ok (.lconst 0, 1) := by decide +kernel
theorem dX5_init_111 : decode cX5_init 111 = .ok (.putfield 63, 3) := by decide +kernel
theorem dX5_init_114 : decode cX5_init 114 = .ok (.aload_n 0, 1) := by decide +kernel
theorem dX5_init_115 : decode cX5_init 115 = .ok (.lconst 1, 1) := by decide +kernel
theorem dX5_init_116 : decode cX5_init 116 = .ok (.putfield 67, 3) := by decide +kernel
theorem dX5_init_119 : decode cX5_init 119 = .ok (.return_, 1) := by decide +kernel
theorem dX5_row_0 : decode cX5_row 0 = .ok (.iload_n 1, 1) := by decide +kernel
theorem dX5_row_1 : decode cX5_row 1 = .ok (.invokestatic 70, 3) := by decide +kernel
theorem dX5_row_4 : decode cX5_row 4 = .ok (.ifCond .eq 9, 3) := by decide +kernel
theorem dX5_row_7 : decode cX5_row 7 = .ok (.iload_n 2, 1) := by decide +kernel
theorem dX5_row_8 : decode cX5_row 8 = .ok (.bipush 40, 2) := by decide +kernel
theorem dX5_row_10 : decode cX5_row 10 = .ok (.if_icmp .le 5, 3) := by decide +kernel
theorem dX5_row_13 : decode cX5_row 13 = .ok (.iconst (-1), 1) := by decide +kernel
theorem dX5_row_14 : decode cX5_row 14 = .ok (.ireturn, 1) := by decide +kernel
theorem dX5_row_15 : decode cX5_row 15 = .ok (.iload_n 2, 1) := by decide +kernel
theorem dX5_row_16 : decode cX5_row 16 = .ok (.ifCond .ge 9, 3) := by decide +kernel
theorem dX5_row_19 : decode cX5_row 19 = .ok (.aload_n 0, 1) := by decide +kernel
theorem dX5_row_20 : decode cX5_row 20 = .ok (.iconst 5, 1) := by decide +kernel
theorem dX5_row_21 : decode cX5_row 21 = .ok (.invokevirtual 74, 3) := by decide +kernel
theorem dX5_row_24 : decode cX5_row 24 = .ok (.ireturn, 1) := by decide +kernel
theorem dX5_row_25 : decode cX5_row 25 = .ok (.aload_n 0, 1) := by decide +kernel
theorem dX5_row_26 : decode cX5_row 26 = .ok (.getfield 14, 3) := by decide +kernel
theorem dX5_row_29 : decode cX5_row 29 = .ok (.iload_n 1, 1) := by decide +kernel
theorem dX5_row_30 : decode cX5_row 30 = .ok (.iload_n 2, 1) := by decide +kernel
theorem dX5_row_31 : decode cX5_row 31 = .ok (.iconst 0, 1) := by decide +kernel
theorem dX5_row_32 : decode cX5_row 32 = .ok (.invokevirtual 78, 3) := by decide +kernel
theorem dX5_row_35 : decode cX5_row 35 = .ok (.iload_n 2, 1) := by decide +kernel
theorem dX5_row_36 : decode cX5_row 36 = .ok (.ireturn, 1) := by decide +kernel
theorem dX5_lay_0 : decode cX5_lay 0 = .ok (.aload_n 0, 1) := by decide +kernel
theorem dX5_lay_1 : decode cX5_lay 1 = .ok (.iload_n 1, 1) := by decide +kernel
theorem dX5_lay_2 : decode cX5_lay 2 = .ok (.iload_n 2, 1) := by decide +kernel
theorem dX5_lay_3 : decode cX5_lay 3 = .ok (.invokevirtual 82, 3) := by decide +kernel
theorem dX5_lay_6 : decode cX5_lay 6 = .ok (.istore 4, 2) := by decide +kernel
theorem dX5_lay_8 : decode cX5_lay 8 = .ok (.iload 4, 2) := by decide +kernel
theorem dX5_lay_10 : decode cX5_lay 10 = .ok (.ifCond .eq 6, 3) := by decide +kernel
theorem dX5_lay_13 : decode cX5_lay 13 = .ok (.iload 4, 2) := by decide +kernel
theorem dX5_lay_15 : decode cX5_lay 15 = .ok (.ireturn, 1) := by decide +kernel
theorem dX5_lay_16 : decode cX5_lay 16 = .ok (.aload_n 0, 1) := by decide +kernel
theorem dX5_lay_17 : decode cX5_lay 17 = .ok (.aload_n 0, 1) := by decide +kernel
theorem dX5_lay_18 : decode cX5_lay 18 = .ok (.getfield 14, 3) := by decide +kernel
theorem dX5_lay_21 : decode cX5_lay 21 = .ok (.iload_n 1, 1) := by decide +kernel
theorem dX5_lay_22 : decode cX5_lay 22 = .ok (.iload_n 2, 1) := by decide +kernel
theorem dX5_lay_23 : decode cX5_lay 23 = .ok (.invokevirtual 86, 3) := by decide +kernel
theorem dX5_lay_26 : decode cX5_lay 26 = .ok (.putfield 60, 3) := by decide +kernel
theorem dX5_lay_29 : decode cX5_lay 29 = .ok (.aload_n 0, 1) := by decide +kernel
theorem dX5_lay_30 : decode cX5_lay 30 = .ok (.getfield 14, 3) := by decide +kernel
theorem dX5_lay_33 : decode cX5_lay 33 = .ok (.iload_n 1, 1) := by decide +kernel
theorem dX5_lay_34 : decode cX5_lay 34 = .ok (.iload_n 2, 1) := by decide +kernel
theorem dX5_lay_35 : decode cX5_lay 35 = .ok (.iload_n 3, 1) := by decide +kernel
theorem dX5_lay_36 : decode cX5_lay 36 = .ok (.invokevirtual 89, 3) := by decide +kernel
theorem dX5_lay_39 : decode cX5_lay 39 = .ok (.iconst 1, 1) := by decide +kernel
theorem dX5_lay_40 : decode cX5_lay 40 = .ok (.ireturn, 1) := by decide +kernel
theorem dX5_at_0 : decode cX5_at 0 = .ok (.aload_n 0, 1) := by decide +kernel
theorem dX5_at_1 : decode cX5_at 1 = .ok (.iload_n 1, 1) := by decide +kernel
theorem dX5_at_2 : decode cX5_at 2 = .ok (.iload_n 2, 1) := by decide +kernel
theorem dX5_at_3 : decode cX5_at 3 = .ok (.invokevirtual 82, 3) := by decide +kernel
theorem dX5_at_6 : decode cX5_at 6 = .ok (.istore_n 3, 1) := by decide +kernel
theorem dX5_at_7 : decode cX5_at 7 = .ok (.iload_n 3, 1) := by decide +kernel
theorem dX5_at_8 : decode cX5_at 8 = .ok (.ifCond .eq 5, 3) := by decide +kernel
theorem dX5_at_11 : decode cX5_at 11 = .ok (.iload_n 3, 1) := by decide +kernel
theorem dX5_at_12 : decode cX5_at 12 = .ok (.ireturn, 1) := by decide +kernel
theorem dX5_at_13 : decode cX5_at 13 = .ok (.aload_n 0, 1) := by decide +kernel
theorem dX5_at_14 : decode cX5_at 14 = .ok (.aload_n 0, 1) := by decide +kernel
theorem dX5_at_15 : decode cX5_at 15 = .ok (.getfield 14, 3) := by decide +kernel
theorem dX5_at_18 : decode cX5_at 18 = .ok (.iload_n 1, 1) := by decide +kernel
theorem dX5_at_19 : decode cX5_at 19 = .ok (.iload_n 2, 1) := by decide +kernel
theorem dX5_at_20 : decode cX5_at 20 = .ok (.invokevirtual 86, 3) := by decide +kernel
theorem dX5_at_23 : decode cX5_at 23 = .ok (.putfield 60, 3) := by decide +kernel
theorem dX5_at_26 : decode cX5_at 26 = .ok (.iconst 1, 1) := by decide +kernel
theorem dX5_at_27 : decode cX5_at 27 = .ok (.ireturn, 1) := by decide +kernel
theorem dX5_tear_0 : decode cX5_tear 0 = .ok (.aload_n 0, 1) := by decide +kernel
theorem dX5_tear_1 : decode cX5_tear 1 = .ok (.iload_n 1, 1) := by decide +kernel
theorem dX5_tear_2 : decode cX5_tear 2 = .ok (.invokevirtual 92, 3) := by decide +kernel
theorem dX5_tear_5 : decode cX5_tear 5 = .ok (.istore_n 2, 1) := by decide +kernel
theorem dX5_tear_6 : decode cX5_tear 6 = .ok (.iload_n 2, 1) := by decide +kernel
theorem dX5_tear_7 : decode cX5_tear 7 = .ok (.ifCond .eq 5, 3) := by decide +kernel
theorem dX5_tear_10 : decode cX5_tear 10 = .ok (.iload_n 2, 1) := by decide +kernel
theorem dX5_tear_11 : decode cX5_tear 11 = .ok (.ireturn, 1) := by decide +kernel
theorem dX5_tear_12 : decode cX5_tear 12 = .ok (.aload_n 0, 1) := by decide +kernel
theorem dX5_tear_13 : decode cX5_tear 13 = .ok (.getfield 14, 3) := by decide +kernel
theorem dX5_tear_16 : decode cX5_tear 16 = .ok (.iload_n 1, 1) := by decide +kernel
theorem dX5_tear_17 : decode cX5_tear 17 = .ok (.invokevirtual 95, 3) := by decide +kernel
theorem dX5_tear_20 : decode cX5_tear 20 = .ok (.iconst 1, 1) := by decide +kernel
theorem dX5_tear_21 : decode cX5_tear 21 = .ok (.ireturn, 1) := by decide +kernel
theorem dX5_copy_0 : decode cX5_copy 0 = .ok (.iload_n 1, 1) := by decide +kernel
theorem dX5_copy_1 : decode cX5_copy 1 = .ok (.invokestatic 70, 3) := by decide +kernel
theorem dX5_copy_4 : decode cX5_copy 4 = .ok (.ifCond .eq 10, 3) := by decide +kernel
theorem dX5_copy_7 : decode cX5_copy 7 = .ok (.iload_n 3, 1) := by decide +kernel
theorem dX5_copy_8 : decode cX5_copy 8 = .ok (.invokestatic 70, 3) := by decide +kernel
theorem dX5_copy_11 : decode cX5_copy 11 = .ok (.ifCond .ne 5, 3) := by decide +kernel
theorem dX5_copy_14 : decode cX5_copy 14 = .ok (.iconst (-1), 1) := by decide +kernel
theorem dX5_copy_15 : decode cX5_copy 15 = .ok (.ireturn, 1) := by decide +kernel
theorem dX5_copy_16 : decode cX5_copy 16 = .ok (.iload 5, 2) := by decide +kernel
theorem dX5_copy_18 : decode cX5_copy 18 = .ok (.ifCond .ge 9, 3) := by decide +kernel
theorem dX5_copy_21 : decode cX5_copy 21 = .ok (.aload_n 0, 1) := by decide +kernel
theorem dX5_copy_22 : decode cX5_copy 22 = .ok (.iconst 5, 1) := by decide +kernel
theorem dX5_copy_23 : decode cX5_copy 23 = .ok (.invokevirtual 74, 3) := by decide +kernel
theorem dX5_copy_26 : decode cX5_copy 26 = .ok (.ireturn, 1) := by decide +kernel
theorem dX5_copy_27 : decode cX5_copy 27 = .ok (.aload_n 0, 1) := by decide +kernel
theorem dX5_copy_28 : decode cX5_copy 28 = .ok (.getfield 14, 3) := by decide +kernel
theorem dX5_copy_31 : decode cX5_copy 31 = .ok (.iload_n 1, 1) := by decide +kernel
theorem dX5_copy_32 : decode cX5_copy 32 = .ok (.invokevirtual 99, 3) := by decide +kernel
theorem dX5_copy_35 : decode cX5_copy 35 = .ok (.ifCond .eq 14, 3) := by decide +kernel
theorem dX5_copy_38 : decode cX5_copy 38 = .ok (.aload_n 0, 1) := by decide +kernel
theorem dX5_copy_39 : decode cX5_copy 39 = .ok (.getfield 14, 3) := by decide +kernel
theorem dX5_copy_42 : decode cX5_copy 42 = .ok (.iload_n 3, 1) := by decide +kernel
theorem dX5_copy_43 : decode cX5_copy 43 = .ok (.invokevirtual 99, 3) := by decide +kernel
theorem dX5_copy_46 : decode cX5_copy 46 = .ok (.ifCond .ne 9, 3) := by decide +kernel
theorem dX5_copy_49 : decode cX5_copy 49 = .ok (.aload_n 0, 1) := by decide +kernel
theorem dX5_copy_50 : decode cX5_copy 50 = .ok (.iconst 1, 1) := by decide +kernel
theorem dX5_copy_51 : decode cX5_copy 51 = .ok (.invokevirtual 74, 3) := by decide +kernel
theorem dX5_copy_54 : decode cX5_copy 54 = .ok (.ireturn, 1) := by decide +kernel
theorem dX5_copy_55 : decode cX5_copy 55 = .ok (.aload_n 0, 1) := by decide +kernel
theorem dX5_copy_56 : decode cX5_copy 56 = .ok (.getfield 14, 3) := by decide +kernel
theorem dX5_copy_59 : decode cX5_copy 59 = .ok (.iload_n 1, 1) := by decide +kernel
theorem dX5_copy_60 : decode cX5_copy 60 = .ok (.iload_n 2, 1) := by decide +kernel
theorem dX5_copy_61 : decode cX5_copy 61 = .ok (.iload 5, 2) := by decide +kernel
theorem dX5_copy_63 : decode cX5_copy 63 = .ok (.invokevirtual 102, 3) := by decide +kernel
theorem dX5_copy_66 : decode cX5_copy 66 = .ok (.ifCond .eq 18, 3) := by decide +kernel
theorem dX5_copy_69 : decode cX5_copy 69 = .ok (.aload_n 0, 1) := by decide +kernel
theorem dX5_copy_70 : decode cX5_copy 70 = .ok (.getfield 14, 3) := by decide +kernel
theorem dX5_copy_73 : decode cX5_copy 73 = .ok (.iload_n 3, 1) := by decide +kernel
theorem dX5_copy_74 : decode cX5_copy 74 = .ok (.iload 4, 2) := by decide +kernel
theorem dX5_copy_76 : decode cX5_copy 76 = .ok (.iload 5, 2) := by decide +kernel
theorem dX5_copy_78 : decode cX5_copy 78 = .ok (.invokevirtual 102, 3) := by decide +kernel
theorem dX5_copy_81 : decode cX5_copy 81 = .ok (.ifCond .ne 9, 3) := by decide +kernel
theorem dX5_copy_84 : decode cX5_copy 84 = .ok (.aload_n 0, 1) := by decide +kernel
theorem dX5_copy_85 : decode cX5_copy 85 = .ok (.iconst 2, 1) := by decide +kernel
theorem dX5_copy_86 : decode cX5_copy 86 = .ok (.invokevirtual 74, 3) := by decide +kernel
theorem dX5_copy_89 : decode cX5_copy 89 = .ok (.ireturn, 1) := by decide +kernel
theorem dX5_copy_90 : decode cX5_copy 90 = .ok (.iload_n 2, 1) := by decide +kernel
theorem dX5_copy_91 : decode cX5_copy 91 = .ok (.iload 4, 2) := by decide +kernel
theorem dX5_copy_93 : decode cX5_copy 93 = .ok (.if_icmp .ge 48, 3) := by decide +kernel
theorem dX5_copy_96 : decode cX5_copy 96 = .ok (.iload 5, 2) := by decide +kernel
theorem dX5_copy_98 : decode cX5_copy 98 = .ok (.iconst 1, 1) := by decide +kernel
theorem dX5_copy_99 : decode cX5_copy 99 = .ok (.isub, 1) := by decide +kernel
theorem dX5_copy_100 : decode cX5_copy 100 = .ok (.istore 6, 2) := by decide +kernel
theorem dX5_copy_102 : decode cX5_copy 102 = .ok (.iload 6, 2) := by decide +kernel
theorem dX5_copy_104 : decode cX5_copy 104 = .ok (.ifCond .lt 34, 3) := by decide +kernel
theorem dX5_copy_107 : decode cX5_copy 107 = .ok (.aload_n 0, 1) := by decide +kernel
theorem dX5_copy_108 : decode cX5_copy 108 = .ok (.getfield 14, 3) := by decide +kernel
theorem dX5_copy_111 : decode cX5_copy 111 = .ok (.iload_n 3, 1) := by decide +kernel
theorem dX5_copy_112 : decode cX5_copy 112 = .ok (.iload 4, 2) := by decide +kernel
theorem dX5_copy_114 : decode cX5_copy 114 = .ok (.iload 6, 2) := by decide +kernel
theorem dX5_copy_116 : decode cX5_copy 116 = .ok (.iadd, 1) := by decide +kernel
theorem dX5_copy_117 : decode cX5_copy 117 = .ok (.aload_n 0, 1) := by decide +kernel
theorem dX5_copy_118 : decode cX5_copy 118 = .ok (.getfield 14, 3) := by decide +kernel
theorem dX5_copy_121 : decode cX5_copy 121 = .ok (.iload_n 1, 1) := by decide +kernel
theorem dX5_copy_122 : decode cX5_copy 122 = .ok (.iload_n 2, 1) := by decide +kernel
theorem dX5_copy_123 : decode cX5_copy 123 = .ok (.iload 6, 2) := by decide +kernel
theorem dX5_copy_125 : decode cX5_copy 125 = .ok (.iadd, 1) := by decide +kernel
theorem dX5_copy_126 : decode cX5_copy 126 = .ok (.invokevirtual 86, 3) := by decide +kernel
theorem dX5_copy_129 : decode cX5_copy 129 = .ok (.invokevirtual 89, 3) := by decide +kernel
theorem dX5_copy_132 : decode cX5_copy 132 = .ok (.iinc 6 (-1), 3) := by decide +kernel
theorem dX5_copy_135 : decode cX5_copy 135 = .ok (.goto (-33), 3) := by decide +kernel
theorem dX5_copy_138 : decode cX5_copy 138 = .ok (.goto 44, 3) := by decide +kernel
theorem dX5_copy_141 : decode cX5_copy 141 = .ok (.iconst 0, 1) := by decide +kernel
theorem dX5_copy_142 : decode cX5_copy 142 = .ok (.istore 6, 2) := by decide +kernel
theorem dX5_copy_144 : decode cX5_copy 144 = .ok (.iload 6, 2) := by decide +kernel
theorem dX5_copy_146 : decode cX5_copy 146 = .ok (.iload 5, 2) := by decide +kernel
theorem dX5_copy_148 : decode cX5_copy 148 = .ok (.if_icmp .ge 34, 3) := by decide +kernel
theorem dX5_copy_151 : decode cX5_copy 151 = .ok (.aload_n 0, 1) := by decide +kernel
theorem dX5_copy_152 : decode cX5_copy 152 = .ok (.getfield 14, 3) := by decide +kernel
theorem dX5_copy_155 : decode cX5_copy 155 = .ok (.iload_n 3, 1) := by decide +kernel
theorem dX5_copy_156 : decode cX5_copy 156 = .ok (.iload 4, 2) := by decide +kernel
theorem dX5_copy_158 : decode cX5_copy 158 = .ok (.iload 6, 2) := by decide +kernel
theorem dX5_copy_160 : decode cX5_copy 160 = .ok (.iadd, 1) := by decide +kernel
theorem dX5_copy_161 : decode cX5_copy 161 = .ok (.aload_n 0, 1) := by decide +kernel
theorem dX5_copy_162 : decode cX5_copy 162 = .ok (.getfield 14, 3) := by decide +kernel
theorem dX5_copy_165 : decode cX5_copy 165 = .ok (.iload_n 1, 1) := by decide +kernel
theorem dX5_copy_166 : decode cX5_copy 166 = .ok (.iload_n 2, 1) := by decide +kernel
theorem dX5_copy_167 : decode cX5_copy 167 = .ok (.iload 6, 2) := by decide +kernel
theorem dX5_copy_169 : decode cX5_copy 169 = .ok (.iadd, 1) := by decide +kernel
theorem dX5_copy_170 : decode cX5_copy 170 = .ok (.invokevirtual 86, 3) := by decide +kernel
theorem dX5_copy_173 : decode cX5_copy 173 = .ok (.invokevirtual 89, 3) := by decide +kernel
theorem dX5_copy_176 : decode cX5_copy 176 = .ok (.iinc 6 1, 3) := by decide +kernel
theorem dX5_copy_179 : decode cX5_copy 179 = .ok (.goto (-35), 3) := by decide +kernel
theorem dX5_copy_182 : decode cX5_copy 182 = .ok (.iconst 1, 1) := by decide +kernel
theorem dX5_copy_183 : decode cX5_copy 183 = .ok (.ireturn, 1) := by decide +kernel
theorem dX5_mean_0 : decode cX5_mean 0 = .ok (.aload_n 0, 1) := by decide +kernel
theorem dX5_mean_1 : decode cX5_mean 1 = .ok (.iload_n 1, 1) := by decide +kernel
theorem dX5_mean_2 : decode cX5_mean 2 = .ok (.invokevirtual 92, 3) := by decide +kernel
theorem dX5_mean_5 : decode cX5_mean 5 = .ok (.istore_n 2, 1) := by decide +kernel
theorem dX5_mean_6 : decode cX5_mean 6 = .ok (.iload_n 2, 1) := by decide +kernel
theorem dX5_mean_7 : decode cX5_mean 7 = .ok (.ifCond .eq 5, 3) := by decide +kernel
theorem dX5_mean_10 : decode cX5_mean 10 = .ok (.iload_n 2, 1) := by decide +kernel
theorem dX5_mean_11 : decode cX5_mean 11 = .ok (.ireturn, 1) := by decide +kernel
theorem dX5_mean_12 : decode cX5_mean 12 = .ok (.aload_n 0, 1) := by decide +kernel
theorem dX5_mean_13 : decode cX5_mean 13 = .ok (.getfield 14, 3) := by decide +kernel
theorem dX5_mean_16 : decode cX5_mean 16 = .ok (.iload_n 1, 1) := by decide +kernel
theorem dX5_mean_17 : decode cX5_mean 17 = .ok (.invokevirtual 106, 3) := by decide +kernel
theorem dX5_mean_20 : decode cX5_mean 20 = .ok (.istore_n 3, 1) := by decide +kernel
theorem dX5_mean_21 : decode cX5_mean 21 = .ok (.iload_n 3, 1) := by decide +kernel
theorem dX5_mean_22 : decode cX5_mean 22 = .ok (.ifCond .gt 9, 3) := by decide +kernel
theorem dX5_mean_25 : decode cX5_mean 25 = .ok (.aload_n 0, 1) := by decide +kernel
theorem dX5_mean_26 : decode cX5_mean 26 = .ok (.iconst 4, 1) := by decide +kernel
theorem dX5_mean_27 : decode cX5_mean 27 = .ok (.invokevirtual 74, 3) := by decide +kernel
theorem dX5_mean_30 : decode cX5_mean 30 = .ok (.ireturn, 1) := by decide +kernel
theorem dX5_mean_31 : decode cX5_mean 31 = .ok (.lconst 0, 1) := by decide +kernel
theorem dX5_mean_32 : decode cX5_mean 32 = .ok (.lstore 4, 2) := by decide +kernel
theorem dX5_mean_34 : decode cX5_mean 34 = .ok (.iconst 0, 1) := by decide +kernel
theorem dX5_mean_35 : decode cX5_mean 35 = .ok (.istore 6, 2) := by decide +kernel
theorem dX5_mean_37 : decode cX5_mean 37 = .ok (.iload 6, 2) := by decide +kernel
theorem dX5_mean_39 : decode cX5_mean 39 = .ok (.iload_n 3, 1) := by decide +kernel
theorem dX5_mean_40 : decode cX5_mean 40 = .ok (.if_icmp .ge 25, 3) := by decide +kernel
theorem dX5_mean_43 : decode cX5_mean 43 = .ok (.lload 4, 2) := by decide +kernel
theorem dX5_mean_45 : decode cX5_mean 45 = .ok (.aload_n 0, 1) := by decide +kernel
theorem dX5_mean_46 : decode cX5_mean 46 = .ok (.getfield 14, 3) := by decide +kernel
theorem dX5_mean_49 : decode cX5_mean 49 = .ok (.iload_n 1, 1) := by decide +kernel
theorem dX5_mean_50 : decode cX5_mean 50 = .ok (.iload 6, 2) := by decide +kernel
theorem dX5_mean_52 : decode cX5_mean 52 = .ok (.invokevirtual 86, 3) := by decide +kernel
theorem dX5_mean_55 : decode cX5_mean 55 = .ok (.i2l, 1) := by decide +kernel
theorem dX5_mean_56 : decode cX5_mean 56 = .ok (.ladd, 1) := by decide +kernel
theorem dX5_mean_57 : decode cX5_mean 57 = .ok (.lstore 4, 2) := by decide +kernel
theorem dX5_mean_59 : decode cX5_mean 59 = .ok (.iinc 6 1, 3) := by decide +kernel
theorem dX5_mean_62 : decode cX5_mean 62 = .ok (.goto (-25), 3) := by decide +kernel
theorem dX5_mean_65 : decode cX5_mean 65 = .ok (.aload_n 0, 1) := by decide +kernel
theorem dX5_mean_66 : decode cX5_mean 66 = .ok (.lload 4, 2) := by decide +kernel
theorem dX5_mean_68 : decode cX5_mean 68 = .ok (.iload_n 3, 1) := by decide +kernel
theorem dX5_mean_69 : decode cX5_mean 69 = .ok (.i2l, 1) := by decide +kernel
theorem dX5_mean_70 : decode cX5_mean 70 = .ok (.ldiv, 1) := by decide +kernel
theorem dX5_mean_71 : decode cX5_mean 71 = .ok (.l2i, 1) := by decide +kernel
theorem dX5_mean_72 : decode cX5_mean 72 = .ok (.putfield 60, 3) := by decide +kernel
theorem dX5_mean_75 : decode cX5_mean 75 = .ok (.iconst 1, 1) := by decide +kernel
theorem dX5_mean_76 : decode cX5_mean 76 = .ok (.ireturn, 1) := by decide +kernel
theorem dX5_text_0 : decode cX5_text 0 = .ok (.iload_n 1, 1) := by decide +kernel
theorem dX5_text_1 : decode cX5_text 1 = .ok (.invokestatic 109, 3) := by decide +kernel
theorem dX5_text_4 : decode cX5_text 4 = .ok (.ifCond .eq 9, 3) := by decide +kernel
theorem dX5_text_7 : decode cX5_text 7 = .ok (.iload_n 2, 1) := by decide +kernel
theorem dX5_text_8 : decode cX5_text 8 = .ok (.bipush 60, 2) := by decide +kernel
theorem dX5_text_10 : decode cX5_text 10 = .ok (.if_icmp .le 5, 3) := by decide +kernel
theorem dX5_text_13 : decode cX5_text 13 = .ok (.iconst (-1), 1) := by decide +kernel
theorem dX5_text_14 : decode cX5_text 14 = .ok (.ireturn, 1) := by decide +kernel
theorem dX5_text_15 : decode cX5_text 15 = .ok (.iload_n 2, 1) := by decide +kernel
theorem dX5_text_16 : decode cX5_text 16 = .ok (.ifCond .ge 9, 3) := by decide +kernel
theorem dX5_text_19 : decode cX5_text 19 = .ok (.aload_n 0, 1) := by decide +kernel
theorem dX5_text_20 : decode cX5_text 20 = .ok (.iconst 5, 1) := by decide +kernel
theorem dX5_text_21 : decode cX5_text 21 = .ok (.invokevirtual 74, 3) := by decide +kernel
theorem dX5_text_24 : decode cX5_text 24 = .ok (.ireturn, 1) := by decide +kernel
theorem dX5_text_25 : decode cX5_text 25 = .ok (.aload_n 0, 1) := by decide +kernel
theorem dX5_text_26 : decode cX5_text 26 = .ok (.getfield 18, 3) := by decide +kernel
theorem dX5_text_29 : decode cX5_text 29 = .ok (.iload_n 1, 1) := by decide +kernel
theorem dX5_text_30 : decode cX5_text 30 = .ok (.iload_n 2, 1) := by decide +kernel
theorem dX5_text_31 : decode cX5_text 31 = .ok (.bipush 32, 2) := by decide +kernel
theorem dX5_text_33 : decode cX5_text 33 = .ok (.invokevirtual 78, 3) := by decide +kernel
theorem dX5_text_36 : decode cX5_text 36 = .ok (.iload_n 2, 1) := by decide +kernel
theorem dX5_text_37 : decode cX5_text 37 = .ok (.ireturn, 1) := by decide +kernel
theorem dX5_put_0 : decode cX5_put 0 = .ok (.aload_n 0, 1) := by decide +kernel
theorem dX5_put_1 : decode cX5_put 1 = .ok (.iload_n 1, 1) := by decide +kernel
theorem dX5_put_2 : decode cX5_put 2 = .ok (.invokevirtual 112, 3) := by decide +kernel
theorem dX5_put_5 : decode cX5_put 5 = .ok (.istore 4, 2) := by decide +kernel
theorem dX5_put_7 : decode cX5_put 7 = .ok (.iload 4, 2) := by decide +kernel
theorem dX5_put_9 : decode cX5_put 9 = .ok (.ifCond .eq 6, 3) := by decide +kernel
theorem dX5_put_12 : decode cX5_put 12 = .ok (.iload 4, 2) := by decide +kernel
theorem dX5_put_14 : decode cX5_put 14 = .ok (.ireturn, 1) := by decide +kernel
theorem dX5_put_15 : decode cX5_put 15 = .ok (.aload_n 0, 1) := by decide +kernel
theorem dX5_put_16 : decode cX5_put 16 = .ok (.getfield 18, 3) := by decide +kernel
theorem dX5_put_19 : decode cX5_put 19 = .ok (.iload_n 1, 1) := by decide +kernel
theorem dX5_put_20 : decode cX5_put 20 = .ok (.iload_n 2, 1) := by decide +kernel
theorem dX5_put_21 : decode cX5_put 21 = .ok (.iconst 1, 1) := by decide +kernel
theorem dX5_put_22 : decode cX5_put 22 = .ok (.invokevirtual 102, 3) := by decide +kernel
theorem dX5_put_25 : decode cX5_put 25 = .ok (.ifCond .ne 9, 3) := by decide +kernel
theorem dX5_put_28 : decode cX5_put 28 = .ok (.aload_n 0, 1) := by decide +kernel
theorem dX5_put_29 : decode cX5_put 29 = .ok (.iconst 2, 1) := by decide +kernel
theorem dX5_put_30 : decode cX5_put 30 = .ok (.invokevirtual 74, 3) := by decide +kernel
theorem dX5_put_33 : decode cX5_put 33 = .ok (.ireturn, 1) := by decide +kernel
theorem dX5_put_34 : decode cX5_put 34 = .ok (.aload_n 0, 1) := by decide +kernel
theorem dX5_put_35 : decode cX5_put 35 = .ok (.getfield 18, 3) := by decide +kernel
theorem dX5_put_38 : decode cX5_put 38 = .ok (.iload_n 1, 1) := by decide +kernel
theorem dX5_put_39 : decode cX5_put 39 = .ok (.iload_n 2, 1) := by decide +kernel
theorem dX5_put_40 : decode cX5_put 40 = .ok (.invokevirtual 86, 3) := by decide +kernel
theorem dX5_put_43 : decode cX5_put 43 = .ok (.istore 5, 2) := by decide +kernel
theorem dX5_put_45 : decode cX5_put 45 = .ok (.aload_n 0, 1) := by decide +kernel
theorem dX5_put_46 : decode cX5_put 46 = .ok (.getfield 18, 3) := by decide +kernel
theorem dX5_put_49 : decode cX5_put 49 = .ok (.iload_n 1, 1) := by decide +kernel
theorem dX5_put_50 : decode cX5_put 50 = .ok (.iload_n 2, 1) := by decide +kernel
theorem dX5_put_51 : decode cX5_put 51 = .ok (.iload_n 3, 1) := by decide +kernel
theorem dX5_put_52 : decode cX5_put 52 = .ok (.i2b, 1) := by decide +kernel
theorem dX5_put_53 : decode cX5_put 53 = .ok (.invokevirtual 89, 3) := by decide +kernel
theorem dX5_put_56 : decode cX5_put 56 = .ok (.iload 5, 2) := by decide +kernel
theorem dX5_put_58 : decode cX5_put 58 = .ok (.sipush 1000, 3) := by decide +kernel
theorem dX5_put_61 : decode cX5_put 61 = .ok (.iadd, 1) := by decide +kernel
theorem dX5_put_62 : decode cX5_put 62 = .ok (.ireturn, 1) := by decide +kernel
theorem dX5_fault_0 : decode cX5_fault 0 = .ok (.aload_n 0, 1) := by decide +kernel
theorem dX5_fault_1 : decode cX5_fault 1 = .ok (.iload_n 1, 1) := by decide +kernel
theorem dX5_fault_2 : decode cX5_fault 2 = .ok (.invokevirtual 112, 3) := by decide +kernel
theorem dX5_fault_5 : decode cX5_fault 5 = .ok (.istore_n 2, 1) := by decide +kernel
theorem dX5_fault_6 : decode cX5_fault 6 = .ok (.iload_n 2, 1) := by decide +kernel
theorem dX5_fault_7 : decode cX5_fault 7 = .ok (.ifCond .eq 5, 3) := by decide +kernel
theorem dX5_fault_10 : decode cX5_fault 10 = .ok (.iload_n 2, 1) := by decide +kernel
theorem dX5_fault_11 : decode cX5_fault 11 = .ok (.ireturn, 1) := by decide +kernel
theorem dX5_fault_12 : decode cX5_fault 12 = .ok (.aload_n 0, 1) := by decide +kernel
theorem dX5_fault_13 : decode cX5_fault 13 = .ok (.getfield 27, 3) := by decide +kernel
theorem dX5_fault_16 : decode cX5_fault 16 = .ok (.aload_n 0, 1) := by decide +kernel
theorem dX5_fault_17 : decode cX5_fault 17 = .ok (.getfield 18, 3) := by decide +kernel
theorem dX5_fault_20 : decode cX5_fault 20 = .ok (.iload_n 1, 1) := by decide +kernel
theorem dX5_fault_21 : decode cX5_fault 21 = .ok (.invokevirtual 115, 3) := by decide +kernel
theorem dX5_fault_24 : decode cX5_fault 24 = .ok (.ireturn, 1) := by decide +kernel
theorem dX5_deck_0 : decode cX5_deck 0 = .ok (.aload_n 0, 1) := by decide +kernel
theorem dX5_deck_1 : decode cX5_deck 1 = .ok (.iload_n 1, 1) := by decide +kernel
theorem dX5_deck_2 : decode cX5_deck 2 = .ok (.invokevirtual 112, 3) := by decide +kernel
theorem dX5_deck_5 : decode cX5_deck 5 = .ok (.istore_n 2, 1) := by decide +kernel
theorem dX5_deck_6 : decode cX5_deck 6 = .ok (.iload_n 2, 1) := by decide +kernel
theorem dX5_deck_7 : decode cX5_deck 7 = .ok (.ifCond .eq 5, 3) := by decide +kernel
theorem dX5_deck_10 : decode cX5_deck 10 = .ok (.iload_n 2, 1) := by decide +kernel
theorem dX5_deck_11 : decode cX5_deck 11 = .ok (.ireturn, 1) := by decide +kernel
theorem dX5_deck_12 : decode cX5_deck 12 = .ok (.aload_n 0, 1) := by decide +kernel
theorem dX5_deck_13 : decode cX5_deck 13 = .ok (.getfield 27, 3) := by decide +kernel
theorem dX5_deck_16 : decode cX5_deck 16 = .ok (.aload_n 0, 1) := by decide +kernel
theorem dX5_deck_17 : decode cX5_deck 17 = .ok (.getfield 18, 3) := by decide +kernel
theorem dX5_deck_20 : decode cX5_deck 20 = .ok (.iload_n 1, 1) := by decide +kernel
theorem dX5_deck_21 : decode cX5_deck 21 = .ok (.invokevirtual 115, 3) := by decide +kernel
theorem dX5_deck_24 : decode cX5_deck 24 = .ok (.bipush (-9), 2) := by decide +kernel
theorem dX5_deck_26 : decode cX5_deck 26 = .ok (.if_icmp .eq 6, 3) := by decide +kernel
theorem dX5_deck_29 : decode cX5_deck 29 = .ok (.bipush (-4), 2) := by decide +kernel
theorem dX5_deck_31 : decode cX5_deck 31 = .ok (.ireturn, 1) := by decide +kernel
theorem dX5_deck_32 : decode cX5_deck 32 = .ok (.aload_n 0, 1) := by decide +kernel
theorem dX5_deck_33 : decode cX5_deck 33 = .ok (.getfield 34, 3) := by decide +kernel
theorem dX5_deck_36 : decode cX5_deck 36 = .ok (.aload_n 0, 1) := by decide +kernel
theorem dX5_deck_37 : decode cX5_deck 37 = .ok (.getfield 27, 3) := by decide +kernel
theorem dX5_deck_40 : decode cX5_deck 40 = .ok (.invokevirtual 119, 3) := by decide +kernel
theorem dX5_deck_43 : decode cX5_deck 43 = .ok (.iconst 0, 1) := by decide +kernel
theorem dX5_deck_44 : decode cX5_deck 44 = .ok (.istore_n 3, 1) := by decide +kernel
theorem dX5_deck_45 : decode cX5_deck 45 = .ok (.iload_n 3, 1) := by decide +kernel
theorem dX5_deck_46 : decode cX5_deck 46 = .ok (.iconst 3, 1) := by decide +kernel
theorem dX5_deck_47 : decode cX5_deck 47 = .ok (.if_icmp .ge 17, 3) := by decide +kernel
theorem dX5_deck_50 : decode cX5_deck 50 = .ok (.aload_n 0, 1) := by decide +kernel
theorem dX5_deck_51 : decode cX5_deck 51 = .ok (.getfield 21, 3) := by decide +kernel
theorem dX5_deck_54 : decode cX5_deck 54 = .ok (.iload_n 3, 1) := by decide +kernel
theorem dX5_deck_55 : decode cX5_deck 55 = .ok (.invokevirtual 95, 3) := by decide +kernel
theorem dX5_deck_58 : decode cX5_deck 58 = .ok (.iinc 3 1, 3) := by decide +kernel
theorem dX5_deck_61 : decode cX5_deck 61 = .ok (.goto (-16), 3) := by decide +kernel
theorem dX5_deck_64 : decode cX5_deck 64 = .ok (.aload_n 0, 1) := by decide +kernel
theorem dX5_deck_65 : decode cX5_deck 65 = .ok (.getfield 34, 3) := by decide +kernel
theorem dX5_deck_68 : decode cX5_deck 68 = .ok (.getfield 123, 3) := by decide +kernel
theorem dX5_deck_71 : decode cX5_deck 71 = .ok (.ireturn, 1) := by decide +kernel
theorem dX5_card_0 : decode cX5_card 0 = .ok (.aload_n 0, 1) := by decide +kernel
theorem dX5_card_1 : decode cX5_card 1 = .ok (.iload_n 1, 1) := by decide +kernel
theorem dX5_card_2 : decode cX5_card 2 = .ok (.invokevirtual 126, 3) := by decide +kernel
theorem dX5_card_5 : decode cX5_card 5 = .ok (.ifCond .eq 13, 3) := by decide +kernel
theorem dX5_card_8 : decode cX5_card 8 = .ok (.iload_n 2, 1) := by decide +kernel
theorem dX5_card_9 : decode cX5_card 9 = .ok (.ifCond .lt 9, 3) := by decide +kernel
theorem dX5_card_12 : decode cX5_card 12 = .ok (.iload_n 2, 1) := by decide +kernel
theorem dX5_card_13 : decode cX5_card 13 = .ok (.bipush 8, 2) := by decide +kernel
theorem dX5_card_15 : decode cX5_card 15 = .ok (.if_icmp .lt 5, 3) := by decide +kernel
theorem dX5_card_18 : decode cX5_card 18 = .ok (.iconst (-1), 1) := by decide +kernel
theorem dX5_card_19 : decode cX5_card 19 = .ok (.ireturn, 1) := by decide +kernel
theorem dX5_card_20 : decode cX5_card 20 = .ok (.aload_n 0, 1) := by decide +kernel
theorem dX5_card_21 : decode cX5_card 21 = .ok (.aload_n 0, 1) := by decide +kernel
theorem dX5_card_22 : decode cX5_card 22 = .ok (.iload_n 1, 1) := by decide +kernel
theorem dX5_card_23 : decode cX5_card 23 = .ok (.iload_n 2, 1) := by decide +kernel
theorem dX5_card_24 : decode cX5_card 24 = .ok (.invokevirtual 129, 3) := by decide +kernel
theorem dX5_card_27 : decode cX5_card 27 = .ok (.putfield 60, 3) := by decide +kernel
theorem dX5_card_30 : decode cX5_card 30 = .ok (.iconst 1, 1) := by decide +kernel
theorem dX5_card_31 : decode cX5_card 31 = .ok (.ireturn, 1) := by decide +kernel
theorem dX5_mark_0 : decode cX5_mark 0 = .ok (.aload_n 0, 1) := by decide +kernel
theorem dX5_mark_1 : decode cX5_mark 1 = .ok (.iload_n 1, 1) := by decide +kernel
theorem dX5_mark_2 : decode cX5_mark 2 = .ok (.invokevirtual 126, 3) := by decide +kernel
theorem dX5_mark_5 : decode cX5_mark 5 = .ok (.ifCond .eq 13, 3) := by decide +kernel
theorem dX5_mark_8 : decode cX5_mark 8 = .ok (.iload_n 2, 1) := by decide +kernel
theorem dX5_mark_9 : decode cX5_mark 9 = .ok (.ifCond .le 9, 3) := by decide +kernel
theorem dX5_mark_12 : decode cX5_mark 12 = .ok (.iload_n 2, 1) := by decide +kernel
theorem dX5_mark_13 : decode cX5_mark 13 = .ok (.bipush 6, 2) := by decide +kernel
theorem dX5_mark_15 : decode cX5_mark 15 = .ok (.if_icmp .lt 5, 3) := by decide +kernel
theorem dX5_mark_18 : decode cX5_mark 18 = .ok (.iconst (-1), 1) := by decide +kernel
theorem dX5_mark_19 : decode cX5_mark 19 = .ok (.ireturn, 1) := by decide +kernel
theorem dX5_mark_20 : decode cX5_mark 20 = .ok (.aload_n 0, 1) := by decide +kernel
theorem dX5_mark_21 : decode cX5_mark 21 = .ok (.getfield 34, 3) := by decide +kernel
theorem dX5_mark_24 : decode cX5_mark 24 = .ok (.getfield 132, 3) := by decide +kernel
theorem dX5_mark_27 : decode cX5_mark 27 = .ok (.iload_n 1, 1) := by decide +kernel
theorem dX5_mark_28 : decode cX5_mark 28 = .ok (.iaload, 1) := by decide +kernel
theorem dX5_mark_29 : decode cX5_mark 29 = .ok (.iload_n 2, 1) := by decide +kernel
theorem dX5_mark_30 : decode cX5_mark 30 = .ok (.invokestatic 135, 3) := by decide +kernel
theorem dX5_mark_33 : decode cX5_mark 33 = .ok (.ifCond .ne 9, 3) := by decide +kernel
theorem dX5_mark_36 : decode cX5_mark 36 = .ok (.aload_n 0, 1) := by decide +kernel
theorem dX5_mark_37 : decode cX5_mark 37 = .ok (.iconst 3, 1) := by decide +kernel
theorem dX5_mark_38 : decode cX5_mark 38 = .ok (.invokevirtual 74, 3) := by decide +kernel
theorem dX5_mark_41 : decode cX5_mark 41 = .ok (.ireturn, 1) := by decide +kernel
theorem dX5_mark_42 : decode cX5_mark 42 = .ok (.iload_n 2, 1) := by decide +kernel
theorem dX5_mark_43 : decode cX5_mark 43 = .ok (.lookupswitch 49 #[(2, 25), (5, 40)], 25) := by decide +kernel
theorem dX5_mark_68 : decode cX5_mark 68 = .ok (.bipush 9, 2) := by decide +kernel
theorem dX5_mark_70 : decode cX5_mark 70 = .ok (.aload_n 0, 1) := by decide +kernel
theorem dX5_mark_71 : decode cX5_mark 71 = .ok (.getfield 34, 3) := by decide +kernel
theorem dX5_mark_74 : decode cX5_mark 74 = .ok (.getfield 139, 3) := by decide +kernel
theorem dX5_mark_77 : decode cX5_mark 77 = .ok (.iconst 4, 1) := by decide +kernel
theorem dX5_mark_78 : decode cX5_mark 78 = .ok (.idiv, 1) := by decide +kernel
theorem dX5_mark_79 : decode cX5_mark 79 = .ok (.invokestatic 142, 3) := by decide +kernel
theorem dX5_mark_82 : decode cX5_mark 82 = .ok (.ireturn, 1) := by decide +kernel
theorem dX5_mark_83 : decode cX5_mark 83 = .ok (.aload_n 0, 1) := by decide +kernel
theorem dX5_mark_84 : decode cX5_mark 84 = .ok (.getfield 34, 3) := by decide +kernel
theorem dX5_mark_87 : decode cX5_mark 87 = .ok (.iload_n 1, 1) := by decide +kernel
theorem dX5_mark_88 : decode cX5_mark 88 = .ok (.invokevirtual 147, 3) := by decide +kernel
theorem dX5_mark_91 : decode cX5_mark 91 = .ok (.ireturn, 1) := by decide +kernel
theorem dX5_mark_92 : decode cX5_mark 92 = .ok (.aload_n 0, 1) := by decide +kernel
theorem dX5_mark_93 : decode cX5_mark 93 = .ok (.iload_n 1, 1) := by decide +kernel
theorem dX5_mark_94 : decode cX5_mark 94 = .ok (.iload_n 2, 1) := by decide +kernel
theorem dX5_mark_95 : decode cX5_mark 95 = .ok (.invokevirtual 150, 3) := by decide +kernel
theorem dX5_mark_98 : decode cX5_mark 98 = .ok (.ireturn, 1) := by decide +kernel
theorem dX5_pass_0 : decode cX5_pass 0 = .ok (.iload_n 1, 1) := by decide +kernel
theorem dX5_pass_1 : decode cX5_pass 1 = .ok (.invokestatic 153, 3) := by decide +kernel
theorem dX5_pass_4 : decode cX5_pass 4 = .ok (.ifCond .ne 5, 3) := by decide +kernel
theorem dX5_pass_7 : decode cX5_pass 7 = .ok (.iconst (-1), 1) := by decide +kernel
theorem dX5_pass_8 : decode cX5_pass 8 = .ok (.ireturn, 1) := by decide +kernel
theorem dX5_pass_9 : decode cX5_pass 9 = .ok (.aload_n 0, 1) := by decide +kernel
theorem dX5_pass_10 : decode cX5_pass 10 = .ok (.iconst 1, 1) := by decide +kernel
theorem dX5_pass_11 : decode cX5_pass 11 = .ok (.invokevirtual 156, 3) := by decide +kernel
theorem dX5_pass_14 : decode cX5_pass 14 = .ok (.istore_n 2, 1) := by decide +kernel
theorem dX5_pass_15 : decode cX5_pass 15 = .ok (.iload_n 2, 1) := by decide +kernel
theorem dX5_pass_16 : decode cX5_pass 16 = .ok (.ifCond .eq 5, 3) := by decide +kernel
theorem dX5_pass_19 : decode cX5_pass 19 = .ok (.iload_n 2, 1) := by decide +kernel
theorem dX5_pass_20 : decode cX5_pass 20 = .ok (.ireturn, 1) := by decide +kernel
theorem dX5_pass_21 : decode cX5_pass 21 = .ok (.aload_n 0, 1) := by decide +kernel
theorem dX5_pass_22 : decode cX5_pass 22 = .ok (.getfield 34, 3) := by decide +kernel
theorem dX5_pass_25 : decode cX5_pass 25 = .ok (.iconst 0, 1) := by decide +kernel
theorem dX5_pass_26 : decode cX5_pass 26 = .ok (.iload_n 1, 1) := by decide +kernel
theorem dX5_pass_27 : decode cX5_pass 27 = .ok (.iconst 0, 1) := by decide +kernel
theorem dX5_pass_28 : decode cX5_pass 28 = .ok (.iconst 0, 1) := by decide +kernel
theorem dX5_pass_29 : decode cX5_pass 29 = .ok (.invokestatic 159, 3) := by decide +kernel
theorem dX5_pass_32 : decode cX5_pass 32 = .ok (.invokevirtual 163, 3) := by decide +kernel
theorem dX5_pass_35 : decode cX5_pass 35 = .ok (.ireturn, 1) := by decide +kernel
theorem dX5_turn_0 : decode cX5_turn 0 = .ok (.aload_n 0, 1) := by decide +kernel
theorem dX5_turn_1 : decode cX5_turn 1 = .ok (.iconst 1, 1) := by decide +kernel
theorem dX5_turn_2 : decode cX5_turn 2 = .ok (.invokevirtual 156, 3) := by decide +kernel
theorem dX5_turn_5 : decode cX5_turn 5 = .ok (.istore_n 1, 1) := by decide +kernel
theorem dX5_turn_6 : decode cX5_turn 6 = .ok (.iload_n 1, 1) := by decide +kernel
theorem dX5_turn_7 : decode cX5_turn 7 = .ok (.ifCond .eq 5, 3) := by decide +kernel
theorem dX5_turn_10 : decode cX5_turn 10 = .ok (.iload_n 1, 1) := by decide +kernel
theorem dX5_turn_11 : decode cX5_turn 11 = .ok (.ireturn, 1) := by decide +kernel
theorem dX5_turn_12 : decode cX5_turn 12 = .ok (.aload_n 0, 1) := by decide +kernel
theorem dX5_turn_13 : decode cX5_turn 13 = .ok (.getfield 34, 3) := by decide +kernel
theorem dX5_turn_16 : decode cX5_turn 16 = .ok (.iconst 1, 1) := by decide +kernel
theorem dX5_turn_17 : decode cX5_turn 17 = .ok (.iconst 0, 1) := by decide +kernel
theorem dX5_turn_18 : decode cX5_turn 18 = .ok (.iconst 0, 1) := by decide +kernel
theorem dX5_turn_19 : decode cX5_turn 19 = .ok (.iconst 0, 1) := by decide +kernel
theorem dX5_turn_20 : decode cX5_turn 20 = .ok (.invokestatic 159, 3) := by decide +kernel
theorem dX5_turn_23 : decode cX5_turn 23 = .ok (.invokevirtual 163, 3) := by decide +kernel
theorem dX5_turn_26 : decode cX5_turn 26 = .ok (.ireturn, 1) := by decide +kernel
theorem dX5_lift_0 : decode cX5_lift 0 = .ok (.aload_n 0, 1) := by decide +kernel
theorem dX5_lift_1 : decode cX5_lift 1 = .ok (.getfield 34, 3) := by decide +kernel
theorem dX5_lift_4 : decode cX5_lift 4 = .ok (.getfield 123, 3) := by decide +kernel
theorem dX5_lift_7 : decode cX5_lift 7 = .ok (.ifCond .ne 6, 3) := by decide +kernel
theorem dX5_lift_10 : decode cX5_lift 10 = .ok (.bipush (-4), 2) := by decide +kernel
theorem dX5_lift_12 : decode cX5_lift 12 = .ok (.ireturn, 1) := by decide +kernel
theorem dX5_lift_13 : decode cX5_lift 13 = .ok (.iload_n 1, 1) := by decide +kernel
theorem dX5_lift_14 : decode cX5_lift 14 = .ok (.iconst 1, 1) := by decide +kernel
theorem dX5_lift_15 : decode cX5_lift 15 = .ok (.if_icmp .lt 14, 3) := by decide +kernel
theorem dX5_lift_18 : decode cX5_lift 18 = .ok (.iload_n 1, 1) := by decide +kernel
theorem dX5_lift_19 : decode cX5_lift 19 = .ok (.aload_n 0, 1) := by decide +kernel
theorem dX5_lift_20 : decode cX5_lift 20 = .ok (.getfield 34, 3) := by decide +kernel
theorem dX5_lift_23 : decode cX5_lift 23 = .ok (.getfield 123, 3) := by decide +kernel
theorem dX5_lift_26 : decode cX5_lift 26 = .ok (.if_icmp .lt 5, 3) := by decide +kernel
theorem dX5_lift_29 : decode cX5_lift 29 = .ok (.iconst (-1), 1) := by decide +kernel
theorem dX5_lift_30 : decode cX5_lift 30 = .ok (.ireturn, 1) := by decide +kernel
theorem dX5_lift_31 : decode cX5_lift 31 = .ok (.aload_n 0, 1) := by decide +kernel
theorem dX5_lift_32 : decode cX5_lift 32 = .ok (.iconst 1, 1) := by decide +kernel
theorem dX5_lift_33 : decode cX5_lift 33 = .ok (.invokevirtual 156, 3) := by decide +kernel
theorem dX5_lift_36 : decode cX5_lift 36 = .ok (.istore_n 2, 1) := by decide +kernel
theorem dX5_lift_37 : decode cX5_lift 37 = .ok (.iload_n 2, 1) := by decide +kernel
theorem dX5_lift_38 : decode cX5_lift 38 = .ok (.ifCond .eq 5, 3) := by decide +kernel
theorem dX5_lift_41 : decode cX5_lift 41 = .ok (.iload_n 2, 1) := by decide +kernel
theorem dX5_lift_42 : decode cX5_lift 42 = .ok (.ireturn, 1) := by decide +kernel
theorem dX5_lift_43 : decode cX5_lift 43 = .ok (.aload_n 0, 1) := by decide +kernel
theorem dX5_lift_44 : decode cX5_lift 44 = .ok (.getfield 34, 3) := by decide +kernel
theorem dX5_lift_47 : decode cX5_lift 47 = .ok (.iconst 2, 1) := by decide +kernel
theorem dX5_lift_48 : decode cX5_lift 48 = .ok (.iload_n 1, 1) := by decide +kernel
theorem dX5_lift_49 : decode cX5_lift 49 = .ok (.iconst 0, 1) := by decide +kernel
theorem dX5_lift_50 : decode cX5_lift 50 = .ok (.iconst 0, 1) := by decide +kernel
theorem dX5_lift_51 : decode cX5_lift 51 = .ok (.invokestatic 159, 3) := by decide +kernel
theorem dX5_lift_54 : decode cX5_lift 54 = .ok (.invokevirtual 163, 3) := by decide +kernel
theorem dX5_lift_57 : decode cX5_lift 57 = .ok (.ireturn, 1) := by decide +kernel
theorem dX5_punch_0 : decode cX5_punch 0 = .ok (.aload_n 0, 1) := by decide +kernel
theorem dX5_punch_1 : decode cX5_punch 1 = .ok (.iload_n 1, 1) := by decide +kernel
theorem dX5_punch_2 : decode cX5_punch 2 = .ok (.invokevirtual 126, 3) := by decide +kernel
theorem dX5_punch_5 : decode cX5_punch 5 = .ok (.ifCond .eq 20, 3) := by decide +kernel
theorem dX5_punch_8 : decode cX5_punch 8 = .ok (.iload_n 2, 1) := by decide +kernel
theorem dX5_punch_9 : decode cX5_punch 9 = .ok (.invokestatic 153, 3) := by decide +kernel
theorem dX5_punch_12 : decode cX5_punch 12 = .ok (.ifCond .eq 13, 3) := by decide +kernel
theorem dX5_punch_15 : decode cX5_punch 15 = .ok (.iload_n 3, 1) := by decide +kernel
theorem dX5_punch_16 : decode cX5_punch 16 = .ok (.ifCond .lt 9, 3) := by decide +kernel
theorem dX5_punch_19 : decode cX5_punch 19 = .ok (.iload_n 3, 1) := by decide +kernel
theorem dX5_punch_20 : decode cX5_punch 20 = .ok (.bipush 10, 2) := by decide +kernel
theorem dX5_punch_22 : decode cX5_punch 22 = .ok (.if_icmp .lt 5, 3) := by decide +kernel
theorem dX5_punch_25 : decode cX5_punch 25 = .ok (.iconst (-1), 1) := by decide +kernel
