theorem dX5_punch_26 : decode cX5_punch 26 = .ok (.ireturn, 1) := by decide +kernel
theorem dX5_punch_27 : decode cX5_punch 27 = .ok (.aload_n 0, 1) := by decide +kernel
theorem dX5_punch_28 : decode cX5_punch 28 = .ok (.getfield 34, 3) := by decide +kernel
theorem dX5_punch_31 : decode cX5_punch 31 = .ok (.iload_n 1, 1) := by decide +kernel
theorem dX5_punch_32 : decode cX5_punch 32 = .ok (.iload_n 2, 1) := by decide +kernel
theorem dX5_punch_33 : decode cX5_punch 33 = .ok (.invokevirtual 166, 3) := by decide +kernel
theorem dX5_punch_36 : decode cX5_punch 36 = .ok (.istore 4, 2) := by decide +kernel
theorem dX5_punch_38 : decode cX5_punch 38 = .ok (.iload 4, 2) := by decide +kernel
theorem dX5_punch_40 : decode cX5_punch 40 = .ok (.iload_n 3, 1) := by decide +kernel
theorem dX5_punch_41 : decode cX5_punch 41 = .ok (.if_icmp .ne 6, 3) := by decide +kernel
theorem dX5_punch_44 : decode cX5_punch 44 = .ok (.bipush (-4), 2) := by decide +kernel
theorem dX5_punch_46 : decode cX5_punch 46 = .ok (.ireturn, 1) := by decide +kernel
theorem dX5_punch_47 : decode cX5_punch 47 = .ok (.aload_n 0, 1) := by decide +kernel
theorem dX5_punch_48 : decode cX5_punch 48 = .ok (.iconst 1, 1) := by decide +kernel
theorem dX5_punch_49 : decode cX5_punch 49 = .ok (.invokevirtual 156, 3) := by decide +kernel
theorem dX5_punch_52 : decode cX5_punch 52 = .ok (.istore 5, 2) := by decide +kernel
theorem dX5_punch_54 : decode cX5_punch 54 = .ok (.iload 5, 2) := by decide +kernel
theorem dX5_punch_56 : decode cX5_punch 56 = .ok (.ifCond .eq 6, 3) := by decide +kernel
theorem dX5_punch_59 : decode cX5_punch 59 = .ok (.iload 5, 2) := by decide +kernel
theorem dX5_punch_61 : decode cX5_punch 61 = .ok (.ireturn, 1) := by decide +kernel
theorem dX5_punch_62 : decode cX5_punch 62 = .ok (.aload_n 0, 1) := by decide +kernel
theorem dX5_punch_63 : decode cX5_punch 63 = .ok (.getfield 34, 3) := by decide +kernel
theorem dX5_punch_66 : decode cX5_punch 66 = .ok (.iconst 3, 1) := by decide +kernel
theorem dX5_punch_67 : decode cX5_punch 67 = .ok (.iload_n 1, 1) := by decide +kernel
theorem dX5_punch_68 : decode cX5_punch 68 = .ok (.iload_n 2, 1) := by decide +kernel
theorem dX5_punch_69 : decode cX5_punch 69 = .ok (.iload_n 3, 1) := by decide +kernel
theorem dX5_punch_70 : decode cX5_punch 70 = .ok (.invokestatic 159, 3) := by decide +kernel
theorem dX5_punch_73 : decode cX5_punch 73 = .ok (.invokevirtual 163, 3) := by decide +kernel
theorem dX5_punch_76 : decode cX5_punch 76 = .ok (.pop, 1) := by decide +kernel
theorem dX5_punch_77 : decode cX5_punch 77 = .ok (.iload 4, 2) := by decide +kernel
theorem dX5_punch_79 : decode cX5_punch 79 = .ok (.ireturn, 1) := by decide +kernel
theorem dX5_undo_0 : decode cX5_undo 0 = .ok (.iload_n 1, 1) := by decide +kernel
theorem dX5_undo_1 : decode cX5_undo 1 = .ok (.ifCond .lt 14, 3) := by decide +kernel
theorem dX5_undo_4 : decode cX5_undo 4 = .ok (.iload_n 1, 1) := by decide +kernel
theorem dX5_undo_5 : decode cX5_undo 5 = .ok (.aload_n 0, 1) := by decide +kernel
theorem dX5_undo_6 : decode cX5_undo 6 = .ok (.getfield 34, 3) := by decide +kernel
theorem dX5_undo_9 : decode cX5_undo 9 = .ok (.getfield 169, 3) := by decide +kernel
theorem dX5_undo_12 : decode cX5_undo 12 = .ok (.if_icmp .le 5, 3) := by decide +kernel
theorem dX5_undo_15 : decode cX5_undo 15 = .ok (.iconst (-1), 1) := by decide +kernel
theorem dX5_undo_16 : decode cX5_undo 16 = .ok (.ireturn, 1) := by decide +kernel
theorem dX5_undo_17 : decode cX5_undo 17 = .ok (.aload_n 0, 1) := by decide +kernel
theorem dX5_undo_18 : decode cX5_undo 18 = .ok (.getfield 34, 3) := by decide +kernel
theorem dX5_undo_21 : decode cX5_undo 21 = .ok (.getfield 169, 3) := by decide +kernel
theorem dX5_undo_24 : decode cX5_undo 24 = .ok (.iload_n 1, 1) := by decide +kernel
theorem dX5_undo_25 : decode cX5_undo 25 = .ok (.isub, 1) := by decide +kernel
theorem dX5_undo_26 : decode cX5_undo 26 = .ok (.istore_n 2, 1) := by decide +kernel
theorem dX5_undo_27 : decode cX5_undo 27 = .ok (.aload_n 0, 1) := by decide +kernel
theorem dX5_undo_28 : decode cX5_undo 28 = .ok (.getfield 34, 3) := by decide +kernel
theorem dX5_undo_31 : decode cX5_undo 31 = .ok (.iload_n 1, 1) := by decide +kernel
theorem dX5_undo_32 : decode cX5_undo 32 = .ok (.invokevirtual 172, 3) := by decide +kernel
theorem dX5_undo_35 : decode cX5_undo 35 = .ok (.iload_n 2, 1) := by decide +kernel
theorem dX5_undo_36 : decode cX5_undo 36 = .ok (.ireturn, 1) := by decide +kernel
theorem dX5_keep_0 : decode cX5_keep 0 = .ok (.iload_n 1, 1) := by decide +kernel
theorem dX5_keep_1 : decode cX5_keep 1 = .ok (.ifCond .lt 8, 3) := by decide +kernel
theorem dX5_keep_4 : decode cX5_keep 4 = .ok (.iload_n 1, 1) := by decide +kernel
theorem dX5_keep_5 : decode cX5_keep 5 = .ok (.iconst 3, 1) := by decide +kernel
theorem dX5_keep_6 : decode cX5_keep 6 = .ok (.if_icmp .lt 5, 3) := by decide +kernel
theorem dX5_keep_9 : decode cX5_keep 9 = .ok (.iconst (-1), 1) := by decide +kernel
theorem dX5_keep_10 : decode cX5_keep 10 = .ok (.ireturn, 1) := by decide +kernel
theorem dX5_keep_11 : decode cX5_keep 11 = .ok (.aload_n 0, 1) := by decide +kernel
theorem dX5_keep_12 : decode cX5_keep 12 = .ok (.getfield 34, 3) := by decide +kernel
theorem dX5_keep_15 : decode cX5_keep 15 = .ok (.getfield 123, 3) := by decide +kernel
theorem dX5_keep_18 : decode cX5_keep 18 = .ok (.ifCond .ne 6, 3) := by decide +kernel
theorem dX5_keep_21 : decode cX5_keep 21 = .ok (.bipush (-4), 2) := by decide +kernel
theorem dX5_keep_23 : decode cX5_keep 23 = .ok (.ireturn, 1) := by decide +kernel
theorem dX5_keep_24 : decode cX5_keep 24 = .ok (.aload_n 0, 1) := by decide +kernel
theorem dX5_keep_25 : decode cX5_keep 25 = .ok (.getfield 21, 3) := by decide +kernel
theorem dX5_keep_28 : decode cX5_keep 28 = .ok (.iload_n 1, 1) := by decide +kernel
theorem dX5_keep_29 : decode cX5_keep 29 = .ok (.aload_n 0, 1) := by decide +kernel
theorem dX5_keep_30 : decode cX5_keep 30 = .ok (.getfield 34, 3) := by decide +kernel
theorem dX5_keep_33 : decode cX5_keep 33 = .ok (.getfield 169, 3) := by decide +kernel
theorem dX5_keep_36 : decode cX5_keep 36 = .ok (.iconst 0, 1) := by decide +kernel
theorem dX5_keep_37 : decode cX5_keep 37 = .ok (.invokevirtual 78, 3) := by decide +kernel
theorem dX5_keep_40 : decode cX5_keep 40 = .ok (.iconst 0, 1) := by decide +kernel
theorem dX5_keep_41 : decode cX5_keep 41 = .ok (.istore_n 2, 1) := by decide +kernel
theorem dX5_keep_42 : decode cX5_keep 42 = .ok (.iload_n 2, 1) := by decide +kernel
theorem dX5_keep_43 : decode cX5_keep 43 = .ok (.aload_n 0, 1) := by decide +kernel
theorem dX5_keep_44 : decode cX5_keep 44 = .ok (.getfield 34, 3) := by decide +kernel
theorem dX5_keep_47 : decode cX5_keep 47 = .ok (.getfield 169, 3) := by decide +kernel
theorem dX5_keep_50 : decode cX5_keep 50 = .ok (.if_icmp .ge 27, 3) := by decide +kernel
theorem dX5_keep_53 : decode cX5_keep 53 = .ok (.aload_n 0, 1) := by decide +kernel
theorem dX5_keep_54 : decode cX5_keep 54 = .ok (.getfield 21, 3) := by decide +kernel
theorem dX5_keep_57 : decode cX5_keep 57 = .ok (.iload_n 1, 1) := by decide +kernel
theorem dX5_keep_58 : decode cX5_keep 58 = .ok (.iload_n 2, 1) := by decide +kernel
theorem dX5_keep_59 : decode cX5_keep 59 = .ok (.aload_n 0, 1) := by decide +kernel
theorem dX5_keep_60 : decode cX5_keep 60 = .ok (.getfield 34, 3) := by decide +kernel
theorem dX5_keep_63 : decode cX5_keep 63 = .ok (.getfield 175, 3) := by decide +kernel
theorem dX5_keep_66 : decode cX5_keep 66 = .ok (.iload_n 2, 1) := by decide +kernel
theorem dX5_keep_67 : decode cX5_keep 67 = .ok (.iaload, 1) := by decide +kernel
theorem dX5_keep_68 : decode cX5_keep 68 = .ok (.invokevirtual 89, 3) := by decide +kernel
theorem dX5_keep_71 : decode cX5_keep 71 = .ok (.iinc 2 1, 3) := by decide +kernel
theorem dX5_keep_74 : decode cX5_keep 74 = .ok (.goto (-32), 3) := by decide +kernel
theorem dX5_keep_77 : decode cX5_keep 77 = .ok (.aload_n 0, 1) := by decide +kernel
theorem dX5_keep_78 : decode cX5_keep 78 = .ok (.getfield 34, 3) := by decide +kernel
theorem dX5_keep_81 : decode cX5_keep 81 = .ok (.getfield 169, 3) := by decide +kernel
theorem dX5_keep_84 : decode cX5_keep 84 = .ok (.ireturn, 1) := by decide +kernel
theorem dX5_on_0 : decode cX5_on 0 = .ok (.iload_n 1, 1) := by decide +kernel
theorem dX5_on_1 : decode cX5_on 1 = .ok (.ifCond .lt 8, 3) := by decide +kernel
theorem dX5_on_4 : decode cX5_on 4 = .ok (.iload_n 1, 1) := by decide +kernel
theorem dX5_on_5 : decode cX5_on 5 = .ok (.iconst 3, 1) := by decide +kernel
theorem dX5_on_6 : decode cX5_on 6 = .ok (.if_icmp .lt 5, 3) := by decide +kernel
theorem dX5_on_9 : decode cX5_on 9 = .ok (.iconst (-1), 1) := by decide +kernel
theorem dX5_on_10 : decode cX5_on 10 = .ok (.ireturn, 1) := by decide +kernel
theorem dX5_on_11 : decode cX5_on 11 = .ok (.aload_n 0, 1) := by decide +kernel
theorem dX5_on_12 : decode cX5_on 12 = .ok (.getfield 21, 3) := by decide +kernel
theorem dX5_on_15 : decode cX5_on 15 = .ok (.iload_n 1, 1) := by decide +kernel
theorem dX5_on_16 : decode cX5_on 16 = .ok (.invokevirtual 99, 3) := by decide +kernel
theorem dX5_on_19 : decode cX5_on 19 = .ok (.ifCond .ne 9, 3) := by decide +kernel
theorem dX5_on_22 : decode cX5_on 22 = .ok (.aload_n 0, 1) := by decide +kernel
theorem dX5_on_23 : decode cX5_on 23 = .ok (.iconst 1, 1) := by decide +kernel
theorem dX5_on_24 : decode cX5_on 24 = .ok (.invokevirtual 74, 3) := by decide +kernel
theorem dX5_on_27 : decode cX5_on 27 = .ok (.ireturn, 1) := by decide +kernel
theorem dX5_on_28 : decode cX5_on 28 = .ok (.aload_n 0, 1) := by decide +kernel
theorem dX5_on_29 : decode cX5_on 29 = .ok (.getfield 21, 3) := by decide +kernel
theorem dX5_on_32 : decode cX5_on 32 = .ok (.iload_n 1, 1) := by decide +kernel
theorem dX5_on_33 : decode cX5_on 33 = .ok (.invokevirtual 106, 3) := by decide +kernel
theorem dX5_on_36 : decode cX5_on 36 = .ok (.istore_n 2, 1) := by decide +kernel
theorem dX5_on_37 : decode cX5_on 37 = .ok (.iconst 0, 1) := by decide +kernel
theorem dX5_on_38 : decode cX5_on 38 = .ok (.istore_n 3, 1) := by decide +kernel
theorem dX5_on_39 : decode cX5_on 39 = .ok (.iload_n 3, 1) := by decide +kernel
theorem dX5_on_40 : decode cX5_on 40 = .ok (.iload_n 2, 1) := by decide +kernel
theorem dX5_on_41 : decode cX5_on 41 = .ok (.if_icmp .ge 27, 3) := by decide +kernel
theorem dX5_on_44 : decode cX5_on 44 = .ok (.aload_n 0, 1) := by decide +kernel
theorem dX5_on_45 : decode cX5_on 45 = .ok (.getfield 34, 3) := by decide +kernel
theorem dX5_on_48 : decode cX5_on 48 = .ok (.getfield 175, 3) := by decide +kernel
theorem dX5_on_51 : decode cX5_on 51 = .ok (.iload_n 3, 1) := by decide +kernel
theorem dX5_on_52 : decode cX5_on 52 = .ok (.aload_n 0, 1) := by decide +kernel
theorem dX5_on_53 : decode cX5_on 53 = .ok (.getfield 21, 3) := by decide +kernel
theorem dX5_on_56 : decode cX5_on 56 = .ok (.iload_n 1, 1) := by decide +kernel
theorem dX5_on_57 : decode cX5_on 57 = .ok (.iload_n 3, 1) := by decide +kernel
theorem dX5_on_58 : decode cX5_on 58 = .ok (.invokevirtual 86, 3) := by decide +kernel
theorem dX5_on_61 : decode cX5_on 61 = .ok (.iastore, 1) := by decide +kernel
theorem dX5_on_62 : decode cX5_on 62 = .ok (.iinc 3 1, 3) := by decide +kernel
theorem dX5_on_65 : decode cX5_on 65 = .ok (.goto (-26), 3) := by decide +kernel
theorem dX5_on_68 : decode cX5_on 68 = .ok (.aload_n 0, 1) := by decide +kernel
theorem dX5_on_69 : decode cX5_on 69 = .ok (.getfield 34, 3) := by decide +kernel
theorem dX5_on_72 : decode cX5_on 72 = .ok (.iload_n 2, 1) := by decide +kernel
theorem dX5_on_73 : decode cX5_on 73 = .ok (.invokevirtual 172, 3) := by decide +kernel
theorem dX5_on_76 : decode cX5_on 76 = .ok (.iload_n 2, 1) := by decide +kernel
theorem dX5_on_77 : decode cX5_on 77 = .ok (.ireturn, 1) := by decide +kernel
theorem dX5_pocket_0 : decode cX5_pocket 0 = .ok (.aload_n 0, 1) := by decide +kernel
theorem dX5_pocket_1 : decode cX5_pocket 1 = .ok (.iload_n 1, 1) := by decide +kernel
theorem dX5_pocket_2 : decode cX5_pocket 2 = .ok (.invokevirtual 126, 3) := by decide +kernel
theorem dX5_pocket_5 : decode cX5_pocket 5 = .ok (.ifCond .eq 20, 3) := by decide +kernel
theorem dX5_pocket_8 : decode cX5_pocket 8 = .ok (.iload_n 2, 1) := by decide +kernel
theorem dX5_pocket_9 : decode cX5_pocket 9 = .ok (.invokestatic 153, 3) := by decide +kernel
theorem dX5_pocket_12 : decode cX5_pocket 12 = .ok (.ifCond .eq 13, 3) := by decide +kernel
theorem dX5_pocket_15 : decode cX5_pocket 15 = .ok (.iload_n 3, 1) := by decide +kernel
theorem dX5_pocket_16 : decode cX5_pocket 16 = .ok (.ifCond .lt 9, 3) := by decide +kernel
theorem dX5_pocket_19 : decode cX5_pocket 19 = .ok (.iload_n 3, 1) := by decide +kernel
theorem dX5_pocket_20 : decode cX5_pocket 20 = .ok (.bipush 60, 2) := by decide +kernel
theorem dX5_pocket_22 : decode cX5_pocket 22 = .ok (.if_icmp .le 5, 3) := by decide +kernel
theorem dX5_pocket_25 : decode cX5_pocket 25 = .ok (.iconst (-1), 1) := by decide +kernel
theorem dX5_pocket_26 : decode cX5_pocket 26 = .ok (.ireturn, 1) := by decide +kernel
theorem dX5_pocket_27 : decode cX5_pocket 27 = .ok (.aload_n 0, 1) := by decide +kernel
theorem dX5_pocket_28 : decode cX5_pocket 28 = .ok (.getfield 34, 3) := by decide +kernel
theorem dX5_pocket_31 : decode cX5_pocket 31 = .ok (.iload_n 1, 1) := by decide +kernel
theorem dX5_pocket_32 : decode cX5_pocket 32 = .ok (.iload_n 2, 1) := by decide +kernel
theorem dX5_pocket_33 : decode cX5_pocket 33 = .ok (.iload_n 3, 1) := by decide +kernel
theorem dX5_pocket_34 : decode cX5_pocket 34 = .ok (.invokevirtual 178, 3) := by decide +kernel
theorem dX5_pocket_37 : decode cX5_pocket 37 = .ok (.ireturn, 1) := by decide +kernel
theorem dX5_run_0 : decode cX5_run 0 = .ok (.iload_n 1, 1) := by decide +kernel
theorem dX5_run_1 : decode cX5_run 1 = .ok (.invokestatic 70, 3) := by decide +kernel
theorem dX5_run_4 : decode cX5_run 4 = .ok (.ifCond .eq 10, 3) := by decide +kernel
theorem dX5_run_7 : decode cX5_run 7 = .ok (.iload_n 2, 1) := by decide +kernel
theorem dX5_run_8 : decode cX5_run 8 = .ok (.invokestatic 70, 3) := by decide +kernel
theorem dX5_run_11 : decode cX5_run 11 = .ok (.ifCond .ne 5, 3) := by decide +kernel
theorem dX5_run_14 : decode cX5_run 14 = .ok (.iconst (-1), 1) := by decide +kernel
theorem dX5_run_15 : decode cX5_run 15 = .ok (.ireturn, 1) := by decide +kernel
theorem dX5_run_16 : decode cX5_run 16 = .ok (.aload_n 0, 1) := by decide +kernel
theorem dX5_run_17 : decode cX5_run 17 = .ok (.getfield 34, 3) := by decide +kernel
theorem dX5_run_20 : decode cX5_run 20 = .ok (.getfield 123, 3) := by decide +kernel
theorem dX5_run_23 : decode cX5_run 23 = .ok (.ifCond .ne 6, 3) := by decide +kernel
theorem dX5_run_26 : decode cX5_run 26 = .ok (.bipush (-4), 2) := by decide +kernel
theorem dX5_run_28 : decode cX5_run 28 = .ok (.ireturn, 1) := by decide +kernel
theorem dX5_run_29 : decode cX5_run 29 = .ok (.aload_n 0, 1) := by decide +kernel
theorem dX5_run_30 : decode cX5_run 30 = .ok (.getfield 14, 3) := by decide +kernel
theorem dX5_run_33 : decode cX5_run 33 = .ok (.iload_n 1, 1) := by decide +kernel
theorem dX5_run_34 : decode cX5_run 34 = .ok (.invokevirtual 99, 3) := by decide +kernel
theorem dX5_run_37 : decode cX5_run 37 = .ok (.ifCond .ne 9, 3) := by decide +kernel
theorem dX5_run_40 : decode cX5_run 40 = .ok (.aload_n 0, 1) := by decide +kernel
theorem dX5_run_41 : decode cX5_run 41 = .ok (.iconst 1, 1) := by decide +kernel
theorem dX5_run_42 : decode cX5_run 42 = .ok (.invokevirtual 74, 3) := by decide +kernel
theorem dX5_run_45 : decode cX5_run 45 = .ok (.ireturn, 1) := by decide +kernel
theorem dX5_run_46 : decode cX5_run 46 = .ok (.aload_n 0, 1) := by decide +kernel
theorem dX5_run_47 : decode cX5_run 47 = .ok (.getfield 14, 3) := by decide +kernel
theorem dX5_run_50 : decode cX5_run 50 = .ok (.iload_n 1, 1) := by decide +kernel
theorem dX5_run_51 : decode cX5_run 51 = .ok (.invokevirtual 106, 3) := by decide +kernel
theorem dX5_run_54 : decode cX5_run 54 = .ok (.bipush 10, 2) := by decide +kernel
theorem dX5_run_56 : decode cX5_run 56 = .ok (.if_icmp .le 9, 3) := by decide +kernel
theorem dX5_run_59 : decode cX5_run 59 = .ok (.aload_n 0, 1) := by decide +kernel
theorem dX5_run_60 : decode cX5_run 60 = .ok (.iconst 5, 1) := by decide +kernel
theorem dX5_run_61 : decode cX5_run 61 = .ok (.invokevirtual 74, 3) := by decide +kernel
theorem dX5_run_64 : decode cX5_run 64 = .ok (.ireturn, 1) := by decide +kernel
theorem dX5_run_65 : decode cX5_run 65 = .ok (.aload_n 0, 1) := by decide +kernel
theorem dX5_run_66 : decode cX5_run 66 = .ok (.iload_n 1, 1) := by decide +kernel
theorem dX5_run_67 : decode cX5_run 67 = .ok (.invokevirtual 182, 3) := by decide +kernel
theorem dX5_run_70 : decode cX5_run 70 = .ok (.ifCond .ne 9, 3) := by decide +kernel
theorem dX5_run_73 : decode cX5_run 73 = .ok (.aload_n 0, 1) := by decide +kernel
theorem dX5_run_74 : decode cX5_run 74 = .ok (.iconst 3, 1) := by decide +kernel
theorem dX5_run_75 : decode cX5_run 75 = .ok (.invokevirtual 74, 3) := by decide +kernel
theorem dX5_run_78 : decode cX5_run 78 = .ok (.ireturn, 1) := by decide +kernel
theorem dX5_run_79 : decode cX5_run 79 = .ok (.aload_n 0, 1) := by decide +kernel
theorem dX5_run_80 : decode cX5_run 80 = .ok (.getfield 41, 3) := by decide +kernel
theorem dX5_run_83 : decode cX5_run 83 = .ok (.aload_n 0, 1) := by decide +kernel
theorem dX5_run_84 : decode cX5_run 84 = .ok (.getfield 34, 3) := by decide +kernel
theorem dX5_run_87 : decode cX5_run 87 = .ok (.aload_n 0, 1) := by decide +kernel
theorem dX5_run_88 : decode cX5_run 88 = .ok (.getfield 14, 3) := by decide +kernel
theorem dX5_run_91 : decode cX5_run 91 = .ok (.iload_n 1, 1) := by decide +kernel
theorem dX5_run_92 : decode cX5_run 92 = .ok (.invokevirtual 185, 3) := by decide +kernel
theorem dX5_run_95 : decode cX5_run 95 = .ok (.astore_n 3, 1) := by decide +kernel
theorem dX5_run_96 : decode cX5_run 96 = .ok (.aload_n 0, 1) := by decide +kernel
theorem dX5_run_97 : decode cX5_run 97 = .ok (.getfield 14, 3) := by decide +kernel
theorem dX5_run_100 : decode cX5_run 100 = .ok (.iload_n 2, 1) := by decide +kernel
theorem dX5_run_101 : decode cX5_run 101 = .ok (.aload_n 3, 1) := by decide +kernel
theorem dX5_run_102 : decode cX5_run 102 = .ok (.aload_n 0, 1) := by decide +kernel
theorem dX5_run_103 : decode cX5_run 103 = .ok (.getfield 34, 3) := by decide +kernel
theorem dX5_run_106 : decode cX5_run 106 = .ok (.getfield 123, 3) := by decide +kernel
theorem dX5_run_109 : decode cX5_run 109 = .ok (.invokevirtual 189, 3) := by decide +kernel
theorem dX5_run_112 : decode cX5_run 112 = .ok (.aload_n 3, 1) := by decide +kernel
theorem dX5_run_113 : decode cX5_run 113 = .ok (.iconst 0, 1) := by decide +kernel
theorem dX5_run_114 : decode cX5_run 114 = .ok (.iaload, 1) := by decide +kernel
theorem dX5_run_115 : decode cX5_run 115 = .ok (.ireturn, 1) := by decide +kernel
theorem dX5_fewest_0 : decode cX5_fewest 0 = .ok (.aload_n 0, 1) := by decide +kernel
theorem dX5_fewest_1 : decode cX5_fewest 1 = .ok (.iload_n 1, 1) := by decide +kernel
theorem dX5_fewest_2 : decode cX5_fewest 2 = .ok (.invokevirtual 126, 3) := by decide +kernel
theorem dX5_fewest_5 : decode cX5_fewest 5 = .ok (.ifCond .eq 18, 3) := by decide +kernel
theorem dX5_fewest_8 : decode cX5_fewest 8 = .ok (.aload_n 0, 1) := by decide +kernel
theorem dX5_fewest_9 : decode cX5_fewest 9 = .ok (.iload_n 2, 1) := by decide +kernel
theorem dX5_fewest_10 : decode cX5_fewest 10 = .ok (.invokevirtual 126, 3) := by decide +kernel
theorem dX5_fewest_13 : decode cX5_fewest 13 = .ok (.ifCond .eq 10, 3) := by decide +kernel
theorem dX5_fewest_16 : decode cX5_fewest 16 = .ok (.iload_n 3, 1) := by decide +kernel
theorem dX5_fewest_17 : decode cX5_fewest 17 = .ok (.invokestatic 70, 3) := by decide +kernel
theorem dX5_fewest_20 : decode cX5_fewest 20 = .ok (.ifCond .ne 5, 3) := by decide +kernel
theorem dX5_fewest_23 : decode cX5_fewest 23 = .ok (.iconst (-1), 1) := by decide +kernel
theorem dX5_fewest_24 : decode cX5_fewest 24 = .ok (.ireturn, 1) := by decide +kernel
theorem dX5_fewest_25 : decode cX5_fewest 25 = .ok (.aload_n 0, 1) := by decide +kernel
theorem dX5_fewest_26 : decode cX5_fewest 26 = .ok (.getfield 41, 3) := by decide +kernel
theorem dX5_fewest_29 : decode cX5_fewest 29 = .ok (.iload_n 1, 1) := by decide +kernel
theorem dX5_fewest_30 : decode cX5_fewest 30 = .ok (.iload_n 2, 1) := by decide +kernel
theorem dX5_fewest_31 : decode cX5_fewest 31 = .ok (.invokevirtual 193, 3) := by decide +kernel
theorem dX5_fewest_34 : decode cX5_fewest 34 = .ok (.aload_n 0, 1) := by decide +kernel
theorem dX5_fewest_35 : decode cX5_fewest 35 = .ok (.iload_n 3, 1) := by decide +kernel
theorem dX5_fewest_36 : decode cX5_fewest 36 = .ok (.invokevirtual 196, 3) := by decide +kernel
theorem dX5_fewest_39 : decode cX5_fewest 39 = .ok (.ireturn, 1) := by decide +kernel
theorem dX5_order_0 : decode cX5_order 0 = .ok (.iload_n 1, 1) := by decide +kernel
theorem dX5_order_1 : decode cX5_order 1 = .ok (.invokestatic 153, 3) := by decide +kernel
theorem dX5_order_4 : decode cX5_order 4 = .ok (.ifCond .eq 10, 3) := by decide +kernel
theorem dX5_order_7 : decode cX5_order 7 = .ok (.iload_n 2, 1) := by decide +kernel
theorem dX5_order_8 : decode cX5_order 8 = .ok (.invokestatic 70, 3) := by decide +kernel
theorem dX5_order_11 : decode cX5_order 11 = .ok (.ifCond .ne 5, 3) := by decide +kernel
theorem dX5_order_14 : decode cX5_order 14 = .ok (.iconst (-1), 1) := by decide +kernel
theorem dX5_order_15 : decode cX5_order 15 = .ok (.ireturn, 1) := by decide +kernel
theorem dX5_order_16 : decode cX5_order 16 = .ok (.aload_n 0, 1) := by decide +kernel
theorem dX5_order_17 : decode cX5_order 17 = .ok (.getfield 34, 3) := by decide +kernel
theorem dX5_order_20 : decode cX5_order 20 = .ok (.getfield 123, 3) := by decide +kernel
theorem dX5_order_23 : decode cX5_order 23 = .ok (.ifCond .ne 6, 3) := by decide +kernel
theorem dX5_order_26 : decode cX5_order 26 = .ok (.bipush (-4), 2) := by decide +kernel
theorem dX5_order_28 : decode cX5_order 28 = .ok (.ireturn, 1) := by decide +kernel
theorem dX5_order_29 : decode cX5_order 29 = .ok (.aload_n 0, 1) := by decide +kernel
theorem dX5_order_30 : decode cX5_order 30 = .ok (.getfield 41, 3) := by decide +kernel
theorem dX5_order_33 : decode cX5_order 33 = .ok (.iload_n 1, 1) := by decide +kernel
theorem dX5_order_34 : decode cX5_order 34 = .ok (.invokevirtual 199, 3) := by decide +kernel
theorem dX5_order_37 : decode cX5_order 37 = .ok (.aload_n 0, 1) := by decide +kernel
theorem dX5_order_38 : decode cX5_order 38 = .ok (.iload_n 2, 1) := by decide +kernel
theorem dX5_order_39 : decode cX5_order 39 = .ok (.invokevirtual 196, 3) := by decide +kernel
theorem dX5_order_42 : decode cX5_order 42 = .ok (.ireturn, 1) := by decide +kernel
theorem dX5_columns_0 : decode cX5_columns 0 = .ok (.iload_n 1, 1) := by decide +kernel
theorem dX5_columns_1 : decode cX5_columns 1 = .ok (.invokestatic 70, 3) := by decide +kernel
theorem dX5_columns_4 : decode cX5_columns 4 = .ok (.ifCond .ne 5, 3) := by decide +kernel
theorem dX5_columns_7 : decode cX5_columns 7 = .ok (.iconst (-1), 1) := by decide +kernel
theorem dX5_columns_8 : decode cX5_columns 8 = .ok (.ireturn, 1) := by decide +kernel
theorem dX5_columns_9 : decode cX5_columns 9 = .ok (.aload_n 0, 1) := by decide +kernel
theorem dX5_columns_10 : decode cX5_columns 10 = .ok (.getfield 34, 3) := by decide +kernel
theorem dX5_columns_13 : decode cX5_columns 13 = .ok (.getfield 123, 3) := by decide +kernel
theorem dX5_columns_16 : decode cX5_columns 16 = .ok (.ifCond .ne 6, 3) := by decide +kernel
theorem dX5_columns_19 : decode cX5_columns 19 = .ok (.bipush (-4), 2) := by decide +kernel
theorem dX5_columns_21 : decode cX5_columns 21 = .ok (.ireturn, 1) := by decide +kernel
theorem dX5_columns_22 : decode cX5_columns 22 = .ok (.aload_n 0, 1) := by decide +kernel
theorem dX5_columns_23 : decode cX5_columns 23 = .ok (.getfield 14, 3) := by decide +kernel
theorem dX5_columns_26 : decode cX5_columns 26 = .ok (.iload_n 1, 1) := by decide +kernel
theorem dX5_columns_27 : decode cX5_columns 27 = .ok (.invokevirtual 99, 3) := by decide +kernel
theorem dX5_columns_30 : decode cX5_columns 30 = .ok (.ifCond .ne 9, 3) := by decide +kernel
theorem dX5_columns_33 : decode cX5_columns 33 = .ok (.aload_n 0, 1) := by decide +kernel
theorem dX5_columns_34 : decode cX5_columns 34 = .ok (.iconst 1, 1) := by decide +kernel
theorem dX5_columns_35 : decode cX5_columns 35 = .ok (.invokevirtual 74, 3) := by decide +kernel
theorem dX5_columns_38 : decode cX5_columns 38 = .ok (.ireturn, 1) := by decide +kernel
theorem dX5_columns_39 : decode cX5_columns 39 = .ok (.aload_n 0, 1) := by decide +kernel
theorem dX5_columns_40 : decode cX5_columns 40 = .ok (.getfield 14, 3) := by decide +kernel
theorem dX5_columns_43 : decode cX5_columns 43 = .ok (.iload_n 1, 1) := by decide +kernel
theorem dX5_columns_44 : decode cX5_columns 44 = .ok (.invokevirtual 106, 3) := by decide +kernel
theorem dX5_columns_47 : decode cX5_columns 47 = .ok (.aload_n 0, 1) := by decide +kernel
theorem dX5_columns_48 : decode cX5_columns 48 = .ok (.getfield 34, 3) := by decide +kernel
theorem dX5_columns_51 : decode cX5_columns 51 = .ok (.getfield 123, 3) := by decide +kernel
theorem dX5_columns_54 : decode cX5_columns 54 = .ok (.if_icmp .eq 9, 3) := by decide +kernel
theorem dX5_columns_57 : decode cX5_columns 57 = .ok (.aload_n 0, 1) := by decide +kernel
theorem dX5_columns_58 : decode cX5_columns 58 = .ok (.iconst 5, 1) := by decide +kernel
theorem dX5_columns_59 : decode cX5_columns 59 = .ok (.invokevirtual 74, 3) := by decide +kernel
theorem dX5_columns_62 : decode cX5_columns 62 = .ok (.ireturn, 1) := by decide +kernel
theorem dX5_columns_63 : decode cX5_columns 63 = .ok (.aload_n 0, 1) := by decide +kernel
theorem dX5_columns_64 : decode cX5_columns 64 = .ok (.iload_n 1, 1) := by decide +kernel
theorem dX5_columns_65 : decode cX5_columns 65 = .ok (.invokevirtual 202, 3) := by decide +kernel
theorem dX5_columns_68 : decode cX5_columns 68 = .ok (.ifCond .ne 9, 3) := by decide +kernel
theorem dX5_columns_71 : decode cX5_columns 71 = .ok (.aload_n 0, 1) := by decide +kernel
theorem dX5_columns_72 : decode cX5_columns 72 = .ok (.iconst 3, 1) := by decide +kernel
theorem dX5_columns_73 : decode cX5_columns 73 = .ok (.invokevirtual 74, 3) := by decide +kernel
theorem dX5_columns_76 : decode cX5_columns 76 = .ok (.ireturn, 1) := by decide +kernel
theorem dX5_columns_77 : decode cX5_columns 77 = .ok (.iconst 0, 1) := by decide +kernel
theorem dX5_columns_78 : decode cX5_columns 78 = .ok (.istore_n 2, 1) := by decide +kernel
theorem dX5_columns_79 : decode cX5_columns 79 = .ok (.iconst 0, 1) := by decide +kernel
theorem dX5_columns_80 : decode cX5_columns 80 = .ok (.istore_n 3, 1) := by decide +kernel
theorem dX5_columns_81 : decode cX5_columns 81 = .ok (.iload_n 3, 1) := by decide +kernel
theorem dX5_columns_82 : decode cX5_columns 82 = .ok (.iconst 3, 1) := by decide +kernel
theorem dX5_columns_83 : decode cX5_columns 83 = .ok (.if_icmp .ge 36, 3) := by decide +kernel
theorem dX5_columns_86 : decode cX5_columns 86 = .ok (.aload_n 0, 1) := by decide +kernel
theorem dX5_columns_87 : decode cX5_columns 87 = .ok (.iload_n 1, 1) := by decide +kernel
theorem dX5_columns_88 : decode cX5_columns 88 = .ok (.aload_n 0, 1) := by decide +kernel
theorem dX5_columns_89 : decode cX5_columns 89 = .ok (.getfield 41, 3) := by decide +kernel
theorem dX5_columns_92 : decode cX5_columns 92 = .ok (.aload_n 0, 1) := by decide +kernel
theorem dX5_columns_93 : decode cX5_columns 93 = .ok (.getfield 34, 3) := by decide +kernel
theorem dX5_columns_96 : decode cX5_columns 96 = .ok (.iload_n 3, 1) := by decide +kernel
theorem dX5_columns_97 : decode cX5_columns 97 = .ok (.iconst 0, 1) := by decide +kernel
theorem dX5_columns_98 : decode cX5_columns 98 = .ok (.invokevirtual 205, 3) := by decide +kernel
theorem dX5_columns_101 : decode cX5_columns 101 = .ok (.invokevirtual 209, 3) := by decide +kernel
theorem dX5_columns_104 : decode cX5_columns 104 = .ok (.ifCond .eq 9, 3) := by decide +kernel
theorem dX5_columns_107 : decode cX5_columns 107 = .ok (.iload_n 2, 1) := by decide +kernel
theorem dX5_columns_108 : decode cX5_columns 108 = .ok (.iconst 1, 1) := by decide +kernel
theorem dX5_columns_109 : decode cX5_columns 109 = .ok (.iload_n 3, 1) := by decide +kernel
theorem dX5_columns_110 : decode cX5_columns 110 = .ok (.ishl, 1) := by decide +kernel
theorem dX5_columns_111 : decode cX5_columns 111 = .ok (.ior, 1) := by decide +kernel
theorem dX5_columns_112 : decode cX5_columns 112 = .ok (.istore_n 2, 1) := by decide +kernel
theorem dX5_columns_113 : decode cX5_columns 113 = .ok (.iinc 3 1, 3) := by decide +kernel
theorem dX5_columns_116 : decode cX5_columns 116 = .ok (.goto (-35), 3) := by decide +kernel
theorem dX5_columns_119 : decode cX5_columns 119 = .ok (.iload_n 2, 1) := by decide +kernel
theorem dX5_columns_120 : decode cX5_columns 120 = .ok (.ireturn, 1) := by decide +kernel
theorem dX5_kinds_0 : decode cX5_kinds 0 = .ok (.aload_n 0, 1) := by decide +kernel
theorem dX5_kinds_1 : decode cX5_kinds 1 = .ok (.iload_n 1, 1) := by decide +kernel
theorem dX5_kinds_2 : decode cX5_kinds 2 = .ok (.iconst 0, 1) := by decide +kernel
theorem dX5_kinds_3 : decode cX5_kinds 3 = .ok (.iload_n 2, 1) := by decide +kernel
theorem dX5_kinds_4 : decode cX5_kinds 4 = .ok (.invokevirtual 213, 3) := by decide +kernel
theorem dX5_kinds_7 : decode cX5_kinds 7 = .ok (.istore_n 3, 1) := by decide +kernel
theorem dX5_kinds_8 : decode cX5_kinds 8 = .ok (.iload_n 3, 1) := by decide +kernel
theorem dX5_kinds_9 : decode cX5_kinds 9 = .ok (.ifCond .eq 5, 3) := by decide +kernel
theorem dX5_kinds_12 : decode cX5_kinds 12 = .ok (.iload_n 3, 1) := by decide +kernel
theorem dX5_kinds_13 : decode cX5_kinds 13 = .ok (.ireturn, 1) := by decide +kernel
theorem dX5_kinds_14 : decode cX5_kinds 14 = .ok (.aload_n 0, 1) := by decide +kernel
theorem dX5_kinds_15 : decode cX5_kinds 15 = .ok (.getfield 48, 3) := by decide +kernel
theorem dX5_kinds_18 : decode cX5_kinds 18 = .ok (.aload_n 0, 1) := by decide +kernel
theorem dX5_kinds_19 : decode cX5_kinds 19 = .ok (.getfield 34, 3) := by decide +kernel
theorem dX5_kinds_22 : decode cX5_kinds 22 = .ok (.iload_n 1, 1) := by decide +kernel
theorem dX5_kinds_23 : decode cX5_kinds 23 = .ok (.aload_n 0, 1) := by decide +kernel
theorem dX5_kinds_24 : decode cX5_kinds 24 = .ok (.getfield 14, 3) := by decide +kernel
theorem dX5_kinds_27 : decode cX5_kinds 27 = .ok (.iload_n 2, 1) := by decide +kernel
theorem dX5_kinds_28 : decode cX5_kinds 28 = .ok (.invokevirtual 216, 3) := by decide +kernel
theorem dX5_kinds_31 : decode cX5_kinds 31 = .ok (.ireturn, 1) := by decide +kernel
theorem dX5_figures_0 : decode cX5_figures 0 = .ok (.aload_n 0, 1) := by decide +kernel
theorem dX5_figures_1 : decode cX5_figures 1 = .ok (.iload_n 1, 1) := by decide +kernel
theorem dX5_figures_2 : decode cX5_figures 2 = .ok (.iload_n 2, 1) := by decide +kernel
theorem dX5_figures_3 : decode cX5_figures 3 = .ok (.iload_n 3, 1) := by decide +kernel
theorem dX5_figures_4 : decode cX5_figures 4 = .ok (.invokevirtual 213, 3) := by decide +kernel
theorem dX5_figures_7 : decode cX5_figures 7 = .ok (.istore 4, 2) := by decide +kernel
theorem dX5_figures_9 : decode cX5_figures 9 = .ok (.iload 4, 2) := by decide +kernel
theorem dX5_figures_11 : decode cX5_figures 11 = .ok (.ifCond .eq 6, 3) := by decide +kernel
theorem dX5_figures_14 : decode cX5_figures 14 = .ok (.iload 4, 2) := by decide +kernel
theorem dX5_figures_16 : decode cX5_figures 16 = .ok (.ireturn, 1) := by decide +kernel
theorem dX5_figures_17 : decode cX5_figures 17 = .ok (.aload_n 0, 1) := by decide +kernel
theorem dX5_figures_18 : decode cX5_figures 18 = .ok (.getfield 48, 3) := by decide +kernel
theorem dX5_figures_21 : decode cX5_figures 21 = .ok (.aload_n 0, 1) := by decide +kernel
theorem dX5_figures_22 : decode cX5_figures 22 = .ok (.getfield 34, 3) := by decide +kernel
theorem dX5_figures_25 : decode cX5_figures 25 = .ok (.iload_n 1, 1) := by decide +kernel
theorem dX5_figures_26 : decode cX5_figures 26 = .ok (.iload_n 2, 1) := by decide +kernel
theorem dX5_figures_27 : decode cX5_figures 27 = .ok (.aload_n 0, 1) := by decide +kernel
theorem dX5_figures_28 : decode cX5_figures 28 = .ok (.getfield 14, 3) := by decide +kernel
theorem dX5_figures_31 : decode cX5_figures 31 = .ok (.iload_n 3, 1) := by decide +kernel
theorem dX5_figures_32 : decode cX5_figures 32 = .ok (.invokevirtual 220, 3) := by decide +kernel
theorem dX5_figures_35 : decode cX5_figures 35 = .ok (.ireturn, 1) := by decide +kernel
theorem dX5_next_0 : decode cX5_next 0 = .ok (.aload_n 0, 1) := by decide +kernel
theorem dX5_next_1 : decode cX5_next 1 = .ok (.iload_n 1, 1) := by decide +kernel
theorem dX5_next_2 : decode cX5_next 2 = .ok (.iconst 0, 1) := by decide +kernel
theorem dX5_next_3 : decode cX5_next 3 = .ok (.iload_n 2, 1) := by decide +kernel
theorem dX5_next_4 : decode cX5_next 4 = .ok (.invokevirtual 213, 3) := by decide +kernel
theorem dX5_next_7 : decode cX5_next 7 = .ok (.istore_n 3, 1) := by decide +kernel
theorem dX5_next_8 : decode cX5_next 8 = .ok (.iload_n 3, 1) := by decide +kernel
theorem dX5_next_9 : decode cX5_next 9 = .ok (.ifCond .eq 5, 3) := by decide +kernel
theorem dX5_next_12 : decode cX5_next 12 = .ok (.iload_n 3, 1) := by decide +kernel
theorem dX5_next_13 : decode cX5_next 13 = .ok (.ireturn, 1) := by decide +kernel
theorem dX5_next_14 : decode cX5_next 14 = .ok (.aload_n 0, 1) := by decide +kernel
theorem dX5_next_15 : decode cX5_next 15 = .ok (.getfield 48, 3) := by decide +kernel
theorem dX5_next_18 : decode cX5_next 18 = .ok (.aload_n 0, 1) := by decide +kernel
theorem dX5_next_19 : decode cX5_next 19 = .ok (.getfield 34, 3) := by decide +kernel
theorem dX5_next_22 : decode cX5_next 22 = .ok (.iload_n 1, 1) := by decide +kernel
theorem dX5_next_23 : decode cX5_next 23 = .ok (.aload_n 0, 1) := by decide +kernel
theorem dX5_next_24 : decode cX5_next 24 = .ok (.getfield 14, 3) := by decide +kernel
theorem dX5_next_27 : decode cX5_next 27 = .ok (.iload_n 2, 1) := by decide +kernel
theorem dX5_next_28 : decode cX5_next 28 = .ok (.invokevirtual 216, 3) := by decide +kernel
theorem dX5_next_31 : decode cX5_next 31 = .ok (.istore 4, 2) := by decide +kernel
theorem dX5_next_33 : decode cX5_next 33 = .ok (.iload 4, 2) := by decide +kernel
theorem dX5_next_35 : decode cX5_next 35 = .ok (.ifCond .ne 6, 3) := by decide +kernel
theorem dX5_next_38 : decode cX5_next 38 = .ok (.bipush (-9), 2) := by decide +kernel
theorem dX5_next_40 : decode cX5_next 40 = .ok (.ireturn, 1) := by decide +kernel
theorem dX5_next_41 : decode cX5_next 41 = .ok (.iconst 0, 1) := by decide +kernel
theorem dX5_next_42 : decode cX5_next 42 = .ok (.istore 5, 2) := by decide +kernel
theorem dX5_next_44 : decode cX5_next 44 = .ok (.aload_n 0, 1) := by decide +kernel
theorem dX5_next_45 : decode cX5_next 45 = .ok (.getfield 48, 3) := by decide +kernel
theorem dX5_next_48 : decode cX5_next 48 = .ok (.aload_n 0, 1) := by decide +kernel
theorem dX5_next_49 : decode cX5_next 49 = .ok (.getfield 34, 3) := by decide +kernel
theorem dX5_next_52 : decode cX5_next 52 = .ok (.iload_n 1, 1) := by decide +kernel
theorem dX5_next_53 : decode cX5_next 53 = .ok (.iconst 0, 1) := by decide +kernel
theorem dX5_next_54 : decode cX5_next 54 = .ok (.iload 4, 2) := by decide +kernel
theorem dX5_next_56 : decode cX5_next 56 = .ok (.invokevirtual 224, 3) := by decide +kernel
theorem dX5_next_59 : decode cX5_next 59 = .ok (.istore 6, 2) := by decide +kernel
theorem dX5_next_61 : decode cX5_next 61 = .ok (.iconst 1, 1) := by decide +kernel
theorem dX5_next_62 : decode cX5_next 62 = .ok (.istore 7, 2) := by decide +kernel
theorem dX5_next_64 : decode cX5_next 64 = .ok (.iload 7, 2) := by decide +kernel
theorem dX5_next_66 : decode cX5_next 66 = .ok (.iconst 3, 1) := by decide +kernel
theorem dX5_next_67 : decode cX5_next 67 = .ok (.if_icmp .ge 42, 3) := by decide +kernel
theorem dX5_next_70 : decode cX5_next 70 = .ok (.aload_n 0, 1) := by decide +kernel
theorem dX5_next_71 : decode cX5_next 71 = .ok (.getfield 48, 3) := by decide +kernel
theorem dX5_next_74 : decode cX5_next 74 = .ok (.aload_n 0, 1) := by decide +kernel
theorem dX5_next_75 : decode cX5_next 75 = .ok (.getfield 34, 3) := by decide +kernel
theorem dX5_next_78 : decode cX5_next 78 = .ok (.iload_n 1, 1) := by decide +kernel
theorem dX5_next_79 : decode cX5_next 79 = .ok (.iload 7, 2) := by decide +kernel
theorem dX5_next_81 : decode cX5_next 81 = .ok (.iload 4, 2) := by decide +kernel
theorem dX5_next_83 : decode cX5_next 83 = .ok (.invokevirtual 224, 3) := by decide +kernel
theorem dX5_next_86 : decode cX5_next 86 = .ok (.istore 8, 2) := by decide +kernel
theorem dX5_next_88 : decode cX5_next 88 = .ok (.iload 8, 2) := by decide +kernel
theorem dX5_next_90 : decode cX5_next 90 = .ok (.iload 6, 2) := by decide +kernel
theorem dX5_next_92 : decode cX5_next 92 = .ok (.if_icmp .ge 11, 3) := by decide +kernel
theorem dX5_next_95 : decode cX5_next 95 = .ok (.iload 8, 2) := by decide +kernel
theorem dX5_next_97 : decode cX5_next 97 = .ok (.istore 6, 2) := by decide +kernel
theorem dX5_next_99 : decode cX5_next 99 = .ok (.iload 7, 2) := by decide +kernel
theorem dX5_next_101 : decode cX5_next 101 = .ok (.istore 5, 2) := by decide +kernel
theorem dX5_next_103 : decode cX5_next 103 = .ok (.iinc 7 1, 3) := by decide +kernel
theorem dX5_next_106 : decode cX5_next 106 = .ok (.goto (-42), 3) := by decide +kernel
theorem dX5_next_109 : decode cX5_next 109 = .ok (.aload_n 0, 1) := by decide +kernel
theorem dX5_next_110 : decode cX5_next 110 = .ok (.iload 6, 2) := by decide +kernel
theorem dX5_next_112 : decode cX5_next 112 = .ok (.putfield 60, 3) := by decide +kernel
theorem dX5_next_115 : decode cX5_next 115 = .ok (.iload 5, 2) := by decide +kernel
theorem dX5_next_117 : decode cX5_next 117 = .ok (.ireturn, 1) := by decide +kernel
theorem dX5_sets_0 : decode cX5_sets 0 = .ok (.aload_n 0, 1) := by decide +kernel
theorem dX5_sets_1 : decode cX5_sets 1 = .ok (.iload_n 1, 1) := by decide +kernel
theorem dX5_sets_2 : decode cX5_sets 2 = .ok (.iload_n 2, 1) := by decide +kernel
theorem dX5_sets_3 : decode cX5_sets 3 = .ok (.invokevirtual 228, 3) := by decide +kernel
theorem dX5_sets_6 : decode cX5_sets 6 = .ok (.istore_n 3, 1) := by decide +kernel
theorem dX5_sets_7 : decode cX5_sets 7 = .ok (.iload_n 3, 1) := by decide +kernel
theorem dX5_sets_8 : decode cX5_sets 8 = .ok (.ifCond .eq 5, 3) := by decide +kernel
theorem dX5_sets_11 : decode cX5_sets 11 = .ok (.iload_n 3, 1) := by decide +kernel
theorem dX5_sets_12 : decode cX5_sets 12 = .ok (.ireturn, 1) := by decide +kernel
theorem dX5_sets_13 : decode cX5_sets 13 = .ok (.iconst 0, 1) := by decide +kernel
theorem dX5_sets_14 : decode cX5_sets 14 = .ok (.istore 4, 2) := by decide +kernel
theorem dX5_sets_16 : decode cX5_sets 16 = .ok (.bipush (-9), 2) := by decide +kernel
theorem dX5_sets_18 : decode cX5_sets 18 = .ok (.istore 5, 2) := by decide +kernel
theorem dX5_sets_20 : decode cX5_sets 20 = .ok (.iconst 0, 1) := by decide +kernel
theorem dX5_sets_21 : decode cX5_sets 21 = .ok (.istore 6, 2) := by decide +kernel
theorem dX5_sets_23 : decode cX5_sets 23 = .ok (.iload 6, 2) := by decide +kernel
theorem dX5_sets_25 : decode cX5_sets 25 = .ok (.iconst 1, 1) := by decide +kernel
theorem dX5_sets_26 : decode cX5_sets 26 = .ok (.aload_n 0, 1) := by decide +kernel
theorem dX5_sets_27 : decode cX5_sets 27 = .ok (.getfield 34, 3) := by decide +kernel
theorem dX5_sets_30 : decode cX5_sets 30 = .ok (.getfield 123, 3) := by decide +kernel
theorem dX5_sets_33 : decode cX5_sets 33 = .ok (.ishl, 1) := by decide +kernel
theorem dX5_sets_34 : decode cX5_sets 34 = .ok (.if_icmp .ge 37, 3) := by decide +kernel
theorem dX5_sets_37 : decode cX5_sets 37 = .ok (.aload_n 0, 1) := by decide +kernel
theorem dX5_sets_38 : decode cX5_sets 38 = .ok (.getfield 34, 3) := by decide +kernel
theorem dX5_sets_41 : decode cX5_sets 41 = .ok (.iload 6, 2) := by decide +kernel
theorem dX5_sets_43 : decode cX5_sets 43 = .ok (.iload_n 1, 1) := by decide +kernel
theorem dX5_sets_44 : decode cX5_sets 44 = .ok (.invokevirtual 231, 3) := by decide +kernel
theorem dX5_sets_47 : decode cX5_sets 47 = .ok (.iload_n 2, 1) := by decide +kernel
theorem dX5_sets_48 : decode cX5_sets 48 = .ok (.if_icmp .ne 17, 3) := by decide +kernel
theorem dX5_sets_51 : decode cX5_sets 51 = .ok (.iinc 4 1, 3) := by decide +kernel
theorem dX5_sets_54 : decode cX5_sets 54 = .ok (.iload 5, 2) := by decide +kernel
theorem dX5_sets_56 : decode cX5_sets 56 = .ok (.bipush (-9), 2) := by decide +kernel
theorem dX5_sets_58 : decode cX5_sets 58 = .ok (.if_icmp .ne 7, 3) := by decide +kernel
theorem dX5_sets_61 : decode cX5_sets 61 = .ok (.iload 6, 2) := by decide +kernel
theorem dX5_sets_63 : decode cX5_sets 63 = .ok (.istore 5, 2) := by decide +kernel
theorem dX5_sets_65 : decode cX5_sets 65 = .ok (.iinc 6 1, 3) := by decide +kernel
theorem dX5_sets_68 : decode cX5_sets 68 = .ok (.goto (-45), 3) := by decide +kernel
theorem dX5_sets_71 : decode cX5_sets 71 = .ok (.aload_n 0, 1) := by decide +kernel
theorem dX5_sets_72 : decode cX5_sets 72 = .ok (.iload 5, 2) := by decide +kernel
theorem dX5_sets_74 : decode cX5_sets 74 = .ok (.putfield 60, 3) := by decide +kernel
theorem dX5_sets_77 : decode cX5_sets 77 = .ok (.aload_n 0, 1) := by decide +kernel
theorem dX5_sets_78 : decode cX5_sets 78 = .ok (.iload 4, 2) := by decide +kernel
theorem dX5_sets_80 : decode cX5_sets 80 = .ok (.i2l, 1) := by decide +kernel
theorem dX5_sets_81 : decode cX5_sets 81 = .ok (.lconst 1, 1) := by decide +kernel
theorem dX5_sets_82 : decode cX5_sets 82 = .ok (.invokevirtual 234, 3) := by decide +kernel
theorem dX5_sets_85 : decode cX5_sets 85 = .ok (.iconst 1, 1) := by decide +kernel
theorem dX5_sets_86 : decode cX5_sets 86 = .ok (.ireturn, 1) := by decide +kernel
theorem dX5_sure_0 : decode cX5_sure 0 = .ok (.aload_n 0, 1) := by decide +kernel
theorem dX5_sure_1 : decode cX5_sure 1 = .ok (.iload_n 1, 1) := by decide +kernel
theorem dX5_sure_2 : decode cX5_sure 2 = .ok (.iload_n 2, 1) := by decide +kernel
theorem dX5_sure_3 : decode cX5_sure 3 = .ok (.invokevirtual 228, 3) := by decide +kernel
theorem dX5_sure_6 : decode cX5_sure 6 = .ok (.istore_n 3, 1) := by decide +kernel
theorem dX5_sure_7 : decode cX5_sure 7 = .ok (.iload_n 3, 1) := by decide +kernel
theorem dX5_sure_8 : decode cX5_sure 8 = .ok (.ifCond .eq 5, 3) := by decide +kernel
theorem dX5_sure_11 : decode cX5_sure 11 = .ok (.iload_n 3, 1) := by decide +kernel
theorem dX5_sure_12 : decode cX5_sure 12 = .ok (.ireturn, 1) := by decide +kernel
theorem dX5_sure_13 : decode cX5_sure 13 = .ok (.iconst 1, 1) := by decide +kernel
theorem dX5_sure_14 : decode cX5_sure 14 = .ok (.aload_n 0, 1) := by decide +kernel
theorem dX5_sure_15 : decode cX5_sure 15 = .ok (.getfield 34, 3) := by decide +kernel
theorem dX5_sure_18 : decode cX5_sure 18 = .ok (.getfield 123, 3) := by decide +kernel
theorem dX5_sure_21 : decode cX5_sure 21 = .ok (.ishl, 1) := by decide +kernel
theorem dX5_sure_22 : decode cX5_sure 22 = .ok (.iconst 1, 1) := by decide +kernel
theorem dX5_sure_23 : decode cX5_sure 23 = .ok (.isub, 1) := by decide +kernel
theorem dX5_sure_24 : decode cX5_sure 24 = .ok (.istore 4, 2) := by decide +kernel
theorem dX5_sure_26 : decode cX5_sure 26 = .ok (.iload 4, 2) := by decide +kernel
theorem dX5_sure_28 : decode cX5_sure 28 = .ok (.istore 5, 2) := by decide +kernel
theorem dX5_sure_30 : decode cX5_sure 30 = .ok (.iconst 0, 1) := by decide +kernel
theorem dX5_sure_31 : decode cX5_sure 31 = .ok (.istore 6, 2) := by decide +kernel
theorem dX5_sure_33 : decode cX5_sure 33 = .ok (.iconst 0, 1) := by decide +kernel
theorem dX5_sure_34 : decode cX5_sure 34 = .ok (.istore 7, 2) := by decide +kernel
theorem dX5_sure_36 : decode cX5_sure 36 = .ok (.iconst 0, 1) := by decide +kernel
theorem dX5_sure_37 : decode cX5_sure 37 = .ok (.istore 8, 2) := by decide +kernel
theorem dX5_sure_39 : decode cX5_sure 39 = .ok (.iload 8, 2) := by decide +kernel
theorem dX5_sure_41 : decode cX5_sure 41 = .ok (.iload 4, 2) := by decide +kernel
theorem dX5_sure_43 : decode cX5_sure 43 = .ok (.if_icmp .gt 40, 3) := by decide +kernel
theorem dX5_sure_46 : decode cX5_sure 46 = .ok (.aload_n 0, 1) := by decide +kernel
theorem dX5_sure_47 : decode cX5_sure 47 = .ok (.getfield 34, 3) := by decide +kernel
theorem dX5_sure_50 : decode cX5_sure 50 = .ok (.iload 8, 2) := by decide +kernel
theorem dX5_sure_52 : decode cX5_sure 52 = .ok (.iload_n 1, 1) := by decide +kernel
theorem dX5_sure_53 : decode cX5_sure 53 = .ok (.invokevirtual 231, 3) := by decide +kernel
theorem dX5_sure_56 : decode cX5_sure 56 = .ok (.iload_n 2, 1) := by decide +kernel
theorem dX5_sure_57 : decode cX5_sure 57 = .ok (.if_icmp .ne 20, 3) := by decide +kernel
theorem dX5_sure_60 : decode cX5_sure 60 = .ok (.iconst 1, 1) := by decide +kernel
theorem dX5_sure_61 : decode cX5_sure 61 = .ok (.istore 7, 2) := by decide +kernel
theorem dX5_sure_63 : decode cX5_sure 63 = .ok (.iload 5, 2) := by decide +kernel
theorem dX5_sure_65 : decode cX5_sure 65 = .ok (.iload 8, 2) := by decide +kernel
theorem dX5_sure_67 : decode cX5_sure 67 = .ok (.iand, 1) := by decide +kernel
theorem dX5_sure_68 : decode cX5_sure 68 = .ok (.istore 5, 2) := by decide +kernel
theorem dX5_sure_70 : decode cX5_sure 70 = .ok (.iload 6, 2) := by decide +kernel
theorem dX5_sure_72 : decode cX5_sure 72 = .ok (.iload 8, 2) := by decide +kernel
theorem dX5_sure_74 : decode cX5_sure 74 = .ok (.ior, 1) := by decide +kernel
theorem dX5_sure_75 : decode cX5_sure 75 = .ok (.istore 6, 2) := by decide +kernel
theorem dX5_sure_77 : decode cX5_sure 77 = .ok (.iinc 8 1, 3) := by decide +kernel
theorem dX5_sure_80 : decode cX5_sure 80 = .ok (.goto (-41), 3) := by decide +kernel
theorem dX5_sure_83 : decode cX5_sure 83 = .ok (.iload 7, 2) := by decide +kernel
theorem dX5_sure_85 : decode cX5_sure 85 = .ok (.ifCond .ne 9, 3) := by decide +kernel
theorem dX5_sure_88 : decode cX5_sure 88 = .ok (.aload_n 0, 1) := by decide +kernel
theorem dX5_sure_89 : decode cX5_sure 89 = .ok (.iconst 4, 1) := by decide +kernel
theorem dX5_sure_90 : decode cX5_sure 90 = .ok (.invokevirtual 74, 3) := by decide +kernel
theorem dX5_sure_93 : decode cX5_sure 93 = .ok (.ireturn, 1) := by decide +kernel
theorem dX5_sure_94 : decode cX5_sure 94 = .ok (.aload_n 0, 1) := by decide +kernel
theorem dX5_sure_95 : decode cX5_sure 95 = .ok (.iload 4, 2) := by decide +kernel
theorem dX5_sure_97 : decode cX5_sure 97 = .ok (.iload 6, 2) := by decide +kernel
theorem dX5_sure_99 : decode cX5_sure 99 = .ok (.iconst (-1), 1) := by decide +kernel
theorem dX5_sure_100 : decode cX5_sure 100 = .ok (.ixor, 1) := by decide +kernel
theorem dX5_sure_101 : decode cX5_sure 101 = .ok (.iand, 1) := by decide +kernel
theorem dX5_sure_102 : decode cX5_sure 102 = .ok (.putfield 60, 3) := by decide +kernel
theorem dX5_sure_105 : decode cX5_sure 105 = .ok (.iload 5, 2) := by decide +kernel
theorem dX5_sure_107 : decode cX5_sure 107 = .ok (.ireturn, 1) := by decide +kernel
theorem dX5_duel_0 : decode cX5_duel 0 = .ok (.aload_n 0, 1) := by decide +kernel
theorem dX5_duel_1 : decode cX5_duel 1 = .ok (.iload_n 1, 1) := by decide +kernel
theorem dX5_duel_2 : decode cX5_duel 2 = .ok (.invokevirtual 126, 3) := by decide +kernel
theorem dX5_duel_5 : decode cX5_duel 5 = .ok (.ifCond .eq 25, 3) := by decide +kernel
theorem dX5_duel_8 : decode cX5_duel 8 = .ok (.aload_n 0, 1) := by decide +kernel
theorem dX5_duel_9 : decode cX5_duel 9 = .ok (.iload_n 2, 1) := by decide +kernel
theorem dX5_duel_10 : decode cX5_duel 10 = .ok (.invokevirtual 126, 3) := by decide +kernel
theorem dX5_duel_13 : decode cX5_duel 13 = .ok (.ifCond .eq 17, 3) := by decide +kernel
theorem dX5_duel_16 : decode cX5_duel 16 = .ok (.iload_n 1, 1) := by decide +kernel
theorem dX5_duel_17 : decode cX5_duel 17 = .ok (.iload_n 2, 1) := by decide +kernel
theorem dX5_duel_18 : decode cX5_duel 18 = .ok (.if_icmp .eq 12, 3) := by decide +kernel
theorem dX5_duel_21 : decode cX5_duel 21 = .ok (.iload_n 3, 1) := by decide +kernel
theorem dX5_duel_22 : decode cX5_duel 22 = .ok (.ifCond .lt 8, 3) := by decide +kernel
theorem dX5_duel_25 : decode cX5_duel 25 = .ok (.iload_n 3, 1) := by decide +kernel
theorem dX5_duel_26 : decode cX5_duel 26 = .ok (.iconst 3, 1) := by decide +kernel
theorem dX5_duel_27 : decode cX5_duel 27 = .ok (.if_icmp .le 5, 3) := by decide +kernel
theorem dX5_duel_30 : decode cX5_duel 30 = .ok (.iconst (-1), 1) := by decide +kernel
theorem dX5_duel_31 : decode cX5_duel 31 = .ok (.ireturn, 1) := by decide +kernel
theorem dX5_duel_32 : decode cX5_duel 32 = .ok (.aload_n 0, 1) := by decide +kernel
theorem dX5_duel_33 : decode cX5_duel 33 = .ok (.aload_n 0, 1) := by decide +kernel
theorem dX5_duel_34 : decode cX5_duel 34 = .ok (.getfield 41, 3) := by decide +kernel
theorem dX5_duel_37 : decode cX5_duel 37 = .ok (.aload_n 0, 1) := by decide +kernel
theorem dX5_duel_38 : decode cX5_duel 38 = .ok (.getfield 34, 3) := by decide +kernel
theorem dX5_duel_41 : decode cX5_duel 41 = .ok (.iload_n 1, 1) := by decide +kernel
theorem dX5_duel_42 : decode cX5_duel 42 = .ok (.iload_n 2, 1) := by decide +kernel
theorem dX5_duel_43 : decode cX5_duel 43 = .ok (.iload_n 3, 1) := by decide +kernel
theorem dX5_duel_44 : decode cX5_duel 44 = .ok (.invokevirtual 238, 3) := by decide +kernel
theorem dX5_duel_47 : decode cX5_duel 47 = .ok (.putfield 60, 3) := by decide +kernel
theorem dX5_duel_50 : decode cX5_duel 50 = .ok (.iconst 1, 1) := by decide +kernel
theorem dX5_duel_51 : decode cX5_duel 51 = .ok (.ireturn, 1) := by decide +kernel
theorem dX5_odds_0 : decode cX5_odds 0 = .ok (.aload_n 0, 1) := by decide +kernel
theorem dX5_odds_1 : decode cX5_odds 1 = .ok (.iload_n 1, 1) := by decide +kernel
theorem dX5_odds_2 : decode cX5_odds 2 = .ok (.iload_n 2, 1) := by decide +kernel
theorem dX5_odds_3 : decode cX5_odds 3 = .ok (.iload_n 3, 1) := by decide +kernel
theorem dX5_odds_4 : decode cX5_odds 4 = .ok (.invokevirtual 241, 3) := by decide +kernel
theorem dX5_odds_7 : decode cX5_odds 7 = .ok (.ifCond .ne 5, 3) := by decide +kernel
theorem dX5_odds_10 : decode cX5_odds 10 = .ok (.iconst (-1), 1) := by decide +kernel
theorem dX5_odds_11 : decode cX5_odds 11 = .ok (.ireturn, 1) := by decide +kernel
theorem dX5_odds_12 : decode cX5_odds 12 = .ok (.lconst 0, 1) := by decide +kernel
theorem dX5_odds_13 : decode cX5_odds 13 = .ok (.lstore 4, 2) := by decide +kernel
theorem dX5_odds_15 : decode cX5_odds 15 = .ok (.iconst 0, 1) := by decide +kernel
theorem dX5_odds_16 : decode cX5_odds 16 = .ok (.istore 6, 2) := by decide +kernel
theorem dX5_odds_18 : decode cX5_odds 18 = .ok (.iload 6, 2) := by decide +kernel
theorem dX5_odds_20 : decode cX5_odds 20 = .ok (.iconst 1, 1) := by decide +kernel
theorem dX5_odds_21 : decode cX5_odds 21 = .ok (.aload_n 0, 1) := by decide +kernel
theorem dX5_odds_22 : decode cX5_odds 22 = .ok (.getfield 34, 3) := by decide +kernel
theorem dX5_odds_25 : decode cX5_odds 25 = .ok (.getfield 123, 3) := by decide +kernel
theorem dX5_odds_28 : decode cX5_odds 28 = .ok (.ishl, 1) := by decide +kernel
theorem dX5_odds_29 : decode cX5_odds 29 = .ok (.if_icmp .ge 41, 3) := by decide +kernel
theorem dX5_odds_32 : decode cX5_odds 32 = .ok (.aload_n 0, 1) := by decide +kernel
theorem dX5_odds_33 : decode cX5_odds 33 = .ok (.getfield 41, 3) := by decide +kernel
theorem dX5_odds_36 : decode cX5_odds 36 = .ok (.aload_n 0, 1) := by decide +kernel
theorem dX5_odds_37 : decode cX5_odds 37 = .ok (.getfield 34, 3) := by decide +kernel
theorem dX5_odds_40 : decode cX5_odds 40 = .ok (.iload_n 2, 1) := by decide +kernel
theorem dX5_odds_41 : decode cX5_odds 41 = .ok (.iload 6, 2) := by decide +kernel
theorem dX5_odds_43 : decode cX5_odds 43 = .ok (.invokevirtual 205, 3) := by decide +kernel
theorem dX5_odds_46 : decode cX5_odds 46 = .ok (.iconst 0, 1) := by decide +kernel
theorem dX5_odds_47 : decode cX5_odds 47 = .ok (.iaload, 1) := by decide +kernel
theorem dX5_odds_48 : decode cX5_odds 48 = .ok (.iload_n 1, 1) := by decide +kernel
theorem dX5_odds_49 : decode cX5_odds 49 = .ok (.if_icmp .ne 15, 3) := by decide +kernel
theorem dX5_odds_52 : decode cX5_odds 52 = .ok (.lload 4, 2) := by decide +kernel
theorem dX5_odds_54 : decode cX5_odds 54 = .ok (.aload_n 0, 1) := by decide +kernel
theorem dX5_odds_55 : decode cX5_odds 55 = .ok (.iload 6, 2) := by decide +kernel
theorem dX5_odds_57 : decode cX5_odds 57 = .ok (.iload_n 3, 1) := by decide +kernel
theorem dX5_odds_58 : decode cX5_odds 58 = .ok (.invokevirtual 244, 3) := by decide +kernel
theorem dX5_odds_61 : decode cX5_odds 61 = .ok (.ladd, 1) := by decide +kernel
theorem dX5_odds_62 : decode cX5_odds 62 = .ok (.lstore 4, 2) := by decide +kernel
theorem dX5_odds_64 : decode cX5_odds 64 = .ok (.iinc 6 1, 3) := by decide +kernel
theorem dX5_odds_67 : decode cX5_odds 67 = .ok (.goto (-49), 3) := by decide +kernel
theorem dX5_odds_70 : decode cX5_odds 70 = .ok (.aload_n 0, 1) := by decide +kernel
theorem dX5_odds_71 : decode cX5_odds 71 = .ok (.lload 4, 2) := by decide +kernel
theorem dX5_odds_73 : decode cX5_odds 73 = .ok (.aload_n 0, 1) := by decide +kernel
theorem dX5_odds_74 : decode cX5_odds 74 = .ok (.invokevirtual 248, 3) := by decide +kernel
theorem dX5_odds_77 : decode cX5_odds 77 = .ok (.invokevirtual 234, 3) := by decide +kernel
theorem dX5_odds_80 : decode cX5_odds 80 = .ok (.iconst 1, 1) := by decide +kernel
theorem dX5_odds_81 : decode cX5_odds 81 = .ok (.ireturn, 1) := by decide +kernel
theorem dX5_mid_0 : decode cX5_mid 0 = .ok (.aload_n 0, 1) := by decide +kernel
theorem dX5_mid_1 : decode cX5_mid 1 = .ok (.iload_n 1, 1) := by decide +kernel
theorem dX5_mid_2 : decode cX5_mid 2 = .ok (.iload_n 2, 1) := by decide +kernel
theorem dX5_mid_3 : decode cX5_mid 3 = .ok (.iload_n 3, 1) := by decide +kernel
theorem dX5_mid_4 : decode cX5_mid 4 = .ok (.invokevirtual 241, 3) := by decide +kernel
theorem dX5_mid_7 : decode cX5_mid 7 = .ok (.ifCond .ne 5, 3) := by decide +kernel
theorem dX5_mid_10 : decode cX5_mid 10 = .ok (.iconst (-1), 1) := by decide +kernel
theorem dX5_mid_11 : decode cX5_mid 11 = .ok (.ireturn, 1) := by decide +kernel
theorem dX5_mid_12 : decode cX5_mid 12 = .ok (.lconst 0, 1) := by decide +kernel
theorem dX5_mid_13 : decode cX5_mid 13 = .ok (.lstore 4, 2) := by decide +kernel
theorem dX5_mid_15 : decode cX5_mid 15 = .ok (.iconst 0, 1) := by decide +kernel
theorem dX5_mid_16 : decode cX5_mid 16 = .ok (.istore 6, 2) := by decide +kernel
theorem dX5_mid_18 : decode cX5_mid 18 = .ok (.iload 6, 2) := by decide +kernel
theorem dX5_mid_20 : decode cX5_mid 20 = .ok (.iconst 1, 1) := by decide +kernel
theorem dX5_mid_21 : decode cX5_mid 21 = .ok (.aload_n 0, 1) := by decide +kernel
theorem dX5_mid_22 : decode cX5_mid 22 = .ok (.getfield 34, 3) := by decide +kernel
theorem dX5_mid_25 : decode cX5_mid 25 = .ok (.getfield 123, 3) := by decide +kernel
theorem dX5_mid_28 : decode cX5_mid 28 = .ok (.ishl, 1) := by decide +kernel
theorem dX5_mid_29 : decode cX5_mid 29 = .ok (.if_icmp .ge 52, 3) := by decide +kernel
theorem dX5_mid_32 : decode cX5_mid 32 = .ok (.aload_n 0, 1) := by decide +kernel
theorem dX5_mid_33 : decode cX5_mid 33 = .ok (.getfield 41, 3) := by decide +kernel
theorem dX5_mid_36 : decode cX5_mid 36 = .ok (.aload_n 0, 1) := by decide +kernel
theorem dX5_mid_37 : decode cX5_mid 37 = .ok (.getfield 34, 3) := by decide +kernel
theorem dX5_mid_40 : decode cX5_mid 40 = .ok (.iload_n 2, 1) := by decide +kernel
theorem dX5_mid_41 : decode cX5_mid 41 = .ok (.iload 6, 2) := by decide +kernel
theorem dX5_mid_43 : decode cX5_mid 43 = .ok (.invokevirtual 205, 3) := by decide +kernel
theorem dX5_mid_46 : decode cX5_mid 46 = .ok (.iload_n 1, 1) := by decide +kernel
theorem dX5_mid_47 : decode cX5_mid 47 = .ok (.aload_n 0, 1) := by decide +kernel
theorem dX5_mid_48 : decode cX5_mid 48 = .ok (.getfield 34, 3) := by decide +kernel
theorem dX5_mid_51 : decode cX5_mid 51 = .ok (.getfield 123, 3) := by decide +kernel
theorem dX5_mid_54 : decode cX5_mid 54 = .ok (.invokestatic 252, 3) := by decide +kernel
theorem dX5_mid_57 : decode cX5_mid 57 = .ok (.istore 7, 2) := by decide +kernel
theorem dX5_mid_59 : decode cX5_mid 59 = .ok (.lload 4, 2) := by decide +kernel
theorem dX5_mid_61 : decode cX5_mid 61 = .ok (.iload 7, 2) := by decide +kernel
theorem dX5_mid_63 : decode cX5_mid 63 = .ok (.i2l, 1) := by decide +kernel
theorem dX5_mid_64 : decode cX5_mid 64 = .ok (.aload_n 0, 1) := by decide +kernel
theorem dX5_mid_65 : decode cX5_mid 65 = .ok (.iload 6, 2) := by decide +kernel
theorem dX5_mid_67 : decode cX5_mid 67 = .ok (.iload_n 3, 1) := by decide +kernel
theorem dX5_mid_68 : decode cX5_mid 68 = .ok (.invokevirtual 244, 3) := by decide +kernel
theorem dX5_mid_71 : decode cX5_mid 71 = .ok (.lmul, 1) := by decide +kernel
theorem dX5_mid_72 : decode cX5_mid 72 = .ok (.ladd, 1) := by decide +kernel
theorem dX5_mid_73 : decode cX5_mid 73 = .ok (.lstore 4, 2) := by decide +kernel
theorem dX5_mid_75 : decode cX5_mid 75 = .ok (.iinc 6 1, 3) := by decide +kernel
theorem dX5_mid_78 : decode cX5_mid 78 = .ok (.goto (-60), 3) := by decide +kernel
theorem dX5_mid_81 : decode cX5_mid 81 = .ok (.aload_n 0, 1) := by decide +kernel
theorem dX5_mid_82 : decode cX5_mid 82 = .ok (.lload 4, 2) := by decide +kernel
theorem dX5_mid_84 : decode cX5_mid 84 = .ok (.aload_n 0, 1) := by decide +kernel
theorem dX5_mid_85 : decode cX5_mid 85 = .ok (.invokevirtual 248, 3) := by decide +kernel
theorem dX5_mid_88 : decode cX5_mid 88 = .ok (.invokevirtual 234, 3) := by decide +kernel
theorem dX5_mid_91 : decode cX5_mid 91 = .ok (.iconst 1, 1) := by decide +kernel
theorem dX5_mid_92 : decode cX5_mid 92 = .ok (.ireturn, 1) := by decide +kernel
theorem dX5_lots_0 : decode cX5_lots 0 = .ok (.iload_n 1, 1) := by decide +kernel
theorem dX5_lots_1 : decode cX5_lots 1 = .ok (.iconst 1, 1) := by decide +kernel
theorem dX5_lots_2 : decode cX5_lots 2 = .ok (.if_icmp .lt 23, 3) := by decide +kernel
theorem dX5_lots_5 : decode cX5_lots 5 = .ok (.iload_n 1, 1) := by decide +kernel
theorem dX5_lots_6 : decode cX5_lots 6 = .ok (.bipush 20, 2) := by decide +kernel
theorem dX5_lots_8 : decode cX5_lots 8 = .ok (.if_icmp .gt 17, 3) := by decide +kernel
theorem dX5_lots_11 : decode cX5_lots 11 = .ok (.iload_n 2, 1) := by decide +kernel
theorem dX5_lots_12 : decode cX5_lots 12 = .ok (.iconst 1, 1) := by decide +kernel
theorem dX5_lots_13 : decode cX5_lots 13 = .ok (.if_icmp .lt 12, 3) := by decide +kernel
theorem dX5_lots_16 : decode cX5_lots 16 = .ok (.iload_n 2, 1) := by decide +kernel
theorem dX5_lots_17 : decode cX5_lots 17 = .ok (.i2l, 1) := by decide +kernel
theorem dX5_lots_18 : decode cX5_lots 18 = .ok (.ldc2_w 256, 3) := by decide +kernel
theorem dX5_lots_21 : decode cX5_lots 21 = .ok (.lcmp, 1) := by decide +kernel
theorem dX5_lots_22 : decode cX5_lots 22 = .ok (.ifCond .lt 5, 3) := by decide +kernel
theorem dX5_lots_25 : decode cX5_lots 25 = .ok (.iconst (-1), 1) := by decide +kernel
theorem dX5_lots_26 : decode cX5_lots 26 = .ok (.ireturn, 1) := by decide +kernel
theorem dX5_lots_27 : decode cX5_lots 27 = .ok (.aload_n 0, 1) := by decide +kernel
theorem dX5_lots_28 : decode cX5_lots 28 = .ok (.iload_n 1, 1) := by decide +kernel
theorem dX5_lots_29 : decode cX5_lots 29 = .ok (.invokevirtual 156, 3) := by decide +kernel
theorem dX5_lots_32 : decode cX5_lots 32 = .ok (.istore_n 3, 1) := by decide +kernel
theorem dX5_lots_33 : decode cX5_lots 33 = .ok (.iload_n 3, 1) := by decide +kernel
theorem dX5_lots_34 : decode cX5_lots 34 = .ok (.ifCond .eq 5, 3) := by decide +kernel
theorem dX5_lots_37 : decode cX5_lots 37 = .ok (.iload_n 3, 1) := by decide +kernel
theorem dX5_lots_38 : decode cX5_lots 38 = .ok (.ireturn, 1) := by decide +kernel
theorem dX5_lots_39 : decode cX5_lots 39 = .ok (.iload_n 2, 1) := by decide +kernel
theorem dX5_lots_40 : decode cX5_lots 40 = .ok (.i2l, 1) := by decide +kernel
theorem dX5_lots_41 : decode cX5_lots 41 = .ok (.lstore 4, 2) := by decide +kernel
theorem dX5_lots_43 : decode cX5_lots 43 = .ok (.iconst 0, 1) := by decide +kernel
theorem dX5_lots_44 : decode cX5_lots 44 = .ok (.istore 6, 2) := by decide +kernel
theorem dX5_lots_46 : decode cX5_lots 46 = .ok (.iload 6, 2) := by decide +kernel
theorem dX5_lots_48 : decode cX5_lots 48 = .ok (.iload_n 1, 1) := by decide +kernel
theorem dX5_lots_49 : decode cX5_lots 49 = .ok (.if_icmp .ge 42, 3) := by decide +kernel
theorem dX5_lots_52 : decode cX5_lots 52 = .ok (.lload 4, 2) := by decide +kernel
theorem dX5_lots_54 : decode cX5_lots 54 = .ok (.ldc2_w 258, 3) := by decide +kernel
theorem dX5_lots_57 : decode cX5_lots 57 = .ok (.lmul, 1) := by decide +kernel
theorem dX5_lots_58 : decode cX5_lots 58 = .ok (.ldc2_w 256, 3) := by decide +kernel
theorem dX5_lots_61 : decode cX5_lots 61 = .ok (.lrem, 1) := by decide +kernel
theorem dX5_lots_62 : decode cX5_lots 62 = .ok (.lstore 4, 2) := by decide +kernel
theorem dX5_lots_64 : decode cX5_lots 64 = .ok (.aload_n 0, 1) := by decide +kernel
theorem dX5_lots_65 : decode cX5_lots 65 = .ok (.getfield 34, 3) := by decide +kernel
theorem dX5_lots_68 : decode cX5_lots 68 = .ok (.lload 4, 2) := by decide +kernel
theorem dX5_lots_70 : decode cX5_lots 70 = .ok (.l2i, 1) := by decide +kernel
theorem dX5_lots_71 : decode cX5_lots 71 = .ok (.aload_n 0, 1) := by decide +kernel
theorem dX5_lots_72 : decode cX5_lots 72 = .ok (.getfield 34, 3) := by decide +kernel
theorem dX5_lots_75 : decode cX5_lots 75 = .ok (.getfield 123, 3) := by decide +kernel
theorem dX5_lots_78 : decode cX5_lots 78 = .ok (.invokestatic 260, 3) := by decide +kernel
theorem dX5_lots_81 : decode cX5_lots 81 = .ok (.invokevirtual 163, 3) := by decide +kernel
theorem dX5_lots_84 : decode cX5_lots 84 = .ok (.pop, 1) := by decide +kernel
theorem dX5_lots_85 : decode cX5_lots 85 = .ok (.iinc 6 1, 3) := by decide +kernel
theorem dX5_lots_88 : decode cX5_lots 88 = .ok (.goto (-42), 3) := by decide +kernel
theorem dX5_lots_91 : decode cX5_lots 91 = .ok (.aload_n 0, 1) := by decide +kernel
theorem dX5_lots_92 : decode cX5_lots 92 = .ok (.getfield 34, 3) := by decide +kernel
theorem dX5_lots_95 : decode cX5_lots 95 = .ok (.getfield 263, 3) := by decide +kernel
theorem dX5_lots_98 : decode cX5_lots 98 = .ok (.iconst 0, 1) := by decide +kernel
theorem dX5_lots_99 : decode cX5_lots 99 = .ok (.iaload, 1) := by decide +kernel
theorem dX5_lots_100 : decode cX5_lots 100 = .ok (.ireturn, 1) := by decide +kernel
theorem dX5_asked_0 : decode cX5_asked 0 = .ok (.aload_n 0, 1) := by decide +kernel
theorem dX5_asked_1 : decode cX5_asked 1 = .ok (.getfield 60, 3) := by decide +kernel
theorem dX5_asked_4 : decode cX5_asked 4 = .ok (.ireturn, 1) := by decide +kernel
theorem dX5_upper_0 : decode cX5_upper 0 = .ok (.aload_n 0, 1) := by decide +kernel
theorem dX5_upper_1 : decode cX5_upper 1 = .ok (.getfield 63, 3) := by decide +kernel
theorem dX5_upper_4 : decode cX5_upper 4 = .ok (.lreturn, 1) := by decide +kernel
theorem dX5_lower_0 : decode cX5_lower 0 = .ok (.aload_n 0, 1) := by decide +kernel
theorem dX5_lower_1 : decode cX5_lower 1 = .ok (.getfield 67, 3) := by decide +kernel
theorem dX5_lower_4 : decode cX5_lower 4 = .ok (.lreturn, 1) := by decide +kernel
theorem dX5_count_0 : decode cX5_count 0 = .ok (.iload_n 1, 1) := by decide +kernel
theorem dX5_count_1 : decode cX5_count 1 = .ok (.ifCond .lt 9, 3) := by decide +kernel
theorem dX5_count_4 : decode cX5_count 4 = .ok (.iload_n 1, 1) := by decide +kernel
theorem dX5_count_5 : decode cX5_count 5 = .ok (.bipush 10, 2) := by decide +kernel
theorem dX5_count_7 : decode cX5_count 7 = .ok (.if_icmp .lt 5, 3) := by decide +kernel
theorem dX5_count_10 : decode cX5_count 10 = .ok (.iconst (-1), 1) := by decide +kernel
theorem dX5_count_11 : decode cX5_count 11 = .ok (.ireturn, 1) := by decide +kernel
theorem dX5_count_12 : decode cX5_count 12 = .ok (.aload_n 0, 1) := by decide +kernel
theorem dX5_count_13 : decode cX5_count 13 = .ok (.iload_n 1, 1) := by decide +kernel
theorem dX5_count_14 : decode cX5_count 14 = .ok (.invokevirtual 266, 3) := by decide +kernel
theorem dX5_count_17 : decode cX5_count 17 = .ok (.ireturn, 1) := by decide +kernel
theorem dX5_finding_0 : decode cX5_finding 0 = .ok (.aload_n 0, 1) := by decide +kernel
theorem dX5_finding_1 : decode cX5_finding 1 = .ok (.getfield 56, 3) := by decide +kernel
theorem dX5_finding_4 : decode cX5_finding 4 = .ok (.ireturn, 1) := by decide +kernel
theorem dX5_findings_0 : decode cX5_findings 0 = .ok (.iload_n 1, 1) := by decide +kernel
theorem dX5_findings_1 : decode cX5_findings 1 = .ok (.iconst 1, 1) := by decide +kernel
theorem dX5_findings_2 : decode cX5_findings 2 = .ok (.if_icmp .lt 8, 3) := by decide +kernel
theorem dX5_findings_5 : decode cX5_findings 5 = .ok (.iload_n 1, 1) := by decide +kernel
theorem dX5_findings_6 : decode cX5_findings 6 = .ok (.iconst 5, 1) := by decide +kernel
theorem dX5_findings_7 : decode cX5_findings 7 = .ok (.if_icmp .le 5, 3) := by decide +kernel
theorem dX5_findings_10 : decode cX5_findings 10 = .ok (.iconst (-1), 1) := by decide +kernel
theorem dX5_findings_11 : decode cX5_findings 11 = .ok (.ireturn, 1) := by decide +kernel
theorem dX5_findings_12 : decode cX5_findings 12 = .ok (.aload_n 0, 1) := by decide +kernel
theorem dX5_findings_13 : decode cX5_findings 13 = .ok (.getfield 52, 3) := by decide +kernel
theorem dX5_findings_16 : decode cX5_findings 16 = .ok (.iload_n 1, 1) := by decide +kernel
theorem dX5_findings_17 : decode cX5_findings 17 = .ok (.iaload, 1) := by decide +kernel
theorem dX5_findings_18 : decode cX5_findings 18 = .ok (.ireturn, 1) := by decide +kernel
theorem dX5_digest_0 : decode cX5_digest 0 = .ok (.ldc2_w 269, 3) := by decide +kernel
theorem dX5_digest_3 : decode cX5_digest 3 = .ok (.lstore_n 1, 1) := by decide +kernel
theorem dX5_digest_4 : decode cX5_digest 4 = .ok (.iconst 0, 1) := by decide +kernel
theorem dX5_digest_5 : decode cX5_digest 5 = .ok (.istore_n 3, 1) := by decide +kernel
theorem dX5_digest_6 : decode cX5_digest 6 = .ok (.iload_n 3, 1) := by decide +kernel
theorem dX5_digest_7 : decode cX5_digest 7 = .ok (.bipush 10, 2) := by decide +kernel
theorem dX5_digest_9 : decode cX5_digest 9 = .ok (.if_icmp .ge 22, 3) := by decide +kernel
theorem dX5_digest_12 : decode cX5_digest 12 = .ok (.ldc2_w 271, 3) := by decide +kernel
theorem dX5_digest_15 : decode cX5_digest 15 = .ok (.lload_n 1, 1) := by decide +kernel
theorem dX5_digest_16 : decode cX5_digest 16 = .ok (.lmul, 1) := by decide +kernel
theorem dX5_digest_17 : decode cX5_digest 17 = .ok (.aload_n 0, 1) := by decide +kernel
theorem dX5_digest_18 : decode cX5_digest 18 = .ok (.iload_n 3, 1) := by decide +kernel
theorem dX5_digest_19 : decode cX5_digest 19 = .ok (.invokevirtual 266, 3) := by decide +kernel
theorem dX5_digest_22 : decode cX5_digest 22 = .ok (.i2l, 1) := by decide +kernel
theorem dX5_digest_23 : decode cX5_digest 23 = .ok (.ladd, 1) := by decide +kernel
theorem dX5_digest_24 : decode cX5_digest 24 = .ok (.lstore_n 1, 1) := by decide +kernel
theorem dX5_digest_25 : decode cX5_digest 25 = .ok (.iinc 3 1, 3) := by decide +kernel
theorem dX5_digest_28 : decode cX5_digest 28 = .ok (.goto (-22), 3) := by decide +kernel
theorem dX5_digest_31 : decode cX5_digest 31 = .ok (.iconst 0, 1) := by decide +kernel
theorem dX5_digest_32 : decode cX5_digest 32 = .ok (.istore_n 3, 1) := by decide +kernel
theorem dX5_digest_33 : decode cX5_digest 33 = .ok (.iload_n 3, 1) := by decide +kernel
theorem dX5_digest_34 : decode cX5_digest 34 = .ok (.aload_n 0, 1) := by decide +kernel
theorem dX5_digest_35 : decode cX5_digest 35 = .ok (.getfield 34, 3) := by decide +kernel
theorem dX5_digest_38 : decode cX5_digest 38 = .ok (.getfield 123, 3) := by decide +kernel
theorem dX5_digest_41 : decode cX5_digest 41 = .ok (.if_icmp .ge 40, 3) := by decide +kernel
theorem dX5_digest_44 : decode cX5_digest 44 = .ok (.iconst 0, 1) := by decide +kernel
theorem dX5_digest_45 : decode cX5_digest 45 = .ok (.istore 4, 2) := by decide +kernel
theorem dX5_digest_47 : decode cX5_digest 47 = .ok (.iload 4, 2) := by decide +kernel
theorem dX5_digest_49 : decode cX5_digest 49 = .ok (.bipush 8, 2) := by decide +kernel
theorem dX5_digest_51 : decode cX5_digest 51 = .ok (.if_icmp .ge 24, 3) := by decide +kernel
theorem dX5_digest_54 : decode cX5_digest 54 = .ok (.ldc2_w 271, 3) := by decide +kernel
theorem dX5_digest_57 : decode cX5_digest 57 = .ok (.lload_n 1, 1) := by decide +kernel
theorem dX5_digest_58 : decode cX5_digest 58 = .ok (.lmul, 1) := by decide +kernel
theorem dX5_digest_59 : decode cX5_digest 59 = .ok (.aload_n 0, 1) := by decide +kernel
theorem dX5_digest_60 : decode cX5_digest 60 = .ok (.iload_n 3, 1) := by decide +kernel
theorem dX5_digest_61 : decode cX5_digest 61 = .ok (.iload 4, 2) := by decide +kernel
theorem dX5_digest_63 : decode cX5_digest 63 = .ok (.invokevirtual 129, 3) := by decide +kernel
theorem dX5_digest_66 : decode cX5_digest 66 = .ok (.i2l, 1) := by decide +kernel
theorem dX5_digest_67 : decode cX5_digest 67 = .ok (.ladd, 1) := by decide +kernel
theorem dX5_digest_68 : decode cX5_digest 68 = .ok (.lstore_n 1, 1) := by decide +kernel
theorem dX5_digest_69 : decode cX5_digest 69 = .ok (.iinc 4 1, 3) := by decide +kernel
theorem dX5_digest_72 : decode cX5_digest 72 = .ok (.goto (-25), 3) := by decide +kernel
theorem dX5_digest_75 : decode cX5_digest 75 = .ok (.iinc 3 1, 3) := by decide +kernel
theorem dX5_digest_78 : decode cX5_digest 78 = .ok (.goto (-45), 3) := by decide +kernel
theorem dX5_digest_81 : decode cX5_digest 81 = .ok (.iconst 0, 1) := by decide +kernel
theorem dX5_digest_82 : decode cX5_digest 82 = .ok (.istore_n 3, 1) := by decide +kernel
theorem dX5_digest_83 : decode cX5_digest 83 = .ok (.iload_n 3, 1) := by decide +kernel
theorem dX5_digest_84 : decode cX5_digest 84 = .ok (.iconst 3, 1) := by decide +kernel
theorem dX5_digest_85 : decode cX5_digest 85 = .ok (.if_icmp .ge 25, 3) := by decide +kernel
theorem dX5_digest_88 : decode cX5_digest 88 = .ok (.ldc2_w 271, 3) := by decide +kernel
theorem dX5_digest_91 : decode cX5_digest 91 = .ok (.lload_n 1, 1) := by decide +kernel
theorem dX5_digest_92 : decode cX5_digest 92 = .ok (.lmul, 1) := by decide +kernel
theorem dX5_digest_93 : decode cX5_digest 93 = .ok (.aload_n 0, 1) := by decide +kernel
theorem dX5_digest_94 : decode cX5_digest 94 = .ok (.getfield 21, 3) := by decide +kernel
theorem dX5_digest_97 : decode cX5_digest 97 = .ok (.iload_n 3, 1) := by decide +kernel
theorem dX5_digest_98 : decode cX5_digest 98 = .ok (.invokevirtual 106, 3) := by decide +kernel
theorem dX5_digest_101 : decode cX5_digest 101 = .ok (.i2l, 1) := by decide +kernel
theorem dX5_digest_102 : decode cX5_digest 102 = .ok (.ladd, 1) := by decide +kernel
theorem dX5_digest_103 : decode cX5_digest 103 = .ok (.lstore_n 1, 1) := by decide +kernel
theorem dX5_digest_104 : decode cX5_digest 104 = .ok (.iinc 3 1, 3) := by decide +kernel
theorem dX5_digest_107 : decode cX5_digest 107 = .ok (.goto (-24), 3) := by decide +kernel
theorem dX5_digest_110 : decode cX5_digest 110 = .ok (.aload_n 0, 1) := by decide +kernel
theorem dX5_digest_111 : decode cX5_digest 111 = .ok (.getfield 18, 3) := by decide +kernel
theorem dX5_digest_114 : decode cX5_digest 114 = .ok (.aload_n 0, 1) := by decide +kernel
theorem dX5_digest_115 : decode cX5_digest 115 = .ok (.getfield 14, 3) := by decide +kernel
theorem dX5_digest_118 : decode cX5_digest 118 = .ok (.lload_n 1, 1) := by decide +kernel
theorem dX5_digest_119 : decode cX5_digest 119 = .ok (.invokevirtual 273, 3) := by decide +kernel
theorem dX5_digest_122 : decode cX5_digest 122 = .ok (.invokevirtual 273, 3) := by decide +kernel
theorem dX5_digest_125 : decode cX5_digest 125 = .ok (.lreturn, 1) := by decide +kernel
theorem dX5_found_0 : decode cX5_found 0 = .ok (.aload_n 0, 1) := by decide +kernel
theorem dX5_found_1 : decode cX5_found 1 = .ok (.iload_n 1, 1) := by decide +kernel
theorem dX5_found_2 : decode cX5_found 2 = .ok (.putfield 56, 3) := by decide +kernel
theorem dX5_found_5 : decode cX5_found 5 = .ok (.aload_n 0, 1) := by decide +kernel
theorem dX5_found_6 : decode cX5_found 6 = .ok (.getfield 52, 3) := by decide +kernel
theorem dX5_found_9 : decode cX5_found 9 = .ok (.iload_n 1, 1) := by decide +kernel
theorem dX5_found_10 : decode cX5_found 10 = .ok (.dup2, 1) := by decide +kernel
theorem dX5_found_11 : decode cX5_found 11 = .ok (.iaload, 1) := by decide +kernel
theorem dX5_found_12 : decode cX5_found 12 = .ok (.iconst 1, 1) := by decide +kernel
theorem dX5_found_13 : decode cX5_found 13 = .ok (.iadd, 1) := by decide +kernel
theorem dX5_found_14 : decode cX5_found 14 = .ok (.iastore, 1) := by decide +kernel
theorem dX5_found_15 : decode cX5_found 15 = .ok (.bipush (-3), 2) := by decide +kernel
theorem dX5_found_17 : decode cX5_found 17 = .ok (.ireturn, 1) := by decide +kernel
theorem dX5_refusedRow_0 : decode cX5_refusedRow 0 = .ok (.iload_n 1, 1) := by decide +kernel
theorem dX5_refusedRow_1 : decode cX5_refusedRow 1 = .ok (.invokestatic 70, 3) := by decide +kernel
theorem dX5_refusedRow_4 : decode cX5_refusedRow 4 = .ok (.ifCond .ne 5, 3) := by decide +kernel
theorem dX5_refusedRow_7 : decode cX5_refusedRow 7 = .ok (.iconst (-1), 1) := by decide +kernel
theorem dX5_refusedRow_8 : decode cX5_refusedRow 8 = .ok (.ireturn, 1) := by decide +kernel
theorem dX5_refusedRow_9 : decode cX5_refusedRow 9 = .ok (.aload_n 0, 1) := by decide +kernel
theorem dX5_refusedRow_10 : decode cX5_refusedRow 10 = .ok (.getfield 14, 3) := by decide +kernel
theorem dX5_refusedRow_13 : decode cX5_refusedRow 13 = .ok (.iload_n 1, 1) := by decide +kernel
theorem dX5_refusedRow_14 : decode cX5_refusedRow 14 = .ok (.invokevirtual 99, 3) := by decide +kernel
theorem dX5_refusedRow_17 : decode cX5_refusedRow 17 = .ok (.ifCond .eq 7, 3) := by decide +kernel
theorem dX5_refusedRow_20 : decode cX5_refusedRow 20 = .ok (.iconst 0, 1) := by decide +kernel
theorem dX5_refusedRow_21 : decode cX5_refusedRow 21 = .ok (.goto 8, 3) := by decide +kernel
theorem dX5_refusedRow_24 : decode cX5_refusedRow 24 = .ok (.aload_n 0, 1) := by decide +kernel
theorem dX5_refusedRow_25 : decode cX5_refusedRow 25 = .ok (.iconst 1, 1) := by decide +kernel
theorem dX5_refusedRow_26 : decode cX5_refusedRow 26 = .ok (.invokevirtual 74, 3) := by decide +kernel
theorem dX5_refusedRow_29 : decode cX5_refusedRow 29 = .ok (.ireturn, 1) := by decide +kernel
theorem dX5_refusedPlace_0 : decode cX5_refusedPlace 0 = .ok (.aload_n 0, 1) := by decide +kernel
theorem dX5_refusedPlace_1 : decode cX5_refusedPlace 1 = .ok (.iload_n 1, 1) := by decide +kernel
theorem dX5_refusedPlace_2 : decode cX5_refusedPlace 2 = .ok (.invokevirtual 92, 3) := by decide +kernel
theorem dX5_refusedPlace_5 : decode cX5_refusedPlace 5 = .ok (.istore_n 3, 1) := by decide +kernel
theorem dX5_refusedPlace_6 : decode cX5_refusedPlace 6 = .ok (.iload_n 3, 1) := by decide +kernel
theorem dX5_refusedPlace_7 : decode cX5_refusedPlace 7 = .ok (.ifCond .eq 5, 3) := by decide +kernel
theorem dX5_refusedPlace_10 : decode cX5_refusedPlace 10 = .ok (.iload_n 3, 1) := by decide +kernel
theorem dX5_refusedPlace_11 : decode cX5_refusedPlace 11 = .ok (.ireturn, 1) := by decide +kernel
theorem dX5_refusedPlace_12 : decode cX5_refusedPlace 12 = .ok (.aload_n 0, 1) := by decide +kernel
theorem dX5_refusedPlace_13 : decode cX5_refusedPlace 13 = .ok (.getfield 14, 3) := by decide +kernel
theorem dX5_refusedPlace_16 : decode cX5_refusedPlace 16 = .ok (.iload_n 1, 1) := by decide +kernel
theorem dX5_refusedPlace_17 : decode cX5_refusedPlace 17 = .ok (.iload_n 2, 1) := by decide +kernel
theorem dX5_refusedPlace_18 : decode cX5_refusedPlace 18 = .ok (.iconst 1, 1) := by decide +kernel
theorem dX5_refusedPlace_19 : decode cX5_refusedPlace 19 = .ok (.invokevirtual 102, 3) := by decide +kernel
theorem dX5_refusedPlace_22 : decode cX5_refusedPlace 22 = .ok (.ifCond .eq 7, 3) := by decide +kernel
theorem dX5_refusedPlace_25 : decode cX5_refusedPlace 25 = .ok (.iconst 0, 1) := by decide +kernel
theorem dX5_refusedPlace_26 : decode cX5_refusedPlace 26 = .ok (.goto 8, 3) := by decide +kernel
theorem dX5_refusedPlace_29 : decode cX5_refusedPlace 29 = .ok (.aload_n 0, 1) := by decide +kernel
theorem dX5_refusedPlace_30 : decode cX5_refusedPlace 30 = .ok (.iconst 2, 1) := by decide +kernel
theorem dX5_refusedPlace_31 : decode cX5_refusedPlace 31 = .ok (.invokevirtual 74, 3) := by decide +kernel
theorem dX5_refusedPlace_34 : decode cX5_refusedPlace 34 = .ok (.ireturn, 1) := by decide +kernel
theorem dX5_refusedText_0 : decode cX5_refusedText 0 = .ok (.iload_n 1, 1) := by decide +kernel
theorem dX5_refusedText_1 : decode cX5_refusedText 1 = .ok (.invokestatic 109, 3) := by decide +kernel
theorem dX5_refusedText_4 : decode cX5_refusedText 4 = .ok (.ifCond .ne 5, 3) := by decide +kernel
theorem dX5_refusedText_7 : decode cX5_refusedText 7 = .ok (.iconst (-1), 1) := by decide +kernel
theorem dX5_refusedText_8 : decode cX5_refusedText 8 = .ok (.ireturn, 1) := by decide +kernel
theorem dX5_refusedText_9 : decode cX5_refusedText 9 = .ok (.aload_n 0, 1) := by decide +kernel
theorem dX5_refusedText_10 : decode cX5_refusedText 10 = .ok (.getfield 18, 3) := by decide +kernel
theorem dX5_refusedText_13 : decode cX5_refusedText 13 = .ok (.iload_n 1, 1) := by decide +kernel
theorem dX5_refusedText_14 : decode cX5_refusedText 14 = .ok (.invokevirtual 99, 3) := by decide +kernel
theorem dX5_refusedText_17 : decode cX5_refusedText 17 = .ok (.ifCond .eq 7, 3) := by decide +kernel
theorem dX5_refusedText_20 : decode cX5_refusedText 20 = .ok (.iconst 0, 1) := by decide +kernel
theorem dX5_refusedText_21 : decode cX5_refusedText 21 = .ok (.goto 8, 3) := by decide +kernel
theorem dX5_refusedText_24 : decode cX5_refusedText 24 = .ok (.aload_n 0, 1) := by decide +kernel
theorem dX5_refusedText_25 : decode cX5_refusedText 25 = .ok (.iconst 1, 1) := by decide +kernel
theorem dX5_refusedText_26 : decode cX5_refusedText 26 = .ok (.invokevirtual 74, 3) := by decide +kernel
theorem dX5_refusedText_29 : decode cX5_refusedText 29 = .ok (.ireturn, 1) := by decide +kernel
theorem dX5_refusedDeeds_0 : decode cX5_refusedDeeds 0 = .ok (.aload_n 0, 1) := by decide +kernel
theorem dX5_refusedDeeds_1 : decode cX5_refusedDeeds 1 = .ok (.getfield 34, 3) := by decide +kernel
theorem dX5_refusedDeeds_4 : decode cX5_refusedDeeds 4 = .ok (.getfield 123, 3) := by decide +kernel
theorem dX5_refusedDeeds_7 : decode cX5_refusedDeeds 7 = .ok (.ifCond .ne 6, 3) := by decide +kernel
theorem dX5_refusedDeeds_10 : decode cX5_refusedDeeds 10 = .ok (.bipush (-4), 2) := by decide +kernel
theorem dX5_refusedDeeds_12 : decode cX5_refusedDeeds 12 = .ok (.ireturn, 1) := by decide +kernel
theorem dX5_refusedDeeds_13 : decode cX5_refusedDeeds 13 = .ok (.aload_n 0, 1) := by decide +kernel
theorem dX5_refusedDeeds_14 : decode cX5_refusedDeeds 14 = .ok (.getfield 34, 3) := by decide +kernel
theorem dX5_refusedDeeds_17 : decode cX5_refusedDeeds 17 = .ok (.getfield 169, 3) := by decide +kernel
theorem dX5_refusedDeeds_20 : decode cX5_refusedDeeds 20 = .ok (.iload_n 1, 1) := by decide +kernel
theorem dX5_refusedDeeds_21 : decode cX5_refusedDeeds 21 = .ok (.iadd, 1) := by decide +kernel
theorem dX5_refusedDeeds_22 : decode cX5_refusedDeeds 22 = .ok (.bipush 40, 2) := by decide +kernel
theorem dX5_refusedDeeds_24 : decode cX5_refusedDeeds 24 = .ok (.if_icmp .le 8, 3) := by decide +kernel
theorem dX5_refusedDeeds_27 : decode cX5_refusedDeeds 27 = .ok (.bipush (-2), 2) := by decide +kernel
theorem dX5_refusedDeeds_29 : decode cX5_refusedDeeds 29 = .ok (.goto 4, 3) := by decide +kernel
theorem dX5_refusedDeeds_32 : decode cX5_refusedDeeds 32 = .ok (.iconst 0, 1) := by decide +kernel
theorem dX5_refusedDeeds_33 : decode cX5_refusedDeeds 33 = .ok (.ireturn, 1) := by decide +kernel
theorem dX5_refusedClues_0 : decode cX5_refusedClues 0 = .ok (.aload_n 0, 1) := by decide +kernel
theorem dX5_refusedClues_1 : decode cX5_refusedClues 1 = .ok (.iload_n 1, 1) := by decide +kernel
theorem dX5_refusedClues_2 : decode cX5_refusedClues 2 = .ok (.invokevirtual 126, 3) := by decide +kernel
theorem dX5_refusedClues_5 : decode cX5_refusedClues 5 = .ok (.ifCond .eq 17, 3) := by decide +kernel
theorem dX5_refusedClues_8 : decode cX5_refusedClues 8 = .ok (.iload_n 2, 1) := by decide +kernel
theorem dX5_refusedClues_9 : decode cX5_refusedClues 9 = .ok (.invokestatic 153, 3) := by decide +kernel
theorem dX5_refusedClues_12 : decode cX5_refusedClues 12 = .ok (.ifCond .eq 10, 3) := by decide +kernel
theorem dX5_refusedClues_15 : decode cX5_refusedClues 15 = .ok (.iload_n 3, 1) := by decide +kernel
theorem dX5_refusedClues_16 : decode cX5_refusedClues 16 = .ok (.invokestatic 70, 3) := by decide +kernel
theorem dX5_refusedClues_19 : decode cX5_refusedClues 19 = .ok (.ifCond .ne 5, 3) := by decide +kernel
theorem dX5_refusedClues_22 : decode cX5_refusedClues 22 = .ok (.iconst (-1), 1) := by decide +kernel
theorem dX5_refusedClues_23 : decode cX5_refusedClues 23 = .ok (.ireturn, 1) := by decide +kernel
theorem dX5_refusedClues_24 : decode cX5_refusedClues 24 = .ok (.aload_n 0, 1) := by decide +kernel
theorem dX5_refusedClues_25 : decode cX5_refusedClues 25 = .ok (.getfield 14, 3) := by decide +kernel
theorem dX5_refusedClues_28 : decode cX5_refusedClues 28 = .ok (.iload_n 3, 1) := by decide +kernel
theorem dX5_refusedClues_29 : decode cX5_refusedClues 29 = .ok (.invokevirtual 99, 3) := by decide +kernel
theorem dX5_refusedClues_32 : decode cX5_refusedClues 32 = .ok (.ifCond .ne 9, 3) := by decide +kernel
theorem dX5_refusedClues_35 : decode cX5_refusedClues 35 = .ok (.aload_n 0, 1) := by decide +kernel
theorem dX5_refusedClues_36 : decode cX5_refusedClues 36 = .ok (.iconst 1, 1) := by decide +kernel
theorem dX5_refusedClues_37 : decode cX5_refusedClues 37 = .ok (.invokevirtual 74, 3) := by decide +kernel
theorem dX5_refusedClues_40 : decode cX5_refusedClues 40 = .ok (.ireturn, 1) := by decide +kernel
theorem dX5_refusedClues_41 : decode cX5_refusedClues 41 = .ok (.aload_n 0, 1) := by decide +kernel
theorem dX5_refusedClues_42 : decode cX5_refusedClues 42 = .ok (.getfield 14, 3) := by decide +kernel
theorem dX5_refusedClues_45 : decode cX5_refusedClues 45 = .ok (.iload_n 3, 1) := by decide +kernel
theorem dX5_refusedClues_46 : decode cX5_refusedClues 46 = .ok (.invokevirtual 106, 3) := by decide +kernel
theorem dX5_refusedClues_49 : decode cX5_refusedClues 49 = .ok (.istore 4, 2) := by decide +kernel
theorem dX5_refusedClues_51 : decode cX5_refusedClues 51 = .ok (.iload 4, 2) := by decide +kernel
theorem dX5_refusedClues_53 : decode cX5_refusedClues 53 = .ok (.iconst 2, 1) := by decide +kernel
theorem dX5_refusedClues_54 : decode cX5_refusedClues 54 = .ok (.irem, 1) := by decide +kernel
theorem dX5_refusedClues_55 : decode cX5_refusedClues 55 = .ok (.ifCond .ne 10, 3) := by decide +kernel
theorem dX5_refusedClues_58 : decode cX5_refusedClues 58 = .ok (.iload 4, 2) := by decide +kernel
theorem dX5_refusedClues_60 : decode cX5_refusedClues 60 = .ok (.bipush 16, 2) := by decide +kernel
theorem dX5_refusedClues_62 : decode cX5_refusedClues 62 = .ok (.if_icmp .le 9, 3) := by decide +kernel
theorem dX5_refusedClues_65 : decode cX5_refusedClues 65 = .ok (.aload_n 0, 1) := by decide +kernel
theorem dX5_refusedClues_66 : decode cX5_refusedClues 66 = .ok (.iconst 5, 1) := by decide +kernel
theorem dX5_refusedClues_67 : decode cX5_refusedClues 67 = .ok (.invokevirtual 74, 3) := by decide +kernel
theorem dX5_refusedClues_70 : decode cX5_refusedClues 70 = .ok (.ireturn, 1) := by decide +kernel
theorem dX5_refusedClues_71 : decode cX5_refusedClues 71 = .ok (.iconst 0, 1) := by decide +kernel
theorem dX5_refusedClues_72 : decode cX5_refusedClues 72 = .ok (.istore 5, 2) := by decide +kernel
theorem dX5_refusedClues_74 : decode cX5_refusedClues 74 = .ok (.iload 5, 2) := by decide +kernel
theorem dX5_refusedClues_76 : decode cX5_refusedClues 76 = .ok (.iconst 1, 1) := by decide +kernel
theorem dX5_refusedClues_77 : decode cX5_refusedClues 77 = .ok (.iadd, 1) := by decide +kernel
theorem dX5_refusedClues_78 : decode cX5_refusedClues 78 = .ok (.iload 4, 2) := by decide +kernel
theorem dX5_refusedClues_80 : decode cX5_refusedClues 80 = .ok (.if_icmp .ge 57, 3) := by decide +kernel
theorem dX5_refusedClues_83 : decode cX5_refusedClues 83 = .ok (.aload_n 0, 1) := by decide +kernel
theorem dX5_refusedClues_84 : decode cX5_refusedClues 84 = .ok (.getfield 14, 3) := by decide +kernel
theorem dX5_refusedClues_87 : decode cX5_refusedClues 87 = .ok (.iload_n 3, 1) := by decide +kernel
theorem dX5_refusedClues_88 : decode cX5_refusedClues 88 = .ok (.iload 5, 2) := by decide +kernel
theorem dX5_refusedClues_90 : decode cX5_refusedClues 90 = .ok (.iconst 1, 1) := by decide +kernel
theorem dX5_refusedClues_91 : decode cX5_refusedClues 91 = .ok (.iadd, 1) := by decide +kernel
theorem dX5_refusedClues_92 : decode cX5_refusedClues 92 = .ok (.invokevirtual 86, 3) := by decide +kernel
theorem dX5_refusedClues_95 : decode cX5_refusedClues 95 = .ok (.istore 6, 2) := by decide +kernel
theorem dX5_refusedClues_97 : decode cX5_refusedClues 97 = .ok (.aload_n 0, 1) := by decide +kernel
theorem dX5_refusedClues_98 : decode cX5_refusedClues 98 = .ok (.getfield 14, 3) := by decide +kernel
theorem dX5_refusedClues_101 : decode cX5_refusedClues 101 = .ok (.iload_n 3, 1) := by decide +kernel
theorem dX5_refusedClues_102 : decode cX5_refusedClues 102 = .ok (.iload 5, 2) := by decide +kernel
theorem dX5_refusedClues_104 : decode cX5_refusedClues 104 = .ok (.invokevirtual 86, 3) := by decide +kernel
theorem dX5_refusedClues_107 : decode cX5_refusedClues 107 = .ok (.invokestatic 153, 3) := by decide +kernel
theorem dX5_refusedClues_110 : decode cX5_refusedClues 110 = .ok (.ifCond .eq 15, 3) := by decide +kernel
theorem dX5_refusedClues_113 : decode cX5_refusedClues 113 = .ok (.iload 6, 2) := by decide +kernel
theorem dX5_refusedClues_115 : decode cX5_refusedClues 115 = .ok (.ifCond .lt 10, 3) := by decide +kernel
theorem dX5_refusedClues_118 : decode cX5_refusedClues 118 = .ok (.iload 6, 2) := by decide +kernel
theorem dX5_refusedClues_120 : decode cX5_refusedClues 120 = .ok (.bipush 11, 2) := by decide +kernel
theorem dX5_refusedClues_122 : decode cX5_refusedClues 122 = .ok (.if_icmp .lt 9, 3) := by decide +kernel
theorem dX5_refusedClues_125 : decode cX5_refusedClues 125 = .ok (.aload_n 0, 1) := by decide +kernel
theorem dX5_refusedClues_126 : decode cX5_refusedClues 126 = .ok (.iconst 3, 1) := by decide +kernel
theorem dX5_refusedClues_127 : decode cX5_refusedClues 127 = .ok (.invokevirtual 74, 3) := by decide +kernel
theorem dX5_refusedClues_130 : decode cX5_refusedClues 130 = .ok (.ireturn, 1) := by decide +kernel
theorem dX5_refusedClues_131 : decode cX5_refusedClues 131 = .ok (.iinc 5 2, 3) := by decide +kernel
theorem dX5_refusedClues_134 : decode cX5_refusedClues 134 = .ok (.goto (-60), 3) := by decide +kernel
theorem dX5_refusedClues_137 : decode cX5_refusedClues 137 = .ok (.iconst 0, 1) := by decide +kernel
theorem dX5_refusedClues_138 : decode cX5_refusedClues 138 = .ok (.ireturn, 1) := by decide +kernel
theorem dX5_refusedSum_0 : decode cX5_refusedSum 0 = .ok (.iload_n 1, 1) := by decide +kernel
theorem dX5_refusedSum_1 : decode cX5_refusedSum 1 = .ok (.invokestatic 153, 3) := by decide +kernel
theorem dX5_refusedSum_4 : decode cX5_refusedSum 4 = .ok (.ifCond .eq 13, 3) := by decide +kernel
theorem dX5_refusedSum_7 : decode cX5_refusedSum 7 = .ok (.iload_n 2, 1) := by decide +kernel
theorem dX5_refusedSum_8 : decode cX5_refusedSum 8 = .ok (.ifCond .lt 9, 3) := by decide +kernel
theorem dX5_refusedSum_11 : decode cX5_refusedSum 11 = .ok (.iload_n 2, 1) := by decide +kernel
theorem dX5_refusedSum_12 : decode cX5_refusedSum 12 = .ok (.bipush 54, 2) := by decide +kernel
theorem dX5_refusedSum_14 : decode cX5_refusedSum 14 = .ok (.if_icmp .le 5, 3) := by decide +kernel
theorem dX5_refusedSum_17 : decode cX5_refusedSum 17 = .ok (.iconst (-1), 1) := by decide +kernel
theorem dX5_refusedSum_18 : decode cX5_refusedSum 18 = .ok (.ireturn, 1) := by decide +kernel
theorem dX5_refusedSum_19 : decode cX5_refusedSum 19 = .ok (.aload_n 0, 1) := by decide +kernel
theorem dX5_refusedSum_20 : decode cX5_refusedSum 20 = .ok (.getfield 34, 3) := by decide +kernel
theorem dX5_refusedSum_23 : decode cX5_refusedSum 23 = .ok (.getfield 123, 3) := by decide +kernel
theorem dX5_refusedSum_26 : decode cX5_refusedSum 26 = .ok (.ifCond .ne 8, 3) := by decide +kernel
theorem dX5_refusedSum_29 : decode cX5_refusedSum 29 = .ok (.bipush (-4), 2) := by decide +kernel
theorem dX5_refusedSum_31 : decode cX5_refusedSum 31 = .ok (.goto 4, 3) := by decide +kernel
theorem dX5_refusedSum_34 : decode cX5_refusedSum 34 = .ok (.iconst 0, 1) := by decide +kernel
theorem dX5_refusedSum_35 : decode cX5_refusedSum 35 = .ok (.ireturn, 1) := by decide +kernel
theorem dX5_isRow_0 : decode cX5_isRow 0 = .ok (.iload_n 0, 1) := by decide +kernel
theorem dX5_isRow_1 : decode cX5_isRow 1 = .ok (.ifCond .lt 13, 3) := by decide +kernel
theorem dX5_isRow_4 : decode cX5_isRow 4 = .ok (.iload_n 0, 1) := by decide +kernel
theorem dX5_isRow_5 : decode cX5_isRow 5 = .ok (.bipush 6, 2) := by decide +kernel
theorem dX5_isRow_7 : decode cX5_isRow 7 = .ok (.if_icmp .ge 7, 3) := by decide +kernel
theorem dX5_isRow_10 : decode cX5_isRow 10 = .ok (.iconst 1, 1) := by decide +kernel
theorem dX5_isRow_11 : decode cX5_isRow 11 = .ok (.goto 4, 3) := by decide +kernel
theorem dX5_isRow_14 : decode cX5_isRow 14 = .ok (.iconst 0, 1) := by decide +kernel
theorem dX5_isRow_15 : decode cX5_isRow 15 = .ok (.ireturn, 1) := by decide +kernel
theorem dX5_isText_0 : decode cX5_isText 0 = .ok (.iload_n 0, 1) := by decide +kernel
theorem dX5_isText_1 : decode cX5_isText 1 = .ok (.ifCond .lt 12, 3) := by decide +kernel
theorem dX5_isText_4 : decode cX5_isText 4 = .ok (.iload_n 0, 1) := by decide +kernel
theorem dX5_isText_5 : decode cX5_isText 5 = .ok (.iconst 4, 1) := by decide +kernel
theorem dX5_isText_6 : decode cX5_isText 6 = .ok (.if_icmp .ge 7, 3) := by decide +kernel
theorem dX5_isText_9 : decode cX5_isText 9 = .ok (.iconst 1, 1) := by decide +kernel
theorem dX5_isText_10 : decode cX5_isText 10 = .ok (.goto 4, 3) := by decide +kernel
theorem dX5_isText_13 : decode cX5_isText 13 = .ok (.iconst 0, 1) := by decide +kernel
theorem dX5_isText_14 : decode cX5_isText 14 = .ok (.ireturn, 1) := by decide +kernel
theorem dX5_isColumn_0 : decode cX5_isColumn 0 = .ok (.iload_n 0, 1) := by decide +kernel
theorem dX5_isColumn_1 : decode cX5_isColumn 1 = .ok (.ifCond .lt 12, 3) := by decide +kernel
theorem dX5_isColumn_4 : decode cX5_isColumn 4 = .ok (.iload_n 0, 1) := by decide +kernel
theorem dX5_isColumn_5 : decode cX5_isColumn 5 = .ok (.iconst 3, 1) := by decide +kernel
theorem dX5_isColumn_6 : decode cX5_isColumn 6 = .ok (.if_icmp .ge 7, 3) := by decide +kernel
theorem dX5_isColumn_9 : decode cX5_isColumn 9 = .ok (.iconst 1, 1) := by decide +kernel
theorem dX5_isColumn_10 : decode cX5_isColumn 10 = .ok (.goto 4, 3) := by decide +kernel
theorem dX5_isColumn_13 : decode cX5_isColumn 13 = .ok (.iconst 0, 1) := by decide +kernel
theorem dX5_isColumn_14 : decode cX5_isColumn 14 = .ok (.ireturn, 1) := by decide +kernel
theorem dX5_isCard_0 : decode cX5_isCard 0 = .ok (.iload_n 1, 1) := by decide +kernel
theorem dX5_isCard_1 : decode cX5_isCard 1 = .ok (.ifCond .lt 18, 3) := by decide +kernel
theorem dX5_isCard_4 : decode cX5_isCard 4 = .ok (.iload_n 1, 1) := by decide +kernel
theorem dX5_isCard_5 : decode cX5_isCard 5 = .ok (.aload_n 0, 1) := by decide +kernel
theorem dX5_isCard_6 : decode cX5_isCard 6 = .ok (.getfield 34, 3) := by decide +kernel
theorem dX5_isCard_9 : decode cX5_isCard 9 = .ok (.getfield 123, 3) := by decide +kernel
theorem dX5_isCard_12 : decode cX5_isCard 12 = .ok (.if_icmp .ge 7, 3) := by decide +kernel
theorem dX5_isCard_15 : decode cX5_isCard 15 = .ok (.iconst 1, 1) := by decide +kernel
theorem dX5_isCard_16 : decode cX5_isCard 16 = .ok (.goto 4, 3) := by decide +kernel
theorem dX5_isCard_19 : decode cX5_isCard 19 = .ok (.iconst 0, 1) := by decide +kernel
theorem dX5_isCard_20 : decode cX5_isCard 20 = .ok (.ireturn, 1) := by decide +kernel
theorem dX5_isChance_0 : decode cX5_isChance 0 = .ok (.aload_n 0, 1) := by decide +kernel
theorem dX5_isChance_1 : decode cX5_isChance 1 = .ok (.iload_n 1, 1) := by decide +kernel
theorem dX5_isChance_2 : decode cX5_isChance 2 = .ok (.invokevirtual 126, 3) := by decide +kernel
theorem dX5_isChance_5 : decode cX5_isChance 5 = .ok (.ifCond .eq 24, 3) := by decide +kernel
theorem dX5_isChance_8 : decode cX5_isChance 8 = .ok (.iload_n 2, 1) := by decide +kernel
theorem dX5_isChance_9 : decode cX5_isChance 9 = .ok (.invokestatic 153, 3) := by decide +kernel
theorem dX5_isChance_12 : decode cX5_isChance 12 = .ok (.ifCond .eq 17, 3) := by decide +kernel
theorem dX5_isChance_15 : decode cX5_isChance 15 = .ok (.iload_n 3, 1) := by decide +kernel
theorem dX5_isChance_16 : decode cX5_isChance 16 = .ok (.ifCond .lt 13, 3) := by decide +kernel
theorem dX5_isChance_19 : decode cX5_isChance 19 = .ok (.iload_n 3, 1) := by decide +kernel
theorem dX5_isChance_20 : decode cX5_isChance 20 = .ok (.bipush 12, 2) := by decide +kernel
theorem dX5_isChance_22 : decode cX5_isChance 22 = .ok (.if_icmp .gt 7, 3) := by decide +kernel
theorem dX5_isChance_25 : decode cX5_isChance 25 = .ok (.iconst 1, 1) := by decide +kernel
theorem dX5_isChance_26 : decode cX5_isChance 26 = .ok (.goto 4, 3) := by decide +kernel
theorem dX5_isChance_29 : decode cX5_isChance 29 = .ok (.iconst 0, 1) := by decide +kernel
theorem dX5_isChance_30 : decode cX5_isChance 30 = .ok (.ireturn, 1) := by decide +kernel
theorem dX5_allColumns_0 : decode cX5_allColumns 0 = .ok (.iconst 0, 1) := by decide +kernel
theorem dX5_allColumns_1 : decode cX5_allColumns 1 = .ok (.istore_n 2, 1) := by decide +kernel
theorem dX5_allColumns_2 : decode cX5_allColumns 2 = .ok (.iload_n 2, 1) := by decide +kernel
theorem dX5_allColumns_3 : decode cX5_allColumns 3 = .ok (.aload_n 0, 1) := by decide +kernel
theorem dX5_allColumns_4 : decode cX5_allColumns 4 = .ok (.getfield 14, 3) := by decide +kernel
theorem dX5_allColumns_7 : decode cX5_allColumns 7 = .ok (.iload_n 1, 1) := by decide +kernel
theorem dX5_allColumns_8 : decode cX5_allColumns 8 = .ok (.invokevirtual 106, 3) := by decide +kernel
theorem dX5_allColumns_11 : decode cX5_allColumns 11 = .ok (.if_icmp .ge 26, 3) := by decide +kernel
theorem dX5_allColumns_14 : decode cX5_allColumns 14 = .ok (.aload_n 0, 1) := by decide +kernel
theorem dX5_allColumns_15 : decode cX5_allColumns 15 = .ok (.getfield 14, 3) := by decide +kernel
theorem dX5_allColumns_18 : decode cX5_allColumns 18 = .ok (.iload_n 1, 1) := by decide +kernel
theorem dX5_allColumns_19 : decode cX5_allColumns 19 = .ok (.iload_n 2, 1) := by decide +kernel
theorem dX5_allColumns_20 : decode cX5_allColumns 20 = .ok (.invokevirtual 86, 3) := by decide +kernel
theorem dX5_allColumns_23 : decode cX5_allColumns 23 = .ok (.invokestatic 153, 3) := by decide +kernel
theorem dX5_allColumns_26 : decode cX5_allColumns 26 = .ok (.ifCond .ne 5, 3) := by decide +kernel
theorem dX5_allColumns_29 : decode cX5_allColumns 29 = .ok (.iconst 0, 1) := by decide +kernel
theorem dX5_allColumns_30 : decode cX5_allColumns 30 = .ok (.ireturn, 1) := by decide +kernel
theorem dX5_allColumns_31 : decode cX5_allColumns 31 = .ok (.iinc 2 1, 3) := by decide +kernel
theorem dX5_allColumns_34 : decode cX5_allColumns 34 = .ok (.goto (-32), 3) := by decide +kernel
theorem dX5_allColumns_37 : decode cX5_allColumns 37 = .ok (.iconst 1, 1) := by decide +kernel
theorem dX5_allColumns_38 : decode cX5_allColumns 38 = .ok (.ireturn, 1) := by decide +kernel
theorem dX5_eachCardOnce_0 : decode cX5_eachCardOnce 0 = .ok (.iconst 0, 1) := by decide +kernel
theorem dX5_eachCardOnce_1 : decode cX5_eachCardOnce 1 = .ok (.istore_n 2, 1) := by decide +kernel
theorem dX5_eachCardOnce_2 : decode cX5_eachCardOnce 2 = .ok (.iconst 0, 1) := by decide +kernel
theorem dX5_eachCardOnce_3 : decode cX5_eachCardOnce 3 = .ok (.istore_n 3, 1) := by decide +kernel
theorem dX5_eachCardOnce_4 : decode cX5_eachCardOnce 4 = .ok (.iload_n 3, 1) := by decide +kernel
theorem dX5_eachCardOnce_5 : decode cX5_eachCardOnce 5 = .ok (.aload_n 0, 1) := by decide +kernel
theorem dX5_eachCardOnce_6 : decode cX5_eachCardOnce 6 = .ok (.getfield 14, 3) := by decide +kernel
theorem dX5_eachCardOnce_9 : decode cX5_eachCardOnce 9 = .ok (.iload_n 1, 1) := by decide +kernel
theorem dX5_eachCardOnce_10 : decode cX5_eachCardOnce 10 = .ok (.invokevirtual 106, 3) := by decide +kernel
theorem dX5_eachCardOnce_13 : decode cX5_eachCardOnce 13 = .ok (.if_icmp .ge 47, 3) := by decide +kernel
theorem dX5_eachCardOnce_16 : decode cX5_eachCardOnce 16 = .ok (.aload_n 0, 1) := by decide +kernel
theorem dX5_eachCardOnce_17 : decode cX5_eachCardOnce 17 = .ok (.getfield 14, 3) := by decide +kernel
theorem dX5_eachCardOnce_20 : decode cX5_eachCardOnce 20 = .ok (.iload_n 1, 1) := by decide +kernel
theorem dX5_eachCardOnce_21 : decode cX5_eachCardOnce 21 = .ok (.iload_n 3, 1) := by decide +kernel
theorem dX5_eachCardOnce_22 : decode cX5_eachCardOnce 22 = .ok (.invokevirtual 86, 3) := by decide +kernel
theorem dX5_eachCardOnce_25 : decode cX5_eachCardOnce 25 = .ok (.istore 4, 2) := by decide +kernel
theorem dX5_eachCardOnce_27 : decode cX5_eachCardOnce 27 = .ok (.aload_n 0, 1) := by decide +kernel
theorem dX5_eachCardOnce_28 : decode cX5_eachCardOnce 28 = .ok (.iload 4, 2) := by decide +kernel
theorem dX5_eachCardOnce_30 : decode cX5_eachCardOnce 30 = .ok (.invokevirtual 126, 3) := by decide +kernel
theorem dX5_eachCardOnce_33 : decode cX5_eachCardOnce 33 = .ok (.ifCond .eq 12, 3) := by decide +kernel
theorem dX5_eachCardOnce_36 : decode cX5_eachCardOnce 36 = .ok (.iload_n 2, 1) := by decide +kernel
theorem dX5_eachCardOnce_37 : decode cX5_eachCardOnce 37 = .ok (.iload 4, 2) := by decide +kernel
theorem dX5_eachCardOnce_39 : decode cX5_eachCardOnce 39 = .ok (.ishr, 1) := by decide +kernel
theorem dX5_eachCardOnce_40 : decode cX5_eachCardOnce 40 = .ok (.iconst 1, 1) := by decide +kernel
theorem dX5_eachCardOnce_41 : decode cX5_eachCardOnce 41 = .ok (.iand, 1) := by decide +kernel
theorem dX5_eachCardOnce_42 : decode cX5_eachCardOnce 42 = .ok (.ifCond .eq 5, 3) := by decide +kernel
theorem dX5_eachCardOnce_45 : decode cX5_eachCardOnce 45 = .ok (.iconst 0, 1) := by decide +kernel
theorem dX5_eachCardOnce_46 : decode cX5_eachCardOnce 46 = .ok (.ireturn, 1) := by decide +kernel
theorem dX5_eachCardOnce_47 : decode cX5_eachCardOnce 47 = .ok (.iload_n 2, 1) := by decide +kernel
theorem dX5_eachCardOnce_48 : decode cX5_eachCardOnce 48 = .ok (.iconst 1, 1) := by decide +kernel
theorem dX5_eachCardOnce_49 : decode cX5_eachCardOnce 49 = .ok (.iload 4, 2) := by decide +kernel
theorem dX5_eachCardOnce_51 : decode cX5_eachCardOnce 51 = .ok (.ishl, 1) := by decide +kernel
theorem dX5_eachCardOnce_52 : decode cX5_eachCardOnce 52 = .ok (.ior, 1) := by decide +kernel
theorem dX5_eachCardOnce_53 : decode cX5_eachCardOnce 53 = .ok (.istore_n 2, 1) := by decide +kernel
theorem dX5_eachCardOnce_54 : decode cX5_eachCardOnce 54 = .ok (.iinc 3 1, 3) := by decide +kernel
theorem dX5_eachCardOnce_57 : decode cX5_eachCardOnce 57 = .ok (.goto (-53), 3) := by decide +kernel
theorem dX5_eachCardOnce_60 : decode cX5_eachCardOnce 60 = .ok (.iconst 1, 1) := by decide +kernel
theorem dX5_eachCardOnce_61 : decode cX5_eachCardOnce 61 = .ok (.ireturn, 1) := by decide +kernel
theorem dX5_liesAs_0 : decode cX5_liesAs 0 = .ok (.iconst 0, 1) := by decide +kernel
theorem dX5_liesAs_1 : decode cX5_liesAs 1 = .ok (.istore_n 3, 1) := by decide +kernel
theorem dX5_liesAs_2 : decode cX5_liesAs 2 = .ok (.iload_n 3, 1) := by decide +kernel
theorem dX5_liesAs_3 : decode cX5_liesAs 3 = .ok (.aload_n 0, 1) := by decide +kernel
theorem dX5_liesAs_4 : decode cX5_liesAs 4 = .ok (.getfield 34, 3) := by decide +kernel
theorem dX5_liesAs_7 : decode cX5_liesAs 7 = .ok (.getfield 123, 3) := by decide +kernel
theorem dX5_liesAs_10 : decode cX5_liesAs 10 = .ok (.if_icmp .ge 26, 3) := by decide +kernel
theorem dX5_liesAs_13 : decode cX5_liesAs 13 = .ok (.aload_n 0, 1) := by decide +kernel
theorem dX5_liesAs_14 : decode cX5_liesAs 14 = .ok (.getfield 14, 3) := by decide +kernel
theorem dX5_liesAs_17 : decode cX5_liesAs 17 = .ok (.iload_n 1, 1) := by decide +kernel
theorem dX5_liesAs_18 : decode cX5_liesAs 18 = .ok (.iload_n 3, 1) := by decide +kernel
theorem dX5_liesAs_19 : decode cX5_liesAs 19 = .ok (.invokevirtual 86, 3) := by decide +kernel
theorem dX5_liesAs_22 : decode cX5_liesAs 22 = .ok (.aload_n 2, 1) := by decide +kernel
theorem dX5_liesAs_23 : decode cX5_liesAs 23 = .ok (.iload_n 3, 1) := by decide +kernel
theorem dX5_liesAs_24 : decode cX5_liesAs 24 = .ok (.iaload, 1) := by decide +kernel
theorem dX5_liesAs_25 : decode cX5_liesAs 25 = .ok (.if_icmp .eq 5, 3) := by decide +kernel
theorem dX5_liesAs_28 : decode cX5_liesAs 28 = .ok (.iconst 0, 1) := by decide +kernel
theorem dX5_liesAs_29 : decode cX5_liesAs 29 = .ok (.ireturn, 1) := by decide +kernel
theorem dX5_liesAs_30 : decode cX5_liesAs 30 = .ok (.iinc 3 1, 3) := by decide +kernel
theorem dX5_liesAs_33 : decode cX5_liesAs 33 = .ok (.goto (-31), 3) := by decide +kernel
theorem dX5_liesAs_36 : decode cX5_liesAs 36 = .ok (.iconst 1, 1) := by decide +kernel
theorem dX5_liesAs_37 : decode cX5_liesAs 37 = .ok (.ireturn, 1) := by decide +kernel
theorem dX5_cardFact_0 : decode cX5_cardFact 0 = .ok (.iload_n 2, 1) := by decide +kernel
theorem dX5_cardFact_1 : decode cX5_cardFact 1 = .ok (.ifCond .ne 13, 3) := by decide +kernel
theorem dX5_cardFact_4 : decode cX5_cardFact 4 = .ok (.aload_n 0, 1) := by decide +kernel
theorem dX5_cardFact_5 : decode cX5_cardFact 5 = .ok (.getfield 34, 3) := by decide +kernel
theorem dX5_cardFact_8 : decode cX5_cardFact 8 = .ok (.getfield 132, 3) := by decide +kernel
theorem dX5_cardFact_11 : decode cX5_cardFact 11 = .ok (.iload_n 1, 1) := by decide +kernel
theorem dX5_cardFact_12 : decode cX5_cardFact 12 = .ok (.iaload, 1) := by decide +kernel
theorem dX5_cardFact_13 : decode cX5_cardFact 13 = .ok (.ireturn, 1) := by decide +kernel
theorem dX5_cardFact_14 : decode cX5_cardFact 14 = .ok (.iload_n 2, 1) := by decide +kernel
theorem dX5_cardFact_15 : decode cX5_cardFact 15 = .ok (.iconst 3, 1) := by decide +kernel
theorem dX5_cardFact_16 : decode cX5_cardFact 16 = .ok (.if_icmp .gt 15, 3) := by decide +kernel
theorem dX5_cardFact_19 : decode cX5_cardFact 19 = .ok (.aload_n 0, 1) := by decide +kernel
theorem dX5_cardFact_20 : decode cX5_cardFact 20 = .ok (.getfield 34, 3) := by decide +kernel
theorem dX5_cardFact_23 : decode cX5_cardFact 23 = .ok (.iload_n 1, 1) := by decide +kernel
theorem dX5_cardFact_24 : decode cX5_cardFact 24 = .ok (.iload_n 2, 1) := by decide +kernel
theorem dX5_cardFact_25 : decode cX5_cardFact 25 = .ok (.iconst 1, 1) := by decide +kernel
theorem dX5_cardFact_26 : decode cX5_cardFact 26 = .ok (.isub, 1) := by decide +kernel
theorem dX5_cardFact_27 : decode cX5_cardFact 27 = .ok (.invokevirtual 166, 3) := by decide +kernel
theorem dX5_cardFact_30 : decode cX5_cardFact 30 = .ok (.ireturn, 1) := by decide +kernel
theorem dX5_cardFact_31 : decode cX5_cardFact 31 = .ok (.iload_n 2, 1) := by decide +kernel
theorem dX5_cardFact_32 : decode cX5_cardFact 32 = .ok (.iconst 4, 1) := by decide +kernel
theorem dX5_cardFact_33 : decode cX5_cardFact 33 = .ok (.if_icmp .ne 12, 3) := by decide +kernel
theorem dX5_cardFact_36 : decode cX5_cardFact 36 = .ok (.aload_n 0, 1) := by decide +kernel
theorem dX5_cardFact_37 : decode cX5_cardFact 37 = .ok (.getfield 34, 3) := by decide +kernel
theorem dX5_cardFact_40 : decode cX5_cardFact 40 = .ok (.iload_n 1, 1) := by decide +kernel
theorem dX5_cardFact_41 : decode cX5_cardFact 41 = .ok (.invokevirtual 147, 3) := by decide +kernel
theorem dX5_cardFact_44 : decode cX5_cardFact 44 = .ok (.ireturn, 1) := by decide +kernel
theorem dX5_cardFact_45 : decode cX5_cardFact 45 = .ok (.aload_n 0, 1) := by decide +kernel
theorem dX5_cardFact_46 : decode cX5_cardFact 46 = .ok (.getfield 34, 3) := by decide +kernel
theorem dX5_cardFact_49 : decode cX5_cardFact 49 = .ok (.iload_n 1, 1) := by decide +kernel
theorem dX5_cardFact_50 : decode cX5_cardFact 50 = .ok (.iload_n 2, 1) := by decide +kernel
theorem dX5_cardFact_51 : decode cX5_cardFact 51 = .ok (.iconst 3, 1) := by decide +kernel
theorem dX5_cardFact_52 : decode cX5_cardFact 52 = .ok (.isub, 1) := by decide +kernel
theorem dX5_cardFact_53 : decode cX5_cardFact 53 = .ok (.iconst 2, 1) := by decide +kernel
theorem dX5_cardFact_54 : decode cX5_cardFact 54 = .ok (.isub, 1) := by decide +kernel
theorem dX5_cardFact_55 : decode cX5_cardFact 55 = .ok (.aload_n 0, 1) := by decide +kernel
theorem dX5_cardFact_56 : decode cX5_cardFact 56 = .ok (.getfield 34, 3) := by decide +kernel
theorem dX5_cardFact_59 : decode cX5_cardFact 59 = .ok (.getfield 139, 3) := by decide +kernel
theorem dX5_cardFact_62 : decode cX5_cardFact 62 = .ok (.invokevirtual 178, 3) := by decide +kernel
theorem dX5_cardFact_65 : decode cX5_cardFact 65 = .ok (.ireturn, 1) := by decide +kernel
theorem dX5_markedColumns_0 : decode cX5_markedColumns 0 = .ok (.iconst 0, 1) := by decide +kernel
theorem dX5_markedColumns_1 : decode cX5_markedColumns 1 = .ok (.istore_n 3, 1) := by decide +kernel
theorem dX5_markedColumns_2 : decode cX5_markedColumns 2 = .ok (.iconst 0, 1) := by decide +kernel
theorem dX5_markedColumns_3 : decode cX5_markedColumns 3 = .ok (.istore 4, 2) := by decide +kernel
theorem dX5_markedColumns_5 : decode cX5_markedColumns 5 = .ok (.iload 4, 2) := by decide +kernel
theorem dX5_markedColumns_7 : decode cX5_markedColumns 7 = .ok (.iconst 3, 1) := by decide +kernel
theorem dX5_markedColumns_8 : decode cX5_markedColumns 8 = .ok (.if_icmp .ge 106, 3) := by decide +kernel
theorem dX5_markedColumns_11 : decode cX5_markedColumns 11 = .ok (.aload_n 0, 1) := by decide +kernel
theorem dX5_markedColumns_12 : decode cX5_markedColumns 12 = .ok (.getfield 34, 3) := by decide +kernel
theorem dX5_markedColumns_15 : decode cX5_markedColumns 15 = .ok (.iload_n 1, 1) := by decide +kernel
theorem dX5_markedColumns_16 : decode cX5_markedColumns 16 = .ok (.iload 4, 2) := by decide +kernel
theorem dX5_markedColumns_18 : decode cX5_markedColumns 18 = .ok (.aload_n 0, 1) := by decide +kernel
theorem dX5_markedColumns_19 : decode cX5_markedColumns 19 = .ok (.getfield 34, 3) := by decide +kernel
theorem dX5_markedColumns_22 : decode cX5_markedColumns 22 = .ok (.getfield 139, 3) := by decide +kernel
theorem dX5_markedColumns_25 : decode cX5_markedColumns 25 = .ok (.invokevirtual 178, 3) := by decide +kernel
theorem dX5_markedColumns_28 : decode cX5_markedColumns 28 = .ok (.istore 5, 2) := by decide +kernel
theorem dX5_markedColumns_30 : decode cX5_markedColumns 30 = .ok (.aload_n 0, 1) := by decide +kernel
theorem dX5_markedColumns_31 : decode cX5_markedColumns 31 = .ok (.getfield 34, 3) := by decide +kernel
theorem dX5_markedColumns_34 : decode cX5_markedColumns 34 = .ok (.iload_n 1, 1) := by decide +kernel
theorem dX5_markedColumns_35 : decode cX5_markedColumns 35 = .ok (.iload 4, 2) := by decide +kernel
theorem dX5_markedColumns_37 : decode cX5_markedColumns 37 = .ok (.invokevirtual 166, 3) := by decide +kernel
theorem dX5_markedColumns_40 : decode cX5_markedColumns 40 = .ok (.istore 6, 2) := by decide +kernel
theorem dX5_markedColumns_42 : decode cX5_markedColumns 42 = .ok (.iload_n 2, 1) := by decide +kernel
theorem dX5_markedColumns_43 : decode cX5_markedColumns 43 = .ok (.iconst 1, 1) := by decide +kernel
theorem dX5_markedColumns_44 : decode cX5_markedColumns 44 = .ok (.if_icmp .ne 20, 3) := by decide +kernel
theorem dX5_markedColumns_47 : decode cX5_markedColumns 47 = .ok (.iload 5, 2) := by decide +kernel
theorem dX5_markedColumns_49 : decode cX5_markedColumns 49 = .ok (.iload 6, 2) := by decide +kernel
theorem dX5_markedColumns_51 : decode cX5_markedColumns 51 = .ok (.if_icmp .eq 7, 3) := by decide +kernel
theorem dX5_markedColumns_54 : decode cX5_markedColumns 54 = .ok (.iconst 1, 1) := by decide +kernel
theorem dX5_markedColumns_55 : decode cX5_markedColumns 55 = .ok (.goto 4, 3) := by decide +kernel
theorem dX5_markedColumns_58 : decode cX5_markedColumns 58 = .ok (.iconst 0, 1) := by decide +kernel
theorem dX5_markedColumns_59 : decode cX5_markedColumns 59 = .ok (.istore 7, 2) := by decide +kernel
theorem dX5_markedColumns_61 : decode cX5_markedColumns 61 = .ok (.goto 39, 3) := by decide +kernel
theorem dX5_markedColumns_64 : decode cX5_markedColumns 64 = .ok (.iload_n 2, 1) := by decide +kernel
theorem dX5_markedColumns_65 : decode cX5_markedColumns 65 = .ok (.iconst 3, 1) := by decide +kernel
theorem dX5_markedColumns_66 : decode cX5_markedColumns 66 = .ok (.if_icmp .ne 20, 3) := by decide +kernel
theorem dX5_markedColumns_69 : decode cX5_markedColumns 69 = .ok (.iload 5, 2) := by decide +kernel
theorem dX5_markedColumns_71 : decode cX5_markedColumns 71 = .ok (.iload 6, 2) := by decide +kernel
theorem dX5_markedColumns_73 : decode cX5_markedColumns 73 = .ok (.if_icmp .le 7, 3) := by decide +kernel
theorem dX5_markedColumns_76 : decode cX5_markedColumns 76 = .ok (.iconst 1, 1) := by decide +kernel
theorem dX5_markedColumns_77 : decode cX5_markedColumns 77 = .ok (.goto 4, 3) := by decide +kernel
theorem dX5_markedColumns_80 : decode cX5_markedColumns 80 = .ok (.iconst 0, 1) := by decide +kernel
theorem dX5_markedColumns_81 : decode cX5_markedColumns 81 = .ok (.istore 7, 2) := by decide +kernel
theorem dX5_markedColumns_83 : decode cX5_markedColumns 83 = .ok (.goto 17, 3) := by decide +kernel
theorem dX5_markedColumns_86 : decode cX5_markedColumns 86 = .ok (.iload 5, 2) := by decide +kernel
theorem dX5_markedColumns_88 : decode cX5_markedColumns 88 = .ok (.bipush 10, 2) := by decide +kernel
theorem dX5_markedColumns_90 : decode cX5_markedColumns 90 = .ok (.if_icmp .ne 7, 3) := by decide +kernel
theorem dX5_markedColumns_93 : decode cX5_markedColumns 93 = .ok (.iconst 1, 1) := by decide +kernel
theorem dX5_markedColumns_94 : decode cX5_markedColumns 94 = .ok (.goto 4, 3) := by decide +kernel
theorem dX5_markedColumns_97 : decode cX5_markedColumns 97 = .ok (.iconst 0, 1) := by decide +kernel
theorem dX5_markedColumns_98 : decode cX5_markedColumns 98 = .ok (.istore 7, 2) := by decide +kernel
theorem dX5_markedColumns_100 : decode cX5_markedColumns 100 = .ok (.iload 7, 2) := by decide +kernel
theorem dX5_markedColumns_102 : decode cX5_markedColumns 102 = .ok (.ifCond .eq 6, 3) := by decide +kernel
theorem dX5_markedColumns_105 : decode cX5_markedColumns 105 = .ok (.iinc 3 1, 3) := by decide +kernel
theorem dX5_markedColumns_108 : decode cX5_markedColumns 108 = .ok (.iinc 4 1, 3) := by decide +kernel
theorem dX5_markedColumns_111 : decode cX5_markedColumns 111 = .ok (.goto (-106), 3) := by decide +kernel
theorem dX5_markedColumns_114 : decode cX5_markedColumns 114 = .ok (.iload_n 3, 1) := by decide +kernel
theorem dX5_markedColumns_115 : decode cX5_markedColumns 115 = .ok (.ireturn, 1) := by decide +kernel
theorem dX5_counted_0 : decode cX5_counted 0 = .ok (.iload_n 1, 1) := by decide +kernel
theorem dX5_counted_1 : decode cX5_counted 1 = .ok (.tableswitch 142 0 8 #[51, 59, 67, 75, 100, 108, 117, 126, 134], 51) := by decide +kernel
theorem dX5_counted_52 : decode cX5_counted 52 = .ok (.aload_n 0, 1) := by decide +kernel
theorem dX5_counted_53 : decode cX5_counted 53 = .ok (.getfield 34, 3) := by decide +kernel
theorem dX5_counted_56 : decode cX5_counted 56 = .ok (.getfield 123, 3) := by decide +kernel
theorem dX5_counted_59 : decode cX5_counted 59 = .ok (.ireturn, 1) := by decide +kernel
theorem dX5_counted_60 : decode cX5_counted 60 = .ok (.aload_n 0, 1) := by decide +kernel
theorem dX5_counted_61 : decode cX5_counted 61 = .ok (.getfield 34, 3) := by decide +kernel
theorem dX5_counted_64 : decode cX5_counted 64 = .ok (.getfield 139, 3) := by decide +kernel
theorem dX5_counted_67 : decode cX5_counted 67 = .ok (.ireturn, 1) := by decide +kernel
theorem dX5_counted_68 : decode cX5_counted 68 = .ok (.aload_n 0, 1) := by decide +kernel
theorem dX5_counted_69 : decode cX5_counted 69 = .ok (.getfield 34, 3) := by decide +kernel
theorem dX5_counted_72 : decode cX5_counted 72 = .ok (.getfield 169, 3) := by decide +kernel
theorem dX5_counted_75 : decode cX5_counted 75 = .ok (.ireturn, 1) := by decide +kernel
theorem dX5_counted_76 : decode cX5_counted 76 = .ok (.aload_n 0, 1) := by decide +kernel
theorem dX5_counted_77 : decode cX5_counted 77 = .ok (.getfield 34, 3) := by decide +kernel
theorem dX5_counted_80 : decode cX5_counted 80 = .ok (.getfield 123, 3) := by decide +kernel
theorem dX5_counted_83 : decode cX5_counted 83 = .ok (.ifCond .ne 8, 3) := by decide +kernel
theorem dX5_counted_86 : decode cX5_counted 86 = .ok (.bipush (-9), 2) := by decide +kernel
theorem dX5_counted_88 : decode cX5_counted 88 = .ok (.goto 12, 3) := by decide +kernel
theorem dX5_counted_91 : decode cX5_counted 91 = .ok (.aload_n 0, 1) := by decide +kernel
theorem dX5_counted_92 : decode cX5_counted 92 = .ok (.getfield 34, 3) := by decide +kernel
theorem dX5_counted_95 : decode cX5_counted 95 = .ok (.getfield 263, 3) := by decide +kernel
theorem dX5_counted_98 : decode cX5_counted 98 = .ok (.iconst 0, 1) := by decide +kernel
theorem dX5_counted_99 : decode cX5_counted 99 = .ok (.iaload, 1) := by decide +kernel
theorem dX5_counted_100 : decode cX5_counted 100 = .ok (.ireturn, 1) := by decide +kernel
theorem dX5_counted_101 : decode cX5_counted 101 = .ok (.aload_n 0, 1) := by decide +kernel
theorem dX5_counted_102 : decode cX5_counted 102 = .ok (.getfield 34, 3) := by decide +kernel
theorem dX5_counted_105 : decode cX5_counted 105 = .ok (.invokevirtual 277, 3) := by decide +kernel
theorem dX5_counted_108 : decode cX5_counted 108 = .ok (.ireturn, 1) := by decide +kernel
theorem dX5_counted_109 : decode cX5_counted 109 = .ok (.aload_n 0, 1) := by decide +kernel
theorem dX5_counted_110 : decode cX5_counted 110 = .ok (.getfield 34, 3) := by decide +kernel
theorem dX5_counted_113 : decode cX5_counted 113 = .ok (.iconst 2, 1) := by decide +kernel
theorem dX5_counted_114 : decode cX5_counted 114 = .ok (.invokevirtual 281, 3) := by decide +kernel
theorem dX5_counted_117 : decode cX5_counted 117 = .ok (.ireturn, 1) := by decide +kernel
theorem dX5_counted_118 : decode cX5_counted 118 = .ok (.aload_n 0, 1) := by decide +kernel
theorem dX5_counted_119 : decode cX5_counted 119 = .ok (.getfield 34, 3) := by decide +kernel
theorem dX5_counted_122 : decode cX5_counted 122 = .ok (.iconst 3, 1) := by decide +kernel
theorem dX5_counted_123 : decode cX5_counted 123 = .ok (.invokevirtual 281, 3) := by decide +kernel
theorem dX5_counted_126 : decode cX5_counted 126 = .ok (.ireturn, 1) := by decide +kernel
theorem dX5_counted_127 : decode cX5_counted 127 = .ok (.aload_n 0, 1) := by decide +kernel
theorem dX5_counted_128 : decode cX5_counted 128 = .ok (.getfield 14, 3) := by decide +kernel
theorem dX5_counted_131 : decode cX5_counted 131 = .ok (.invokevirtual 284, 3) := by decide +kernel
theorem dX5_counted_134 : decode cX5_counted 134 = .ok (.ireturn, 1) := by decide +kernel
theorem dX5_counted_135 : decode cX5_counted 135 = .ok (.aload_n 0, 1) := by decide +kernel
theorem dX5_counted_136 : decode cX5_counted 136 = .ok (.getfield 18, 3) := by decide +kernel
theorem dX5_counted_139 : decode cX5_counted 139 = .ok (.invokevirtual 284, 3) := by decide +kernel
theorem dX5_counted_142 : decode cX5_counted 142 = .ok (.ireturn, 1) := by decide +kernel
theorem dX5_counted_143 : decode cX5_counted 143 = .ok (.aload_n 0, 1) := by decide +kernel
theorem dX5_counted_144 : decode cX5_counted 144 = .ok (.getfield 21, 3) := by decide +kernel
theorem dX5_counted_147 : decode cX5_counted 147 = .ok (.invokevirtual 284, 3) := by decide +kernel
theorem dX5_counted_150 : decode cX5_counted 150 = .ok (.ireturn, 1) := by decide +kernel
theorem dX5_soughtInto_0 : decode cX5_soughtInto 0 = .ok (.aload_n 0, 1) := by decide +kernel
theorem dX5_soughtInto_1 : decode cX5_soughtInto 1 = .ok (.getfield 41, 3) := by decide +kernel
theorem dX5_soughtInto_4 : decode cX5_soughtInto 4 = .ok (.aload_n 0, 1) := by decide +kernel
theorem dX5_soughtInto_5 : decode cX5_soughtInto 5 = .ok (.getfield 34, 3) := by decide +kernel
theorem dX5_soughtInto_8 : decode cX5_soughtInto 8 = .ok (.invokevirtual 287, 3) := by decide +kernel
theorem dX5_soughtInto_11 : decode cX5_soughtInto 11 = .ok (.istore_n 2, 1) := by decide +kernel
theorem dX5_soughtInto_12 : decode cX5_soughtInto 12 = .ok (.iload_n 2, 1) := by decide +kernel
theorem dX5_soughtInto_13 : decode cX5_soughtInto 13 = .ok (.bipush (-9), 2) := by decide +kernel
theorem dX5_soughtInto_15 : decode cX5_soughtInto 15 = .ok (.if_icmp .eq 19, 3) := by decide +kernel
theorem dX5_soughtInto_18 : decode cX5_soughtInto 18 = .ok (.aload_n 0, 1) := by decide +kernel
theorem dX5_soughtInto_19 : decode cX5_soughtInto 19 = .ok (.getfield 14, 3) := by decide +kernel
theorem dX5_soughtInto_22 : decode cX5_soughtInto 22 = .ok (.iload_n 1, 1) := by decide +kernel
theorem dX5_soughtInto_23 : decode cX5_soughtInto 23 = .ok (.aload_n 0, 1) := by decide +kernel
theorem dX5_soughtInto_24 : decode cX5_soughtInto 24 = .ok (.getfield 41, 3) := by decide +kernel
theorem dX5_soughtInto_27 : decode cX5_soughtInto 27 = .ok (.getfield 291, 3) := by decide +kernel
theorem dX5_soughtInto_30 : decode cX5_soughtInto 30 = .ok (.iload_n 2, 1) := by decide +kernel
theorem dX5_soughtInto_31 : decode cX5_soughtInto 31 = .ok (.invokevirtual 189, 3) := by decide +kernel
theorem dX5_soughtInto_34 : decode cX5_soughtInto 34 = .ok (.iload_n 2, 1) := by decide +kernel
theorem dX5_soughtInto_35 : decode cX5_soughtInto 35 = .ok (.ireturn, 1) := by decide +kernel
theorem dX5_weightOf_0 : decode cX5_weightOf 0 = .ok (.lconst 1, 1) := by decide +kernel
theorem dX5_weightOf_1 : decode cX5_weightOf 1 = .ok (.lstore_n 3, 1) := by decide +kernel
theorem dX5_weightOf_2 : decode cX5_weightOf 2 = .ok (.iconst 0, 1) := by decide +kernel
theorem dX5_weightOf_3 : decode cX5_weightOf 3 = .ok (.istore 5, 2) := by decide +kernel
theorem dX5_weightOf_5 : decode cX5_weightOf 5 = .ok (.iload 5, 2) := by decide +kernel
theorem dX5_weightOf_7 : decode cX5_weightOf 7 = .ok (.aload_n 0, 1) := by decide +kernel
theorem dX5_weightOf_8 : decode cX5_weightOf 8 = .ok (.getfield 34, 3) := by decide +kernel
theorem dX5_weightOf_11 : decode cX5_weightOf 11 = .ok (.getfield 123, 3) := by decide +kernel
theorem dX5_weightOf_14 : decode cX5_weightOf 14 = .ok (.if_icmp .ge 31, 3) := by decide +kernel
theorem dX5_weightOf_17 : decode cX5_weightOf 17 = .ok (.lload_n 3, 1) := by decide +kernel
theorem dX5_weightOf_18 : decode cX5_weightOf 18 = .ok (.iload_n 1, 1) := by decide +kernel
theorem dX5_weightOf_19 : decode cX5_weightOf 19 = .ok (.iload 5, 2) := by decide +kernel
theorem dX5_weightOf_21 : decode cX5_weightOf 21 = .ok (.ishr, 1) := by decide +kernel
theorem dX5_weightOf_22 : decode cX5_weightOf 22 = .ok (.iconst 1, 1) := by decide +kernel
theorem dX5_weightOf_23 : decode cX5_weightOf 23 = .ok (.iand, 1) := by decide +kernel
theorem dX5_weightOf_24 : decode cX5_weightOf 24 = .ok (.ifCond .eq 8, 3) := by decide +kernel
theorem dX5_weightOf_27 : decode cX5_weightOf 27 = .ok (.iload_n 2, 1) := by decide +kernel
theorem dX5_weightOf_28 : decode cX5_weightOf 28 = .ok (.i2l, 1) := by decide +kernel
theorem dX5_weightOf_29 : decode cX5_weightOf 29 = .ok (.goto 8, 3) := by decide +kernel
theorem dX5_weightOf_32 : decode cX5_weightOf 32 = .ok (.bipush 12, 2) := by decide +kernel
theorem dX5_weightOf_34 : decode cX5_weightOf 34 = .ok (.iload_n 2, 1) := by decide +kernel
theorem dX5_weightOf_35 : decode cX5_weightOf 35 = .ok (.isub, 1) := by decide +kernel
theorem dX5_weightOf_36 : decode cX5_weightOf 36 = .ok (.i2l, 1) := by decide +kernel
theorem dX5_weightOf_37 : decode cX5_weightOf 37 = .ok (.lmul, 1) := by decide +kernel
theorem dX5_weightOf_38 : decode cX5_weightOf 38 = .ok (.lstore_n 3, 1) := by decide +kernel
theorem dX5_weightOf_39 : decode cX5_weightOf 39 = .ok (.iinc 5 1, 3) := by decide +kernel
theorem dX5_weightOf_42 : decode cX5_weightOf 42 = .ok (.goto (-37), 3) := by decide +kernel
theorem dX5_weightOf_45 : decode cX5_weightOf 45 = .ok (.lload_n 3, 1) := by decide +kernel
theorem dX5_weightOf_46 : decode cX5_weightOf 46 = .ok (.lreturn, 1) := by decide +kernel
theorem dX5_allWeights_0 : decode cX5_allWeights 0 = .ok (.lconst 1, 1) := by decide +kernel
theorem dX5_allWeights_1 : decode cX5_allWeights 1 = .ok (.lstore_n 1, 1) := by decide +kernel
theorem dX5_allWeights_2 : decode cX5_allWeights 2 = .ok (.iconst 0, 1) := by decide +kernel
theorem dX5_allWeights_3 : decode cX5_allWeights 3 = .ok (.istore_n 3, 1) := by decide +kernel
theorem dX5_allWeights_4 : decode cX5_allWeights 4 = .ok (.iload_n 3, 1) := by decide +kernel
theorem dX5_allWeights_5 : decode cX5_allWeights 5 = .ok (.aload_n 0, 1) := by decide +kernel
theorem dX5_allWeights_6 : decode cX5_allWeights 6 = .ok (.getfield 34, 3) := by decide +kernel
theorem dX5_allWeights_9 : decode cX5_allWeights 9 = .ok (.getfield 123, 3) := by decide +kernel
theorem dX5_allWeights_12 : decode cX5_allWeights 12 = .ok (.if_icmp .ge 15, 3) := by decide +kernel
theorem dX5_allWeights_15 : decode cX5_allWeights 15 = .ok (.lload_n 1, 1) := by decide +kernel
theorem dX5_allWeights_16 : decode cX5_allWeights 16 = .ok (.ldc2_w 294, 3) := by decide +kernel
theorem dX5_allWeights_19 : decode cX5_allWeights 19 = .ok (.lmul, 1) := by decide +kernel
theorem dX5_allWeights_20 : decode cX5_allWeights 20 = .ok (.lstore_n 1, 1) := by decide +kernel
theorem dX5_allWeights_21 : decode cX5_allWeights 21 = .ok (.iinc 3 1, 3) := by decide +kernel
theorem dX5_allWeights_24 : decode cX5_allWeights 24 = .ok (.goto (-20), 3) := by decide +kernel
theorem dX5_allWeights_27 : decode cX5_allWeights 27 = .ok (.lload_n 1, 1) := by decide +kernel
theorem dX5_allWeights_28 : decode cX5_allWeights 28 = .ok (.lreturn, 1) := by decide +kernel
theorem dX5_tellParts_0 : decode cX5_tellParts 0 = .ok (.lload_n 1, 1) := by decide +kernel
theorem dX5_tellParts_1 : decode cX5_tellParts 1 = .ok (.lload_n 3, 1) := by decide +kernel
theorem dX5_tellParts_2 : decode cX5_tellParts 2 = .ok (.invokestatic 296, 3) := by decide +kernel
theorem dX5_tellParts_5 : decode cX5_tellParts 5 = .ok (.lstore 5, 2) := by decide +kernel
theorem dX5_tellParts_7 : decode cX5_tellParts 7 = .ok (.lload 5, 2) := by decide +kernel
theorem dX5_tellParts_9 : decode cX5_tellParts 9 = .ok (.lconst 0, 1) := by decide +kernel
theorem dX5_tellParts_10 : decode cX5_tellParts 10 = .ok (.lcmp, 1) := by decide +kernel
theorem dX5_tellParts_11 : decode cX5_tellParts 11 = .ok (.ifCond .le 19, 3) := by decide +kernel
theorem dX5_tellParts_14 : decode cX5_tellParts 14 = .ok (.aload_n 0, 1) := by decide +kernel
theorem dX5_tellParts_15 : decode cX5_tellParts 15 = .ok (.lload_n 1, 1) := by decide +kernel
theorem dX5_tellParts_16 : decode cX5_tellParts 16 = .ok (.lload 5, 2) := by decide +kernel
theorem dX5_tellParts_18 : decode cX5_tellParts 18 = .ok (.ldiv, 1) := by decide +kernel
theorem dX5_tellParts_19 : decode cX5_tellParts 19 = .ok (.putfield 63, 3) := by decide +kernel
theorem dX5_tellParts_22 : decode cX5_tellParts 22 = .ok (.aload_n 0, 1) := by decide +kernel
theorem dX5_tellParts_23 : decode cX5_tellParts 23 = .ok (.lload_n 3, 1) := by decide +kernel
theorem dX5_tellParts_24 : decode cX5_tellParts 24 = .ok (.lload 5, 2) := by decide +kernel
theorem dX5_tellParts_26 : decode cX5_tellParts 26 = .ok (.ldiv, 1) := by decide +kernel
theorem dX5_tellParts_27 : decode cX5_tellParts 27 = .ok (.putfield 67, 3) := by decide +kernel
theorem dX5_tellParts_30 : decode cX5_tellParts 30 = .ok (.return_, 1) := by decide +kernel
theorem dX5_commonDivisor_0 : decode cX5_commonDivisor 0 = .ok (.iconst 0, 1) := by decide +kernel
theorem dX5_commonDivisor_1 : decode cX5_commonDivisor 1 = .ok (.istore 4, 2) := by decide +kernel
theorem dX5_commonDivisor_3 : decode cX5_commonDivisor 3 = .ok (.iload 4, 2) := by decide +kernel
theorem dX5_commonDivisor_5 : decode cX5_commonDivisor 5 = .ok (.sipush 200, 3) := by decide +kernel
theorem dX5_commonDivisor_8 : decode cX5_commonDivisor 8 = .ok (.if_icmp .ge 25, 3) := by decide +kernel
theorem dX5_commonDivisor_11 : decode cX5_commonDivisor 11 = .ok (.lload_n 2, 1) := by decide +kernel
theorem dX5_commonDivisor_12 : decode cX5_commonDivisor 12 = .ok (.lconst 0, 1) := by decide +kernel
theorem dX5_commonDivisor_13 : decode cX5_commonDivisor 13 = .ok (.lcmp, 1) := by decide +kernel
theorem dX5_commonDivisor_14 : decode cX5_commonDivisor 14 = .ok (.ifCond .eq 19, 3) := by decide +kernel
theorem dX5_commonDivisor_17 : decode cX5_commonDivisor 17 = .ok (.lload_n 0, 1) := by decide +kernel
theorem dX5_commonDivisor_18 : decode cX5_commonDivisor 18 = .ok (.lload_n 2, 1) := by decide +kernel
theorem dX5_commonDivisor_19 : decode cX5_commonDivisor 19 = .ok (.lrem, 1) := by decide +kernel
theorem dX5_commonDivisor_20 : decode cX5_commonDivisor 20 = .ok (.lstore 5, 2) := by decide +kernel
theorem dX5_commonDivisor_22 : decode cX5_commonDivisor 22 = .ok (.lload_n 2, 1) := by decide +kernel
theorem dX5_commonDivisor_23 : decode cX5_commonDivisor 23 = .ok (.lstore_n 0, 1) := by decide +kernel
theorem dX5_commonDivisor_24 : decode cX5_commonDivisor 24 = .ok (.lload 5, 2) := by decide +kernel
theorem dX5_commonDivisor_26 : decode cX5_commonDivisor 26 = .ok (.lstore_n 2, 1) := by decide +kernel
theorem dX5_commonDivisor_27 : decode cX5_commonDivisor 27 = .ok (.iinc 4 1, 3) := by decide +kernel
theorem dX5_commonDivisor_30 : decode cX5_commonDivisor 30 = .ok (.goto (-27), 3) := by decide +kernel
theorem dX5_commonDivisor_33 : decode cX5_commonDivisor 33 = .ok (.lload_n 0, 1) := by decide +kernel
theorem dX5_commonDivisor_34 : decode cX5_commonDivisor 34 = .ok (.lreturn, 1) := by decide +kernel
theorem dX5_deedOf_0 : decode cX5_deedOf 0 = .ok (.iload_n 0, 1) := by decide +kernel
theorem dX5_deedOf_1 : decode cX5_deedOf 1 = .ok (.bipush 10, 2) := by decide +kernel
theorem dX5_deedOf_3 : decode cX5_deedOf 3 = .ok (.imul, 1) := by decide +kernel
theorem dX5_deedOf_4 : decode cX5_deedOf 4 = .ok (.iload_n 1, 1) := by decide +kernel
theorem dX5_deedOf_5 : decode cX5_deedOf 5 = .ok (.iadd, 1) := by decide +kernel
theorem dX5_deedOf_6 : decode cX5_deedOf 6 = .ok (.bipush 10, 2) := by decide +kernel
theorem dX5_deedOf_8 : decode cX5_deedOf 8 = .ok (.imul, 1) := by decide +kernel
theorem dX5_deedOf_9 : decode cX5_deedOf 9 = .ok (.iload_n 2, 1) := by decide +kernel
theorem dX5_deedOf_10 : decode cX5_deedOf 10 = .ok (.iadd, 1) := by decide +kernel
theorem dX5_deedOf_11 : decode cX5_deedOf 11 = .ok (.bipush 10, 2) := by decide +kernel
theorem dX5_deedOf_13 : decode cX5_deedOf 13 = .ok (.imul, 1) := by decide +kernel
theorem dX5_deedOf_14 : decode cX5_deedOf 14 = .ok (.iload_n 3, 1) := by decide +kernel
theorem dX5_deedOf_15 : decode cX5_deedOf 15 = .ok (.iadd, 1) := by decide +kernel
theorem dX5_deedOf_16 : decode cX5_deedOf 16 = .ok (.ireturn, 1) := by decide +kernel
theorem dX5_deedByLot_0 : decode cX5_deedByLot 0 = .ok (.iload_n 0, 1) := by decide +kernel
theorem dX5_deedByLot_1 : decode cX5_deedByLot 1 = .ok (.bipush 8, 2) := by decide +kernel
theorem dX5_deedByLot_3 : decode cX5_deedByLot 3 = .ok (.idiv, 1) := by decide +kernel
theorem dX5_deedByLot_4 : decode cX5_deedByLot 4 = .ok (.bipush 8, 2) := by decide +kernel
theorem dX5_deedByLot_6 : decode cX5_deedByLot 6 = .ok (.irem, 1) := by decide +kernel
theorem dX5_deedByLot_7 : decode cX5_deedByLot 7 = .ok (.istore_n 2, 1) := by decide +kernel
theorem dX5_deedByLot_8 : decode cX5_deedByLot 8 = .ok (.iload_n 2, 1) := by decide +kernel
theorem dX5_deedByLot_9 : decode cX5_deedByLot 9 = .ok (.iconst 5, 1) := by decide +kernel
theorem dX5_deedByLot_10 : decode cX5_deedByLot 10 = .ok (.if_icmp .lt 8, 3) := by decide +kernel
theorem dX5_deedByLot_13 : decode cX5_deedByLot 13 = .ok (.iload_n 1, 1) := by decide +kernel
theorem dX5_deedByLot_14 : decode cX5_deedByLot 14 = .ok (.iconst 2, 1) := by decide +kernel
theorem dX5_deedByLot_15 : decode cX5_deedByLot 15 = .ok (.if_icmp .ge 13, 3) := by decide +kernel
theorem dX5_deedByLot_18 : decode cX5_deedByLot 18 = .ok (.iconst 0, 1) := by decide +kernel
theorem dX5_deedByLot_19 : decode cX5_deedByLot 19 = .ok (.iload_n 0, 1) := by decide +kernel
theorem dX5_deedByLot_20 : decode cX5_deedByLot 20 = .ok (.iconst 3, 1) := by decide +kernel
theorem dX5_deedByLot_21 : decode cX5_deedByLot 21 = .ok (.irem, 1) := by decide +kernel
theorem dX5_deedByLot_22 : decode cX5_deedByLot 22 = .ok (.iconst 0, 1) := by decide +kernel
theorem dX5_deedByLot_23 : decode cX5_deedByLot 23 = .ok (.iconst 0, 1) := by decide +kernel
theorem dX5_deedByLot_24 : decode cX5_deedByLot 24 = .ok (.invokestatic 159, 3) := by decide +kernel
theorem dX5_deedByLot_27 : decode cX5_deedByLot 27 = .ok (.ireturn, 1) := by decide +kernel
theorem dX5_deedByLot_28 : decode cX5_deedByLot 28 = .ok (.iload_n 2, 1) := by decide +kernel
theorem dX5_deedByLot_29 : decode cX5_deedByLot 29 = .ok (.iconst 5, 1) := by decide +kernel
theorem dX5_deedByLot_30 : decode cX5_deedByLot 30 = .ok (.if_icmp .ne 11, 3) := by decide +kernel
theorem dX5_deedByLot_33 : decode cX5_deedByLot 33 = .ok (.iconst 1, 1) := by decide +kernel
theorem dX5_deedByLot_34 : decode cX5_deedByLot 34 = .ok (.iconst 0, 1) := by decide +kernel
theorem dX5_deedByLot_35 : decode cX5_deedByLot 35 = .ok (.iconst 0, 1) := by decide +kernel
theorem dX5_deedByLot_36 : decode cX5_deedByLot 36 = .ok (.iconst 0, 1) := by decide +kernel
theorem dX5_deedByLot_37 : decode cX5_deedByLot 37 = .ok (.invokestatic 159, 3) := by decide +kernel
theorem dX5_deedByLot_40 : decode cX5_deedByLot 40 = .ok (.ireturn, 1) := by decide +kernel
theorem dX5_deedByLot_41 : decode cX5_deedByLot 41 = .ok (.iload_n 2, 1) := by decide +kernel
theorem dX5_deedByLot_42 : decode cX5_deedByLot 42 = .ok (.bipush 6, 2) := by decide +kernel
theorem dX5_deedByLot_44 : decode cX5_deedByLot 44 = .ok (.if_icmp .ne 20, 3) := by decide +kernel
theorem dX5_deedByLot_47 : decode cX5_deedByLot 47 = .ok (.iconst 2, 1) := by decide +kernel
theorem dX5_deedByLot_48 : decode cX5_deedByLot 48 = .ok (.iconst 1, 1) := by decide +kernel
theorem dX5_deedByLot_49 : decode cX5_deedByLot 49 = .ok (.iload_n 0, 1) := by decide +kernel
theorem dX5_deedByLot_50 : decode cX5_deedByLot 50 = .ok (.bipush 64, 2) := by decide +kernel
theorem dX5_deedByLot_52 : decode cX5_deedByLot 52 = .ok (.idiv, 1) := by decide +kernel
theorem dX5_deedByLot_53 : decode cX5_deedByLot 53 = .ok (.iload_n 1, 1) := by decide +kernel
theorem dX5_deedByLot_54 : decode cX5_deedByLot 54 = .ok (.iconst 1, 1) := by decide +kernel
theorem dX5_deedByLot_55 : decode cX5_deedByLot 55 = .ok (.isub, 1) := by decide +kernel
theorem dX5_deedByLot_56 : decode cX5_deedByLot 56 = .ok (.irem, 1) := by decide +kernel
theorem dX5_deedByLot_57 : decode cX5_deedByLot 57 = .ok (.iadd, 1) := by decide +kernel
theorem dX5_deedByLot_58 : decode cX5_deedByLot 58 = .ok (.iconst 0, 1) := by decide +kernel
theorem dX5_deedByLot_59 : decode cX5_deedByLot 59 = .ok (.iconst 0, 1) := by decide +kernel
theorem dX5_deedByLot_60 : decode cX5_deedByLot 60 = .ok (.invokestatic 159, 3) := by decide +kernel
theorem dX5_deedByLot_63 : decode cX5_deedByLot 63 = .ok (.ireturn, 1) := by decide +kernel
theorem dX5_deedByLot_64 : decode cX5_deedByLot 64 = .ok (.iconst 3, 1) := by decide +kernel
theorem dX5_deedByLot_65 : decode cX5_deedByLot 65 = .ok (.iload_n 0, 1) := by decide +kernel
theorem dX5_deedByLot_66 : decode cX5_deedByLot 66 = .ok (.bipush 64, 2) := by decide +kernel
theorem dX5_deedByLot_68 : decode cX5_deedByLot 68 = .ok (.idiv, 1) := by decide +kernel
theorem dX5_deedByLot_69 : decode cX5_deedByLot 69 = .ok (.iload_n 1, 1) := by decide +kernel
theorem dX5_deedByLot_70 : decode cX5_deedByLot 70 = .ok (.irem, 1) := by decide +kernel
theorem dX5_deedByLot_71 : decode cX5_deedByLot 71 = .ok (.iload_n 0, 1) := by decide +kernel
theorem dX5_deedByLot_72 : decode cX5_deedByLot 72 = .ok (.iconst 3, 1) := by decide +kernel
theorem dX5_deedByLot_73 : decode cX5_deedByLot 73 = .ok (.irem, 1) := by decide +kernel
theorem dX5_deedByLot_74 : decode cX5_deedByLot 74 = .ok (.iload_n 0, 1) := by decide +kernel
theorem dX5_deedByLot_75 : decode cX5_deedByLot 75 = .ok (.sipush 512, 3) := by decide +kernel
theorem dX5_deedByLot_78 : decode cX5_deedByLot 78 = .ok (.idiv, 1) := by decide +kernel
theorem dX5_deedByLot_79 : decode cX5_deedByLot 79 = .ok (.bipush 10, 2) := by decide +kernel
theorem dX5_deedByLot_81 : decode cX5_deedByLot 81 = .ok (.irem, 1) := by decide +kernel
theorem dX5_deedByLot_82 : decode cX5_deedByLot 82 = .ok (.invokestatic 159, 3) := by decide +kernel
theorem dX5_deedByLot_85 : decode cX5_deedByLot 85 = .ok (.ireturn, 1) := by decide +kernel
theorem dX5_isOf_0 : decode cX5_isOf 0 = .ok (.iload_n 0, 1) := by decide +kernel
theorem dX5_isOf_1 : decode cX5_isOf 1 = .ok (.iload_n 1, 1) := by decide +kernel
theorem dX5_isOf_2 : decode cX5_isOf 2 = .ok (.if_icmp .eq 12, 3) := by decide +kernel
theorem dX5_isOf_5 : decode cX5_isOf 5 = .ok (.getstatic 300, 3) := by decide +kernel
theorem dX5_isOf_8 : decode cX5_isOf 8 = .ok (.iload_n 0, 1) := by decide +kernel
theorem dX5_isOf_9 : decode cX5_isOf 9 = .ok (.iaload, 1) := by decide +kernel
theorem dX5_isOf_10 : decode cX5_isOf 10 = .ok (.iload_n 1, 1) := by decide +kernel
theorem dX5_isOf_11 : decode cX5_isOf 11 = .ok (.if_icmp .ne 7, 3) := by decide +kernel
theorem dX5_isOf_14 : decode cX5_isOf 14 = .ok (.iconst 1, 1) := by decide +kernel
theorem dX5_isOf_15 : decode cX5_isOf 15 = .ok (.goto 4, 3) := by decide +kernel
theorem dX5_isOf_18 : decode cX5_isOf 18 = .ok (.iconst 0, 1) := by decide +kernel
theorem dX5_isOf_19 : decode cX5_isOf 19 = .ok (.ireturn, 1) := by decide +kernel
theorem dX5_reading_0 : decode cX5_reading 0 = .ok (.aload_n 1, 1) := by decide +kernel
theorem dX5_reading_1 : decode cX5_reading 1 = .ok (.iload_n 2, 1) := by decide +kernel
theorem dX5_reading_2 : decode cX5_reading 2 = .ok (.iload_n 3, 1) := by decide +kernel
theorem dX5_reading_3 : decode cX5_reading 3 = .ok (.iadd, 1) := by decide +kernel
theorem dX5_reading_4 : decode cX5_reading 4 = .ok (.iaload, 1) := by decide +kernel
theorem dX5_reading_5 : decode cX5_reading 5 = .ok (.istore 5, 2) := by decide +kernel
theorem dX5_reading_7 : decode cX5_reading 7 = .ok (.iload_n 0, 1) := by decide +kernel
theorem dX5_reading_8 : decode cX5_reading 8 = .ok (.tableswitch 101 1 5 #[36, 46, 54, 61, 79], 36) := by decide +kernel
theorem dX5_reading_44 : decode cX5_reading 44 = .ok (.aload_n 1, 1) := by decide +kernel
theorem dX5_reading_45 : decode cX5_reading 45 = .ok (.iload_n 2, 1) := by decide +kernel
theorem dX5_reading_46 : decode cX5_reading 46 = .ok (.iconst 3, 1) := by decide +kernel
theorem dX5_reading_47 : decode cX5_reading 47 = .ok (.iadd, 1) := by decide +kernel
theorem dX5_reading_48 : decode cX5_reading 48 = .ok (.iconst 1, 1) := by decide +kernel
theorem dX5_reading_49 : decode cX5_reading 49 = .ok (.isub, 1) := by decide +kernel
theorem dX5_reading_50 : decode cX5_reading 50 = .ok (.iload_n 3, 1) := by decide +kernel
theorem dX5_reading_51 : decode cX5_reading 51 = .ok (.isub, 1) := by decide +kernel
theorem dX5_reading_52 : decode cX5_reading 52 = .ok (.iaload, 1) := by decide +kernel
theorem dX5_reading_53 : decode cX5_reading 53 = .ok (.ireturn, 1) := by decide +kernel
theorem dX5_reading_54 : decode cX5_reading 54 = .ok (.iload 5, 2) := by decide +kernel
theorem dX5_reading_56 : decode cX5_reading 56 = .ok (.iload 4, 2) := by decide +kernel
theorem dX5_reading_58 : decode cX5_reading 58 = .ok (.invokestatic 303, 3) := by decide +kernel
theorem dX5_reading_61 : decode cX5_reading 61 = .ok (.ireturn, 1) := by decide +kernel
theorem dX5_reading_62 : decode cX5_reading 62 = .ok (.aload_n 1, 1) := by decide +kernel
theorem dX5_reading_63 : decode cX5_reading 63 = .ok (.iload_n 2, 1) := by decide +kernel
theorem dX5_reading_64 : decode cX5_reading 64 = .ok (.iload_n 3, 1) := by decide +kernel
theorem dX5_reading_65 : decode cX5_reading 65 = .ok (.invokestatic 306, 3) := by decide +kernel
theorem dX5_reading_68 : decode cX5_reading 68 = .ok (.ireturn, 1) := by decide +kernel
theorem dX5_reading_69 : decode cX5_reading 69 = .ok (.iload 5, 2) := by decide +kernel
theorem dX5_reading_71 : decode cX5_reading 71 = .ok (.ifCond .ne 8, 3) := by decide +kernel
theorem dX5_reading_74 : decode cX5_reading 74 = .ok (.bipush 10, 2) := by decide +kernel
theorem dX5_reading_76 : decode cX5_reading 76 = .ok (.goto 10, 3) := by decide +kernel
theorem dX5_reading_79 : decode cX5_reading 79 = .ok (.iload 5, 2) := by decide +kernel
theorem dX5_reading_81 : decode cX5_reading 81 = .ok (.iload 4, 2) := by decide +kernel
theorem dX5_reading_83 : decode cX5_reading 83 = .ok (.invokestatic 303, 3) := by decide +kernel
theorem dX5_reading_86 : decode cX5_reading 86 = .ok (.ireturn, 1) := by decide +kernel
theorem dX5_reading_87 : decode cX5_reading 87 = .ok (.aload_n 1, 1) := by decide +kernel
theorem dX5_reading_88 : decode cX5_reading 88 = .ok (.iload_n 2, 1) := by decide +kernel
theorem dX5_reading_89 : decode cX5_reading 89 = .ok (.iload_n 3, 1) := by decide +kernel
theorem dX5_reading_90 : decode cX5_reading 90 = .ok (.invokestatic 306, 3) := by decide +kernel
theorem dX5_reading_93 : decode cX5_reading 93 = .ok (.istore 6, 2) := by decide +kernel
theorem dX5_reading_95 : decode cX5_reading 95 = .ok (.iload 6, 2) := by decide +kernel
theorem dX5_reading_97 : decode cX5_reading 97 = .ok (.bipush 9, 2) := by decide +kernel
theorem dX5_reading_99 : decode cX5_reading 99 = .ok (.if_icmp .ne 7, 3) := by decide +kernel
theorem dX5_reading_102 : decode cX5_reading 102 = .ok (.iconst 0, 1) := by decide +kernel
theorem dX5_reading_103 : decode cX5_reading 103 = .ok (.goto 5, 3) := by decide +kernel
theorem dX5_reading_106 : decode cX5_reading 106 = .ok (.iload 6, 2) := by decide +kernel
theorem dX5_reading_108 : decode cX5_reading 108 = .ok (.ireturn, 1) := by decide +kernel
theorem dX5_reading_109 : decode cX5_reading 109 = .ok (.iload 5, 2) := by decide +kernel
theorem dX5_reading_111 : decode cX5_reading 111 = .ok (.ireturn, 1) := by decide +kernel
theorem dX5_wornBy_0 : decode cX5_wornBy 0 = .ok (.iconst 0, 1) := by decide +kernel
theorem dX5_wornBy_1 : decode cX5_wornBy 1 = .ok (.iload_n 0, 1) := by decide +kernel
theorem dX5_wornBy_2 : decode cX5_wornBy 2 = .ok (.iload_n 1, 1) := by decide +kernel
theorem dX5_wornBy_3 : decode cX5_wornBy 3 = .ok (.iconst 4, 1) := by decide +kernel
theorem dX5_wornBy_4 : decode cX5_wornBy 4 = .ok (.idiv, 1) := by decide +kernel
theorem dX5_wornBy_5 : decode cX5_wornBy 5 = .ok (.isub, 1) := by decide +kernel
theorem dX5_wornBy_6 : decode cX5_wornBy 6 = .ok (.invokestatic 309, 3) := by decide +kernel
theorem dX5_wornBy_9 : decode cX5_wornBy 9 = .ok (.ireturn, 1) := by decide +kernel
theorem dX5_doubled_0 : decode cX5_doubled 0 = .ok (.aload_n 0, 1) := by decide +kernel
theorem dX5_doubled_1 : decode cX5_doubled 1 = .ok (.iload_n 1, 1) := by decide +kernel
theorem dX5_doubled_2 : decode cX5_doubled 2 = .ok (.iload_n 2, 1) := by decide +kernel
theorem dX5_doubled_3 : decode cX5_doubled 3 = .ok (.iadd, 1) := by decide +kernel
theorem dX5_doubled_4 : decode cX5_doubled 4 = .ok (.iaload, 1) := by decide +kernel
theorem dX5_doubled_5 : decode cX5_doubled 5 = .ok (.istore_n 3, 1) := by decide +kernel
theorem dX5_doubled_6 : decode cX5_doubled 6 = .ok (.aload_n 0, 1) := by decide +kernel
theorem dX5_doubled_7 : decode cX5_doubled 7 = .ok (.iload_n 1, 1) := by decide +kernel
theorem dX5_doubled_8 : decode cX5_doubled 8 = .ok (.iload_n 2, 1) := by decide +kernel
theorem dX5_doubled_9 : decode cX5_doubled 9 = .ok (.iconst 1, 1) := by decide +kernel
theorem dX5_doubled_10 : decode cX5_doubled 10 = .ok (.iadd, 1) := by decide +kernel
theorem dX5_doubled_11 : decode cX5_doubled 11 = .ok (.iconst 3, 1) := by decide +kernel
theorem dX5_doubled_12 : decode cX5_doubled 12 = .ok (.irem, 1) := by decide +kernel
theorem dX5_doubled_13 : decode cX5_doubled 13 = .ok (.iadd, 1) := by decide +kernel
theorem dX5_doubled_14 : decode cX5_doubled 14 = .ok (.iaload, 1) := by decide +kernel
theorem dX5_doubled_15 : decode cX5_doubled 15 = .ok (.istore 4, 2) := by decide +kernel
theorem dX5_doubled_17 : decode cX5_doubled 17 = .ok (.iload_n 3, 1) := by decide +kernel
theorem dX5_doubled_18 : decode cX5_doubled 18 = .ok (.iload 4, 2) := by decide +kernel
theorem dX5_doubled_20 : decode cX5_doubled 20 = .ok (.if_icmp .le 7, 3) := by decide +kernel
theorem dX5_doubled_23 : decode cX5_doubled 23 = .ok (.iload_n 3, 1) := by decide +kernel
theorem dX5_doubled_24 : decode cX5_doubled 24 = .ok (.goto 5, 3) := by decide +kernel
theorem dX5_doubled_27 : decode cX5_doubled 27 = .ok (.iload 4, 2) := by decide +kernel
theorem dX5_doubled_29 : decode cX5_doubled 29 = .ok (.ireturn, 1) := by decide +kernel
theorem dX5_placeIn_0 : decode cX5_placeIn 0 = .ok (.iconst 0, 1) := by decide +kernel
theorem dX5_placeIn_1 : decode cX5_placeIn 1 = .ok (.istore_n 3, 1) := by decide +kernel
theorem dX5_placeIn_2 : decode cX5_placeIn 2 = .ok (.iload_n 3, 1) := by decide +kernel
theorem dX5_placeIn_3 : decode cX5_placeIn 3 = .ok (.iload_n 2, 1) := by decide +kernel
theorem dX5_placeIn_4 : decode cX5_placeIn 4 = .ok (.if_icmp .ge 18, 3) := by decide +kernel
theorem dX5_placeIn_7 : decode cX5_placeIn 7 = .ok (.aload_n 0, 1) := by decide +kernel
theorem dX5_placeIn_8 : decode cX5_placeIn 8 = .ok (.iload_n 3, 1) := by decide +kernel
theorem dX5_placeIn_9 : decode cX5_placeIn 9 = .ok (.iaload, 1) := by decide +kernel
theorem dX5_placeIn_10 : decode cX5_placeIn 10 = .ok (.iload_n 1, 1) := by decide +kernel
theorem dX5_placeIn_11 : decode cX5_placeIn 11 = .ok (.if_icmp .ne 5, 3) := by decide +kernel
theorem dX5_placeIn_14 : decode cX5_placeIn 14 = .ok (.iload_n 3, 1) := by decide +kernel
theorem dX5_placeIn_15 : decode cX5_placeIn 15 = .ok (.ireturn, 1) := by decide +kernel
theorem dX5_placeIn_16 : decode cX5_placeIn 16 = .ok (.iinc 3 1, 3) := by decide +kernel
theorem dX5_placeIn_19 : decode cX5_placeIn 19 = .ok (.goto (-17), 3) := by decide +kernel
theorem dX5_placeIn_22 : decode cX5_placeIn 22 = .ok (.bipush (-9), 2) := by decide +kernel
theorem dX5_placeIn_24 : decode cX5_placeIn 24 = .ok (.ireturn, 1) := by decide +kernel
theorem dX5_onePassMore_0 : decode cX5_onePassMore 0 = .ok (.bipush 60, 2) := by decide +kernel
theorem dX5_onePassMore_2 : decode cX5_onePassMore 2 = .ok (.iload_n 0, 1) := by decide +kernel
theorem dX5_onePassMore_3 : decode cX5_onePassMore 3 = .ok (.iconst 1, 1) := by decide +kernel
theorem dX5_onePassMore_4 : decode cX5_onePassMore 4 = .ok (.iadd, 1) := by decide +kernel
theorem dX5_onePassMore_5 : decode cX5_onePassMore 5 = .ok (.invokestatic 142, 3) := by decide +kernel
theorem dX5_onePassMore_8 : decode cX5_onePassMore 8 = .ok (.ireturn, 1) := by decide +kernel
theorem dX6_init_0 : decode cX6_init 0 = .ok (.aload_n 0, 1) := by decide +kernel
theorem dX6_init_1 : decode cX6_init 1 = .ok (.invokespecial 1, 3) := by decide +kernel
theorem dX6_init_4 : decode cX6_init 4 = .ok (.aload_n 0, 1) := by decide +kernel
theorem dX6_init_5 : decode cX6_init 5 = .ok (.bipush 6, 2) := by decide +kernel
theorem dX6_init_7 : decode cX6_init 7 = .ok (.newarray .int, 2) := by decide +kernel
theorem dX6_init_9 : decode cX6_init 9 = .ok (.putfield 7, 3) := by decide +kernel
theorem dX6_init_12 : decode cX6_init 12 = .ok (.aload_n 0, 1) := by decide +kernel
theorem dX6_init_13 : decode cX6_init 13 = .ok (.sipush 240, 3) := by decide +kernel
theorem dX6_init_16 : decode cX6_init 16 = .ok (.newarray .int, 2) := by decide +kernel
theorem dX6_init_18 : decode cX6_init 18 = .ok (.putfield 13, 3) := by decide +kernel
theorem dX6_init_21 : decode cX6_init 21 = .ok (.aload_n 0, 1) := by decide +kernel
theorem dX6_init_22 : decode cX6_init 22 = .ok (.iconst 4, 1) := by decide +kernel
theorem dX6_init_23 : decode cX6_init 23 = .ok (.newarray .int, 2) := by decide +kernel
theorem dX6_init_25 : decode cX6_init 25 = .ok (.putfield 16, 3) := by decide +kernel
theorem dX6_init_28 : decode cX6_init 28 = .ok (.aload_n 0, 1) := by decide +kernel
theorem dX6_init_29 : decode cX6_init 29 = .ok (.sipush 240, 3) := by decide +kernel
theorem dX6_init_32 : decode cX6_init 32 = .ok (.newarray .int, 2) := by decide +kernel
theorem dX6_init_34 : decode cX6_init 34 = .ok (.putfield 19, 3) := by decide +kernel
theorem dX6_init_37 : decode cX6_init 37 = .ok (.aload_n 0, 1) := by decide +kernel
theorem dX6_init_38 : decode cX6_init 38 = .ok (.bipush 6, 2) := by decide +kernel
theorem dX6_init_40 : decode cX6_init 40 = .ok (.newarray .int, 2) := by decide +kernel
theorem dX6_init_42 : decode cX6_init 42 = .ok (.putfield 22, 3) := by decide +kernel
theorem dX6_init_45 : decode cX6_init 45 = .ok (.aload_n 0, 1) := by decide +kernel
theorem dX6_init_46 : decode cX6_init 46 = .ok (.bipush 25, 2) := by decide +kernel
theorem dX6_init_48 : decode cX6_init 48 = .ok (.newarray .int, 2) := by decide +kernel
theorem dX6_init_50 : decode cX6_init 50 = .ok (.putfield 25, 3) := by decide +kernel
theorem dX6_init_53 : decode cX6_init 53 = .ok (.aload_n 0, 1) := by decide +kernel
theorem dX6_init_54 : decode cX6_init 54 = .ok (.bipush 25, 2) := by decide +kernel
theorem dX6_init_56 : decode cX6_init 56 = .ok (.newarray .int, 2) := by decide +kernel
theorem dX6_init_58 : decode cX6_init 58 = .ok (.putfield 28, 3) := by decide +kernel
theorem dX6_init_61 : decode cX6_init 61 = .ok (.aload_n 0, 1) := by decide +kernel
theorem dX6_init_62 : decode cX6_init 62 = .ok (.sipush 1000, 3) := by decide +kernel
theorem dX6_init_65 : decode cX6_init 65 = .ok (.newarray .int, 2) := by decide +kernel
theorem dX6_init_67 : decode cX6_init 67 = .ok (.putfield 31, 3) := by decide +kernel
theorem dX6_init_70 : decode cX6_init 70 = .ok (.aload_n 0, 1) := by decide +kernel
theorem dX6_init_71 : decode cX6_init 71 = .ok (.sipush 3078, 3) := by decide +kernel
theorem dX6_init_74 : decode cX6_init 74 = .ok (.newarray .int, 2) := by decide +kernel
theorem dX6_init_76 : decode cX6_init 76 = .ok (.putfield 34, 3) := by decide +kernel
theorem dX6_init_79 : decode cX6_init 79 = .ok (.aload_n 0, 1) := by decide +kernel
theorem dX6_init_80 : decode cX6_init 80 = .ok (.iconst 3, 1) := by decide +kernel
theorem dX6_init_81 : decode cX6_init 81 = .ok (.newarray .boolean, 2) := by decide +kernel
theorem dX6_init_83 : decode cX6_init 83 = .ok (.putfield 37, 3) := by decide +kernel
theorem dX6_init_86 : decode cX6_init 86 = .ok (.aload_n 0, 1) := by decide +kernel
theorem dX6_init_87 : decode cX6_init 87 = .ok (.lconst 1, 1) := by decide +kernel
theorem dX6_init_88 : decode cX6_init 88 = .ok (.putfield 41, 3) := by decide +kernel
theorem dX6_init_91 : decode cX6_init 91 = .ok (.aload_n 0, 1) := by decide +kernel
theorem dX6_init_92 : decode cX6_init 92 = .ok (.bipush 6, 2) := by decide +kernel
theorem dX6_init_94 : decode cX6_init 94 = .ok (.newarray .int, 2) := by decide +kernel
theorem dX6_init_96 : decode cX6_init 96 = .ok (.putfield 45, 3) := by decide +kernel
theorem dX6_init_99 : decode cX6_init 99 = .ok (.aload_n 0, 1) := by decide +kernel
theorem dX6_init_100 : decode cX6_init 100 = .ok (.bipush 6, 2) := by decide +kernel
theorem dX6_init_102 : decode cX6_init 102 = .ok (.newarray .int, 2) := by decide +kernel
theorem dX6_init_104 : decode cX6_init 104 = .ok (.putfield 48, 3) := by decide +kernel
theorem dX6_init_107 : decode cX6_init 107 = .ok (.aload_n 0, 1) := by decide +kernel
theorem dX6_init_108 : decode cX6_init 108 = .ok (.bipush 18, 2) := by decide +kernel
theorem dX6_init_110 : decode cX6_init 110 = .ok (.newarray .int, 2) := by decide +kernel
theorem dX6_init_112 : decode cX6_init 112 = .ok (.putfield 51, 3) := by decide +kernel
theorem dX6_init_115 : decode cX6_init 115 = .ok (.aload_n 0, 1) := by decide +kernel
theorem dX6_init_116 : decode cX6_init 116 = .ok (.bipush 6, 2) := by decide +kernel
theorem dX6_init_118 : decode cX6_init 118 = .ok (.newarray .int, 2) := by decide +kernel
theorem dX6_init_120 : decode cX6_init 120 = .ok (.putfield 54, 3) := by decide +kernel
theorem dX6_init_123 : decode cX6_init 123 = .ok (.aload_n 0, 1) := by decide +kernel
theorem dX6_init_124 : decode cX6_init 124 = .ok (.sipush 4096, 3) := by decide +kernel
theorem dX6_init_127 : decode cX6_init 127 = .ok (.newarray .int, 2) := by decide +kernel
theorem dX6_init_129 : decode cX6_init 129 = .ok (.putfield 57, 3) := by decide +kernel
theorem dX6_init_132 : decode cX6_init 132 = .ok (.iconst 0, 1) := by decide +kernel
theorem dX6_init_133 : decode cX6_init 133 = .ok (.istore_n 1, 1) := by decide +kernel
theorem dX6_init_134 : decode cX6_init 134 = .ok (.iload_n 1, 1) := by decide +kernel
theorem dX6_init_135 : decode cX6_init 135 = .ok (.bipush 6, 2) := by decide +kernel
theorem dX6_init_137 : decode cX6_init 137 = .ok (.if_icmp .ge 16, 3) := by decide +kernel
theorem dX6_init_140 : decode cX6_init 140 = .ok (.aload_n 0, 1) := by decide +kernel
theorem dX6_init_141 : decode cX6_init 141 = .ok (.getfield 7, 3) := by decide +kernel
theorem dX6_init_144 : decode cX6_init 144 = .ok (.iload_n 1, 1) := by decide +kernel
theorem dX6_init_145 : decode cX6_init 145 = .ok (.iconst (-1), 1) := by decide +kernel
theorem dX6_init_146 : decode cX6_init 146 = .ok (.iastore, 1) := by decide +kernel
theorem dX6_init_147 : decode cX6_init 147 = .ok (.iinc 1 1, 3) := by decide +kernel
theorem dX6_init_150 : decode cX6_init 150 = .ok (.goto (-16), 3) := by decide +kernel
theorem dX6_init_153 : decode cX6_init 153 = .ok (.iconst 0, 1) := by decide +kernel
theorem dX6_init_154 : decode cX6_init 154 = .ok (.istore_n 1, 1) := by decide +kernel
theorem dX6_init_155 : decode cX6_init 155 = .ok (.iload_n 1, 1) := by decide +kernel
theorem dX6_init_156 : decode cX6_init 156 = .ok (.iconst 4, 1) := by decide +kernel
theorem dX6_init_157 : decode cX6_init 157 = .ok (.if_icmp .ge 16, 3) := by decide +kernel
theorem dX6_init_160 : decode cX6_init 160 = .ok (.aload_n 0, 1) := by decide +kernel
theorem dX6_init_161 : decode cX6_init 161 = .ok (.getfield 16, 3) := by decide +kernel
theorem dX6_init_164 : decode cX6_init 164 = .ok (.iload_n 1, 1) := by decide +kernel
theorem dX6_init_165 : decode cX6_init 165 = .ok (.iconst (-1), 1) := by decide +kernel
theorem dX6_init_166 : decode cX6_init 166 = .ok (.iastore, 1) := by decide +kernel
theorem dX6_init_167 : decode cX6_init 167 = .ok (.iinc 1 1, 3) := by decide +kernel
theorem dX6_init_170 : decode cX6_init 170 = .ok (.goto (-15), 3) := by decide +kernel
theorem dX6_init_173 : decode cX6_init 173 = .ok (.return_, 1) := by decide +kernel
theorem dX6_in_0 : decode cX6_in 0 = .ok (.lload_n 0, 1) := by decide +kernel
theorem dX6_in_1 : decode cX6_in 1 = .ok (.lload_n 2, 1) := by decide +kernel
theorem dX6_in_2 : decode cX6_in 2 = .ok (.lcmp, 1) := by decide +kernel
theorem dX6_in_3 : decode cX6_in 3 = .ok (.ifCond .lt 14, 3) := by decide +kernel
theorem dX6_in_6 : decode cX6_in 6 = .ok (.lload_n 0, 1) := by decide +kernel
theorem dX6_in_7 : decode cX6_in 7 = .ok (.lload 4, 2) := by decide +kernel
theorem dX6_in_9 : decode cX6_in 9 = .ok (.lcmp, 1) := by decide +kernel
theorem dX6_in_10 : decode cX6_in 10 = .ok (.ifCond .gt 7, 3) := by decide +kernel
theorem dX6_in_13 : decode cX6_in 13 = .ok (.iconst 1, 1) := by decide +kernel
theorem dX6_in_14 : decode cX6_in 14 = .ok (.goto 4, 3) := by decide +kernel
theorem dX6_in_17 : decode cX6_in 17 = .ok (.iconst 0, 1) := by decide +kernel
theorem dX6_in_18 : decode cX6_in 18 = .ok (.ireturn, 1) := by decide +kernel
theorem dX6_has_0 : decode cX6_has 0 = .ok (.iload_n 0, 1) := by decide +kernel
theorem dX6_has_1 : decode cX6_has 1 = .ok (.iload_n 1, 1) := by decide +kernel
theorem dX6_has_2 : decode cX6_has 2 = .ok (.ishr, 1) := by decide +kernel
theorem dX6_has_3 : decode cX6_has 3 = .ok (.iconst 1, 1) := by decide +kernel
theorem dX6_has_4 : decode cX6_has 4 = .ok (.iand, 1) := by decide +kernel
theorem dX6_has_5 : decode cX6_has 5 = .ok (.iconst 1, 1) := by decide +kernel
theorem dX6_has_6 : decode cX6_has 6 = .ok (.if_icmp .ne 7, 3) := by decide +kernel
theorem dX6_has_9 : decode cX6_has 9 = .ok (.iconst 1, 1) := by decide +kernel
theorem dX6_has_10 : decode cX6_has 10 = .ok (.goto 4, 3) := by decide +kernel
theorem dX6_has_13 : decode cX6_has 13 = .ok (.iconst 0, 1) := by decide +kernel
theorem dX6_has_14 : decode cX6_has 14 = .ok (.ireturn, 1) := by decide +kernel
theorem dX6_found_0 : decode cX6_found 0 = .ok (.aload_n 0, 1) := by decide +kernel
theorem dX6_found_1 : decode cX6_found 1 = .ok (.iload_n 1, 1) := by decide +kernel
theorem dX6_found_2 : decode cX6_found 2 = .ok (.putfield 60, 3) := by decide +kernel
theorem dX6_found_5 : decode cX6_found 5 = .ok (.aload_n 0, 1) := by decide +kernel
theorem dX6_found_6 : decode cX6_found 6 = .ok (.getfield 45, 3) := by decide +kernel
theorem dX6_found_9 : decode cX6_found 9 = .ok (.iload_n 1, 1) := by decide +kernel
theorem dX6_found_10 : decode cX6_found 10 = .ok (.dup2, 1) := by decide +kernel
theorem dX6_found_11 : decode cX6_found 11 = .ok (.iaload, 1) := by decide +kernel
theorem dX6_found_12 : decode cX6_found 12 = .ok (.iconst 1, 1) := by decide +kernel
theorem dX6_found_13 : decode cX6_found 13 = .ok (.iadd, 1) := by decide +kernel
theorem dX6_found_14 : decode cX6_found 14 = .ok (.iastore, 1) := by decide +kernel
theorem dX6_found_15 : decode cX6_found 15 = .ok (.bipush (-3), 2) := by decide +kernel
theorem dX6_found_17 : decode cX6_found 17 = .ok (.ireturn, 1) := by decide +kernel
theorem dX6_tell_0 : decode cX6_tell 0 = .ok (.aload_n 0, 1) := by decide +kernel
theorem dX6_tell_1 : decode cX6_tell 1 = .ok (.iload_n 1, 1) := by decide +kernel
theorem dX6_tell_2 : decode cX6_tell 2 = .ok (.putfield 64, 3) := by decide +kernel
theorem dX6_tell_5 : decode cX6_tell 5 = .ok (.iconst 1, 1) := by decide +kernel
theorem dX6_tell_6 : decode cX6_tell 6 = .ok (.ireturn, 1) := by decide +kernel
theorem dX6_answer_0 : decode cX6_answer 0 = .ok (.aload_n 0, 1) := by decide +kernel
theorem dX6_answer_1 : decode cX6_answer 1 = .ok (.iload_n 2, 1) := by decide +kernel
theorem dX6_answer_2 : decode cX6_answer 2 = .ok (.putfield 64, 3) := by decide +kernel
theorem dX6_answer_5 : decode cX6_answer 5 = .ok (.iload_n 1, 1) := by decide +kernel
theorem dX6_answer_6 : decode cX6_answer 6 = .ok (.ireturn, 1) := by decide +kernel
theorem dX6_isRow_0 : decode cX6_isRow 0 = .ok (.iload_n 0, 1) := by decide +kernel
theorem dX6_isRow_1 : decode cX6_isRow 1 = .ok (.i2l, 1) := by decide +kernel
theorem dX6_isRow_2 : decode cX6_isRow 2 = .ok (.lconst 0, 1) := by decide +kernel
theorem dX6_isRow_3 : decode cX6_isRow 3 = .ok (.ldc2_w 67, 3) := by decide +kernel
theorem dX6_isRow_6 : decode cX6_isRow 6 = .ok (.invokestatic 69, 3) := by decide +kernel
theorem dX6_isRow_9 : decode cX6_isRow 9 = .ok (.ireturn, 1) := by decide +kernel
theorem dX6_isText_0 : decode cX6_isText 0 = .ok (.iload_n 0, 1) := by decide +kernel
theorem dX6_isText_1 : decode cX6_isText 1 = .ok (.i2l, 1) := by decide +kernel
theorem dX6_isText_2 : decode cX6_isText 2 = .ok (.lconst 0, 1) := by decide +kernel
theorem dX6_isText_3 : decode cX6_isText 3 = .ok (.ldc2_w 73, 3) := by decide +kernel
theorem dX6_isText_6 : decode cX6_isText 6 = .ok (.invokestatic 69, 3) := by decide +kernel
theorem dX6_isText_9 : decode cX6_isText 9 = .ok (.ireturn, 1) := by decide +kernel
theorem dX6_row_0 : decode cX6_row 0 = .ok (.iload_n 1, 1) := by decide +kernel
theorem dX6_row_1 : decode cX6_row 1 = .ok (.invokestatic 75, 3) := by decide +kernel
theorem dX6_row_4 : decode cX6_row 4 = .ok (.ifCond .eq 9, 3) := by decide +kernel
theorem dX6_row_7 : decode cX6_row 7 = .ok (.iload_n 2, 1) := by decide +kernel
theorem dX6_row_8 : decode cX6_row 8 = .ok (.bipush 40, 2) := by decide +kernel
theorem dX6_row_10 : decode cX6_row 10 = .ok (.if_icmp .le 5, 3) := by decide +kernel
theorem dX6_row_13 : decode cX6_row 13 = .ok (.iconst (-1), 1) := by decide +kernel
theorem dX6_row_14 : decode cX6_row 14 = .ok (.ireturn, 1) := by decide +kernel
theorem dX6_row_15 : decode cX6_row 15 = .ok (.iload_n 2, 1) := by decide +kernel
theorem dX6_row_16 : decode cX6_row 16 = .ok (.ifCond .ge 9, 3) := by decide +kernel
theorem dX6_row_19 : decode cX6_row 19 = .ok (.aload_n 0, 1) := by decide +kernel
theorem dX6_row_20 : decode cX6_row 20 = .ok (.iconst 5, 1) := by decide +kernel
theorem dX6_row_21 : decode cX6_row 21 = .ok (.invokevirtual 79, 3) := by decide +kernel
theorem dX6_row_24 : decode cX6_row 24 = .ok (.ireturn, 1) := by decide +kernel
theorem dX6_row_25 : decode cX6_row 25 = .ok (.aload_n 0, 1) := by decide +kernel
theorem dX6_row_26 : decode cX6_row 26 = .ok (.getfield 7, 3) := by decide +kernel
theorem dX6_row_29 : decode cX6_row 29 = .ok (.iload_n 1, 1) := by decide +kernel
theorem dX6_row_30 : decode cX6_row 30 = .ok (.iload_n 2, 1) := by decide +kernel
theorem dX6_row_31 : decode cX6_row 31 = .ok (.iastore, 1) := by decide +kernel
theorem dX6_row_32 : decode cX6_row 32 = .ok (.iconst 0, 1) := by decide +kernel
theorem dX6_row_33 : decode cX6_row 33 = .ok (.istore_n 3, 1) := by decide +kernel
theorem dX6_row_34 : decode cX6_row 34 = .ok (.iload_n 3, 1) := by decide +kernel
theorem dX6_row_35 : decode cX6_row 35 = .ok (.bipush 40, 2) := by decide +kernel
theorem dX6_row_37 : decode cX6_row 37 = .ok (.if_icmp .ge 21, 3) := by decide +kernel
theorem dX6_row_40 : decode cX6_row 40 = .ok (.aload_n 0, 1) := by decide +kernel
theorem dX6_row_41 : decode cX6_row 41 = .ok (.getfield 13, 3) := by decide +kernel
theorem dX6_row_44 : decode cX6_row 44 = .ok (.bipush 40, 2) := by decide +kernel
theorem dX6_row_46 : decode cX6_row 46 = .ok (.iload_n 1, 1) := by decide +kernel
theorem dX6_row_47 : decode cX6_row 47 = .ok (.imul, 1) := by decide +kernel
theorem dX6_row_48 : decode cX6_row 48 = .ok (.iload_n 3, 1) := by decide +kernel
theorem dX6_row_49 : decode cX6_row 49 = .ok (.iadd, 1) := by decide +kernel
theorem dX6_row_50 : decode cX6_row 50 = .ok (.iconst 0, 1) := by decide +kernel
theorem dX6_row_51 : decode cX6_row 51 = .ok (.iastore, 1) := by decide +kernel
theorem dX6_row_52 : decode cX6_row 52 = .ok (.iinc 3 1, 3) := by decide +kernel
theorem dX6_row_55 : decode cX6_row 55 = .ok (.goto (-21), 3) := by decide +kernel
theorem dX6_row_58 : decode cX6_row 58 = .ok (.iload_n 2, 1) := by decide +kernel
theorem dX6_row_59 : decode cX6_row 59 = .ok (.ireturn, 1) := by decide +kernel
theorem dX6_lay_0 : decode cX6_lay 0 = .ok (.iload_n 1, 1) := by decide +kernel
theorem dX6_lay_1 : decode cX6_lay 1 = .ok (.invokestatic 75, 3) := by decide +kernel
theorem dX6_lay_4 : decode cX6_lay 4 = .ok (.ifCond .ne 5, 3) := by decide +kernel
theorem dX6_lay_7 : decode cX6_lay 7 = .ok (.iconst (-1), 1) := by decide +kernel
theorem dX6_lay_8 : decode cX6_lay 8 = .ok (.ireturn, 1) := by decide +kernel
theorem dX6_lay_9 : decode cX6_lay 9 = .ok (.aload_n 0, 1) := by decide +kernel
theorem dX6_lay_10 : decode cX6_lay 10 = .ok (.getfield 7, 3) := by decide +kernel
theorem dX6_lay_13 : decode cX6_lay 13 = .ok (.iload_n 1, 1) := by decide +kernel
theorem dX6_lay_14 : decode cX6_lay 14 = .ok (.iaload, 1) := by decide +kernel
theorem dX6_lay_15 : decode cX6_lay 15 = .ok (.ifCond .ge 9, 3) := by decide +kernel
theorem dX6_lay_18 : decode cX6_lay 18 = .ok (.aload_n 0, 1) := by decide +kernel
theorem dX6_lay_19 : decode cX6_lay 19 = .ok (.iconst 1, 1) := by decide +kernel
theorem dX6_lay_20 : decode cX6_lay 20 = .ok (.invokevirtual 79, 3) := by decide +kernel
theorem dX6_lay_23 : decode cX6_lay 23 = .ok (.ireturn, 1) := by decide +kernel
theorem dX6_lay_24 : decode cX6_lay 24 = .ok (.iload_n 2, 1) := by decide +kernel
theorem dX6_lay_25 : decode cX6_lay 25 = .ok (.i2l, 1) := by decide +kernel
theorem dX6_lay_26 : decode cX6_lay 26 = .ok (.lconst 0, 1) := by decide +kernel
theorem dX6_lay_27 : decode cX6_lay 27 = .ok (.aload_n 0, 1) := by decide +kernel
theorem dX6_lay_28 : decode cX6_lay 28 = .ok (.getfield 7, 3) := by decide +kernel
theorem dX6_lay_31 : decode cX6_lay 31 = .ok (.iload_n 1, 1) := by decide +kernel
theorem dX6_lay_32 : decode cX6_lay 32 = .ok (.iaload, 1) := by decide +kernel
theorem dX6_lay_33 : decode cX6_lay 33 = .ok (.iconst 1, 1) := by decide +kernel
theorem dX6_lay_34 : decode cX6_lay 34 = .ok (.isub, 1) := by decide +kernel
theorem dX6_lay_35 : decode cX6_lay 35 = .ok (.i2l, 1) := by decide +kernel
theorem dX6_lay_36 : decode cX6_lay 36 = .ok (.invokestatic 69, 3) := by decide +kernel
theorem dX6_lay_39 : decode cX6_lay 39 = .ok (.ifCond .ne 9, 3) := by decide +kernel
theorem dX6_lay_42 : decode cX6_lay 42 = .ok (.aload_n 0, 1) := by decide +kernel
theorem dX6_lay_43 : decode cX6_lay 43 = .ok (.iconst 2, 1) := by decide +kernel
theorem dX6_lay_44 : decode cX6_lay 44 = .ok (.invokevirtual 79, 3) := by decide +kernel
theorem dX6_lay_47 : decode cX6_lay 47 = .ok (.ireturn, 1) := by decide +kernel
theorem dX6_lay_48 : decode cX6_lay 48 = .ok (.aload_n 0, 1) := by decide +kernel
theorem dX6_lay_49 : decode cX6_lay 49 = .ok (.getfield 13, 3) := by decide +kernel
theorem dX6_lay_52 : decode cX6_lay 52 = .ok (.bipush 40, 2) := by decide +kernel
theorem dX6_lay_54 : decode cX6_lay 54 = .ok (.iload_n 1, 1) := by decide +kernel
theorem dX6_lay_55 : decode cX6_lay 55 = .ok (.imul, 1) := by decide +kernel
theorem dX6_lay_56 : decode cX6_lay 56 = .ok (.iload_n 2, 1) := by decide +kernel
theorem dX6_lay_57 : decode cX6_lay 57 = .ok (.iadd, 1) := by decide +kernel
theorem dX6_lay_58 : decode cX6_lay 58 = .ok (.iaload, 1) := by decide +kernel
theorem dX6_lay_59 : decode cX6_lay 59 = .ok (.istore 4, 2) := by decide +kernel
theorem dX6_lay_61 : decode cX6_lay 61 = .ok (.aload_n 0, 1) := by decide +kernel
theorem dX6_lay_62 : decode cX6_lay 62 = .ok (.getfield 13, 3) := by decide +kernel
theorem dX6_lay_65 : decode cX6_lay 65 = .ok (.bipush 40, 2) := by decide +kernel
theorem dX6_lay_67 : decode cX6_lay 67 = .ok (.iload_n 1, 1) := by decide +kernel
theorem dX6_lay_68 : decode cX6_lay 68 = .ok (.imul, 1) := by decide +kernel
theorem dX6_lay_69 : decode cX6_lay 69 = .ok (.iload_n 2, 1) := by decide +kernel
theorem dX6_lay_70 : decode cX6_lay 70 = .ok (.iadd, 1) := by decide +kernel
theorem dX6_lay_71 : decode cX6_lay 71 = .ok (.iload_n 3, 1) := by decide +kernel
theorem dX6_lay_72 : decode cX6_lay 72 = .ok (.iastore, 1) := by decide +kernel
theorem dX6_lay_73 : decode cX6_lay 73 = .ok (.aload_n 0, 1) := by decide +kernel
theorem dX6_lay_74 : decode cX6_lay 74 = .ok (.iload 4, 2) := by decide +kernel
theorem dX6_lay_76 : decode cX6_lay 76 = .ok (.invokevirtual 83, 3) := by decide +kernel
theorem dX6_lay_79 : decode cX6_lay 79 = .ok (.ireturn, 1) := by decide +kernel
theorem dX6_at_0 : decode cX6_at 0 = .ok (.iload_n 1, 1) := by decide +kernel
theorem dX6_at_1 : decode cX6_at 1 = .ok (.invokestatic 75, 3) := by decide +kernel
theorem dX6_at_4 : decode cX6_at 4 = .ok (.ifCond .ne 5, 3) := by decide +kernel
theorem dX6_at_7 : decode cX6_at 7 = .ok (.iconst (-1), 1) := by decide +kernel
theorem dX6_at_8 : decode cX6_at 8 = .ok (.ireturn, 1) := by decide +kernel
theorem dX6_at_9 : decode cX6_at 9 = .ok (.aload_n 0, 1) := by decide +kernel
theorem dX6_at_10 : decode cX6_at 10 = .ok (.getfield 7, 3) := by decide +kernel
theorem dX6_at_13 : decode cX6_at 13 = .ok (.iload_n 1, 1) := by decide +kernel
theorem dX6_at_14 : decode cX6_at 14 = .ok (.iaload, 1) := by decide +kernel
theorem dX6_at_15 : decode cX6_at 15 = .ok (.ifCond .ge 9, 3) := by decide +kernel
theorem dX6_at_18 : decode cX6_at 18 = .ok (.aload_n 0, 1) := by decide +kernel
theorem dX6_at_19 : decode cX6_at 19 = .ok (.iconst 1, 1) := by decide +kernel
theorem dX6_at_20 : decode cX6_at 20 = .ok (.invokevirtual 79, 3) := by decide +kernel
theorem dX6_at_23 : decode cX6_at 23 = .ok (.ireturn, 1) := by decide +kernel
theorem dX6_at_24 : decode cX6_at 24 = .ok (.iload_n 2, 1) := by decide +kernel
theorem dX6_at_25 : decode cX6_at 25 = .ok (.i2l, 1) := by decide +kernel
theorem dX6_at_26 : decode cX6_at 26 = .ok (.lconst 0, 1) := by decide +kernel
theorem dX6_at_27 : decode cX6_at 27 = .ok (.aload_n 0, 1) := by decide +kernel
theorem dX6_at_28 : decode cX6_at 28 = .ok (.getfield 7, 3) := by decide +kernel
theorem dX6_at_31 : decode cX6_at 31 = .ok (.iload_n 1, 1) := by decide +kernel
theorem dX6_at_32 : decode cX6_at 32 = .ok (.iaload, 1) := by decide +kernel
theorem dX6_at_33 : decode cX6_at 33 = .ok (.iconst 1, 1) := by decide +kernel
theorem dX6_at_34 : decode cX6_at 34 = .ok (.isub, 1) := by decide +kernel
theorem dX6_at_35 : decode cX6_at 35 = .ok (.i2l, 1) := by decide +kernel
theorem dX6_at_36 : decode cX6_at 36 = .ok (.invokestatic 69, 3) := by decide +kernel
theorem dX6_at_39 : decode cX6_at 39 = .ok (.ifCond .eq 21, 3) := by decide +kernel
theorem dX6_at_42 : decode cX6_at 42 = .ok (.aload_n 0, 1) := by decide +kernel
theorem dX6_at_43 : decode cX6_at 43 = .ok (.aload_n 0, 1) := by decide +kernel
theorem dX6_at_44 : decode cX6_at 44 = .ok (.getfield 13, 3) := by decide +kernel
theorem dX6_at_47 : decode cX6_at 47 = .ok (.bipush 40, 2) := by decide +kernel
theorem dX6_at_49 : decode cX6_at 49 = .ok (.iload_n 1, 1) := by decide +kernel
theorem dX6_at_50 : decode cX6_at 50 = .ok (.imul, 1) := by decide +kernel
theorem dX6_at_51 : decode cX6_at 51 = .ok (.iload_n 2, 1) := by decide +kernel
theorem dX6_at_52 : decode cX6_at 52 = .ok (.iadd, 1) := by decide +kernel
theorem dX6_at_53 : decode cX6_at 53 = .ok (.iaload, 1) := by decide +kernel
theorem dX6_at_54 : decode cX6_at 54 = .ok (.invokevirtual 83, 3) := by decide +kernel
theorem dX6_at_57 : decode cX6_at 57 = .ok (.goto 8, 3) := by decide +kernel
theorem dX6_at_60 : decode cX6_at 60 = .ok (.aload_n 0, 1) := by decide +kernel
theorem dX6_at_61 : decode cX6_at 61 = .ok (.iconst 2, 1) := by decide +kernel
theorem dX6_at_62 : decode cX6_at 62 = .ok (.invokevirtual 79, 3) := by decide +kernel
theorem dX6_at_65 : decode cX6_at 65 = .ok (.ireturn, 1) := by decide +kernel
theorem dX6_tear_0 : decode cX6_tear 0 = .ok (.iload_n 1, 1) := by decide +kernel
theorem dX6_tear_1 : decode cX6_tear 1 = .ok (.invokestatic 75, 3) := by decide +kernel
theorem dX6_tear_4 : decode cX6_tear 4 = .ok (.ifCond .ne 5, 3) := by decide +kernel
theorem dX6_tear_7 : decode cX6_tear 7 = .ok (.iconst (-1), 1) := by decide +kernel
theorem dX6_tear_8 : decode cX6_tear 8 = .ok (.ireturn, 1) := by decide +kernel
theorem dX6_tear_9 : decode cX6_tear 9 = .ok (.aload_n 0, 1) := by decide +kernel
theorem dX6_tear_10 : decode cX6_tear 10 = .ok (.getfield 7, 3) := by decide +kernel
theorem dX6_tear_13 : decode cX6_tear 13 = .ok (.iload_n 1, 1) := by decide +kernel
theorem dX6_tear_14 : decode cX6_tear 14 = .ok (.iaload, 1) := by decide +kernel
theorem dX6_tear_15 : decode cX6_tear 15 = .ok (.ifCond .ge 9, 3) := by decide +kernel
theorem dX6_tear_18 : decode cX6_tear 18 = .ok (.aload_n 0, 1) := by decide +kernel
theorem dX6_tear_19 : decode cX6_tear 19 = .ok (.iconst 1, 1) := by decide +kernel
theorem dX6_tear_20 : decode cX6_tear 20 = .ok (.invokevirtual 79, 3) := by decide +kernel
theorem dX6_tear_23 : decode cX6_tear 23 = .ok (.ireturn, 1) := by decide +kernel
theorem dX6_tear_24 : decode cX6_tear 24 = .ok (.aload_n 0, 1) := by decide +kernel
theorem dX6_tear_25 : decode cX6_tear 25 = .ok (.getfield 7, 3) := by decide +kernel
theorem dX6_tear_28 : decode cX6_tear 28 = .ok (.iload_n 1, 1) := by decide +kernel
theorem dX6_tear_29 : decode cX6_tear 29 = .ok (.iconst (-1), 1) := by decide +kernel
theorem dX6_tear_30 : decode cX6_tear 30 = .ok (.iastore, 1) := by decide +kernel
theorem dX6_tear_31 : decode cX6_tear 31 = .ok (.iconst 1, 1) := by decide +kernel
theorem dX6_tear_32 : decode cX6_tear 32 = .ok (.ireturn, 1) := by decide +kernel
theorem dX6_copy_0 : decode cX6_copy 0 = .ok (.iload_n 1, 1) := by decide +kernel
theorem dX6_copy_1 : decode cX6_copy 1 = .ok (.invokestatic 75, 3) := by decide +kernel
theorem dX6_copy_4 : decode cX6_copy 4 = .ok (.ifCond .eq 10, 3) := by decide +kernel
theorem dX6_copy_7 : decode cX6_copy 7 = .ok (.iload_n 3, 1) := by decide +kernel
theorem dX6_copy_8 : decode cX6_copy 8 = .ok (.invokestatic 75, 3) := by decide +kernel
theorem dX6_copy_11 : decode cX6_copy 11 = .ok (.ifCond .ne 5, 3) := by decide +kernel
theorem dX6_copy_14 : decode cX6_copy 14 = .ok (.iconst (-1), 1) := by decide +kernel
theorem dX6_copy_15 : decode cX6_copy 15 = .ok (.ireturn, 1) := by decide +kernel
theorem dX6_copy_16 : decode cX6_copy 16 = .ok (.iload 5, 2) := by decide +kernel
theorem dX6_copy_18 : decode cX6_copy 18 = .ok (.ifCond .ge 9, 3) := by decide +kernel
theorem dX6_copy_21 : decode cX6_copy 21 = .ok (.aload_n 0, 1) := by decide +kernel
theorem dX6_copy_22 : decode cX6_copy 22 = .ok (.iconst 5, 1) := by decide +kernel
theorem dX6_copy_23 : decode cX6_copy 23 = .ok (.invokevirtual 79, 3) := by decide +kernel
theorem dX6_copy_26 : decode cX6_copy 26 = .ok (.ireturn, 1) := by decide +kernel
theorem dX6_copy_27 : decode cX6_copy 27 = .ok (.aload_n 0, 1) := by decide +kernel
theorem dX6_copy_28 : decode cX6_copy 28 = .ok (.getfield 7, 3) := by decide +kernel
theorem dX6_copy_31 : decode cX6_copy 31 = .ok (.iload_n 1, 1) := by decide +kernel
theorem dX6_copy_32 : decode cX6_copy 32 = .ok (.iaload, 1) := by decide +kernel
theorem dX6_copy_33 : decode cX6_copy 33 = .ok (.ifCond .lt 12, 3) := by decide +kernel
theorem dX6_copy_36 : decode cX6_copy 36 = .ok (.aload_n 0, 1) := by decide +kernel
theorem dX6_copy_37 : decode cX6_copy 37 = .ok (.getfield 7, 3) := by decide +kernel
theorem dX6_copy_40 : decode cX6_copy 40 = .ok (.iload_n 3, 1) := by decide +kernel
theorem dX6_copy_41 : decode cX6_copy 41 = .ok (.iaload, 1) := by decide +kernel
theorem dX6_copy_42 : decode cX6_copy 42 = .ok (.ifCond .ge 9, 3) := by decide +kernel
theorem dX6_copy_45 : decode cX6_copy 45 = .ok (.aload_n 0, 1) := by decide +kernel
theorem dX6_copy_46 : decode cX6_copy 46 = .ok (.iconst 1, 1) := by decide +kernel
theorem dX6_copy_47 : decode cX6_copy 47 = .ok (.invokevirtual 79, 3) := by decide +kernel
theorem dX6_copy_50 : decode cX6_copy 50 = .ok (.ireturn, 1) := by decide +kernel
theorem dX6_copy_51 : decode cX6_copy 51 = .ok (.iload_n 2, 1) := by decide +kernel
theorem dX6_copy_52 : decode cX6_copy 52 = .ok (.ifCond .lt 43, 3) := by decide +kernel
theorem dX6_copy_55 : decode cX6_copy 55 = .ok (.iload 4, 2) := by decide +kernel
theorem dX6_copy_57 : decode cX6_copy 57 = .ok (.ifCond .lt 38, 3) := by decide +kernel
theorem dX6_copy_60 : decode cX6_copy 60 = .ok (.iload_n 2, 1) := by decide +kernel
theorem dX6_copy_61 : decode cX6_copy 61 = .ok (.i2l, 1) := by decide +kernel
theorem dX6_copy_62 : decode cX6_copy 62 = .ok (.iload 5, 2) := by decide +kernel
theorem dX6_copy_64 : decode cX6_copy 64 = .ok (.i2l, 1) := by decide +kernel
theorem dX6_copy_65 : decode cX6_copy 65 = .ok (.ladd, 1) := by decide +kernel
theorem dX6_copy_66 : decode cX6_copy 66 = .ok (.aload_n 0, 1) := by decide +kernel
theorem dX6_copy_67 : decode cX6_copy 67 = .ok (.getfield 7, 3) := by decide +kernel
theorem dX6_copy_70 : decode cX6_copy 70 = .ok (.iload_n 1, 1) := by decide +kernel
theorem dX6_copy_71 : decode cX6_copy 71 = .ok (.iaload, 1) := by decide +kernel
theorem dX6_copy_72 : decode cX6_copy 72 = .ok (.i2l, 1) := by decide +kernel
theorem dX6_copy_73 : decode cX6_copy 73 = .ok (.lcmp, 1) := by decide +kernel
theorem dX6_copy_74 : decode cX6_copy 74 = .ok (.ifCond .gt 21, 3) := by decide +kernel
theorem dX6_copy_77 : decode cX6_copy 77 = .ok (.iload 4, 2) := by decide +kernel
theorem dX6_copy_79 : decode cX6_copy 79 = .ok (.i2l, 1) := by decide +kernel
theorem dX6_copy_80 : decode cX6_copy 80 = .ok (.iload 5, 2) := by decide +kernel
theorem dX6_copy_82 : decode cX6_copy 82 = .ok (.i2l, 1) := by decide +kernel
theorem dX6_copy_83 : decode cX6_copy 83 = .ok (.ladd, 1) := by decide +kernel
theorem dX6_copy_84 : decode cX6_copy 84 = .ok (.aload_n 0, 1) := by decide +kernel
theorem dX6_copy_85 : decode cX6_copy 85 = .ok (.getfield 7, 3) := by decide +kernel
theorem dX6_copy_88 : decode cX6_copy 88 = .ok (.iload_n 3, 1) := by decide +kernel
