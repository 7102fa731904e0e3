theorem dX6_copy_89 : decode cX6_copy 89 = .ok (.iaload, 1) := by decide +kernel
theorem dX6_copy_90 : decode cX6_copy 90 = .ok (.i2l, 1) := by decide +kernel
theorem dX6_copy_91 : decode cX6_copy 91 = .ok (.lcmp, 1) := by decide +kernel
theorem dX6_copy_92 : decode cX6_copy 92 = .ok (.ifCond .le 9, 3) := by decide +kernel
theorem dX6_copy_95 : decode cX6_copy 95 = .ok (.aload_n 0, 1) := by decide +kernel
theorem dX6_copy_96 : decode cX6_copy 96 = .ok (.iconst 2, 1) := by decide +kernel
theorem dX6_copy_97 : decode cX6_copy 97 = .ok (.invokevirtual 79, 3) := by decide +kernel
theorem dX6_copy_100 : decode cX6_copy 100 = .ok (.ireturn, 1) := by decide +kernel
theorem dX6_copy_101 : decode cX6_copy 101 = .ok (.iconst 0, 1) := by decide +kernel
theorem dX6_copy_102 : decode cX6_copy 102 = .ok (.istore 6, 2) := by decide +kernel
theorem dX6_copy_104 : decode cX6_copy 104 = .ok (.iload 6, 2) := by decide +kernel
theorem dX6_copy_106 : decode cX6_copy 106 = .ok (.iload 5, 2) := by decide +kernel
theorem dX6_copy_108 : decode cX6_copy 108 = .ok (.if_icmp .ge 58, 3) := by decide +kernel
theorem dX6_copy_111 : decode cX6_copy 111 = .ok (.iload 4, 2) := by decide +kernel
theorem dX6_copy_113 : decode cX6_copy 113 = .ok (.iload_n 2, 1) := by decide +kernel
theorem dX6_copy_114 : decode cX6_copy 114 = .ok (.if_icmp .le 13, 3) := by decide +kernel
theorem dX6_copy_117 : decode cX6_copy 117 = .ok (.iload 5, 2) := by decide +kernel
theorem dX6_copy_119 : decode cX6_copy 119 = .ok (.iconst 1, 1) := by decide +kernel
theorem dX6_copy_120 : decode cX6_copy 120 = .ok (.isub, 1) := by decide +kernel
theorem dX6_copy_121 : decode cX6_copy 121 = .ok (.iload 6, 2) := by decide +kernel
theorem dX6_copy_123 : decode cX6_copy 123 = .ok (.isub, 1) := by decide +kernel
theorem dX6_copy_124 : decode cX6_copy 124 = .ok (.goto 5, 3) := by decide +kernel
theorem dX6_copy_127 : decode cX6_copy 127 = .ok (.iload 6, 2) := by decide +kernel
theorem dX6_copy_129 : decode cX6_copy 129 = .ok (.istore 7, 2) := by decide +kernel
theorem dX6_copy_131 : decode cX6_copy 131 = .ok (.aload_n 0, 1) := by decide +kernel
theorem dX6_copy_132 : decode cX6_copy 132 = .ok (.getfield 13, 3) := by decide +kernel
theorem dX6_copy_135 : decode cX6_copy 135 = .ok (.bipush 40, 2) := by decide +kernel
theorem dX6_copy_137 : decode cX6_copy 137 = .ok (.iload_n 3, 1) := by decide +kernel
theorem dX6_copy_138 : decode cX6_copy 138 = .ok (.imul, 1) := by decide +kernel
theorem dX6_copy_139 : decode cX6_copy 139 = .ok (.iload 4, 2) := by decide +kernel
theorem dX6_copy_141 : decode cX6_copy 141 = .ok (.iadd, 1) := by decide +kernel
theorem dX6_copy_142 : decode cX6_copy 142 = .ok (.iload 7, 2) := by decide +kernel
theorem dX6_copy_144 : decode cX6_copy 144 = .ok (.iadd, 1) := by decide +kernel
theorem dX6_copy_145 : decode cX6_copy 145 = .ok (.aload_n 0, 1) := by decide +kernel
theorem dX6_copy_146 : decode cX6_copy 146 = .ok (.getfield 13, 3) := by decide +kernel
theorem dX6_copy_149 : decode cX6_copy 149 = .ok (.bipush 40, 2) := by decide +kernel
theorem dX6_copy_151 : decode cX6_copy 151 = .ok (.iload_n 1, 1) := by decide +kernel
theorem dX6_copy_152 : decode cX6_copy 152 = .ok (.imul, 1) := by decide +kernel
theorem dX6_copy_153 : decode cX6_copy 153 = .ok (.iload_n 2, 1) := by decide +kernel
theorem dX6_copy_154 : decode cX6_copy 154 = .ok (.iadd, 1) := by decide +kernel
theorem dX6_copy_155 : decode cX6_copy 155 = .ok (.iload 7, 2) := by decide +kernel
theorem dX6_copy_157 : decode cX6_copy 157 = .ok (.iadd, 1) := by decide +kernel
theorem dX6_copy_158 : decode cX6_copy 158 = .ok (.iaload, 1) := by decide +kernel
theorem dX6_copy_159 : decode cX6_copy 159 = .ok (.iastore, 1) := by decide +kernel
theorem dX6_copy_160 : decode cX6_copy 160 = .ok (.iinc 6 1, 3) := by decide +kernel
theorem dX6_copy_163 : decode cX6_copy 163 = .ok (.goto (-59), 3) := by decide +kernel
theorem dX6_copy_166 : decode cX6_copy 166 = .ok (.iconst 1, 1) := by decide +kernel
theorem dX6_copy_167 : decode cX6_copy 167 = .ok (.ireturn, 1) := by decide +kernel
theorem dX6_mean_0 : decode cX6_mean 0 = .ok (.iload_n 1, 1) := by decide +kernel
theorem dX6_mean_1 : decode cX6_mean 1 = .ok (.invokestatic 75, 3) := by decide +kernel
theorem dX6_mean_4 : decode cX6_mean 4 = .ok (.ifCond .ne 5, 3) := by decide +kernel
theorem dX6_mean_7 : decode cX6_mean 7 = .ok (.iconst (-1), 1) := by decide +kernel
theorem dX6_mean_8 : decode cX6_mean 8 = .ok (.ireturn, 1) := by decide +kernel
theorem dX6_mean_9 : decode cX6_mean 9 = .ok (.aload_n 0, 1) := by decide +kernel
theorem dX6_mean_10 : decode cX6_mean 10 = .ok (.getfield 7, 3) := by decide +kernel
theorem dX6_mean_13 : decode cX6_mean 13 = .ok (.iload_n 1, 1) := by decide +kernel
theorem dX6_mean_14 : decode cX6_mean 14 = .ok (.iaload, 1) := by decide +kernel
theorem dX6_mean_15 : decode cX6_mean 15 = .ok (.ifCond .ge 9, 3) := by decide +kernel
theorem dX6_mean_18 : decode cX6_mean 18 = .ok (.aload_n 0, 1) := by decide +kernel
theorem dX6_mean_19 : decode cX6_mean 19 = .ok (.iconst 1, 1) := by decide +kernel
theorem dX6_mean_20 : decode cX6_mean 20 = .ok (.invokevirtual 79, 3) := by decide +kernel
theorem dX6_mean_23 : decode cX6_mean 23 = .ok (.ireturn, 1) := by decide +kernel
theorem dX6_mean_24 : decode cX6_mean 24 = .ok (.aload_n 0, 1) := by decide +kernel
theorem dX6_mean_25 : decode cX6_mean 25 = .ok (.getfield 7, 3) := by decide +kernel
theorem dX6_mean_28 : decode cX6_mean 28 = .ok (.iload_n 1, 1) := by decide +kernel
theorem dX6_mean_29 : decode cX6_mean 29 = .ok (.iaload, 1) := by decide +kernel
theorem dX6_mean_30 : decode cX6_mean 30 = .ok (.ifCond .ne 9, 3) := by decide +kernel
theorem dX6_mean_33 : decode cX6_mean 33 = .ok (.aload_n 0, 1) := by decide +kernel
theorem dX6_mean_34 : decode cX6_mean 34 = .ok (.iconst 4, 1) := by decide +kernel
theorem dX6_mean_35 : decode cX6_mean 35 = .ok (.invokevirtual 79, 3) := by decide +kernel
theorem dX6_mean_38 : decode cX6_mean 38 = .ok (.ireturn, 1) := by decide +kernel
theorem dX6_mean_39 : decode cX6_mean 39 = .ok (.lconst 0, 1) := by decide +kernel
theorem dX6_mean_40 : decode cX6_mean 40 = .ok (.lstore_n 2, 1) := by decide +kernel
theorem dX6_mean_41 : decode cX6_mean 41 = .ok (.iconst 0, 1) := by decide +kernel
theorem dX6_mean_42 : decode cX6_mean 42 = .ok (.istore 4, 2) := by decide +kernel
theorem dX6_mean_44 : decode cX6_mean 44 = .ok (.iload 4, 2) := by decide +kernel
theorem dX6_mean_46 : decode cX6_mean 46 = .ok (.aload_n 0, 1) := by decide +kernel
theorem dX6_mean_47 : decode cX6_mean 47 = .ok (.getfield 7, 3) := by decide +kernel
theorem dX6_mean_50 : decode cX6_mean 50 = .ok (.iload_n 1, 1) := by decide +kernel
theorem dX6_mean_51 : decode cX6_mean 51 = .ok (.iaload, 1) := by decide +kernel
theorem dX6_mean_52 : decode cX6_mean 52 = .ok (.if_icmp .ge 25, 3) := by decide +kernel
theorem dX6_mean_55 : decode cX6_mean 55 = .ok (.lload_n 2, 1) := by decide +kernel
theorem dX6_mean_56 : decode cX6_mean 56 = .ok (.aload_n 0, 1) := by decide +kernel
theorem dX6_mean_57 : decode cX6_mean 57 = .ok (.getfield 13, 3) := by decide +kernel
theorem dX6_mean_60 : decode cX6_mean 60 = .ok (.bipush 40, 2) := by decide +kernel
theorem dX6_mean_62 : decode cX6_mean 62 = .ok (.iload_n 1, 1) := by decide +kernel
theorem dX6_mean_63 : decode cX6_mean 63 = .ok (.imul, 1) := by decide +kernel
theorem dX6_mean_64 : decode cX6_mean 64 = .ok (.iload 4, 2) := by decide +kernel
theorem dX6_mean_66 : decode cX6_mean 66 = .ok (.iadd, 1) := by decide +kernel
theorem dX6_mean_67 : decode cX6_mean 67 = .ok (.iaload, 1) := by decide +kernel
theorem dX6_mean_68 : decode cX6_mean 68 = .ok (.i2l, 1) := by decide +kernel
theorem dX6_mean_69 : decode cX6_mean 69 = .ok (.ladd, 1) := by decide +kernel
theorem dX6_mean_70 : decode cX6_mean 70 = .ok (.lstore_n 2, 1) := by decide +kernel
theorem dX6_mean_71 : decode cX6_mean 71 = .ok (.iinc 4 1, 3) := by decide +kernel
theorem dX6_mean_74 : decode cX6_mean 74 = .ok (.goto (-30), 3) := by decide +kernel
theorem dX6_mean_77 : decode cX6_mean 77 = .ok (.aload_n 0, 1) := by decide +kernel
theorem dX6_mean_78 : decode cX6_mean 78 = .ok (.lload_n 2, 1) := by decide +kernel
theorem dX6_mean_79 : decode cX6_mean 79 = .ok (.aload_n 0, 1) := by decide +kernel
theorem dX6_mean_80 : decode cX6_mean 80 = .ok (.getfield 7, 3) := by decide +kernel
theorem dX6_mean_83 : decode cX6_mean 83 = .ok (.iload_n 1, 1) := by decide +kernel
theorem dX6_mean_84 : decode cX6_mean 84 = .ok (.iaload, 1) := by decide +kernel
theorem dX6_mean_85 : decode cX6_mean 85 = .ok (.i2l, 1) := by decide +kernel
theorem dX6_mean_86 : decode cX6_mean 86 = .ok (.ldiv, 1) := by decide +kernel
theorem dX6_mean_87 : decode cX6_mean 87 = .ok (.l2i, 1) := by decide +kernel
theorem dX6_mean_88 : decode cX6_mean 88 = .ok (.invokevirtual 83, 3) := by decide +kernel
theorem dX6_mean_91 : decode cX6_mean 91 = .ok (.ireturn, 1) := by decide +kernel
theorem dX6_text_0 : decode cX6_text 0 = .ok (.iload_n 1, 1) := by decide +kernel
theorem dX6_text_1 : decode cX6_text 1 = .ok (.invokestatic 86, 3) := by decide +kernel
theorem dX6_text_4 : decode cX6_text 4 = .ok (.ifCond .eq 9, 3) := by decide +kernel
theorem dX6_text_7 : decode cX6_text 7 = .ok (.iload_n 2, 1) := by decide +kernel
theorem dX6_text_8 : decode cX6_text 8 = .ok (.bipush 60, 2) := by decide +kernel
theorem dX6_text_10 : decode cX6_text 10 = .ok (.if_icmp .le 5, 3) := by decide +kernel
theorem dX6_text_13 : decode cX6_text 13 = .ok (.iconst (-1), 1) := by decide +kernel
theorem dX6_text_14 : decode cX6_text 14 = .ok (.ireturn, 1) := by decide +kernel
theorem dX6_text_15 : decode cX6_text 15 = .ok (.iload_n 2, 1) := by decide +kernel
theorem dX6_text_16 : decode cX6_text 16 = .ok (.ifCond .ge 9, 3) := by decide +kernel
theorem dX6_text_19 : decode cX6_text 19 = .ok (.aload_n 0, 1) := by decide +kernel
theorem dX6_text_20 : decode cX6_text 20 = .ok (.iconst 5, 1) := by decide +kernel
theorem dX6_text_21 : decode cX6_text 21 = .ok (.invokevirtual 79, 3) := by decide +kernel
theorem dX6_text_24 : decode cX6_text 24 = .ok (.ireturn, 1) := by decide +kernel
theorem dX6_text_25 : decode cX6_text 25 = .ok (.aload_n 0, 1) := by decide +kernel
theorem dX6_text_26 : decode cX6_text 26 = .ok (.getfield 16, 3) := by decide +kernel
theorem dX6_text_29 : decode cX6_text 29 = .ok (.iload_n 1, 1) := by decide +kernel
theorem dX6_text_30 : decode cX6_text 30 = .ok (.iload_n 2, 1) := by decide +kernel
theorem dX6_text_31 : decode cX6_text 31 = .ok (.iastore, 1) := by decide +kernel
theorem dX6_text_32 : decode cX6_text 32 = .ok (.iconst 0, 1) := by decide +kernel
theorem dX6_text_33 : decode cX6_text 33 = .ok (.istore_n 3, 1) := by decide +kernel
theorem dX6_text_34 : decode cX6_text 34 = .ok (.iload_n 3, 1) := by decide +kernel
theorem dX6_text_35 : decode cX6_text 35 = .ok (.bipush 60, 2) := by decide +kernel
theorem dX6_text_37 : decode cX6_text 37 = .ok (.if_icmp .ge 22, 3) := by decide +kernel
theorem dX6_text_40 : decode cX6_text 40 = .ok (.aload_n 0, 1) := by decide +kernel
theorem dX6_text_41 : decode cX6_text 41 = .ok (.getfield 19, 3) := by decide +kernel
theorem dX6_text_44 : decode cX6_text 44 = .ok (.bipush 60, 2) := by decide +kernel
theorem dX6_text_46 : decode cX6_text 46 = .ok (.iload_n 1, 1) := by decide +kernel
theorem dX6_text_47 : decode cX6_text 47 = .ok (.imul, 1) := by decide +kernel
theorem dX6_text_48 : decode cX6_text 48 = .ok (.iload_n 3, 1) := by decide +kernel
theorem dX6_text_49 : decode cX6_text 49 = .ok (.iadd, 1) := by decide +kernel
theorem dX6_text_50 : decode cX6_text 50 = .ok (.bipush 32, 2) := by decide +kernel
theorem dX6_text_52 : decode cX6_text 52 = .ok (.iastore, 1) := by decide +kernel
theorem dX6_text_53 : decode cX6_text 53 = .ok (.iinc 3 1, 3) := by decide +kernel
theorem dX6_text_56 : decode cX6_text 56 = .ok (.goto (-22), 3) := by decide +kernel
theorem dX6_text_59 : decode cX6_text 59 = .ok (.iload_n 2, 1) := by decide +kernel
theorem dX6_text_60 : decode cX6_text 60 = .ok (.ireturn, 1) := by decide +kernel
theorem dX6_put_0 : decode cX6_put 0 = .ok (.iload_n 1, 1) := by decide +kernel
theorem dX6_put_1 : decode cX6_put 1 = .ok (.invokestatic 86, 3) := by decide +kernel
theorem dX6_put_4 : decode cX6_put 4 = .ok (.ifCond .ne 5, 3) := by decide +kernel
theorem dX6_put_7 : decode cX6_put 7 = .ok (.iconst (-1), 1) := by decide +kernel
theorem dX6_put_8 : decode cX6_put 8 = .ok (.ireturn, 1) := by decide +kernel
theorem dX6_put_9 : decode cX6_put 9 = .ok (.aload_n 0, 1) := by decide +kernel
theorem dX6_put_10 : decode cX6_put 10 = .ok (.getfield 16, 3) := by decide +kernel
theorem dX6_put_13 : decode cX6_put 13 = .ok (.iload_n 1, 1) := by decide +kernel
theorem dX6_put_14 : decode cX6_put 14 = .ok (.iaload, 1) := by decide +kernel
theorem dX6_put_15 : decode cX6_put 15 = .ok (.ifCond .ge 9, 3) := by decide +kernel
theorem dX6_put_18 : decode cX6_put 18 = .ok (.aload_n 0, 1) := by decide +kernel
theorem dX6_put_19 : decode cX6_put 19 = .ok (.iconst 1, 1) := by decide +kernel
theorem dX6_put_20 : decode cX6_put 20 = .ok (.invokevirtual 79, 3) := by decide +kernel
theorem dX6_put_23 : decode cX6_put 23 = .ok (.ireturn, 1) := by decide +kernel
theorem dX6_put_24 : decode cX6_put 24 = .ok (.iload_n 2, 1) := by decide +kernel
theorem dX6_put_25 : decode cX6_put 25 = .ok (.i2l, 1) := by decide +kernel
theorem dX6_put_26 : decode cX6_put 26 = .ok (.lconst 0, 1) := by decide +kernel
theorem dX6_put_27 : decode cX6_put 27 = .ok (.aload_n 0, 1) := by decide +kernel
theorem dX6_put_28 : decode cX6_put 28 = .ok (.getfield 16, 3) := by decide +kernel
theorem dX6_put_31 : decode cX6_put 31 = .ok (.iload_n 1, 1) := by decide +kernel
theorem dX6_put_32 : decode cX6_put 32 = .ok (.iaload, 1) := by decide +kernel
theorem dX6_put_33 : decode cX6_put 33 = .ok (.iconst 1, 1) := by decide +kernel
theorem dX6_put_34 : decode cX6_put 34 = .ok (.isub, 1) := by decide +kernel
theorem dX6_put_35 : decode cX6_put 35 = .ok (.i2l, 1) := by decide +kernel
theorem dX6_put_36 : decode cX6_put 36 = .ok (.invokestatic 69, 3) := by decide +kernel
theorem dX6_put_39 : decode cX6_put 39 = .ok (.ifCond .ne 9, 3) := by decide +kernel
theorem dX6_put_42 : decode cX6_put 42 = .ok (.aload_n 0, 1) := by decide +kernel
theorem dX6_put_43 : decode cX6_put 43 = .ok (.iconst 2, 1) := by decide +kernel
theorem dX6_put_44 : decode cX6_put 44 = .ok (.invokevirtual 79, 3) := by decide +kernel
theorem dX6_put_47 : decode cX6_put 47 = .ok (.ireturn, 1) := by decide +kernel
theorem dX6_put_48 : decode cX6_put 48 = .ok (.aload_n 0, 1) := by decide +kernel
theorem dX6_put_49 : decode cX6_put 49 = .ok (.getfield 19, 3) := by decide +kernel
theorem dX6_put_52 : decode cX6_put 52 = .ok (.bipush 60, 2) := by decide +kernel
theorem dX6_put_54 : decode cX6_put 54 = .ok (.iload_n 1, 1) := by decide +kernel
theorem dX6_put_55 : decode cX6_put 55 = .ok (.imul, 1) := by decide +kernel
theorem dX6_put_56 : decode cX6_put 56 = .ok (.iload_n 2, 1) := by decide +kernel
theorem dX6_put_57 : decode cX6_put 57 = .ok (.iadd, 1) := by decide +kernel
theorem dX6_put_58 : decode cX6_put 58 = .ok (.iaload, 1) := by decide +kernel
theorem dX6_put_59 : decode cX6_put 59 = .ok (.istore 4, 2) := by decide +kernel
theorem dX6_put_61 : decode cX6_put 61 = .ok (.aload_n 0, 1) := by decide +kernel
theorem dX6_put_62 : decode cX6_put 62 = .ok (.getfield 19, 3) := by decide +kernel
theorem dX6_put_65 : decode cX6_put 65 = .ok (.bipush 60, 2) := by decide +kernel
theorem dX6_put_67 : decode cX6_put 67 = .ok (.iload_n 1, 1) := by decide +kernel
theorem dX6_put_68 : decode cX6_put 68 = .ok (.imul, 1) := by decide +kernel
theorem dX6_put_69 : decode cX6_put 69 = .ok (.iload_n 2, 1) := by decide +kernel
theorem dX6_put_70 : decode cX6_put 70 = .ok (.iadd, 1) := by decide +kernel
theorem dX6_put_71 : decode cX6_put 71 = .ok (.iload_n 3, 1) := by decide +kernel
theorem dX6_put_72 : decode cX6_put 72 = .ok (.i2b, 1) := by decide +kernel
theorem dX6_put_73 : decode cX6_put 73 = .ok (.iastore, 1) := by decide +kernel
theorem dX6_put_74 : decode cX6_put 74 = .ok (.iload 4, 2) := by decide +kernel
theorem dX6_put_76 : decode cX6_put 76 = .ok (.sipush 1000, 3) := by decide +kernel
theorem dX6_put_79 : decode cX6_put 79 = .ok (.iadd, 1) := by decide +kernel
theorem dX6_put_80 : decode cX6_put 80 = .ok (.ireturn, 1) := by decide +kernel
theorem dX6_copies_0 : decode cX6_copies 0 = .ok (.iconst 0, 1) := by decide +kernel
theorem dX6_copies_1 : decode cX6_copies 1 = .ok (.istore 5, 2) := by decide +kernel
theorem dX6_copies_3 : decode cX6_copies 3 = .ok (.iload 5, 2) := by decide +kernel
theorem dX6_copies_5 : decode cX6_copies 5 = .ok (.iload 4, 2) := by decide +kernel
theorem dX6_copies_7 : decode cX6_copies 7 = .ok (.if_icmp .ge 21, 3) := by decide +kernel
theorem dX6_copies_10 : decode cX6_copies 10 = .ok (.aload_n 2, 1) := by decide +kernel
theorem dX6_copies_11 : decode cX6_copies 11 = .ok (.iload_n 3, 1) := by decide +kernel
theorem dX6_copies_12 : decode cX6_copies 12 = .ok (.iload 5, 2) := by decide +kernel
theorem dX6_copies_14 : decode cX6_copies 14 = .ok (.iadd, 1) := by decide +kernel
theorem dX6_copies_15 : decode cX6_copies 15 = .ok (.aload_n 0, 1) := by decide +kernel
theorem dX6_copies_16 : decode cX6_copies 16 = .ok (.iload_n 1, 1) := by decide +kernel
theorem dX6_copies_17 : decode cX6_copies 17 = .ok (.iload 5, 2) := by decide +kernel
theorem dX6_copies_19 : decode cX6_copies 19 = .ok (.iadd, 1) := by decide +kernel
theorem dX6_copies_20 : decode cX6_copies 20 = .ok (.iaload, 1) := by decide +kernel
theorem dX6_copies_21 : decode cX6_copies 21 = .ok (.iastore, 1) := by decide +kernel
theorem dX6_copies_22 : decode cX6_copies 22 = .ok (.iinc 5 1, 3) := by decide +kernel
theorem dX6_copies_25 : decode cX6_copies 25 = .ok (.goto (-22), 3) := by decide +kernel
theorem dX6_copies_28 : decode cX6_copies 28 = .ok (.return_, 1) := by decide +kernel
theorem dX6_kindOf_0 : decode cX6_kindOf 0 = .ok (.iload_n 0, 1) := by decide +kernel
theorem dX6_kindOf_1 : decode cX6_kindOf 1 = .ok (.lookupswitch 71 #[(99, 59), (100, 65), (109, 69), (116, 67), (119, 63), (120, 61)], 59) := by decide +kernel
theorem dX6_kindOf_60 : decode cX6_kindOf 60 = .ok (.iconst 0, 1) := by decide +kernel
theorem dX6_kindOf_61 : decode cX6_kindOf 61 = .ok (.ireturn, 1) := by decide +kernel
theorem dX6_kindOf_62 : decode cX6_kindOf 62 = .ok (.iconst 1, 1) := by decide +kernel
theorem dX6_kindOf_63 : decode cX6_kindOf 63 = .ok (.ireturn, 1) := by decide +kernel
theorem dX6_kindOf_64 : decode cX6_kindOf 64 = .ok (.iconst 2, 1) := by decide +kernel
theorem dX6_kindOf_65 : decode cX6_kindOf 65 = .ok (.ireturn, 1) := by decide +kernel
theorem dX6_kindOf_66 : decode cX6_kindOf 66 = .ok (.iconst 3, 1) := by decide +kernel
theorem dX6_kindOf_67 : decode cX6_kindOf 67 = .ok (.ireturn, 1) := by decide +kernel
theorem dX6_kindOf_68 : decode cX6_kindOf 68 = .ok (.iconst 4, 1) := by decide +kernel
theorem dX6_kindOf_69 : decode cX6_kindOf 69 = .ok (.ireturn, 1) := by decide +kernel
theorem dX6_kindOf_70 : decode cX6_kindOf 70 = .ok (.iconst 5, 1) := by decide +kernel
theorem dX6_kindOf_71 : decode cX6_kindOf 71 = .ok (.ireturn, 1) := by decide +kernel
theorem dX6_kindOf_72 : decode cX6_kindOf 72 = .ok (.bipush (-9), 2) := by decide +kernel
theorem dX6_kindOf_74 : decode cX6_kindOf 74 = .ok (.ireturn, 1) := by decide +kernel
theorem dX6_reads_0 : decode cX6_reads 0 = .ok (.aload_n 0, 1) := by decide +kernel
theorem dX6_reads_1 : decode cX6_reads 1 = .ok (.getfield 16, 3) := by decide +kernel
theorem dX6_reads_4 : decode cX6_reads 4 = .ok (.iload_n 1, 1) := by decide +kernel
theorem dX6_reads_5 : decode cX6_reads 5 = .ok (.iaload, 1) := by decide +kernel
theorem dX6_reads_6 : decode cX6_reads 6 = .ok (.istore_n 2, 1) := by decide +kernel
theorem dX6_reads_7 : decode cX6_reads 7 = .ok (.iconst 0, 1) := by decide +kernel
theorem dX6_reads_8 : decode cX6_reads 8 = .ok (.istore_n 3, 1) := by decide +kernel
theorem dX6_reads_9 : decode cX6_reads 9 = .ok (.aload_n 0, 1) := by decide +kernel
theorem dX6_reads_10 : decode cX6_reads 10 = .ok (.iconst 0, 1) := by decide +kernel
theorem dX6_reads_11 : decode cX6_reads 11 = .ok (.putfield 89, 3) := by decide +kernel
theorem dX6_reads_14 : decode cX6_reads 14 = .ok (.iload_n 3, 1) := by decide +kernel
theorem dX6_reads_15 : decode cX6_reads 15 = .ok (.iload_n 2, 1) := by decide +kernel
theorem dX6_reads_16 : decode cX6_reads 16 = .ok (.if_icmp .ge 151, 3) := by decide +kernel
theorem dX6_reads_19 : decode cX6_reads 19 = .ok (.aload_n 0, 1) := by decide +kernel
theorem dX6_reads_20 : decode cX6_reads 20 = .ok (.getfield 19, 3) := by decide +kernel
theorem dX6_reads_23 : decode cX6_reads 23 = .ok (.bipush 60, 2) := by decide +kernel
theorem dX6_reads_25 : decode cX6_reads 25 = .ok (.iload_n 1, 1) := by decide +kernel
theorem dX6_reads_26 : decode cX6_reads 26 = .ok (.imul, 1) := by decide +kernel
theorem dX6_reads_27 : decode cX6_reads 27 = .ok (.iload_n 3, 1) := by decide +kernel
theorem dX6_reads_28 : decode cX6_reads 28 = .ok (.iadd, 1) := by decide +kernel
theorem dX6_reads_29 : decode cX6_reads 29 = .ok (.iaload, 1) := by decide +kernel
theorem dX6_reads_30 : decode cX6_reads 30 = .ok (.istore 4, 2) := by decide +kernel
theorem dX6_reads_32 : decode cX6_reads 32 = .ok (.iload 4, 2) := by decide +kernel
theorem dX6_reads_34 : decode cX6_reads 34 = .ok (.bipush 32, 2) := by decide +kernel
theorem dX6_reads_36 : decode cX6_reads 36 = .ok (.if_icmp .eq 125, 3) := by decide +kernel
theorem dX6_reads_39 : decode cX6_reads 39 = .ok (.aload_n 0, 1) := by decide +kernel
theorem dX6_reads_40 : decode cX6_reads 40 = .ok (.getfield 89, 3) := by decide +kernel
theorem dX6_reads_43 : decode cX6_reads 43 = .ok (.bipush 6, 2) := by decide +kernel
theorem dX6_reads_45 : decode cX6_reads 45 = .ok (.if_icmp .eq 13, 3) := by decide +kernel
theorem dX6_reads_48 : decode cX6_reads 48 = .ok (.iload 4, 2) := by decide +kernel
theorem dX6_reads_50 : decode cX6_reads 50 = .ok (.invokestatic 92, 3) := by decide +kernel
theorem dX6_reads_53 : decode cX6_reads 53 = .ok (.bipush (-9), 2) := by decide +kernel
theorem dX6_reads_55 : decode cX6_reads 55 = .ok (.if_icmp .ne 5, 3) := by decide +kernel
theorem dX6_reads_58 : decode cX6_reads 58 = .ok (.iload_n 3, 1) := by decide +kernel
theorem dX6_reads_59 : decode cX6_reads 59 = .ok (.ireturn, 1) := by decide +kernel
theorem dX6_reads_60 : decode cX6_reads 60 = .ok (.aload_n 0, 1) := by decide +kernel
theorem dX6_reads_61 : decode cX6_reads 61 = .ok (.getfield 48, 3) := by decide +kernel
theorem dX6_reads_64 : decode cX6_reads 64 = .ok (.aload_n 0, 1) := by decide +kernel
theorem dX6_reads_65 : decode cX6_reads 65 = .ok (.getfield 89, 3) := by decide +kernel
theorem dX6_reads_68 : decode cX6_reads 68 = .ok (.iload 4, 2) := by decide +kernel
theorem dX6_reads_70 : decode cX6_reads 70 = .ok (.invokestatic 92, 3) := by decide +kernel
theorem dX6_reads_73 : decode cX6_reads 73 = .ok (.iastore, 1) := by decide +kernel
theorem dX6_reads_74 : decode cX6_reads 74 = .ok (.iconst 0, 1) := by decide +kernel
theorem dX6_reads_75 : decode cX6_reads 75 = .ok (.istore 5, 2) := by decide +kernel
theorem dX6_reads_77 : decode cX6_reads 77 = .ok (.iload 5, 2) := by decide +kernel
theorem dX6_reads_79 : decode cX6_reads 79 = .ok (.iconst 3, 1) := by decide +kernel
theorem dX6_reads_80 : decode cX6_reads 80 = .ok (.if_icmp .ge 71, 3) := by decide +kernel
theorem dX6_reads_83 : decode cX6_reads 83 = .ok (.iinc 3 1, 3) := by decide +kernel
theorem dX6_reads_86 : decode cX6_reads 86 = .ok (.iload_n 3, 1) := by decide +kernel
theorem dX6_reads_87 : decode cX6_reads 87 = .ok (.iload_n 2, 1) := by decide +kernel
theorem dX6_reads_88 : decode cX6_reads 88 = .ok (.if_icmp .eq 27, 3) := by decide +kernel
theorem dX6_reads_91 : decode cX6_reads 91 = .ok (.aload_n 0, 1) := by decide +kernel
theorem dX6_reads_92 : decode cX6_reads 92 = .ok (.getfield 19, 3) := by decide +kernel
theorem dX6_reads_95 : decode cX6_reads 95 = .ok (.bipush 60, 2) := by decide +kernel
theorem dX6_reads_97 : decode cX6_reads 97 = .ok (.iload_n 1, 1) := by decide +kernel
theorem dX6_reads_98 : decode cX6_reads 98 = .ok (.imul, 1) := by decide +kernel
theorem dX6_reads_99 : decode cX6_reads 99 = .ok (.iload_n 3, 1) := by decide +kernel
theorem dX6_reads_100 : decode cX6_reads 100 = .ok (.iadd, 1) := by decide +kernel
theorem dX6_reads_101 : decode cX6_reads 101 = .ok (.iaload, 1) := by decide +kernel
theorem dX6_reads_102 : decode cX6_reads 102 = .ok (.i2l, 1) := by decide +kernel
theorem dX6_reads_103 : decode cX6_reads 103 = .ok (.ldc2_w 95, 3) := by decide +kernel
theorem dX6_reads_106 : decode cX6_reads 106 = .ok (.ldc2_w 97, 3) := by decide +kernel
theorem dX6_reads_109 : decode cX6_reads 109 = .ok (.invokestatic 69, 3) := by decide +kernel
theorem dX6_reads_112 : decode cX6_reads 112 = .ok (.ifCond .ne 5, 3) := by decide +kernel
theorem dX6_reads_115 : decode cX6_reads 115 = .ok (.iload_n 3, 1) := by decide +kernel
theorem dX6_reads_116 : decode cX6_reads 116 = .ok (.ireturn, 1) := by decide +kernel
theorem dX6_reads_117 : decode cX6_reads 117 = .ok (.aload_n 0, 1) := by decide +kernel
theorem dX6_reads_118 : decode cX6_reads 118 = .ok (.getfield 51, 3) := by decide +kernel
theorem dX6_reads_121 : decode cX6_reads 121 = .ok (.iconst 3, 1) := by decide +kernel
theorem dX6_reads_122 : decode cX6_reads 122 = .ok (.aload_n 0, 1) := by decide +kernel
theorem dX6_reads_123 : decode cX6_reads 123 = .ok (.getfield 89, 3) := by decide +kernel
theorem dX6_reads_126 : decode cX6_reads 126 = .ok (.imul, 1) := by decide +kernel
theorem dX6_reads_127 : decode cX6_reads 127 = .ok (.iload 5, 2) := by decide +kernel
theorem dX6_reads_129 : decode cX6_reads 129 = .ok (.iadd, 1) := by decide +kernel
theorem dX6_reads_130 : decode cX6_reads 130 = .ok (.aload_n 0, 1) := by decide +kernel
theorem dX6_reads_131 : decode cX6_reads 131 = .ok (.getfield 19, 3) := by decide +kernel
theorem dX6_reads_134 : decode cX6_reads 134 = .ok (.bipush 60, 2) := by decide +kernel
theorem dX6_reads_136 : decode cX6_reads 136 = .ok (.iload_n 1, 1) := by decide +kernel
theorem dX6_reads_137 : decode cX6_reads 137 = .ok (.imul, 1) := by decide +kernel
theorem dX6_reads_138 : decode cX6_reads 138 = .ok (.iload_n 3, 1) := by decide +kernel
theorem dX6_reads_139 : decode cX6_reads 139 = .ok (.iadd, 1) := by decide +kernel
theorem dX6_reads_140 : decode cX6_reads 140 = .ok (.iaload, 1) := by decide +kernel
theorem dX6_reads_141 : decode cX6_reads 141 = .ok (.bipush 48, 2) := by decide +kernel
theorem dX6_reads_143 : decode cX6_reads 143 = .ok (.isub, 1) := by decide +kernel
theorem dX6_reads_144 : decode cX6_reads 144 = .ok (.iastore, 1) := by decide +kernel
theorem dX6_reads_145 : decode cX6_reads 145 = .ok (.iinc 5 1, 3) := by decide +kernel
theorem dX6_reads_148 : decode cX6_reads 148 = .ok (.goto (-71), 3) := by decide +kernel
theorem dX6_reads_151 : decode cX6_reads 151 = .ok (.aload_n 0, 1) := by decide +kernel
theorem dX6_reads_152 : decode cX6_reads 152 = .ok (.dup, 1) := by decide +kernel
theorem dX6_reads_153 : decode cX6_reads 153 = .ok (.getfield 89, 3) := by decide +kernel
theorem dX6_reads_156 : decode cX6_reads 156 = .ok (.iconst 1, 1) := by decide +kernel
theorem dX6_reads_157 : decode cX6_reads 157 = .ok (.iadd, 1) := by decide +kernel
theorem dX6_reads_158 : decode cX6_reads 158 = .ok (.putfield 89, 3) := by decide +kernel
theorem dX6_reads_161 : decode cX6_reads 161 = .ok (.iinc 3 1, 3) := by decide +kernel
theorem dX6_reads_164 : decode cX6_reads 164 = .ok (.goto (-150), 3) := by decide +kernel
theorem dX6_reads_167 : decode cX6_reads 167 = .ok (.aload_n 0, 1) := by decide +kernel
theorem dX6_reads_168 : decode cX6_reads 168 = .ok (.getfield 89, 3) := by decide +kernel
theorem dX6_reads_171 : decode cX6_reads 171 = .ok (.iconst 2, 1) := by decide +kernel
theorem dX6_reads_172 : decode cX6_reads 172 = .ok (.if_icmp .ge 7, 3) := by decide +kernel
theorem dX6_reads_175 : decode cX6_reads 175 = .ok (.iload_n 2, 1) := by decide +kernel
theorem dX6_reads_176 : decode cX6_reads 176 = .ok (.goto 5, 3) := by decide +kernel
theorem dX6_reads_179 : decode cX6_reads 179 = .ok (.bipush (-9), 2) := by decide +kernel
theorem dX6_reads_181 : decode cX6_reads 181 = .ok (.ireturn, 1) := by decide +kernel
theorem dX6_fault_0 : decode cX6_fault 0 = .ok (.iload_n 1, 1) := by decide +kernel
theorem dX6_fault_1 : decode cX6_fault 1 = .ok (.invokestatic 86, 3) := by decide +kernel
theorem dX6_fault_4 : decode cX6_fault 4 = .ok (.ifCond .ne 5, 3) := by decide +kernel
theorem dX6_fault_7 : decode cX6_fault 7 = .ok (.iconst (-1), 1) := by decide +kernel
theorem dX6_fault_8 : decode cX6_fault 8 = .ok (.ireturn, 1) := by decide +kernel
theorem dX6_fault_9 : decode cX6_fault 9 = .ok (.aload_n 0, 1) := by decide +kernel
theorem dX6_fault_10 : decode cX6_fault 10 = .ok (.getfield 16, 3) := by decide +kernel
theorem dX6_fault_13 : decode cX6_fault 13 = .ok (.iload_n 1, 1) := by decide +kernel
theorem dX6_fault_14 : decode cX6_fault 14 = .ok (.iaload, 1) := by decide +kernel
theorem dX6_fault_15 : decode cX6_fault 15 = .ok (.ifCond .ge 11, 3) := by decide +kernel
theorem dX6_fault_18 : decode cX6_fault 18 = .ok (.aload_n 0, 1) := by decide +kernel
theorem dX6_fault_19 : decode cX6_fault 19 = .ok (.iconst 1, 1) := by decide +kernel
theorem dX6_fault_20 : decode cX6_fault 20 = .ok (.invokevirtual 79, 3) := by decide +kernel
theorem dX6_fault_23 : decode cX6_fault 23 = .ok (.goto 8, 3) := by decide +kernel
theorem dX6_fault_26 : decode cX6_fault 26 = .ok (.aload_n 0, 1) := by decide +kernel
theorem dX6_fault_27 : decode cX6_fault 27 = .ok (.iload_n 1, 1) := by decide +kernel
theorem dX6_fault_28 : decode cX6_fault 28 = .ok (.invokevirtual 99, 3) := by decide +kernel
theorem dX6_fault_31 : decode cX6_fault 31 = .ok (.ireturn, 1) := by decide +kernel
theorem dX6_deck_0 : decode cX6_deck 0 = .ok (.iload_n 1, 1) := by decide +kernel
theorem dX6_deck_1 : decode cX6_deck 1 = .ok (.invokestatic 86, 3) := by decide +kernel
theorem dX6_deck_4 : decode cX6_deck 4 = .ok (.ifCond .ne 5, 3) := by decide +kernel
theorem dX6_deck_7 : decode cX6_deck 7 = .ok (.iconst (-1), 1) := by decide +kernel
theorem dX6_deck_8 : decode cX6_deck 8 = .ok (.ireturn, 1) := by decide +kernel
theorem dX6_deck_9 : decode cX6_deck 9 = .ok (.aload_n 0, 1) := by decide +kernel
theorem dX6_deck_10 : decode cX6_deck 10 = .ok (.getfield 16, 3) := by decide +kernel
theorem dX6_deck_13 : decode cX6_deck 13 = .ok (.iload_n 1, 1) := by decide +kernel
theorem dX6_deck_14 : decode cX6_deck 14 = .ok (.iaload, 1) := by decide +kernel
theorem dX6_deck_15 : decode cX6_deck 15 = .ok (.ifCond .ge 9, 3) := by decide +kernel
theorem dX6_deck_18 : decode cX6_deck 18 = .ok (.aload_n 0, 1) := by decide +kernel
theorem dX6_deck_19 : decode cX6_deck 19 = .ok (.iconst 1, 1) := by decide +kernel
theorem dX6_deck_20 : decode cX6_deck 20 = .ok (.invokevirtual 79, 3) := by decide +kernel
theorem dX6_deck_23 : decode cX6_deck 23 = .ok (.ireturn, 1) := by decide +kernel
theorem dX6_deck_24 : decode cX6_deck 24 = .ok (.aload_n 0, 1) := by decide +kernel
theorem dX6_deck_25 : decode cX6_deck 25 = .ok (.iload_n 1, 1) := by decide +kernel
theorem dX6_deck_26 : decode cX6_deck 26 = .ok (.invokevirtual 99, 3) := by decide +kernel
theorem dX6_deck_29 : decode cX6_deck 29 = .ok (.bipush (-9), 2) := by decide +kernel
theorem dX6_deck_31 : decode cX6_deck 31 = .ok (.if_icmp .eq 6, 3) := by decide +kernel
theorem dX6_deck_34 : decode cX6_deck 34 = .ok (.bipush (-4), 2) := by decide +kernel
theorem dX6_deck_36 : decode cX6_deck 36 = .ok (.ireturn, 1) := by decide +kernel
theorem dX6_deck_37 : decode cX6_deck 37 = .ok (.aload_n 0, 1) := by decide +kernel
theorem dX6_deck_38 : decode cX6_deck 38 = .ok (.aload_n 0, 1) := by decide +kernel
theorem dX6_deck_39 : decode cX6_deck 39 = .ok (.getfield 89, 3) := by decide +kernel
theorem dX6_deck_42 : decode cX6_deck 42 = .ok (.putfield 102, 3) := by decide +kernel
theorem dX6_deck_45 : decode cX6_deck 45 = .ok (.aload_n 0, 1) := by decide +kernel
theorem dX6_deck_46 : decode cX6_deck 46 = .ok (.getfield 48, 3) := by decide +kernel
theorem dX6_deck_49 : decode cX6_deck 49 = .ok (.iconst 0, 1) := by decide +kernel
theorem dX6_deck_50 : decode cX6_deck 50 = .ok (.aload_n 0, 1) := by decide +kernel
theorem dX6_deck_51 : decode cX6_deck 51 = .ok (.getfield 22, 3) := by decide +kernel
theorem dX6_deck_54 : decode cX6_deck 54 = .ok (.iconst 0, 1) := by decide +kernel
theorem dX6_deck_55 : decode cX6_deck 55 = .ok (.bipush 6, 2) := by decide +kernel
theorem dX6_deck_57 : decode cX6_deck 57 = .ok (.invokestatic 105, 3) := by decide +kernel
theorem dX6_deck_60 : decode cX6_deck 60 = .ok (.iconst 0, 1) := by decide +kernel
theorem dX6_deck_61 : decode cX6_deck 61 = .ok (.istore_n 2, 1) := by decide +kernel
theorem dX6_deck_62 : decode cX6_deck 62 = .ok (.iload_n 2, 1) := by decide +kernel
theorem dX6_deck_63 : decode cX6_deck 63 = .ok (.bipush 6, 2) := by decide +kernel
theorem dX6_deck_65 : decode cX6_deck 65 = .ok (.if_icmp .ge 16, 3) := by decide +kernel
theorem dX6_deck_68 : decode cX6_deck 68 = .ok (.aload_n 0, 1) := by decide +kernel
theorem dX6_deck_69 : decode cX6_deck 69 = .ok (.getfield 25, 3) := by decide +kernel
theorem dX6_deck_72 : decode cX6_deck 72 = .ok (.iload_n 2, 1) := by decide +kernel
theorem dX6_deck_73 : decode cX6_deck 73 = .ok (.iload_n 2, 1) := by decide +kernel
theorem dX6_deck_74 : decode cX6_deck 74 = .ok (.iastore, 1) := by decide +kernel
theorem dX6_deck_75 : decode cX6_deck 75 = .ok (.iinc 2 1, 3) := by decide +kernel
theorem dX6_deck_78 : decode cX6_deck 78 = .ok (.goto (-16), 3) := by decide +kernel
theorem dX6_deck_81 : decode cX6_deck 81 = .ok (.aload_n 0, 1) := by decide +kernel
theorem dX6_deck_82 : decode cX6_deck 82 = .ok (.getfield 51, 3) := by decide +kernel
theorem dX6_deck_85 : decode cX6_deck 85 = .ok (.iconst 0, 1) := by decide +kernel
theorem dX6_deck_86 : decode cX6_deck 86 = .ok (.aload_n 0, 1) := by decide +kernel
theorem dX6_deck_87 : decode cX6_deck 87 = .ok (.getfield 25, 3) := by decide +kernel
theorem dX6_deck_90 : decode cX6_deck 90 = .ok (.bipush 6, 2) := by decide +kernel
theorem dX6_deck_92 : decode cX6_deck 92 = .ok (.bipush 18, 2) := by decide +kernel
theorem dX6_deck_94 : decode cX6_deck 94 = .ok (.invokestatic 105, 3) := by decide +kernel
theorem dX6_deck_97 : decode cX6_deck 97 = .ok (.aload_n 0, 1) := by decide +kernel
theorem dX6_deck_98 : decode cX6_deck 98 = .ok (.getfield 25, 3) := by decide +kernel
theorem dX6_deck_101 : decode cX6_deck 101 = .ok (.bipush 24, 2) := by decide +kernel
theorem dX6_deck_103 : decode cX6_deck 103 = .ok (.iconst 0, 1) := by decide +kernel
theorem dX6_deck_104 : decode cX6_deck 104 = .ok (.iastore, 1) := by decide +kernel
theorem dX6_deck_105 : decode cX6_deck 105 = .ok (.aload_n 0, 1) := by decide +kernel
theorem dX6_deck_106 : decode cX6_deck 106 = .ok (.iconst 0, 1) := by decide +kernel
theorem dX6_deck_107 : decode cX6_deck 107 = .ok (.putfield 109, 3) := by decide +kernel
theorem dX6_deck_110 : decode cX6_deck 110 = .ok (.iconst 0, 1) := by decide +kernel
theorem dX6_deck_111 : decode cX6_deck 111 = .ok (.istore_n 2, 1) := by decide +kernel
theorem dX6_deck_112 : decode cX6_deck 112 = .ok (.iload_n 2, 1) := by decide +kernel
theorem dX6_deck_113 : decode cX6_deck 113 = .ok (.iconst 3, 1) := by decide +kernel
theorem dX6_deck_114 : decode cX6_deck 114 = .ok (.if_icmp .ge 16, 3) := by decide +kernel
theorem dX6_deck_117 : decode cX6_deck 117 = .ok (.aload_n 0, 1) := by decide +kernel
theorem dX6_deck_118 : decode cX6_deck 118 = .ok (.getfield 37, 3) := by decide +kernel
theorem dX6_deck_121 : decode cX6_deck 121 = .ok (.iload_n 2, 1) := by decide +kernel
theorem dX6_deck_122 : decode cX6_deck 122 = .ok (.iconst 0, 1) := by decide +kernel
theorem dX6_deck_123 : decode cX6_deck 123 = .ok (.bastore, 1) := by decide +kernel
theorem dX6_deck_124 : decode cX6_deck 124 = .ok (.iinc 2 1, 3) := by decide +kernel
theorem dX6_deck_127 : decode cX6_deck 127 = .ok (.goto (-15), 3) := by decide +kernel
theorem dX6_deck_130 : decode cX6_deck 130 = .ok (.aload_n 0, 1) := by decide +kernel
theorem dX6_deck_131 : decode cX6_deck 131 = .ok (.getfield 102, 3) := by decide +kernel
theorem dX6_deck_134 : decode cX6_deck 134 = .ok (.ireturn, 1) := by decide +kernel
theorem dX6_isCard_0 : decode cX6_isCard 0 = .ok (.iload_n 1, 1) := by decide +kernel
theorem dX6_isCard_1 : decode cX6_isCard 1 = .ok (.i2l, 1) := by decide +kernel
theorem dX6_isCard_2 : decode cX6_isCard 2 = .ok (.lconst 0, 1) := by decide +kernel
theorem dX6_isCard_3 : decode cX6_isCard 3 = .ok (.aload_n 0, 1) := by decide +kernel
theorem dX6_isCard_4 : decode cX6_isCard 4 = .ok (.getfield 102, 3) := by decide +kernel
theorem dX6_isCard_7 : decode cX6_isCard 7 = .ok (.iconst 1, 1) := by decide +kernel
theorem dX6_isCard_8 : decode cX6_isCard 8 = .ok (.isub, 1) := by decide +kernel
theorem dX6_isCard_9 : decode cX6_isCard 9 = .ok (.i2l, 1) := by decide +kernel
theorem dX6_isCard_10 : decode cX6_isCard 10 = .ok (.invokestatic 69, 3) := by decide +kernel
theorem dX6_isCard_13 : decode cX6_isCard 13 = .ok (.ireturn, 1) := by decide +kernel
theorem dX6_isColumn_0 : decode cX6_isColumn 0 = .ok (.iload_n 0, 1) := by decide +kernel
theorem dX6_isColumn_1 : decode cX6_isColumn 1 = .ok (.i2l, 1) := by decide +kernel
theorem dX6_isColumn_2 : decode cX6_isColumn 2 = .ok (.lconst 0, 1) := by decide +kernel
theorem dX6_isColumn_3 : decode cX6_isColumn 3 = .ok (.ldc2_w 112, 3) := by decide +kernel
theorem dX6_isColumn_6 : decode cX6_isColumn 6 = .ok (.invokestatic 69, 3) := by decide +kernel
theorem dX6_isColumn_9 : decode cX6_isColumn 9 = .ok (.ireturn, 1) := by decide +kernel
theorem dX6_more_0 : decode cX6_more 0 = .ok (.iload_n 0, 1) := by decide +kernel
theorem dX6_more_1 : decode cX6_more 1 = .ok (.iload_n 1, 1) := by decide +kernel
theorem dX6_more_2 : decode cX6_more 2 = .ok (.if_icmp .le 7, 3) := by decide +kernel
theorem dX6_more_5 : decode cX6_more 5 = .ok (.iload_n 0, 1) := by decide +kernel
theorem dX6_more_6 : decode cX6_more 6 = .ok (.goto 4, 3) := by decide +kernel
theorem dX6_more_9 : decode cX6_more 9 = .ok (.iload_n 1, 1) := by decide +kernel
theorem dX6_more_10 : decode cX6_more 10 = .ok (.ireturn, 1) := by decide +kernel
theorem dX6_readsBy_0 : decode cX6_readsBy 0 = .ok (.aload_n 0, 1) := by decide +kernel
theorem dX6_readsBy_1 : decode cX6_readsBy 1 = .ok (.iload_n 1, 1) := by decide +kernel
theorem dX6_readsBy_2 : decode cX6_readsBy 2 = .ok (.iload_n 3, 1) := by decide +kernel
theorem dX6_readsBy_3 : decode cX6_readsBy 3 = .ok (.iadd, 1) := by decide +kernel
theorem dX6_readsBy_4 : decode cX6_readsBy 4 = .ok (.iaload, 1) := by decide +kernel
theorem dX6_readsBy_5 : decode cX6_readsBy 5 = .ok (.istore 5, 2) := by decide +kernel
theorem dX6_readsBy_7 : decode cX6_readsBy 7 = .ok (.iload 5, 2) := by decide +kernel
theorem dX6_readsBy_9 : decode cX6_readsBy 9 = .ok (.aload_n 0, 1) := by decide +kernel
theorem dX6_readsBy_10 : decode cX6_readsBy 10 = .ok (.iload_n 1, 1) := by decide +kernel
theorem dX6_readsBy_11 : decode cX6_readsBy 11 = .ok (.iload_n 3, 1) := by decide +kernel
theorem dX6_readsBy_12 : decode cX6_readsBy 12 = .ok (.iconst 1, 1) := by decide +kernel
theorem dX6_readsBy_13 : decode cX6_readsBy 13 = .ok (.iadd, 1) := by decide +kernel
theorem dX6_readsBy_14 : decode cX6_readsBy 14 = .ok (.iconst 3, 1) := by decide +kernel
theorem dX6_readsBy_15 : decode cX6_readsBy 15 = .ok (.irem, 1) := by decide +kernel
theorem dX6_readsBy_16 : decode cX6_readsBy 16 = .ok (.iadd, 1) := by decide +kernel
theorem dX6_readsBy_17 : decode cX6_readsBy 17 = .ok (.iaload, 1) := by decide +kernel
theorem dX6_readsBy_18 : decode cX6_readsBy 18 = .ok (.invokestatic 114, 3) := by decide +kernel
theorem dX6_readsBy_21 : decode cX6_readsBy 21 = .ok (.istore 6, 2) := by decide +kernel
theorem dX6_readsBy_23 : decode cX6_readsBy 23 = .ok (.iload_n 2, 1) := by decide +kernel
theorem dX6_readsBy_24 : decode cX6_readsBy 24 = .ok (.tableswitch 95 1 5 #[36, 44, 56, 59, 81], 36) := by decide +kernel
theorem dX6_readsBy_60 : decode cX6_readsBy 60 = .ok (.aload_n 0, 1) := by decide +kernel
theorem dX6_readsBy_61 : decode cX6_readsBy 61 = .ok (.iload_n 1, 1) := by decide +kernel
theorem dX6_readsBy_62 : decode cX6_readsBy 62 = .ok (.iconst 2, 1) := by decide +kernel
theorem dX6_readsBy_63 : decode cX6_readsBy 63 = .ok (.iadd, 1) := by decide +kernel
theorem dX6_readsBy_64 : decode cX6_readsBy 64 = .ok (.iload_n 3, 1) := by decide +kernel
theorem dX6_readsBy_65 : decode cX6_readsBy 65 = .ok (.isub, 1) := by decide +kernel
theorem dX6_readsBy_66 : decode cX6_readsBy 66 = .ok (.iaload, 1) := by decide +kernel
theorem dX6_readsBy_67 : decode cX6_readsBy 67 = .ok (.ireturn, 1) := by decide +kernel
theorem dX6_readsBy_68 : decode cX6_readsBy 68 = .ok (.iconst 0, 1) := by decide +kernel
theorem dX6_readsBy_69 : decode cX6_readsBy 69 = .ok (.iload 5, 2) := by decide +kernel
theorem dX6_readsBy_71 : decode cX6_readsBy 71 = .ok (.iload 4, 2) := by decide +kernel
theorem dX6_readsBy_73 : decode cX6_readsBy 73 = .ok (.iconst 4, 1) := by decide +kernel
theorem dX6_readsBy_74 : decode cX6_readsBy 74 = .ok (.idiv, 1) := by decide +kernel
theorem dX6_readsBy_75 : decode cX6_readsBy 75 = .ok (.isub, 1) := by decide +kernel
theorem dX6_readsBy_76 : decode cX6_readsBy 76 = .ok (.invokestatic 114, 3) := by decide +kernel
theorem dX6_readsBy_79 : decode cX6_readsBy 79 = .ok (.ireturn, 1) := by decide +kernel
theorem dX6_readsBy_80 : decode cX6_readsBy 80 = .ok (.iload 6, 2) := by decide +kernel
theorem dX6_readsBy_82 : decode cX6_readsBy 82 = .ok (.ireturn, 1) := by decide +kernel
theorem dX6_readsBy_83 : decode cX6_readsBy 83 = .ok (.iload 5, 2) := by decide +kernel
theorem dX6_readsBy_85 : decode cX6_readsBy 85 = .ok (.ifCond .ne 8, 3) := by decide +kernel
theorem dX6_readsBy_88 : decode cX6_readsBy 88 = .ok (.bipush 10, 2) := by decide +kernel
theorem dX6_readsBy_90 : decode cX6_readsBy 90 = .ok (.goto 14, 3) := by decide +kernel
theorem dX6_readsBy_93 : decode cX6_readsBy 93 = .ok (.iconst 0, 1) := by decide +kernel
theorem dX6_readsBy_94 : decode cX6_readsBy 94 = .ok (.iload 5, 2) := by decide +kernel
theorem dX6_readsBy_96 : decode cX6_readsBy 96 = .ok (.iload 4, 2) := by decide +kernel
theorem dX6_readsBy_98 : decode cX6_readsBy 98 = .ok (.iconst 4, 1) := by decide +kernel
theorem dX6_readsBy_99 : decode cX6_readsBy 99 = .ok (.idiv, 1) := by decide +kernel
theorem dX6_readsBy_100 : decode cX6_readsBy 100 = .ok (.isub, 1) := by decide +kernel
theorem dX6_readsBy_101 : decode cX6_readsBy 101 = .ok (.invokestatic 114, 3) := by decide +kernel
theorem dX6_readsBy_104 : decode cX6_readsBy 104 = .ok (.ireturn, 1) := by decide +kernel
theorem dX6_readsBy_105 : decode cX6_readsBy 105 = .ok (.iload 6, 2) := by decide +kernel
theorem dX6_readsBy_107 : decode cX6_readsBy 107 = .ok (.bipush 9, 2) := by decide +kernel
theorem dX6_readsBy_109 : decode cX6_readsBy 109 = .ok (.if_icmp .ne 7, 3) := by decide +kernel
theorem dX6_readsBy_112 : decode cX6_readsBy 112 = .ok (.iconst 0, 1) := by decide +kernel
theorem dX6_readsBy_113 : decode cX6_readsBy 113 = .ok (.goto 5, 3) := by decide +kernel
theorem dX6_readsBy_116 : decode cX6_readsBy 116 = .ok (.iload 6, 2) := by decide +kernel
theorem dX6_readsBy_118 : decode cX6_readsBy 118 = .ok (.ireturn, 1) := by decide +kernel
theorem dX6_readsBy_119 : decode cX6_readsBy 119 = .ok (.iload 5, 2) := by decide +kernel
theorem dX6_readsBy_121 : decode cX6_readsBy 121 = .ok (.ireturn, 1) := by decide +kernel
theorem dX6_readOn_0 : decode cX6_readOn 0 = .ok (.aload_n 1, 1) := by decide +kernel
theorem dX6_readOn_1 : decode cX6_readOn 1 = .ok (.bipush 6, 2) := by decide +kernel
theorem dX6_readOn_3 : decode cX6_readOn 3 = .ok (.iconst 3, 1) := by decide +kernel
theorem dX6_readOn_4 : decode cX6_readOn 4 = .ok (.iload_n 2, 1) := by decide +kernel
theorem dX6_readOn_5 : decode cX6_readOn 5 = .ok (.imul, 1) := by decide +kernel
theorem dX6_readOn_6 : decode cX6_readOn 6 = .ok (.iadd, 1) := by decide +kernel
theorem dX6_readOn_7 : decode cX6_readOn 7 = .ok (.aload_n 0, 1) := by decide +kernel
theorem dX6_readOn_8 : decode cX6_readOn 8 = .ok (.getfield 22, 3) := by decide +kernel
theorem dX6_readOn_11 : decode cX6_readOn 11 = .ok (.iload_n 2, 1) := by decide +kernel
theorem dX6_readOn_12 : decode cX6_readOn 12 = .ok (.iaload, 1) := by decide +kernel
theorem dX6_readOn_13 : decode cX6_readOn 13 = .ok (.iload_n 3, 1) := by decide +kernel
theorem dX6_readOn_14 : decode cX6_readOn 14 = .ok (.aload_n 1, 1) := by decide +kernel
theorem dX6_readOn_15 : decode cX6_readOn 15 = .ok (.bipush 24, 2) := by decide +kernel
theorem dX6_readOn_17 : decode cX6_readOn 17 = .ok (.iaload, 1) := by decide +kernel
theorem dX6_readOn_18 : decode cX6_readOn 18 = .ok (.invokestatic 118, 3) := by decide +kernel
theorem dX6_readOn_21 : decode cX6_readOn 21 = .ok (.ireturn, 1) := by decide +kernel
theorem dX6_placeOf_0 : decode cX6_placeOf 0 = .ok (.iconst 0, 1) := by decide +kernel
theorem dX6_placeOf_1 : decode cX6_placeOf 1 = .ok (.istore_n 2, 1) := by decide +kernel
theorem dX6_placeOf_2 : decode cX6_placeOf 2 = .ok (.aload_n 0, 1) := by decide +kernel
theorem dX6_placeOf_3 : decode cX6_placeOf 3 = .ok (.iload_n 2, 1) := by decide +kernel
theorem dX6_placeOf_4 : decode cX6_placeOf 4 = .ok (.iaload, 1) := by decide +kernel
theorem dX6_placeOf_5 : decode cX6_placeOf 5 = .ok (.iload_n 1, 1) := by decide +kernel
theorem dX6_placeOf_6 : decode cX6_placeOf 6 = .ok (.if_icmp .eq 9, 3) := by decide +kernel
theorem dX6_placeOf_9 : decode cX6_placeOf 9 = .ok (.iinc 2 1, 3) := by decide +kernel
theorem dX6_placeOf_12 : decode cX6_placeOf 12 = .ok (.goto (-10), 3) := by decide +kernel
theorem dX6_placeOf_15 : decode cX6_placeOf 15 = .ok (.iload_n 2, 1) := by decide +kernel
theorem dX6_placeOf_16 : decode cX6_placeOf 16 = .ok (.ireturn, 1) := by decide +kernel
theorem dX6_falls_0 : decode cX6_falls 0 = .ok (.iconst 0, 1) := by decide +kernel
theorem dX6_falls_1 : decode cX6_falls 1 = .ok (.istore 4, 2) := by decide +kernel
theorem dX6_falls_3 : decode cX6_falls 3 = .ok (.iconst 0, 1) := by decide +kernel
theorem dX6_falls_4 : decode cX6_falls 4 = .ok (.istore 5, 2) := by decide +kernel
theorem dX6_falls_6 : decode cX6_falls 6 = .ok (.iload 5, 2) := by decide +kernel
theorem dX6_falls_8 : decode cX6_falls 8 = .ok (.bipush 11, 2) := by decide +kernel
theorem dX6_falls_10 : decode cX6_falls 10 = .ok (.if_icmp .ge 120, 3) := by decide +kernel
theorem dX6_falls_13 : decode cX6_falls 13 = .ok (.iconst 1, 1) := by decide +kernel
theorem dX6_falls_14 : decode cX6_falls 14 = .ok (.istore 6, 2) := by decide +kernel
theorem dX6_falls_16 : decode cX6_falls 16 = .ok (.iload 6, 2) := by decide +kernel
theorem dX6_falls_18 : decode cX6_falls 18 = .ok (.ifCond .lt 106, 3) := by decide +kernel
theorem dX6_falls_21 : decode cX6_falls 21 = .ok (.iconst 0, 1) := by decide +kernel
theorem dX6_falls_22 : decode cX6_falls 22 = .ok (.istore 7, 2) := by decide +kernel
theorem dX6_falls_24 : decode cX6_falls 24 = .ok (.iload 7, 2) := by decide +kernel
theorem dX6_falls_26 : decode cX6_falls 26 = .ok (.aload_n 0, 1) := by decide +kernel
theorem dX6_falls_27 : decode cX6_falls 27 = .ok (.getfield 102, 3) := by decide +kernel
theorem dX6_falls_30 : decode cX6_falls 30 = .ok (.if_icmp .ge 88, 3) := by decide +kernel
theorem dX6_falls_33 : decode cX6_falls 33 = .ok (.aload_n 1, 1) := by decide +kernel
theorem dX6_falls_34 : decode cX6_falls 34 = .ok (.iload 7, 2) := by decide +kernel
theorem dX6_falls_36 : decode cX6_falls 36 = .ok (.iaload, 1) := by decide +kernel
theorem dX6_falls_37 : decode cX6_falls 37 = .ok (.istore 8, 2) := by decide +kernel
theorem dX6_falls_39 : decode cX6_falls 39 = .ok (.iload_n 3, 1) := by decide +kernel
theorem dX6_falls_40 : decode cX6_falls 40 = .ok (.iload 8, 2) := by decide +kernel
theorem dX6_falls_42 : decode cX6_falls 42 = .ok (.invokestatic 122, 3) := by decide +kernel
theorem dX6_falls_45 : decode cX6_falls 45 = .ok (.ifCond .eq 8, 3) := by decide +kernel
theorem dX6_falls_48 : decode cX6_falls 48 = .ok (.bipush 10, 2) := by decide +kernel
theorem dX6_falls_50 : decode cX6_falls 50 = .ok (.goto 11, 3) := by decide +kernel
theorem dX6_falls_53 : decode cX6_falls 53 = .ok (.aload_n 0, 1) := by decide +kernel
theorem dX6_falls_54 : decode cX6_falls 54 = .ok (.aload_n 1, 1) := by decide +kernel
theorem dX6_falls_55 : decode cX6_falls 55 = .ok (.iload 8, 2) := by decide +kernel
theorem dX6_falls_57 : decode cX6_falls 57 = .ok (.iload_n 2, 1) := by decide +kernel
theorem dX6_falls_58 : decode cX6_falls 58 = .ok (.invokevirtual 126, 3) := by decide +kernel
theorem dX6_falls_61 : decode cX6_falls 61 = .ok (.istore 9, 2) := by decide +kernel
theorem dX6_falls_63 : decode cX6_falls 63 = .ok (.iload 9, 2) := by decide +kernel
theorem dX6_falls_65 : decode cX6_falls 65 = .ok (.iload 5, 2) := by decide +kernel
theorem dX6_falls_67 : decode cX6_falls 67 = .ok (.if_icmp .ne 45, 3) := by decide +kernel
theorem dX6_falls_70 : decode cX6_falls 70 = .ok (.aload_n 0, 1) := by decide +kernel
theorem dX6_falls_71 : decode cX6_falls 71 = .ok (.getfield 22, 3) := by decide +kernel
theorem dX6_falls_74 : decode cX6_falls 74 = .ok (.iload 8, 2) := by decide +kernel
theorem dX6_falls_76 : decode cX6_falls 76 = .ok (.iaload, 1) := by decide +kernel
theorem dX6_falls_77 : decode cX6_falls 77 = .ok (.iconst 5, 1) := by decide +kernel
theorem dX6_falls_78 : decode cX6_falls 78 = .ok (.if_icmp .ne 7, 3) := by decide +kernel
theorem dX6_falls_81 : decode cX6_falls 81 = .ok (.iconst 1, 1) := by decide +kernel
theorem dX6_falls_82 : decode cX6_falls 82 = .ok (.goto 4, 3) := by decide +kernel
theorem dX6_falls_85 : decode cX6_falls 85 = .ok (.iconst 0, 1) := by decide +kernel
theorem dX6_falls_86 : decode cX6_falls 86 = .ok (.iload 6, 2) := by decide +kernel
theorem dX6_falls_88 : decode cX6_falls 88 = .ok (.iconst 1, 1) := by decide +kernel
theorem dX6_falls_89 : decode cX6_falls 89 = .ok (.if_icmp .ne 7, 3) := by decide +kernel
theorem dX6_falls_92 : decode cX6_falls 92 = .ok (.iconst 1, 1) := by decide +kernel
theorem dX6_falls_93 : decode cX6_falls 93 = .ok (.goto 4, 3) := by decide +kernel
theorem dX6_falls_96 : decode cX6_falls 96 = .ok (.iconst 0, 1) := by decide +kernel
theorem dX6_falls_97 : decode cX6_falls 97 = .ok (.if_icmp .ne 15, 3) := by decide +kernel
theorem dX6_falls_100 : decode cX6_falls 100 = .ok (.aload_n 0, 1) := by decide +kernel
theorem dX6_falls_101 : decode cX6_falls 101 = .ok (.getfield 54, 3) := by decide +kernel
theorem dX6_falls_104 : decode cX6_falls 104 = .ok (.iload 4, 2) := by decide +kernel
theorem dX6_falls_106 : decode cX6_falls 106 = .ok (.iload 8, 2) := by decide +kernel
theorem dX6_falls_108 : decode cX6_falls 108 = .ok (.iastore, 1) := by decide +kernel
theorem dX6_falls_109 : decode cX6_falls 109 = .ok (.iinc 4 1, 3) := by decide +kernel
theorem dX6_falls_112 : decode cX6_falls 112 = .ok (.iinc 7 1, 3) := by decide +kernel
theorem dX6_falls_115 : decode cX6_falls 115 = .ok (.goto (-91), 3) := by decide +kernel
theorem dX6_falls_118 : decode cX6_falls 118 = .ok (.iinc 6 (-1), 3) := by decide +kernel
theorem dX6_falls_121 : decode cX6_falls 121 = .ok (.goto (-105), 3) := by decide +kernel
theorem dX6_falls_124 : decode cX6_falls 124 = .ok (.iinc 5 1, 3) := by decide +kernel
theorem dX6_falls_127 : decode cX6_falls 127 = .ok (.goto (-121), 3) := by decide +kernel
theorem dX6_falls_130 : decode cX6_falls 130 = .ok (.aload_n 0, 1) := by decide +kernel
theorem dX6_falls_131 : decode cX6_falls 131 = .ok (.getfield 54, 3) := by decide +kernel
theorem dX6_falls_134 : decode cX6_falls 134 = .ok (.iconst 0, 1) := by decide +kernel
theorem dX6_falls_135 : decode cX6_falls 135 = .ok (.aload_n 1, 1) := by decide +kernel
theorem dX6_falls_136 : decode cX6_falls 136 = .ok (.iconst 0, 1) := by decide +kernel
theorem dX6_falls_137 : decode cX6_falls 137 = .ok (.aload_n 0, 1) := by decide +kernel
theorem dX6_falls_138 : decode cX6_falls 138 = .ok (.getfield 102, 3) := by decide +kernel
theorem dX6_falls_141 : decode cX6_falls 141 = .ok (.invokestatic 105, 3) := by decide +kernel
theorem dX6_falls_144 : decode cX6_falls 144 = .ok (.return_, 1) := by decide +kernel
theorem dX6_passes_0 : decode cX6_passes 0 = .ok (.aload_n 0, 1) := by decide +kernel
theorem dX6_passes_1 : decode cX6_passes 1 = .ok (.aload_n 1, 1) := by decide +kernel
theorem dX6_passes_2 : decode cX6_passes 2 = .ok (.iload_n 2, 1) := by decide +kernel
theorem dX6_passes_3 : decode cX6_passes 3 = .ok (.iconst 0, 1) := by decide +kernel
theorem dX6_passes_4 : decode cX6_passes 4 = .ok (.invokevirtual 130, 3) := by decide +kernel
theorem dX6_passes_7 : decode cX6_passes 7 = .ok (.aload_n 1, 1) := by decide +kernel
theorem dX6_passes_8 : decode cX6_passes 8 = .ok (.bipush 24, 2) := by decide +kernel
theorem dX6_passes_10 : decode cX6_passes 10 = .ok (.dup2, 1) := by decide +kernel
theorem dX6_passes_11 : decode cX6_passes 11 = .ok (.iaload, 1) := by decide +kernel
theorem dX6_passes_12 : decode cX6_passes 12 = .ok (.aload_n 1, 1) := by decide +kernel
theorem dX6_passes_13 : decode cX6_passes 13 = .ok (.bipush 24, 2) := by decide +kernel
theorem dX6_passes_15 : decode cX6_passes 15 = .ok (.iaload, 1) := by decide +kernel
theorem dX6_passes_16 : decode cX6_passes 16 = .ok (.bipush 60, 2) := by decide +kernel
theorem dX6_passes_18 : decode cX6_passes 18 = .ok (.if_icmp .ge 7, 3) := by decide +kernel
theorem dX6_passes_21 : decode cX6_passes 21 = .ok (.iconst 1, 1) := by decide +kernel
theorem dX6_passes_22 : decode cX6_passes 22 = .ok (.goto 4, 3) := by decide +kernel
theorem dX6_passes_25 : decode cX6_passes 25 = .ok (.iconst 0, 1) := by decide +kernel
theorem dX6_passes_26 : decode cX6_passes 26 = .ok (.iadd, 1) := by decide +kernel
theorem dX6_passes_27 : decode cX6_passes 27 = .ok (.iastore, 1) := by decide +kernel
theorem dX6_passes_28 : decode cX6_passes 28 = .ok (.return_, 1) := by decide +kernel
theorem dX6_card_0 : decode cX6_card 0 = .ok (.aload_n 0, 1) := by decide +kernel
theorem dX6_card_1 : decode cX6_card 1 = .ok (.iload_n 1, 1) := by decide +kernel
theorem dX6_card_2 : decode cX6_card 2 = .ok (.invokevirtual 134, 3) := by decide +kernel
theorem dX6_card_5 : decode cX6_card 5 = .ok (.ifCond .eq 15, 3) := by decide +kernel
theorem dX6_card_8 : decode cX6_card 8 = .ok (.iload_n 2, 1) := by decide +kernel
theorem dX6_card_9 : decode cX6_card 9 = .ok (.i2l, 1) := by decide +kernel
theorem dX6_card_10 : decode cX6_card 10 = .ok (.lconst 0, 1) := by decide +kernel
theorem dX6_card_11 : decode cX6_card 11 = .ok (.ldc2_w 137, 3) := by decide +kernel
theorem dX6_card_14 : decode cX6_card 14 = .ok (.invokestatic 69, 3) := by decide +kernel
theorem dX6_card_17 : decode cX6_card 17 = .ok (.ifCond .ne 5, 3) := by decide +kernel
theorem dX6_card_20 : decode cX6_card 20 = .ok (.iconst (-1), 1) := by decide +kernel
theorem dX6_card_21 : decode cX6_card 21 = .ok (.ireturn, 1) := by decide +kernel
theorem dX6_card_22 : decode cX6_card 22 = .ok (.aload_n 0, 1) := by decide +kernel
theorem dX6_card_23 : decode cX6_card 23 = .ok (.iload_n 2, 1) := by decide +kernel
theorem dX6_card_24 : decode cX6_card 24 = .ok (.ifCond .ne 12, 3) := by decide +kernel
theorem dX6_card_27 : decode cX6_card 27 = .ok (.aload_n 0, 1) := by decide +kernel
theorem dX6_card_28 : decode cX6_card 28 = .ok (.getfield 22, 3) := by decide +kernel
theorem dX6_card_31 : decode cX6_card 31 = .ok (.iload_n 1, 1) := by decide +kernel
theorem dX6_card_32 : decode cX6_card 32 = .ok (.iaload, 1) := by decide +kernel
theorem dX6_card_33 : decode cX6_card 33 = .ok (.goto 54, 3) := by decide +kernel
theorem dX6_card_36 : decode cX6_card 36 = .ok (.iload_n 2, 1) := by decide +kernel
theorem dX6_card_37 : decode cX6_card 37 = .ok (.iconst 4, 1) := by decide +kernel
theorem dX6_card_38 : decode cX6_card 38 = .ok (.if_icmp .ge 21, 3) := by decide +kernel
theorem dX6_card_41 : decode cX6_card 41 = .ok (.aload_n 0, 1) := by decide +kernel
theorem dX6_card_42 : decode cX6_card 42 = .ok (.getfield 25, 3) := by decide +kernel
theorem dX6_card_45 : decode cX6_card 45 = .ok (.bipush 6, 2) := by decide +kernel
theorem dX6_card_47 : decode cX6_card 47 = .ok (.iconst 3, 1) := by decide +kernel
theorem dX6_card_48 : decode cX6_card 48 = .ok (.iload_n 1, 1) := by decide +kernel
theorem dX6_card_49 : decode cX6_card 49 = .ok (.imul, 1) := by decide +kernel
theorem dX6_card_50 : decode cX6_card 50 = .ok (.iadd, 1) := by decide +kernel
theorem dX6_card_51 : decode cX6_card 51 = .ok (.iload_n 2, 1) := by decide +kernel
theorem dX6_card_52 : decode cX6_card 52 = .ok (.iadd, 1) := by decide +kernel
theorem dX6_card_53 : decode cX6_card 53 = .ok (.iconst 1, 1) := by decide +kernel
theorem dX6_card_54 : decode cX6_card 54 = .ok (.isub, 1) := by decide +kernel
theorem dX6_card_55 : decode cX6_card 55 = .ok (.iaload, 1) := by decide +kernel
theorem dX6_card_56 : decode cX6_card 56 = .ok (.goto 31, 3) := by decide +kernel
theorem dX6_card_59 : decode cX6_card 59 = .ok (.iload_n 2, 1) := by decide +kernel
theorem dX6_card_60 : decode cX6_card 60 = .ok (.iconst 4, 1) := by decide +kernel
theorem dX6_card_61 : decode cX6_card 61 = .ok (.if_icmp .ne 14, 3) := by decide +kernel
theorem dX6_card_64 : decode cX6_card 64 = .ok (.aload_n 0, 1) := by decide +kernel
theorem dX6_card_65 : decode cX6_card 65 = .ok (.getfield 25, 3) := by decide +kernel
theorem dX6_card_68 : decode cX6_card 68 = .ok (.iload_n 1, 1) := by decide +kernel
theorem dX6_card_69 : decode cX6_card 69 = .ok (.invokestatic 139, 3) := by decide +kernel
theorem dX6_card_72 : decode cX6_card 72 = .ok (.goto 15, 3) := by decide +kernel
theorem dX6_card_75 : decode cX6_card 75 = .ok (.aload_n 0, 1) := by decide +kernel
theorem dX6_card_76 : decode cX6_card 76 = .ok (.aload_n 0, 1) := by decide +kernel
theorem dX6_card_77 : decode cX6_card 77 = .ok (.getfield 25, 3) := by decide +kernel
theorem dX6_card_80 : decode cX6_card 80 = .ok (.iload_n 1, 1) := by decide +kernel
theorem dX6_card_81 : decode cX6_card 81 = .ok (.iload_n 2, 1) := by decide +kernel
theorem dX6_card_82 : decode cX6_card 82 = .ok (.iconst 5, 1) := by decide +kernel
theorem dX6_card_83 : decode cX6_card 83 = .ok (.isub, 1) := by decide +kernel
theorem dX6_card_84 : decode cX6_card 84 = .ok (.invokevirtual 126, 3) := by decide +kernel
theorem dX6_card_87 : decode cX6_card 87 = .ok (.invokevirtual 83, 3) := by decide +kernel
theorem dX6_card_90 : decode cX6_card 90 = .ok (.ireturn, 1) := by decide +kernel
theorem dX6_mark_0 : decode cX6_mark 0 = .ok (.aload_n 0, 1) := by decide +kernel
theorem dX6_mark_1 : decode cX6_mark 1 = .ok (.iload_n 1, 1) := by decide +kernel
theorem dX6_mark_2 : decode cX6_mark 2 = .ok (.invokevirtual 134, 3) := by decide +kernel
theorem dX6_mark_5 : decode cX6_mark 5 = .ok (.ifCond .eq 15, 3) := by decide +kernel
theorem dX6_mark_8 : decode cX6_mark 8 = .ok (.iload_n 2, 1) := by decide +kernel
theorem dX6_mark_9 : decode cX6_mark 9 = .ok (.i2l, 1) := by decide +kernel
theorem dX6_mark_10 : decode cX6_mark 10 = .ok (.lconst 1, 1) := by decide +kernel
theorem dX6_mark_11 : decode cX6_mark 11 = .ok (.ldc2_w 67, 3) := by decide +kernel
theorem dX6_mark_14 : decode cX6_mark 14 = .ok (.invokestatic 69, 3) := by decide +kernel
theorem dX6_mark_17 : decode cX6_mark 17 = .ok (.ifCond .ne 5, 3) := by decide +kernel
theorem dX6_mark_20 : decode cX6_mark 20 = .ok (.iconst (-1), 1) := by decide +kernel
theorem dX6_mark_21 : decode cX6_mark 21 = .ok (.ireturn, 1) := by decide +kernel
theorem dX6_mark_22 : decode cX6_mark 22 = .ok (.aload_n 0, 1) := by decide +kernel
theorem dX6_mark_23 : decode cX6_mark 23 = .ok (.getfield 22, 3) := by decide +kernel
theorem dX6_mark_26 : decode cX6_mark 26 = .ok (.iload_n 1, 1) := by decide +kernel
theorem dX6_mark_27 : decode cX6_mark 27 = .ok (.iaload, 1) := by decide +kernel
theorem dX6_mark_28 : decode cX6_mark 28 = .ok (.istore_n 3, 1) := by decide +kernel
theorem dX6_mark_29 : decode cX6_mark 29 = .ok (.iload_n 3, 1) := by decide +kernel
theorem dX6_mark_30 : decode cX6_mark 30 = .ok (.iload_n 2, 1) := by decide +kernel
theorem dX6_mark_31 : decode cX6_mark 31 = .ok (.if_icmp .eq 29, 3) := by decide +kernel
theorem dX6_mark_34 : decode cX6_mark 34 = .ok (.iload_n 2, 1) := by decide +kernel
theorem dX6_mark_35 : decode cX6_mark 35 = .ok (.iconst 2, 1) := by decide +kernel
theorem dX6_mark_36 : decode cX6_mark 36 = .ok (.if_icmp .ne 8, 3) := by decide +kernel
theorem dX6_mark_39 : decode cX6_mark 39 = .ok (.iload_n 3, 1) := by decide +kernel
theorem dX6_mark_40 : decode cX6_mark 40 = .ok (.iconst 4, 1) := by decide +kernel
theorem dX6_mark_41 : decode cX6_mark 41 = .ok (.if_icmp .eq 19, 3) := by decide +kernel
theorem dX6_mark_44 : decode cX6_mark 44 = .ok (.iload_n 2, 1) := by decide +kernel
theorem dX6_mark_45 : decode cX6_mark 45 = .ok (.iconst 3, 1) := by decide +kernel
theorem dX6_mark_46 : decode cX6_mark 46 = .ok (.if_icmp .ne 8, 3) := by decide +kernel
theorem dX6_mark_49 : decode cX6_mark 49 = .ok (.iload_n 3, 1) := by decide +kernel
theorem dX6_mark_50 : decode cX6_mark 50 = .ok (.iconst 5, 1) := by decide +kernel
theorem dX6_mark_51 : decode cX6_mark 51 = .ok (.if_icmp .eq 9, 3) := by decide +kernel
theorem dX6_mark_54 : decode cX6_mark 54 = .ok (.aload_n 0, 1) := by decide +kernel
theorem dX6_mark_55 : decode cX6_mark 55 = .ok (.iconst 3, 1) := by decide +kernel
theorem dX6_mark_56 : decode cX6_mark 56 = .ok (.invokevirtual 79, 3) := by decide +kernel
theorem dX6_mark_59 : decode cX6_mark 59 = .ok (.ireturn, 1) := by decide +kernel
theorem dX6_mark_60 : decode cX6_mark 60 = .ok (.iload_n 2, 1) := by decide +kernel
theorem dX6_mark_61 : decode cX6_mark 61 = .ok (.iconst 2, 1) := by decide +kernel
theorem dX6_mark_62 : decode cX6_mark 62 = .ok (.if_icmp .ne 32, 3) := by decide +kernel
theorem dX6_mark_65 : decode cX6_mark 65 = .ok (.aload_n 0, 1) := by decide +kernel
theorem dX6_mark_66 : decode cX6_mark 66 = .ok (.getfield 25, 3) := by decide +kernel
theorem dX6_mark_69 : decode cX6_mark 69 = .ok (.bipush 24, 2) := by decide +kernel
theorem dX6_mark_71 : decode cX6_mark 71 = .ok (.iaload, 1) := by decide +kernel
theorem dX6_mark_72 : decode cX6_mark 72 = .ok (.iconst 4, 1) := by decide +kernel
theorem dX6_mark_73 : decode cX6_mark 73 = .ok (.idiv, 1) := by decide +kernel
theorem dX6_mark_74 : decode cX6_mark 74 = .ok (.bipush 9, 2) := by decide +kernel
theorem dX6_mark_76 : decode cX6_mark 76 = .ok (.if_icmp .ge 15, 3) := by decide +kernel
theorem dX6_mark_79 : decode cX6_mark 79 = .ok (.aload_n 0, 1) := by decide +kernel
theorem dX6_mark_80 : decode cX6_mark 80 = .ok (.getfield 25, 3) := by decide +kernel
theorem dX6_mark_83 : decode cX6_mark 83 = .ok (.bipush 24, 2) := by decide +kernel
theorem dX6_mark_85 : decode cX6_mark 85 = .ok (.iaload, 1) := by decide +kernel
theorem dX6_mark_86 : decode cX6_mark 86 = .ok (.iconst 4, 1) := by decide +kernel
theorem dX6_mark_87 : decode cX6_mark 87 = .ok (.idiv, 1) := by decide +kernel
theorem dX6_mark_88 : decode cX6_mark 88 = .ok (.goto 5, 3) := by decide +kernel
theorem dX6_mark_91 : decode cX6_mark 91 = .ok (.bipush 9, 2) := by decide +kernel
theorem dX6_mark_93 : decode cX6_mark 93 = .ok (.ireturn, 1) := by decide +kernel
theorem dX6_mark_94 : decode cX6_mark 94 = .ok (.iload_n 2, 1) := by decide +kernel
theorem dX6_mark_95 : decode cX6_mark 95 = .ok (.iconst 5, 1) := by decide +kernel
theorem dX6_mark_96 : decode cX6_mark 96 = .ok (.if_icmp .ne 12, 3) := by decide +kernel
theorem dX6_mark_99 : decode cX6_mark 99 = .ok (.aload_n 0, 1) := by decide +kernel
theorem dX6_mark_100 : decode cX6_mark 100 = .ok (.getfield 25, 3) := by decide +kernel
theorem dX6_mark_103 : decode cX6_mark 103 = .ok (.iload_n 1, 1) := by decide +kernel
theorem dX6_mark_104 : decode cX6_mark 104 = .ok (.invokestatic 139, 3) := by decide +kernel
theorem dX6_mark_107 : decode cX6_mark 107 = .ok (.ireturn, 1) := by decide +kernel
theorem dX6_mark_108 : decode cX6_mark 108 = .ok (.iconst 0, 1) := by decide +kernel
theorem dX6_mark_109 : decode cX6_mark 109 = .ok (.istore 4, 2) := by decide +kernel
theorem dX6_mark_111 : decode cX6_mark 111 = .ok (.iconst 0, 1) := by decide +kernel
theorem dX6_mark_112 : decode cX6_mark 112 = .ok (.istore 5, 2) := by decide +kernel
theorem dX6_mark_114 : decode cX6_mark 114 = .ok (.iload 5, 2) := by decide +kernel
theorem dX6_mark_116 : decode cX6_mark 116 = .ok (.iconst 3, 1) := by decide +kernel
theorem dX6_mark_117 : decode cX6_mark 117 = .ok (.if_icmp .ge 85, 3) := by decide +kernel
theorem dX6_mark_120 : decode cX6_mark 120 = .ok (.aload_n 0, 1) := by decide +kernel
theorem dX6_mark_121 : decode cX6_mark 121 = .ok (.getfield 25, 3) := by decide +kernel
theorem dX6_mark_124 : decode cX6_mark 124 = .ok (.bipush 6, 2) := by decide +kernel
theorem dX6_mark_126 : decode cX6_mark 126 = .ok (.iconst 3, 1) := by decide +kernel
theorem dX6_mark_127 : decode cX6_mark 127 = .ok (.iload_n 1, 1) := by decide +kernel
theorem dX6_mark_128 : decode cX6_mark 128 = .ok (.imul, 1) := by decide +kernel
theorem dX6_mark_129 : decode cX6_mark 129 = .ok (.iadd, 1) := by decide +kernel
theorem dX6_mark_130 : decode cX6_mark 130 = .ok (.iload 5, 2) := by decide +kernel
theorem dX6_mark_132 : decode cX6_mark 132 = .ok (.iadd, 1) := by decide +kernel
theorem dX6_mark_133 : decode cX6_mark 133 = .ok (.iaload, 1) := by decide +kernel
theorem dX6_mark_134 : decode cX6_mark 134 = .ok (.istore 6, 2) := by decide +kernel
theorem dX6_mark_136 : decode cX6_mark 136 = .ok (.aload_n 0, 1) := by decide +kernel
theorem dX6_mark_137 : decode cX6_mark 137 = .ok (.aload_n 0, 1) := by decide +kernel
theorem dX6_mark_138 : decode cX6_mark 138 = .ok (.getfield 25, 3) := by decide +kernel
theorem dX6_mark_141 : decode cX6_mark 141 = .ok (.iload_n 1, 1) := by decide +kernel
theorem dX6_mark_142 : decode cX6_mark 142 = .ok (.iload 5, 2) := by decide +kernel
theorem dX6_mark_144 : decode cX6_mark 144 = .ok (.invokevirtual 126, 3) := by decide +kernel
theorem dX6_mark_147 : decode cX6_mark 147 = .ok (.istore 7, 2) := by decide +kernel
theorem dX6_mark_149 : decode cX6_mark 149 = .ok (.iload 4, 2) := by decide +kernel
theorem dX6_mark_151 : decode cX6_mark 151 = .ok (.iload_n 2, 1) := by decide +kernel
theorem dX6_mark_152 : decode cX6_mark 152 = .ok (.iconst 1, 1) := by decide +kernel
theorem dX6_mark_153 : decode cX6_mark 153 = .ok (.if_icmp .ne 13, 3) := by decide +kernel
theorem dX6_mark_156 : decode cX6_mark 156 = .ok (.iload 7, 2) := by decide +kernel
theorem dX6_mark_158 : decode cX6_mark 158 = .ok (.iload 6, 2) := by decide +kernel
theorem dX6_mark_160 : decode cX6_mark 160 = .ok (.if_icmp .eq 32, 3) := by decide +kernel
theorem dX6_mark_163 : decode cX6_mark 163 = .ok (.goto 25, 3) := by decide +kernel
theorem dX6_mark_166 : decode cX6_mark 166 = .ok (.iload_n 2, 1) := by decide +kernel
theorem dX6_mark_167 : decode cX6_mark 167 = .ok (.iconst 3, 1) := by decide +kernel
theorem dX6_mark_168 : decode cX6_mark 168 = .ok (.if_icmp .ne 13, 3) := by decide +kernel
theorem dX6_mark_171 : decode cX6_mark 171 = .ok (.iload 7, 2) := by decide +kernel
theorem dX6_mark_173 : decode cX6_mark 173 = .ok (.iload 6, 2) := by decide +kernel
theorem dX6_mark_175 : decode cX6_mark 175 = .ok (.if_icmp .le 17, 3) := by decide +kernel
theorem dX6_mark_178 : decode cX6_mark 178 = .ok (.goto 10, 3) := by decide +kernel
theorem dX6_mark_181 : decode cX6_mark 181 = .ok (.iload 7, 2) := by decide +kernel
theorem dX6_mark_183 : decode cX6_mark 183 = .ok (.bipush 10, 2) := by decide +kernel
theorem dX6_mark_185 : decode cX6_mark 185 = .ok (.if_icmp .ne 7, 3) := by decide +kernel
theorem dX6_mark_188 : decode cX6_mark 188 = .ok (.iconst 1, 1) := by decide +kernel
theorem dX6_mark_189 : decode cX6_mark 189 = .ok (.goto 4, 3) := by decide +kernel
theorem dX6_mark_192 : decode cX6_mark 192 = .ok (.iconst 0, 1) := by decide +kernel
theorem dX6_mark_193 : decode cX6_mark 193 = .ok (.iadd, 1) := by decide +kernel
theorem dX6_mark_194 : decode cX6_mark 194 = .ok (.istore 4, 2) := by decide +kernel
theorem dX6_mark_196 : decode cX6_mark 196 = .ok (.iinc 5 1, 3) := by decide +kernel
theorem dX6_mark_199 : decode cX6_mark 199 = .ok (.goto (-85), 3) := by decide +kernel
theorem dX6_mark_202 : decode cX6_mark 202 = .ok (.iload 4, 2) := by decide +kernel
theorem dX6_mark_204 : decode cX6_mark 204 = .ok (.ireturn, 1) := by decide +kernel
theorem dX6_remembers_0 : decode cX6_remembers 0 = .ok (.aload_n 0, 1) := by decide +kernel
theorem dX6_remembers_1 : decode cX6_remembers 1 = .ok (.getfield 25, 3) := by decide +kernel
theorem dX6_remembers_4 : decode cX6_remembers 4 = .ok (.iconst 0, 1) := by decide +kernel
theorem dX6_remembers_5 : decode cX6_remembers 5 = .ok (.aload_n 0, 1) := by decide +kernel
theorem dX6_remembers_6 : decode cX6_remembers 6 = .ok (.getfield 31, 3) := by decide +kernel
theorem dX6_remembers_9 : decode cX6_remembers 9 = .ok (.bipush 25, 2) := by decide +kernel
theorem dX6_remembers_11 : decode cX6_remembers 11 = .ok (.aload_n 0, 1) := by decide +kernel
theorem dX6_remembers_12 : decode cX6_remembers 12 = .ok (.getfield 109, 3) := by decide +kernel
theorem dX6_remembers_15 : decode cX6_remembers 15 = .ok (.imul, 1) := by decide +kernel
theorem dX6_remembers_16 : decode cX6_remembers 16 = .ok (.bipush 25, 2) := by decide +kernel
theorem dX6_remembers_18 : decode cX6_remembers 18 = .ok (.invokestatic 105, 3) := by decide +kernel
theorem dX6_remembers_21 : decode cX6_remembers 21 = .ok (.aload_n 0, 1) := by decide +kernel
theorem dX6_remembers_22 : decode cX6_remembers 22 = .ok (.dup, 1) := by decide +kernel
theorem dX6_remembers_23 : decode cX6_remembers 23 = .ok (.getfield 109, 3) := by decide +kernel
theorem dX6_remembers_26 : decode cX6_remembers 26 = .ok (.iconst 1, 1) := by decide +kernel
theorem dX6_remembers_27 : decode cX6_remembers 27 = .ok (.iadd, 1) := by decide +kernel
theorem dX6_remembers_28 : decode cX6_remembers 28 = .ok (.putfield 109, 3) := by decide +kernel
theorem dX6_remembers_31 : decode cX6_remembers 31 = .ok (.return_, 1) := by decide +kernel
theorem dX6_pass_0 : decode cX6_pass 0 = .ok (.iload_n 1, 1) := by decide +kernel
theorem dX6_pass_1 : decode cX6_pass 1 = .ok (.invokestatic 143, 3) := by decide +kernel
theorem dX6_pass_4 : decode cX6_pass 4 = .ok (.ifCond .ne 5, 3) := by decide +kernel
theorem dX6_pass_7 : decode cX6_pass 7 = .ok (.iconst (-1), 1) := by decide +kernel
theorem dX6_pass_8 : decode cX6_pass 8 = .ok (.ireturn, 1) := by decide +kernel
theorem dX6_pass_9 : decode cX6_pass 9 = .ok (.aload_n 0, 1) := by decide +kernel
theorem dX6_pass_10 : decode cX6_pass 10 = .ok (.getfield 102, 3) := by decide +kernel
theorem dX6_pass_13 : decode cX6_pass 13 = .ok (.ifCond .ne 6, 3) := by decide +kernel
theorem dX6_pass_16 : decode cX6_pass 16 = .ok (.bipush (-4), 2) := by decide +kernel
theorem dX6_pass_18 : decode cX6_pass 18 = .ok (.ireturn, 1) := by decide +kernel
theorem dX6_pass_19 : decode cX6_pass 19 = .ok (.aload_n 0, 1) := by decide +kernel
theorem dX6_pass_20 : decode cX6_pass 20 = .ok (.getfield 109, 3) := by decide +kernel
theorem dX6_pass_23 : decode cX6_pass 23 = .ok (.bipush 40, 2) := by decide +kernel
theorem dX6_pass_25 : decode cX6_pass 25 = .ok (.if_icmp .ne 6, 3) := by decide +kernel
theorem dX6_pass_28 : decode cX6_pass 28 = .ok (.bipush (-2), 2) := by decide +kernel
theorem dX6_pass_30 : decode cX6_pass 30 = .ok (.ireturn, 1) := by decide +kernel
theorem dX6_pass_31 : decode cX6_pass 31 = .ok (.aload_n 0, 1) := by decide +kernel
theorem dX6_pass_32 : decode cX6_pass 32 = .ok (.invokevirtual 146, 3) := by decide +kernel
theorem dX6_pass_35 : decode cX6_pass 35 = .ok (.aload_n 0, 1) := by decide +kernel
theorem dX6_pass_36 : decode cX6_pass 36 = .ok (.aload_n 0, 1) := by decide +kernel
theorem dX6_pass_37 : decode cX6_pass 37 = .ok (.getfield 25, 3) := by decide +kernel
theorem dX6_pass_40 : decode cX6_pass 40 = .ok (.iload_n 1, 1) := by decide +kernel
theorem dX6_pass_41 : decode cX6_pass 41 = .ok (.invokevirtual 149, 3) := by decide +kernel
theorem dX6_pass_44 : decode cX6_pass 44 = .ok (.aload_n 0, 1) := by decide +kernel
theorem dX6_pass_45 : decode cX6_pass 45 = .ok (.getfield 25, 3) := by decide +kernel
theorem dX6_pass_48 : decode cX6_pass 48 = .ok (.iconst 0, 1) := by decide +kernel
theorem dX6_pass_49 : decode cX6_pass 49 = .ok (.iaload, 1) := by decide +kernel
theorem dX6_pass_50 : decode cX6_pass 50 = .ok (.ireturn, 1) := by decide +kernel
theorem dX6_turns_0 : decode cX6_turns 0 = .ok (.aload_n 0, 1) := by decide +kernel
theorem dX6_turns_1 : decode cX6_turns 1 = .ok (.getfield 25, 3) := by decide +kernel
theorem dX6_turns_4 : decode cX6_turns 4 = .ok (.iconst 0, 1) := by decide +kernel
theorem dX6_turns_5 : decode cX6_turns 5 = .ok (.aload_n 0, 1) := by decide +kernel
theorem dX6_turns_6 : decode cX6_turns 6 = .ok (.getfield 54, 3) := by decide +kernel
theorem dX6_turns_9 : decode cX6_turns 9 = .ok (.iconst 0, 1) := by decide +kernel
theorem dX6_turns_10 : decode cX6_turns 10 = .ok (.aload_n 0, 1) := by decide +kernel
theorem dX6_turns_11 : decode cX6_turns 11 = .ok (.getfield 102, 3) := by decide +kernel
theorem dX6_turns_14 : decode cX6_turns 14 = .ok (.invokestatic 105, 3) := by decide +kernel
theorem dX6_turns_17 : decode cX6_turns 17 = .ok (.iconst 0, 1) := by decide +kernel
theorem dX6_turns_18 : decode cX6_turns 18 = .ok (.istore_n 1, 1) := by decide +kernel
theorem dX6_turns_19 : decode cX6_turns 19 = .ok (.iload_n 1, 1) := by decide +kernel
theorem dX6_turns_20 : decode cX6_turns 20 = .ok (.aload_n 0, 1) := by decide +kernel
theorem dX6_turns_21 : decode cX6_turns 21 = .ok (.getfield 102, 3) := by decide +kernel
theorem dX6_turns_24 : decode cX6_turns 24 = .ok (.if_icmp .ge 28, 3) := by decide +kernel
theorem dX6_turns_27 : decode cX6_turns 27 = .ok (.aload_n 0, 1) := by decide +kernel
theorem dX6_turns_28 : decode cX6_turns 28 = .ok (.getfield 25, 3) := by decide +kernel
theorem dX6_turns_31 : decode cX6_turns 31 = .ok (.iload_n 1, 1) := by decide +kernel
theorem dX6_turns_32 : decode cX6_turns 32 = .ok (.aload_n 0, 1) := by decide +kernel
theorem dX6_turns_33 : decode cX6_turns 33 = .ok (.getfield 54, 3) := by decide +kernel
theorem dX6_turns_36 : decode cX6_turns 36 = .ok (.aload_n 0, 1) := by decide +kernel
theorem dX6_turns_37 : decode cX6_turns 37 = .ok (.getfield 102, 3) := by decide +kernel
theorem dX6_turns_40 : decode cX6_turns 40 = .ok (.iconst 1, 1) := by decide +kernel
theorem dX6_turns_41 : decode cX6_turns 41 = .ok (.isub, 1) := by decide +kernel
theorem dX6_turns_42 : decode cX6_turns 42 = .ok (.iload_n 1, 1) := by decide +kernel
theorem dX6_turns_43 : decode cX6_turns 43 = .ok (.isub, 1) := by decide +kernel
theorem dX6_turns_44 : decode cX6_turns 44 = .ok (.iaload, 1) := by decide +kernel
theorem dX6_turns_45 : decode cX6_turns 45 = .ok (.iastore, 1) := by decide +kernel
theorem dX6_turns_46 : decode cX6_turns 46 = .ok (.iinc 1 1, 3) := by decide +kernel
theorem dX6_turns_49 : decode cX6_turns 49 = .ok (.goto (-30), 3) := by decide +kernel
theorem dX6_turns_52 : decode cX6_turns 52 = .ok (.return_, 1) := by decide +kernel
theorem dX6_turn_0 : decode cX6_turn 0 = .ok (.aload_n 0, 1) := by decide +kernel
theorem dX6_turn_1 : decode cX6_turn 1 = .ok (.getfield 102, 3) := by decide +kernel
theorem dX6_turn_4 : decode cX6_turn 4 = .ok (.ifCond .ne 6, 3) := by decide +kernel
theorem dX6_turn_7 : decode cX6_turn 7 = .ok (.bipush (-4), 2) := by decide +kernel
theorem dX6_turn_9 : decode cX6_turn 9 = .ok (.ireturn, 1) := by decide +kernel
theorem dX6_turn_10 : decode cX6_turn 10 = .ok (.aload_n 0, 1) := by decide +kernel
theorem dX6_turn_11 : decode cX6_turn 11 = .ok (.getfield 109, 3) := by decide +kernel
theorem dX6_turn_14 : decode cX6_turn 14 = .ok (.bipush 40, 2) := by decide +kernel
theorem dX6_turn_16 : decode cX6_turn 16 = .ok (.if_icmp .ne 6, 3) := by decide +kernel
theorem dX6_turn_19 : decode cX6_turn 19 = .ok (.bipush (-2), 2) := by decide +kernel
theorem dX6_turn_21 : decode cX6_turn 21 = .ok (.ireturn, 1) := by decide +kernel
theorem dX6_turn_22 : decode cX6_turn 22 = .ok (.aload_n 0, 1) := by decide +kernel
theorem dX6_turn_23 : decode cX6_turn 23 = .ok (.invokevirtual 146, 3) := by decide +kernel
theorem dX6_turn_26 : decode cX6_turn 26 = .ok (.aload_n 0, 1) := by decide +kernel
theorem dX6_turn_27 : decode cX6_turn 27 = .ok (.invokevirtual 153, 3) := by decide +kernel
theorem dX6_turn_30 : decode cX6_turn 30 = .ok (.aload_n 0, 1) := by decide +kernel
theorem dX6_turn_31 : decode cX6_turn 31 = .ok (.getfield 25, 3) := by decide +kernel
theorem dX6_turn_34 : decode cX6_turn 34 = .ok (.iconst 0, 1) := by decide +kernel
theorem dX6_turn_35 : decode cX6_turn 35 = .ok (.iaload, 1) := by decide +kernel
theorem dX6_turn_36 : decode cX6_turn 36 = .ok (.ireturn, 1) := by decide +kernel
theorem dX6_lifts_0 : decode cX6_lifts 0 = .ok (.aload_n 0, 1) := by decide +kernel
theorem dX6_lifts_1 : decode cX6_lifts 1 = .ok (.getfield 25, 3) := by decide +kernel
theorem dX6_lifts_4 : decode cX6_lifts 4 = .ok (.iconst 0, 1) := by decide +kernel
theorem dX6_lifts_5 : decode cX6_lifts 5 = .ok (.aload_n 0, 1) := by decide +kernel
theorem dX6_lifts_6 : decode cX6_lifts 6 = .ok (.getfield 54, 3) := by decide +kernel
theorem dX6_lifts_9 : decode cX6_lifts 9 = .ok (.iconst 0, 1) := by decide +kernel
theorem dX6_lifts_10 : decode cX6_lifts 10 = .ok (.aload_n 0, 1) := by decide +kernel
theorem dX6_lifts_11 : decode cX6_lifts 11 = .ok (.getfield 102, 3) := by decide +kernel
theorem dX6_lifts_14 : decode cX6_lifts 14 = .ok (.invokestatic 105, 3) := by decide +kernel
theorem dX6_lifts_17 : decode cX6_lifts 17 = .ok (.iconst 0, 1) := by decide +kernel
theorem dX6_lifts_18 : decode cX6_lifts 18 = .ok (.istore_n 2, 1) := by decide +kernel
theorem dX6_lifts_19 : decode cX6_lifts 19 = .ok (.iload_n 2, 1) := by decide +kernel
theorem dX6_lifts_20 : decode cX6_lifts 20 = .ok (.aload_n 0, 1) := by decide +kernel
theorem dX6_lifts_21 : decode cX6_lifts 21 = .ok (.getfield 102, 3) := by decide +kernel
theorem dX6_lifts_24 : decode cX6_lifts 24 = .ok (.if_icmp .ge 28, 3) := by decide +kernel
theorem dX6_lifts_27 : decode cX6_lifts 27 = .ok (.aload_n 0, 1) := by decide +kernel
theorem dX6_lifts_28 : decode cX6_lifts 28 = .ok (.getfield 25, 3) := by decide +kernel
theorem dX6_lifts_31 : decode cX6_lifts 31 = .ok (.iload_n 2, 1) := by decide +kernel
theorem dX6_lifts_32 : decode cX6_lifts 32 = .ok (.aload_n 0, 1) := by decide +kernel
theorem dX6_lifts_33 : decode cX6_lifts 33 = .ok (.getfield 54, 3) := by decide +kernel
theorem dX6_lifts_36 : decode cX6_lifts 36 = .ok (.iload_n 2, 1) := by decide +kernel
theorem dX6_lifts_37 : decode cX6_lifts 37 = .ok (.iload_n 1, 1) := by decide +kernel
theorem dX6_lifts_38 : decode cX6_lifts 38 = .ok (.iadd, 1) := by decide +kernel
theorem dX6_lifts_39 : decode cX6_lifts 39 = .ok (.aload_n 0, 1) := by decide +kernel
theorem dX6_lifts_40 : decode cX6_lifts 40 = .ok (.getfield 102, 3) := by decide +kernel
theorem dX6_lifts_43 : decode cX6_lifts 43 = .ok (.irem, 1) := by decide +kernel
theorem dX6_lifts_44 : decode cX6_lifts 44 = .ok (.iaload, 1) := by decide +kernel
theorem dX6_lifts_45 : decode cX6_lifts 45 = .ok (.iastore, 1) := by decide +kernel
theorem dX6_lifts_46 : decode cX6_lifts 46 = .ok (.iinc 2 1, 3) := by decide +kernel
theorem dX6_lifts_49 : decode cX6_lifts 49 = .ok (.goto (-30), 3) := by decide +kernel
theorem dX6_lifts_52 : decode cX6_lifts 52 = .ok (.return_, 1) := by decide +kernel
theorem dX6_lift_0 : decode cX6_lift 0 = .ok (.aload_n 0, 1) := by decide +kernel
theorem dX6_lift_1 : decode cX6_lift 1 = .ok (.getfield 102, 3) := by decide +kernel
theorem dX6_lift_4 : decode cX6_lift 4 = .ok (.ifCond .ne 6, 3) := by decide +kernel
theorem dX6_lift_7 : decode cX6_lift 7 = .ok (.bipush (-4), 2) := by decide +kernel
theorem dX6_lift_9 : decode cX6_lift 9 = .ok (.ireturn, 1) := by decide +kernel
theorem dX6_lift_10 : decode cX6_lift 10 = .ok (.iload_n 1, 1) := by decide +kernel
theorem dX6_lift_11 : decode cX6_lift 11 = .ok (.i2l, 1) := by decide +kernel
theorem dX6_lift_12 : decode cX6_lift 12 = .ok (.lconst 1, 1) := by decide +kernel
theorem dX6_lift_13 : decode cX6_lift 13 = .ok (.aload_n 0, 1) := by decide +kernel
theorem dX6_lift_14 : decode cX6_lift 14 = .ok (.getfield 102, 3) := by decide +kernel
theorem dX6_lift_17 : decode cX6_lift 17 = .ok (.iconst 1, 1) := by decide +kernel
theorem dX6_lift_18 : decode cX6_lift 18 = .ok (.isub, 1) := by decide +kernel
theorem dX6_lift_19 : decode cX6_lift 19 = .ok (.i2l, 1) := by decide +kernel
theorem dX6_lift_20 : decode cX6_lift 20 = .ok (.invokestatic 69, 3) := by decide +kernel
theorem dX6_lift_23 : decode cX6_lift 23 = .ok (.ifCond .ne 5, 3) := by decide +kernel
theorem dX6_lift_26 : decode cX6_lift 26 = .ok (.iconst (-1), 1) := by decide +kernel
theorem dX6_lift_27 : decode cX6_lift 27 = .ok (.ireturn, 1) := by decide +kernel
theorem dX6_lift_28 : decode cX6_lift 28 = .ok (.aload_n 0, 1) := by decide +kernel
theorem dX6_lift_29 : decode cX6_lift 29 = .ok (.getfield 109, 3) := by decide +kernel
theorem dX6_lift_32 : decode cX6_lift 32 = .ok (.bipush 40, 2) := by decide +kernel
theorem dX6_lift_34 : decode cX6_lift 34 = .ok (.if_icmp .ne 6, 3) := by decide +kernel
theorem dX6_lift_37 : decode cX6_lift 37 = .ok (.bipush (-2), 2) := by decide +kernel
theorem dX6_lift_39 : decode cX6_lift 39 = .ok (.ireturn, 1) := by decide +kernel
theorem dX6_lift_40 : decode cX6_lift 40 = .ok (.aload_n 0, 1) := by decide +kernel
theorem dX6_lift_41 : decode cX6_lift 41 = .ok (.invokevirtual 146, 3) := by decide +kernel
theorem dX6_lift_44 : decode cX6_lift 44 = .ok (.aload_n 0, 1) := by decide +kernel
theorem dX6_lift_45 : decode cX6_lift 45 = .ok (.iload_n 1, 1) := by decide +kernel
theorem dX6_lift_46 : decode cX6_lift 46 = .ok (.invokevirtual 156, 3) := by decide +kernel
theorem dX6_lift_49 : decode cX6_lift 49 = .ok (.aload_n 0, 1) := by decide +kernel
theorem dX6_lift_50 : decode cX6_lift 50 = .ok (.getfield 25, 3) := by decide +kernel
theorem dX6_lift_53 : decode cX6_lift 53 = .ok (.iconst 0, 1) := by decide +kernel
theorem dX6_lift_54 : decode cX6_lift 54 = .ok (.iaload, 1) := by decide +kernel
theorem dX6_lift_55 : decode cX6_lift 55 = .ok (.ireturn, 1) := by decide +kernel
theorem dX6_punch_0 : decode cX6_punch 0 = .ok (.aload_n 0, 1) := by decide +kernel
theorem dX6_punch_1 : decode cX6_punch 1 = .ok (.iload_n 1, 1) := by decide +kernel
theorem dX6_punch_2 : decode cX6_punch 2 = .ok (.invokevirtual 134, 3) := by decide +kernel
theorem dX6_punch_5 : decode cX6_punch 5 = .ok (.ifCond .eq 22, 3) := by decide +kernel
theorem dX6_punch_8 : decode cX6_punch 8 = .ok (.iload_n 2, 1) := by decide +kernel
theorem dX6_punch_9 : decode cX6_punch 9 = .ok (.invokestatic 143, 3) := by decide +kernel
theorem dX6_punch_12 : decode cX6_punch 12 = .ok (.ifCond .eq 15, 3) := by decide +kernel
theorem dX6_punch_15 : decode cX6_punch 15 = .ok (.iload_n 3, 1) := by decide +kernel
theorem dX6_punch_16 : decode cX6_punch 16 = .ok (.i2l, 1) := by decide +kernel
theorem dX6_punch_17 : decode cX6_punch 17 = .ok (.lconst 0, 1) := by decide +kernel
theorem dX6_punch_18 : decode cX6_punch 18 = .ok (.ldc2_w 160, 3) := by decide +kernel
theorem dX6_punch_21 : decode cX6_punch 21 = .ok (.invokestatic 69, 3) := by decide +kernel
theorem dX6_punch_24 : decode cX6_punch 24 = .ok (.ifCond .ne 5, 3) := by decide +kernel
theorem dX6_punch_27 : decode cX6_punch 27 = .ok (.iconst (-1), 1) := by decide +kernel
theorem dX6_punch_28 : decode cX6_punch 28 = .ok (.ireturn, 1) := by decide +kernel
theorem dX6_punch_29 : decode cX6_punch 29 = .ok (.bipush 6, 2) := by decide +kernel
theorem dX6_punch_31 : decode cX6_punch 31 = .ok (.iconst 3, 1) := by decide +kernel
theorem dX6_punch_32 : decode cX6_punch 32 = .ok (.iload_n 1, 1) := by decide +kernel
theorem dX6_punch_33 : decode cX6_punch 33 = .ok (.imul, 1) := by decide +kernel
theorem dX6_punch_34 : decode cX6_punch 34 = .ok (.iadd, 1) := by decide +kernel
theorem dX6_punch_35 : decode cX6_punch 35 = .ok (.iload_n 2, 1) := by decide +kernel
theorem dX6_punch_36 : decode cX6_punch 36 = .ok (.iadd, 1) := by decide +kernel
theorem dX6_punch_37 : decode cX6_punch 37 = .ok (.istore 4, 2) := by decide +kernel
theorem dX6_punch_39 : decode cX6_punch 39 = .ok (.aload_n 0, 1) := by decide +kernel
theorem dX6_punch_40 : decode cX6_punch 40 = .ok (.getfield 25, 3) := by decide +kernel
theorem dX6_punch_43 : decode cX6_punch 43 = .ok (.iload 4, 2) := by decide +kernel
theorem dX6_punch_45 : decode cX6_punch 45 = .ok (.iaload, 1) := by decide +kernel
theorem dX6_punch_46 : decode cX6_punch 46 = .ok (.istore 5, 2) := by decide +kernel
theorem dX6_punch_48 : decode cX6_punch 48 = .ok (.iload 5, 2) := by decide +kernel
theorem dX6_punch_50 : decode cX6_punch 50 = .ok (.iload_n 3, 1) := by decide +kernel
theorem dX6_punch_51 : decode cX6_punch 51 = .ok (.if_icmp .ne 6, 3) := by decide +kernel
theorem dX6_punch_54 : decode cX6_punch 54 = .ok (.bipush (-4), 2) := by decide +kernel
theorem dX6_punch_56 : decode cX6_punch 56 = .ok (.ireturn, 1) := by decide +kernel
theorem dX6_punch_57 : decode cX6_punch 57 = .ok (.aload_n 0, 1) := by decide +kernel
theorem dX6_punch_58 : decode cX6_punch 58 = .ok (.getfield 109, 3) := by decide +kernel
theorem dX6_punch_61 : decode cX6_punch 61 = .ok (.bipush 40, 2) := by decide +kernel
theorem dX6_punch_63 : decode cX6_punch 63 = .ok (.if_icmp .ne 6, 3) := by decide +kernel
theorem dX6_punch_66 : decode cX6_punch 66 = .ok (.bipush (-2), 2) := by decide +kernel
theorem dX6_punch_68 : decode cX6_punch 68 = .ok (.ireturn, 1) := by decide +kernel
theorem dX6_punch_69 : decode cX6_punch 69 = .ok (.aload_n 0, 1) := by decide +kernel
theorem dX6_punch_70 : decode cX6_punch 70 = .ok (.invokevirtual 146, 3) := by decide +kernel
theorem dX6_punch_73 : decode cX6_punch 73 = .ok (.aload_n 0, 1) := by decide +kernel
theorem dX6_punch_74 : decode cX6_punch 74 = .ok (.getfield 25, 3) := by decide +kernel
theorem dX6_punch_77 : decode cX6_punch 77 = .ok (.iload 4, 2) := by decide +kernel
theorem dX6_punch_79 : decode cX6_punch 79 = .ok (.iload_n 3, 1) := by decide +kernel
theorem dX6_punch_80 : decode cX6_punch 80 = .ok (.iastore, 1) := by decide +kernel
theorem dX6_punch_81 : decode cX6_punch 81 = .ok (.iload 5, 2) := by decide +kernel
theorem dX6_punch_83 : decode cX6_punch 83 = .ok (.ireturn, 1) := by decide +kernel
theorem dX6_undo_0 : decode cX6_undo 0 = .ok (.iload_n 1, 1) := by decide +kernel
theorem dX6_undo_1 : decode cX6_undo 1 = .ok (.i2l, 1) := by decide +kernel
theorem dX6_undo_2 : decode cX6_undo 2 = .ok (.lconst 0, 1) := by decide +kernel
theorem dX6_undo_3 : decode cX6_undo 3 = .ok (.aload_n 0, 1) := by decide +kernel
theorem dX6_undo_4 : decode cX6_undo 4 = .ok (.getfield 109, 3) := by decide +kernel
theorem dX6_undo_7 : decode cX6_undo 7 = .ok (.i2l, 1) := by decide +kernel
theorem dX6_undo_8 : decode cX6_undo 8 = .ok (.invokestatic 69, 3) := by decide +kernel
theorem dX6_undo_11 : decode cX6_undo 11 = .ok (.ifCond .ne 5, 3) := by decide +kernel
theorem dX6_undo_14 : decode cX6_undo 14 = .ok (.iconst (-1), 1) := by decide +kernel
theorem dX6_undo_15 : decode cX6_undo 15 = .ok (.ireturn, 1) := by decide +kernel
theorem dX6_undo_16 : decode cX6_undo 16 = .ok (.aload_n 0, 1) := by decide +kernel
theorem dX6_undo_17 : decode cX6_undo 17 = .ok (.getfield 109, 3) := by decide +kernel
theorem dX6_undo_20 : decode cX6_undo 20 = .ok (.iload_n 1, 1) := by decide +kernel
theorem dX6_undo_21 : decode cX6_undo 21 = .ok (.isub, 1) := by decide +kernel
theorem dX6_undo_22 : decode cX6_undo 22 = .ok (.istore_n 2, 1) := by decide +kernel
theorem dX6_undo_23 : decode cX6_undo 23 = .ok (.iload_n 2, 1) := by decide +kernel
theorem dX6_undo_24 : decode cX6_undo 24 = .ok (.ifCond .le 21, 3) := by decide +kernel
theorem dX6_undo_27 : decode cX6_undo 27 = .ok (.aload_n 0, 1) := by decide +kernel
theorem dX6_undo_28 : decode cX6_undo 28 = .ok (.getfield 31, 3) := by decide +kernel
theorem dX6_undo_31 : decode cX6_undo 31 = .ok (.bipush 25, 2) := by decide +kernel
theorem dX6_undo_33 : decode cX6_undo 33 = .ok (.iload_n 1, 1) := by decide +kernel
theorem dX6_undo_34 : decode cX6_undo 34 = .ok (.imul, 1) := by decide +kernel
theorem dX6_undo_35 : decode cX6_undo 35 = .ok (.aload_n 0, 1) := by decide +kernel
theorem dX6_undo_36 : decode cX6_undo 36 = .ok (.getfield 25, 3) := by decide +kernel
theorem dX6_undo_39 : decode cX6_undo 39 = .ok (.iconst 0, 1) := by decide +kernel
theorem dX6_undo_40 : decode cX6_undo 40 = .ok (.bipush 25, 2) := by decide +kernel
theorem dX6_undo_42 : decode cX6_undo 42 = .ok (.invokestatic 105, 3) := by decide +kernel
theorem dX6_undo_45 : decode cX6_undo 45 = .ok (.aload_n 0, 1) := by decide +kernel
theorem dX6_undo_46 : decode cX6_undo 46 = .ok (.iload_n 1, 1) := by decide +kernel
theorem dX6_undo_47 : decode cX6_undo 47 = .ok (.putfield 109, 3) := by decide +kernel
theorem dX6_undo_50 : decode cX6_undo 50 = .ok (.iload_n 2, 1) := by decide +kernel
theorem dX6_undo_51 : decode cX6_undo 51 = .ok (.ireturn, 1) := by decide +kernel
theorem dX6_isPlace_0 : decode cX6_isPlace 0 = .ok (.iload_n 0, 1) := by decide +kernel
theorem dX6_isPlace_1 : decode cX6_isPlace 1 = .ok (.i2l, 1) := by decide +kernel
theorem dX6_isPlace_2 : decode cX6_isPlace 2 = .ok (.lconst 0, 1) := by decide +kernel
theorem dX6_isPlace_3 : decode cX6_isPlace 3 = .ok (.ldc2_w 112, 3) := by decide +kernel
theorem dX6_isPlace_6 : decode cX6_isPlace 6 = .ok (.invokestatic 69, 3) := by decide +kernel
theorem dX6_isPlace_9 : decode cX6_isPlace 9 = .ok (.ireturn, 1) := by decide +kernel
theorem dX6_keep_0 : decode cX6_keep 0 = .ok (.iload_n 1, 1) := by decide +kernel
theorem dX6_keep_1 : decode cX6_keep 1 = .ok (.invokestatic 162, 3) := by decide +kernel
theorem dX6_keep_4 : decode cX6_keep 4 = .ok (.ifCond .ne 5, 3) := by decide +kernel
theorem dX6_keep_7 : decode cX6_keep 7 = .ok (.iconst (-1), 1) := by decide +kernel
theorem dX6_keep_8 : decode cX6_keep 8 = .ok (.ireturn, 1) := by decide +kernel
theorem dX6_keep_9 : decode cX6_keep 9 = .ok (.aload_n 0, 1) := by decide +kernel
theorem dX6_keep_10 : decode cX6_keep 10 = .ok (.getfield 102, 3) := by decide +kernel
theorem dX6_keep_13 : decode cX6_keep 13 = .ok (.ifCond .ne 6, 3) := by decide +kernel
theorem dX6_keep_16 : decode cX6_keep 16 = .ok (.bipush (-4), 2) := by decide +kernel
theorem dX6_keep_18 : decode cX6_keep 18 = .ok (.ireturn, 1) := by decide +kernel
theorem dX6_keep_19 : decode cX6_keep 19 = .ok (.aload_n 0, 1) := by decide +kernel
theorem dX6_keep_20 : decode cX6_keep 20 = .ok (.getfield 25, 3) := by decide +kernel
theorem dX6_keep_23 : decode cX6_keep 23 = .ok (.iconst 0, 1) := by decide +kernel
theorem dX6_keep_24 : decode cX6_keep 24 = .ok (.aload_n 0, 1) := by decide +kernel
theorem dX6_keep_25 : decode cX6_keep 25 = .ok (.getfield 34, 3) := by decide +kernel
theorem dX6_keep_28 : decode cX6_keep 28 = .ok (.sipush 1026, 3) := by decide +kernel
theorem dX6_keep_31 : decode cX6_keep 31 = .ok (.iload_n 1, 1) := by decide +kernel
theorem dX6_keep_32 : decode cX6_keep 32 = .ok (.imul, 1) := by decide +kernel
theorem dX6_keep_33 : decode cX6_keep 33 = .ok (.bipush 25, 2) := by decide +kernel
theorem dX6_keep_35 : decode cX6_keep 35 = .ok (.invokestatic 105, 3) := by decide +kernel
theorem dX6_keep_38 : decode cX6_keep 38 = .ok (.aload_n 0, 1) := by decide +kernel
theorem dX6_keep_39 : decode cX6_keep 39 = .ok (.getfield 34, 3) := by decide +kernel
theorem dX6_keep_42 : decode cX6_keep 42 = .ok (.sipush 1026, 3) := by decide +kernel
theorem dX6_keep_45 : decode cX6_keep 45 = .ok (.iload_n 1, 1) := by decide +kernel
theorem dX6_keep_46 : decode cX6_keep 46 = .ok (.imul, 1) := by decide +kernel
theorem dX6_keep_47 : decode cX6_keep 47 = .ok (.bipush 25, 2) := by decide +kernel
theorem dX6_keep_49 : decode cX6_keep 49 = .ok (.iadd, 1) := by decide +kernel
theorem dX6_keep_50 : decode cX6_keep 50 = .ok (.aload_n 0, 1) := by decide +kernel
theorem dX6_keep_51 : decode cX6_keep 51 = .ok (.getfield 109, 3) := by decide +kernel
theorem dX6_keep_54 : decode cX6_keep 54 = .ok (.iastore, 1) := by decide +kernel
theorem dX6_keep_55 : decode cX6_keep 55 = .ok (.aload_n 0, 1) := by decide +kernel
theorem dX6_keep_56 : decode cX6_keep 56 = .ok (.getfield 31, 3) := by decide +kernel
theorem dX6_keep_59 : decode cX6_keep 59 = .ok (.iconst 0, 1) := by decide +kernel
theorem dX6_keep_60 : decode cX6_keep 60 = .ok (.aload_n 0, 1) := by decide +kernel
theorem dX6_keep_61 : decode cX6_keep 61 = .ok (.getfield 34, 3) := by decide +kernel
theorem dX6_keep_64 : decode cX6_keep 64 = .ok (.sipush 1026, 3) := by decide +kernel
theorem dX6_keep_67 : decode cX6_keep 67 = .ok (.iload_n 1, 1) := by decide +kernel
theorem dX6_keep_68 : decode cX6_keep 68 = .ok (.imul, 1) := by decide +kernel
theorem dX6_keep_69 : decode cX6_keep 69 = .ok (.bipush 25, 2) := by decide +kernel
theorem dX6_keep_71 : decode cX6_keep 71 = .ok (.iadd, 1) := by decide +kernel
theorem dX6_keep_72 : decode cX6_keep 72 = .ok (.iconst 1, 1) := by decide +kernel
theorem dX6_keep_73 : decode cX6_keep 73 = .ok (.iadd, 1) := by decide +kernel
theorem dX6_keep_74 : decode cX6_keep 74 = .ok (.sipush 1000, 3) := by decide +kernel
theorem dX6_keep_77 : decode cX6_keep 77 = .ok (.invokestatic 105, 3) := by decide +kernel
theorem dX6_keep_80 : decode cX6_keep 80 = .ok (.aload_n 0, 1) := by decide +kernel
theorem dX6_keep_81 : decode cX6_keep 81 = .ok (.getfield 37, 3) := by decide +kernel
theorem dX6_keep_84 : decode cX6_keep 84 = .ok (.iload_n 1, 1) := by decide +kernel
theorem dX6_keep_85 : decode cX6_keep 85 = .ok (.iconst 1, 1) := by decide +kernel
theorem dX6_keep_86 : decode cX6_keep 86 = .ok (.bastore, 1) := by decide +kernel
theorem dX6_keep_87 : decode cX6_keep 87 = .ok (.aload_n 0, 1) := by decide +kernel
theorem dX6_keep_88 : decode cX6_keep 88 = .ok (.getfield 109, 3) := by decide +kernel
theorem dX6_keep_91 : decode cX6_keep 91 = .ok (.ireturn, 1) := by decide +kernel
theorem dX6_on_0 : decode cX6_on 0 = .ok (.iload_n 1, 1) := by decide +kernel
theorem dX6_on_1 : decode cX6_on 1 = .ok (.invokestatic 162, 3) := by decide +kernel
theorem dX6_on_4 : decode cX6_on 4 = .ok (.ifCond .ne 5, 3) := by decide +kernel
theorem dX6_on_7 : decode cX6_on 7 = .ok (.iconst (-1), 1) := by decide +kernel
theorem dX6_on_8 : decode cX6_on 8 = .ok (.ireturn, 1) := by decide +kernel
theorem dX6_on_9 : decode cX6_on 9 = .ok (.aload_n 0, 1) := by decide +kernel
theorem dX6_on_10 : decode cX6_on 10 = .ok (.getfield 37, 3) := by decide +kernel
theorem dX6_on_13 : decode cX6_on 13 = .ok (.iload_n 1, 1) := by decide +kernel
theorem dX6_on_14 : decode cX6_on 14 = .ok (.baload, 1) := by decide +kernel
theorem dX6_on_15 : decode cX6_on 15 = .ok (.ifCond .ne 9, 3) := by decide +kernel
theorem dX6_on_18 : decode cX6_on 18 = .ok (.aload_n 0, 1) := by decide +kernel
theorem dX6_on_19 : decode cX6_on 19 = .ok (.iconst 1, 1) := by decide +kernel
theorem dX6_on_20 : decode cX6_on 20 = .ok (.invokevirtual 79, 3) := by decide +kernel
theorem dX6_on_23 : decode cX6_on 23 = .ok (.ireturn, 1) := by decide +kernel
theorem dX6_on_24 : decode cX6_on 24 = .ok (.aload_n 0, 1) := by decide +kernel
theorem dX6_on_25 : decode cX6_on 25 = .ok (.getfield 34, 3) := by decide +kernel
theorem dX6_on_28 : decode cX6_on 28 = .ok (.sipush 1026, 3) := by decide +kernel
theorem dX6_on_31 : decode cX6_on 31 = .ok (.iload_n 1, 1) := by decide +kernel
theorem dX6_on_32 : decode cX6_on 32 = .ok (.imul, 1) := by decide +kernel
theorem dX6_on_33 : decode cX6_on 33 = .ok (.aload_n 0, 1) := by decide +kernel
theorem dX6_on_34 : decode cX6_on 34 = .ok (.getfield 25, 3) := by decide +kernel
theorem dX6_on_37 : decode cX6_on 37 = .ok (.iconst 0, 1) := by decide +kernel
theorem dX6_on_38 : decode cX6_on 38 = .ok (.bipush 25, 2) := by decide +kernel
theorem dX6_on_40 : decode cX6_on 40 = .ok (.invokestatic 105, 3) := by decide +kernel
theorem dX6_on_43 : decode cX6_on 43 = .ok (.aload_n 0, 1) := by decide +kernel
theorem dX6_on_44 : decode cX6_on 44 = .ok (.aload_n 0, 1) := by decide +kernel
theorem dX6_on_45 : decode cX6_on 45 = .ok (.getfield 34, 3) := by decide +kernel
theorem dX6_on_48 : decode cX6_on 48 = .ok (.sipush 1026, 3) := by decide +kernel
theorem dX6_on_51 : decode cX6_on 51 = .ok (.iload_n 1, 1) := by decide +kernel
theorem dX6_on_52 : decode cX6_on 52 = .ok (.imul, 1) := by decide +kernel
theorem dX6_on_53 : decode cX6_on 53 = .ok (.bipush 25, 2) := by decide +kernel
theorem dX6_on_55 : decode cX6_on 55 = .ok (.iadd, 1) := by decide +kernel
theorem dX6_on_56 : decode cX6_on 56 = .ok (.iaload, 1) := by decide +kernel
theorem dX6_on_57 : decode cX6_on 57 = .ok (.putfield 109, 3) := by decide +kernel
theorem dX6_on_60 : decode cX6_on 60 = .ok (.aload_n 0, 1) := by decide +kernel
theorem dX6_on_61 : decode cX6_on 61 = .ok (.getfield 34, 3) := by decide +kernel
theorem dX6_on_64 : decode cX6_on 64 = .ok (.sipush 1026, 3) := by decide +kernel
theorem dX6_on_67 : decode cX6_on 67 = .ok (.iload_n 1, 1) := by decide +kernel
theorem dX6_on_68 : decode cX6_on 68 = .ok (.imul, 1) := by decide +kernel
theorem dX6_on_69 : decode cX6_on 69 = .ok (.bipush 25, 2) := by decide +kernel
theorem dX6_on_71 : decode cX6_on 71 = .ok (.iadd, 1) := by decide +kernel
theorem dX6_on_72 : decode cX6_on 72 = .ok (.iconst 1, 1) := by decide +kernel
theorem dX6_on_73 : decode cX6_on 73 = .ok (.iadd, 1) := by decide +kernel
theorem dX6_on_74 : decode cX6_on 74 = .ok (.aload_n 0, 1) := by decide +kernel
theorem dX6_on_75 : decode cX6_on 75 = .ok (.getfield 31, 3) := by decide +kernel
theorem dX6_on_78 : decode cX6_on 78 = .ok (.iconst 0, 1) := by decide +kernel
theorem dX6_on_79 : decode cX6_on 79 = .ok (.sipush 1000, 3) := by decide +kernel
theorem dX6_on_82 : decode cX6_on 82 = .ok (.invokestatic 105, 3) := by decide +kernel
theorem dX6_on_85 : decode cX6_on 85 = .ok (.aload_n 0, 1) := by decide +kernel
theorem dX6_on_86 : decode cX6_on 86 = .ok (.getfield 109, 3) := by decide +kernel
theorem dX6_on_89 : decode cX6_on 89 = .ok (.ireturn, 1) := by decide +kernel
theorem dX6_laysAside_0 : decode cX6_laysAside 0 = .ok (.aload_n 0, 1) := by decide +kernel
theorem dX6_laysAside_1 : decode cX6_laysAside 1 = .ok (.getfield 25, 3) := by decide +kernel
theorem dX6_laysAside_4 : decode cX6_laysAside 4 = .ok (.iconst 0, 1) := by decide +kernel
theorem dX6_laysAside_5 : decode cX6_laysAside 5 = .ok (.aload_n 0, 1) := by decide +kernel
theorem dX6_laysAside_6 : decode cX6_laysAside 6 = .ok (.getfield 28, 3) := by decide +kernel
theorem dX6_laysAside_9 : decode cX6_laysAside 9 = .ok (.iconst 0, 1) := by decide +kernel
theorem dX6_laysAside_10 : decode cX6_laysAside 10 = .ok (.bipush 25, 2) := by decide +kernel
theorem dX6_laysAside_12 : decode cX6_laysAside 12 = .ok (.invokestatic 105, 3) := by decide +kernel
theorem dX6_laysAside_15 : decode cX6_laysAside 15 = .ok (.return_, 1) := by decide +kernel
theorem dX6_pocket_0 : decode cX6_pocket 0 = .ok (.aload_n 0, 1) := by decide +kernel
theorem dX6_pocket_1 : decode cX6_pocket 1 = .ok (.iload_n 1, 1) := by decide +kernel
theorem dX6_pocket_2 : decode cX6_pocket 2 = .ok (.invokevirtual 134, 3) := by decide +kernel
theorem dX6_pocket_5 : decode cX6_pocket 5 = .ok (.ifCond .eq 46, 3) := by decide +kernel
theorem dX6_pocket_8 : decode cX6_pocket 8 = .ok (.iload_n 2, 1) := by decide +kernel
theorem dX6_pocket_9 : decode cX6_pocket 9 = .ok (.invokestatic 143, 3) := by decide +kernel
theorem dX6_pocket_12 : decode cX6_pocket 12 = .ok (.ifCond .eq 39, 3) := by decide +kernel
theorem dX6_pocket_15 : decode cX6_pocket 15 = .ok (.iload_n 3, 1) := by decide +kernel
theorem dX6_pocket_16 : decode cX6_pocket 16 = .ok (.i2l, 1) := by decide +kernel
theorem dX6_pocket_17 : decode cX6_pocket 17 = .ok (.lconst 0, 1) := by decide +kernel
theorem dX6_pocket_18 : decode cX6_pocket 18 = .ok (.ldc2_w 165, 3) := by decide +kernel
theorem dX6_pocket_21 : decode cX6_pocket 21 = .ok (.invokestatic 69, 3) := by decide +kernel
theorem dX6_pocket_24 : decode cX6_pocket 24 = .ok (.ifCond .eq 27, 3) := by decide +kernel
theorem dX6_pocket_27 : decode cX6_pocket 27 = .ok (.aload_n 0, 1) := by decide +kernel
theorem dX6_pocket_28 : decode cX6_pocket 28 = .ok (.getfield 25, 3) := by decide +kernel
theorem dX6_pocket_31 : decode cX6_pocket 31 = .ok (.bipush 6, 2) := by decide +kernel
theorem dX6_pocket_33 : decode cX6_pocket 33 = .ok (.iconst 3, 1) := by decide +kernel
theorem dX6_pocket_34 : decode cX6_pocket 34 = .ok (.iload_n 1, 1) := by decide +kernel
theorem dX6_pocket_35 : decode cX6_pocket 35 = .ok (.imul, 1) := by decide +kernel
theorem dX6_pocket_36 : decode cX6_pocket 36 = .ok (.iadd, 1) := by decide +kernel
theorem dX6_pocket_37 : decode cX6_pocket 37 = .ok (.aload_n 0, 1) := by decide +kernel
theorem dX6_pocket_38 : decode cX6_pocket 38 = .ok (.getfield 22, 3) := by decide +kernel
theorem dX6_pocket_41 : decode cX6_pocket 41 = .ok (.iload_n 1, 1) := by decide +kernel
theorem dX6_pocket_42 : decode cX6_pocket 42 = .ok (.iaload, 1) := by decide +kernel
theorem dX6_pocket_43 : decode cX6_pocket 43 = .ok (.iload_n 2, 1) := by decide +kernel
theorem dX6_pocket_44 : decode cX6_pocket 44 = .ok (.iload_n 3, 1) := by decide +kernel
theorem dX6_pocket_45 : decode cX6_pocket 45 = .ok (.invokestatic 118, 3) := by decide +kernel
theorem dX6_pocket_48 : decode cX6_pocket 48 = .ok (.goto 4, 3) := by decide +kernel
theorem dX6_pocket_51 : decode cX6_pocket 51 = .ok (.iconst (-1), 1) := by decide +kernel
theorem dX6_pocket_52 : decode cX6_pocket 52 = .ok (.ireturn, 1) := by decide +kernel
theorem dX6_run_0 : decode cX6_run 0 = .ok (.iload_n 1, 1) := by decide +kernel
theorem dX6_run_1 : decode cX6_run 1 = .ok (.invokestatic 75, 3) := by decide +kernel
theorem dX6_run_4 : decode cX6_run 4 = .ok (.ifCond .eq 10, 3) := by decide +kernel
theorem dX6_run_7 : decode cX6_run 7 = .ok (.iload_n 2, 1) := by decide +kernel
theorem dX6_run_8 : decode cX6_run 8 = .ok (.invokestatic 75, 3) := by decide +kernel
theorem dX6_run_11 : decode cX6_run 11 = .ok (.ifCond .ne 5, 3) := by decide +kernel
theorem dX6_run_14 : decode cX6_run 14 = .ok (.iconst (-1), 1) := by decide +kernel
theorem dX6_run_15 : decode cX6_run 15 = .ok (.ireturn, 1) := by decide +kernel
theorem dX6_run_16 : decode cX6_run 16 = .ok (.aload_n 0, 1) := by decide +kernel
theorem dX6_run_17 : decode cX6_run 17 = .ok (.getfield 102, 3) := by decide +kernel
theorem dX6_run_20 : decode cX6_run 20 = .ok (.ifCond .ne 6, 3) := by decide +kernel
theorem dX6_run_23 : decode cX6_run 23 = .ok (.bipush (-4), 2) := by decide +kernel
theorem dX6_run_25 : decode cX6_run 25 = .ok (.ireturn, 1) := by decide +kernel
theorem dX6_run_26 : decode cX6_run 26 = .ok (.aload_n 0, 1) := by decide +kernel
theorem dX6_run_27 : decode cX6_run 27 = .ok (.getfield 7, 3) := by decide +kernel
theorem dX6_run_30 : decode cX6_run 30 = .ok (.iload_n 1, 1) := by decide +kernel
theorem dX6_run_31 : decode cX6_run 31 = .ok (.iaload, 1) := by decide +kernel
theorem dX6_run_32 : decode cX6_run 32 = .ok (.ifCond .ge 9, 3) := by decide +kernel
theorem dX6_run_35 : decode cX6_run 35 = .ok (.aload_n 0, 1) := by decide +kernel
theorem dX6_run_36 : decode cX6_run 36 = .ok (.iconst 1, 1) := by decide +kernel
theorem dX6_run_37 : decode cX6_run 37 = .ok (.invokevirtual 79, 3) := by decide +kernel
theorem dX6_run_40 : decode cX6_run 40 = .ok (.ireturn, 1) := by decide +kernel
theorem dX6_run_41 : decode cX6_run 41 = .ok (.aload_n 0, 1) := by decide +kernel
theorem dX6_run_42 : decode cX6_run 42 = .ok (.getfield 7, 3) := by decide +kernel
theorem dX6_run_45 : decode cX6_run 45 = .ok (.iload_n 1, 1) := by decide +kernel
theorem dX6_run_46 : decode cX6_run 46 = .ok (.iaload, 1) := by decide +kernel
theorem dX6_run_47 : decode cX6_run 47 = .ok (.bipush 10, 2) := by decide +kernel
theorem dX6_run_49 : decode cX6_run 49 = .ok (.if_icmp .le 9, 3) := by decide +kernel
theorem dX6_run_52 : decode cX6_run 52 = .ok (.aload_n 0, 1) := by decide +kernel
theorem dX6_run_53 : decode cX6_run 53 = .ok (.iconst 5, 1) := by decide +kernel
theorem dX6_run_54 : decode cX6_run 54 = .ok (.invokevirtual 79, 3) := by decide +kernel
theorem dX6_run_57 : decode cX6_run 57 = .ok (.ireturn, 1) := by decide +kernel
theorem dX6_run_58 : decode cX6_run 58 = .ok (.iconst 0, 1) := by decide +kernel
theorem dX6_run_59 : decode cX6_run 59 = .ok (.istore_n 3, 1) := by decide +kernel
theorem dX6_run_60 : decode cX6_run 60 = .ok (.iload_n 3, 1) := by decide +kernel
theorem dX6_run_61 : decode cX6_run 61 = .ok (.aload_n 0, 1) := by decide +kernel
theorem dX6_run_62 : decode cX6_run 62 = .ok (.getfield 7, 3) := by decide +kernel
theorem dX6_run_65 : decode cX6_run 65 = .ok (.iload_n 1, 1) := by decide +kernel
theorem dX6_run_66 : decode cX6_run 66 = .ok (.iaload, 1) := by decide +kernel
theorem dX6_run_67 : decode cX6_run 67 = .ok (.if_icmp .ge 32, 3) := by decide +kernel
theorem dX6_run_70 : decode cX6_run 70 = .ok (.aload_n 0, 1) := by decide +kernel
theorem dX6_run_71 : decode cX6_run 71 = .ok (.getfield 13, 3) := by decide +kernel
theorem dX6_run_74 : decode cX6_run 74 = .ok (.bipush 40, 2) := by decide +kernel
theorem dX6_run_76 : decode cX6_run 76 = .ok (.iload_n 1, 1) := by decide +kernel
theorem dX6_run_77 : decode cX6_run 77 = .ok (.imul, 1) := by decide +kernel
theorem dX6_run_78 : decode cX6_run 78 = .ok (.iload_n 3, 1) := by decide +kernel
theorem dX6_run_79 : decode cX6_run 79 = .ok (.iadd, 1) := by decide +kernel
theorem dX6_run_80 : decode cX6_run 80 = .ok (.iaload, 1) := by decide +kernel
theorem dX6_run_81 : decode cX6_run 81 = .ok (.invokestatic 143, 3) := by decide +kernel
theorem dX6_run_84 : decode cX6_run 84 = .ok (.ifCond .ne 9, 3) := by decide +kernel
theorem dX6_run_87 : decode cX6_run 87 = .ok (.aload_n 0, 1) := by decide +kernel
theorem dX6_run_88 : decode cX6_run 88 = .ok (.iconst 3, 1) := by decide +kernel
theorem dX6_run_89 : decode cX6_run 89 = .ok (.invokevirtual 79, 3) := by decide +kernel
theorem dX6_run_92 : decode cX6_run 92 = .ok (.ireturn, 1) := by decide +kernel
theorem dX6_run_93 : decode cX6_run 93 = .ok (.iinc 3 1, 3) := by decide +kernel
theorem dX6_run_96 : decode cX6_run 96 = .ok (.goto (-36), 3) := by decide +kernel
theorem dX6_run_99 : decode cX6_run 99 = .ok (.aload_n 0, 1) := by decide +kernel
theorem dX6_run_100 : decode cX6_run 100 = .ok (.invokevirtual 167, 3) := by decide +kernel
theorem dX6_run_103 : decode cX6_run 103 = .ok (.iconst 0, 1) := by decide +kernel
theorem dX6_run_104 : decode cX6_run 104 = .ok (.istore_n 3, 1) := by decide +kernel
theorem dX6_run_105 : decode cX6_run 105 = .ok (.iload_n 3, 1) := by decide +kernel
theorem dX6_run_106 : decode cX6_run 106 = .ok (.aload_n 0, 1) := by decide +kernel
theorem dX6_run_107 : decode cX6_run 107 = .ok (.getfield 7, 3) := by decide +kernel
theorem dX6_run_110 : decode cX6_run 110 = .ok (.iload_n 1, 1) := by decide +kernel
theorem dX6_run_111 : decode cX6_run 111 = .ok (.iaload, 1) := by decide +kernel
theorem dX6_run_112 : decode cX6_run 112 = .ok (.if_icmp .ge 28, 3) := by decide +kernel
theorem dX6_run_115 : decode cX6_run 115 = .ok (.aload_n 0, 1) := by decide +kernel
theorem dX6_run_116 : decode cX6_run 116 = .ok (.aload_n 0, 1) := by decide +kernel
theorem dX6_run_117 : decode cX6_run 117 = .ok (.getfield 28, 3) := by decide +kernel
theorem dX6_run_120 : decode cX6_run 120 = .ok (.aload_n 0, 1) := by decide +kernel
theorem dX6_run_121 : decode cX6_run 121 = .ok (.getfield 13, 3) := by decide +kernel
theorem dX6_run_124 : decode cX6_run 124 = .ok (.bipush 40, 2) := by decide +kernel
theorem dX6_run_126 : decode cX6_run 126 = .ok (.iload_n 1, 1) := by decide +kernel
theorem dX6_run_127 : decode cX6_run 127 = .ok (.imul, 1) := by decide +kernel
theorem dX6_run_128 : decode cX6_run 128 = .ok (.iload_n 3, 1) := by decide +kernel
theorem dX6_run_129 : decode cX6_run 129 = .ok (.iadd, 1) := by decide +kernel
theorem dX6_run_130 : decode cX6_run 130 = .ok (.iaload, 1) := by decide +kernel
theorem dX6_run_131 : decode cX6_run 131 = .ok (.invokevirtual 149, 3) := by decide +kernel
theorem dX6_run_134 : decode cX6_run 134 = .ok (.iinc 3 1, 3) := by decide +kernel
theorem dX6_run_137 : decode cX6_run 137 = .ok (.goto (-32), 3) := by decide +kernel
theorem dX6_run_140 : decode cX6_run 140 = .ok (.aload_n 0, 1) := by decide +kernel
theorem dX6_run_141 : decode cX6_run 141 = .ok (.iload_n 2, 1) := by decide +kernel
theorem dX6_run_142 : decode cX6_run 142 = .ok (.aload_n 0, 1) := by decide +kernel
theorem dX6_run_143 : decode cX6_run 143 = .ok (.getfield 102, 3) := by decide +kernel
theorem dX6_run_146 : decode cX6_run 146 = .ok (.invokevirtual 170, 3) := by decide +kernel
theorem dX6_run_149 : decode cX6_run 149 = .ok (.aload_n 0, 1) := by decide +kernel
theorem dX6_run_150 : decode cX6_run 150 = .ok (.getfield 28, 3) := by decide +kernel
theorem dX6_run_153 : decode cX6_run 153 = .ok (.iconst 0, 1) := by decide +kernel
theorem dX6_run_154 : decode cX6_run 154 = .ok (.aload_n 0, 1) := by decide +kernel
theorem dX6_run_155 : decode cX6_run 155 = .ok (.getfield 13, 3) := by decide +kernel
theorem dX6_run_158 : decode cX6_run 158 = .ok (.bipush 40, 2) := by decide +kernel
theorem dX6_run_160 : decode cX6_run 160 = .ok (.iload_n 2, 1) := by decide +kernel
theorem dX6_run_161 : decode cX6_run 161 = .ok (.imul, 1) := by decide +kernel
theorem dX6_run_162 : decode cX6_run 162 = .ok (.aload_n 0, 1) := by decide +kernel
theorem dX6_run_163 : decode cX6_run 163 = .ok (.getfield 102, 3) := by decide +kernel
theorem dX6_run_166 : decode cX6_run 166 = .ok (.invokestatic 105, 3) := by decide +kernel
theorem dX6_run_169 : decode cX6_run 169 = .ok (.aload_n 0, 1) := by decide +kernel
theorem dX6_run_170 : decode cX6_run 170 = .ok (.getfield 28, 3) := by decide +kernel
theorem dX6_run_173 : decode cX6_run 173 = .ok (.iconst 0, 1) := by decide +kernel
theorem dX6_run_174 : decode cX6_run 174 = .ok (.iaload, 1) := by decide +kernel
theorem dX6_run_175 : decode cX6_run 175 = .ok (.ireturn, 1) := by decide +kernel
theorem dX6_lays_0 : decode cX6_lays 0 = .ok (.aload_n 0, 1) := by decide +kernel
theorem dX6_lays_1 : decode cX6_lays 1 = .ok (.getfield 7, 3) := by decide +kernel
theorem dX6_lays_4 : decode cX6_lays 4 = .ok (.iload_n 1, 1) := by decide +kernel
theorem dX6_lays_5 : decode cX6_lays 5 = .ok (.iload_n 2, 1) := by decide +kernel
theorem dX6_lays_6 : decode cX6_lays 6 = .ok (.iastore, 1) := by decide +kernel
theorem dX6_lays_7 : decode cX6_lays 7 = .ok (.iconst 0, 1) := by decide +kernel
theorem dX6_lays_8 : decode cX6_lays 8 = .ok (.istore_n 3, 1) := by decide +kernel
theorem dX6_lays_9 : decode cX6_lays 9 = .ok (.iload_n 3, 1) := by decide +kernel
theorem dX6_lays_10 : decode cX6_lays 10 = .ok (.bipush 40, 2) := by decide +kernel
theorem dX6_lays_12 : decode cX6_lays 12 = .ok (.if_icmp .ge 21, 3) := by decide +kernel
theorem dX6_lays_15 : decode cX6_lays 15 = .ok (.aload_n 0, 1) := by decide +kernel
theorem dX6_lays_16 : decode cX6_lays 16 = .ok (.getfield 13, 3) := by decide +kernel
theorem dX6_lays_19 : decode cX6_lays 19 = .ok (.bipush 40, 2) := by decide +kernel
theorem dX6_lays_21 : decode cX6_lays 21 = .ok (.iload_n 1, 1) := by decide +kernel
theorem dX6_lays_22 : decode cX6_lays 22 = .ok (.imul, 1) := by decide +kernel
theorem dX6_lays_23 : decode cX6_lays 23 = .ok (.iload_n 3, 1) := by decide +kernel
theorem dX6_lays_24 : decode cX6_lays 24 = .ok (.iadd, 1) := by decide +kernel
theorem dX6_lays_25 : decode cX6_lays 25 = .ok (.iconst 0, 1) := by decide +kernel
theorem dX6_lays_26 : decode cX6_lays 26 = .ok (.iastore, 1) := by decide +kernel
theorem dX6_lays_27 : decode cX6_lays 27 = .ok (.iinc 3 1, 3) := by decide +kernel
theorem dX6_lays_30 : decode cX6_lays 30 = .ok (.goto (-21), 3) := by decide +kernel
theorem dX6_lays_33 : decode cX6_lays 33 = .ok (.return_, 1) := by decide +kernel
theorem dX6_isOrdered_0 : decode cX6_isOrdered 0 = .ok (.iconst 1, 1) := by decide +kernel
theorem dX6_isOrdered_1 : decode cX6_isOrdered 1 = .ok (.istore_n 3, 1) := by decide +kernel
theorem dX6_isOrdered_2 : decode cX6_isOrdered 2 = .ok (.iconst 1, 1) := by decide +kernel
theorem dX6_isOrdered_3 : decode cX6_isOrdered 3 = .ok (.istore 4, 2) := by decide +kernel
theorem dX6_isOrdered_5 : decode cX6_isOrdered 5 = .ok (.iload 4, 2) := by decide +kernel
theorem dX6_isOrdered_7 : decode cX6_isOrdered 7 = .ok (.aload_n 0, 1) := by decide +kernel
theorem dX6_isOrdered_8 : decode cX6_isOrdered 8 = .ok (.getfield 102, 3) := by decide +kernel
theorem dX6_isOrdered_11 : decode cX6_isOrdered 11 = .ok (.if_icmp .ge 44, 3) := by decide +kernel
theorem dX6_isOrdered_14 : decode cX6_isOrdered 14 = .ok (.iload_n 3, 1) := by decide +kernel
theorem dX6_isOrdered_15 : decode cX6_isOrdered 15 = .ok (.ifCond .eq 32, 3) := by decide +kernel
theorem dX6_isOrdered_18 : decode cX6_isOrdered 18 = .ok (.aload_n 0, 1) := by decide +kernel
theorem dX6_isOrdered_19 : decode cX6_isOrdered 19 = .ok (.aload_n 1, 1) := by decide +kernel
theorem dX6_isOrdered_20 : decode cX6_isOrdered 20 = .ok (.aload_n 1, 1) := by decide +kernel
theorem dX6_isOrdered_21 : decode cX6_isOrdered 21 = .ok (.iload 4, 2) := by decide +kernel
theorem dX6_isOrdered_23 : decode cX6_isOrdered 23 = .ok (.iconst 1, 1) := by decide +kernel
theorem dX6_isOrdered_24 : decode cX6_isOrdered 24 = .ok (.isub, 1) := by decide +kernel
theorem dX6_isOrdered_25 : decode cX6_isOrdered 25 = .ok (.iaload, 1) := by decide +kernel
theorem dX6_isOrdered_26 : decode cX6_isOrdered 26 = .ok (.iload_n 2, 1) := by decide +kernel
theorem dX6_isOrdered_27 : decode cX6_isOrdered 27 = .ok (.invokevirtual 126, 3) := by decide +kernel
theorem dX6_isOrdered_30 : decode cX6_isOrdered 30 = .ok (.aload_n 0, 1) := by decide +kernel
theorem dX6_isOrdered_31 : decode cX6_isOrdered 31 = .ok (.aload_n 1, 1) := by decide +kernel
theorem dX6_isOrdered_32 : decode cX6_isOrdered 32 = .ok (.aload_n 1, 1) := by decide +kernel
theorem dX6_isOrdered_33 : decode cX6_isOrdered 33 = .ok (.iload 4, 2) := by decide +kernel
theorem dX6_isOrdered_35 : decode cX6_isOrdered 35 = .ok (.iaload, 1) := by decide +kernel
theorem dX6_isOrdered_36 : decode cX6_isOrdered 36 = .ok (.iload_n 2, 1) := by decide +kernel
theorem dX6_isOrdered_37 : decode cX6_isOrdered 37 = .ok (.invokevirtual 126, 3) := by decide +kernel
theorem dX6_isOrdered_40 : decode cX6_isOrdered 40 = .ok (.if_icmp .gt 7, 3) := by decide +kernel
theorem dX6_isOrdered_43 : decode cX6_isOrdered 43 = .ok (.iconst 1, 1) := by decide +kernel
theorem dX6_isOrdered_44 : decode cX6_isOrdered 44 = .ok (.goto 4, 3) := by decide +kernel
theorem dX6_isOrdered_47 : decode cX6_isOrdered 47 = .ok (.iconst 0, 1) := by decide +kernel
theorem dX6_isOrdered_48 : decode cX6_isOrdered 48 = .ok (.istore_n 3, 1) := by decide +kernel
theorem dX6_isOrdered_49 : decode cX6_isOrdered 49 = .ok (.iinc 4 1, 3) := by decide +kernel
theorem dX6_isOrdered_52 : decode cX6_isOrdered 52 = .ok (.goto (-47), 3) := by decide +kernel
theorem dX6_isOrdered_55 : decode cX6_isOrdered 55 = .ok (.iload_n 3, 1) := by decide +kernel
theorem dX6_isOrdered_56 : decode cX6_isOrdered 56 = .ok (.ireturn, 1) := by decide +kernel
theorem dX6_firstRow_0 : decode cX6_firstRow 0 = .ok (.iconst 1, 1) := by decide +kernel
theorem dX6_firstRow_1 : decode cX6_firstRow 1 = .ok (.istore 4, 2) := by decide +kernel
theorem dX6_firstRow_3 : decode cX6_firstRow 3 = .ok (.iconst 0, 1) := by decide +kernel
theorem dX6_firstRow_4 : decode cX6_firstRow 4 = .ok (.istore 5, 2) := by decide +kernel
theorem dX6_firstRow_6 : decode cX6_firstRow 6 = .ok (.iload 5, 2) := by decide +kernel
theorem dX6_firstRow_8 : decode cX6_firstRow 8 = .ok (.bipush 6, 2) := by decide +kernel
theorem dX6_firstRow_10 : decode cX6_firstRow 10 = .ok (.if_icmp .ge 154, 3) := by decide +kernel
theorem dX6_firstRow_13 : decode cX6_firstRow 13 = .ok (.iconst 0, 1) := by decide +kernel
theorem dX6_firstRow_14 : decode cX6_firstRow 14 = .ok (.istore 6, 2) := by decide +kernel
theorem dX6_firstRow_16 : decode cX6_firstRow 16 = .ok (.iload 6, 2) := by decide +kernel
theorem dX6_firstRow_18 : decode cX6_firstRow 18 = .ok (.iload 4, 2) := by decide +kernel
theorem dX6_firstRow_20 : decode cX6_firstRow 20 = .ok (.if_icmp .ge 132, 3) := by decide +kernel
theorem dX6_firstRow_23 : decode cX6_firstRow 23 = .ok (.aload_n 0, 1) := by decide +kernel
theorem dX6_firstRow_24 : decode cX6_firstRow 24 = .ok (.invokevirtual 167, 3) := by decide +kernel
theorem dX6_firstRow_27 : decode cX6_firstRow 27 = .ok (.iload 4, 2) := by decide +kernel
theorem dX6_firstRow_29 : decode cX6_firstRow 29 = .ok (.iconst 3, 1) := by decide +kernel
theorem dX6_firstRow_30 : decode cX6_firstRow 30 = .ok (.idiv, 1) := by decide +kernel
theorem dX6_firstRow_31 : decode cX6_firstRow 31 = .ok (.istore 7, 2) := by decide +kernel
theorem dX6_firstRow_33 : decode cX6_firstRow 33 = .ok (.iload 7, 2) := by decide +kernel
theorem dX6_firstRow_35 : decode cX6_firstRow 35 = .ok (.ifCond .le 27, 3) := by decide +kernel
theorem dX6_firstRow_38 : decode cX6_firstRow 38 = .ok (.aload_n 0, 1) := by decide +kernel
theorem dX6_firstRow_39 : decode cX6_firstRow 39 = .ok (.aload_n 0, 1) := by decide +kernel
theorem dX6_firstRow_40 : decode cX6_firstRow 40 = .ok (.getfield 28, 3) := by decide +kernel
theorem dX6_firstRow_43 : decode cX6_firstRow 43 = .ok (.iload 6, 2) := by decide +kernel
theorem dX6_firstRow_45 : decode cX6_firstRow 45 = .ok (.iload 7, 2) := by decide +kernel
theorem dX6_firstRow_47 : decode cX6_firstRow 47 = .ok (.idiv, 1) := by decide +kernel
theorem dX6_firstRow_48 : decode cX6_firstRow 48 = .ok (.iconst 3, 1) := by decide +kernel
theorem dX6_firstRow_49 : decode cX6_firstRow 49 = .ok (.irem, 1) := by decide +kernel
theorem dX6_firstRow_50 : decode cX6_firstRow 50 = .ok (.invokevirtual 149, 3) := by decide +kernel
theorem dX6_firstRow_53 : decode cX6_firstRow 53 = .ok (.iload 7, 2) := by decide +kernel
theorem dX6_firstRow_55 : decode cX6_firstRow 55 = .ok (.iconst 3, 1) := by decide +kernel
theorem dX6_firstRow_56 : decode cX6_firstRow 56 = .ok (.idiv, 1) := by decide +kernel
theorem dX6_firstRow_57 : decode cX6_firstRow 57 = .ok (.istore 7, 2) := by decide +kernel
theorem dX6_firstRow_59 : decode cX6_firstRow 59 = .ok (.goto (-26), 3) := by decide +kernel
theorem dX6_firstRow_62 : decode cX6_firstRow 62 = .ok (.iload_n 1, 1) := by decide +kernel
theorem dX6_firstRow_63 : decode cX6_firstRow 63 = .ok (.bipush (-9), 2) := by decide +kernel
theorem dX6_firstRow_65 : decode cX6_firstRow 65 = .ok (.if_icmp .ne 18, 3) := by decide +kernel
theorem dX6_firstRow_68 : decode cX6_firstRow 68 = .ok (.aload_n 0, 1) := by decide +kernel
theorem dX6_firstRow_69 : decode cX6_firstRow 69 = .ok (.aload_n 0, 1) := by decide +kernel
theorem dX6_firstRow_70 : decode cX6_firstRow 70 = .ok (.getfield 28, 3) := by decide +kernel
theorem dX6_firstRow_73 : decode cX6_firstRow 73 = .ok (.iload_n 2, 1) := by decide +kernel
theorem dX6_firstRow_74 : decode cX6_firstRow 74 = .ok (.invokevirtual 174, 3) := by decide +kernel
theorem dX6_firstRow_77 : decode cX6_firstRow 77 = .ok (.ifCond .eq 69, 3) := by decide +kernel
theorem dX6_firstRow_80 : decode cX6_firstRow 80 = .ok (.goto 13, 3) := by decide +kernel
theorem dX6_firstRow_83 : decode cX6_firstRow 83 = .ok (.aload_n 0, 1) := by decide +kernel
theorem dX6_firstRow_84 : decode cX6_firstRow 84 = .ok (.getfield 28, 3) := by decide +kernel
theorem dX6_firstRow_87 : decode cX6_firstRow 87 = .ok (.iload_n 2, 1) := by decide +kernel
theorem dX6_firstRow_88 : decode cX6_firstRow 88 = .ok (.iaload, 1) := by decide +kernel
theorem dX6_firstRow_89 : decode cX6_firstRow 89 = .ok (.iload_n 1, 1) := by decide +kernel
theorem dX6_firstRow_90 : decode cX6_firstRow 90 = .ok (.if_icmp .ne 56, 3) := by decide +kernel
theorem dX6_firstRow_93 : decode cX6_firstRow 93 = .ok (.aload_n 0, 1) := by decide +kernel
theorem dX6_firstRow_94 : decode cX6_firstRow 94 = .ok (.iload_n 3, 1) := by decide +kernel
theorem dX6_firstRow_95 : decode cX6_firstRow 95 = .ok (.iload 5, 2) := by decide +kernel
theorem dX6_firstRow_97 : decode cX6_firstRow 97 = .ok (.invokevirtual 170, 3) := by decide +kernel
theorem dX6_firstRow_100 : decode cX6_firstRow 100 = .ok (.iload 6, 2) := by decide +kernel
theorem dX6_firstRow_102 : decode cX6_firstRow 102 = .ok (.istore 7, 2) := by decide +kernel
theorem dX6_firstRow_104 : decode cX6_firstRow 104 = .ok (.iload 5, 2) := by decide +kernel
theorem dX6_firstRow_106 : decode cX6_firstRow 106 = .ok (.iconst 1, 1) := by decide +kernel
theorem dX6_firstRow_107 : decode cX6_firstRow 107 = .ok (.isub, 1) := by decide +kernel
theorem dX6_firstRow_108 : decode cX6_firstRow 108 = .ok (.istore 8, 2) := by decide +kernel
theorem dX6_firstRow_110 : decode cX6_firstRow 110 = .ok (.iload 8, 2) := by decide +kernel
theorem dX6_firstRow_112 : decode cX6_firstRow 112 = .ok (.ifCond .lt 31, 3) := by decide +kernel
theorem dX6_firstRow_115 : decode cX6_firstRow 115 = .ok (.aload_n 0, 1) := by decide +kernel
theorem dX6_firstRow_116 : decode cX6_firstRow 116 = .ok (.getfield 13, 3) := by decide +kernel
theorem dX6_firstRow_119 : decode cX6_firstRow 119 = .ok (.bipush 40, 2) := by decide +kernel
theorem dX6_firstRow_121 : decode cX6_firstRow 121 = .ok (.iload_n 3, 1) := by decide +kernel
theorem dX6_firstRow_122 : decode cX6_firstRow 122 = .ok (.imul, 1) := by decide +kernel
theorem dX6_firstRow_123 : decode cX6_firstRow 123 = .ok (.iload 8, 2) := by decide +kernel
theorem dX6_firstRow_125 : decode cX6_firstRow 125 = .ok (.iadd, 1) := by decide +kernel
theorem dX6_firstRow_126 : decode cX6_firstRow 126 = .ok (.iload 7, 2) := by decide +kernel
theorem dX6_firstRow_128 : decode cX6_firstRow 128 = .ok (.iconst 3, 1) := by decide +kernel
theorem dX6_firstRow_129 : decode cX6_firstRow 129 = .ok (.irem, 1) := by decide +kernel
theorem dX6_firstRow_130 : decode cX6_firstRow 130 = .ok (.iastore, 1) := by decide +kernel
theorem dX6_firstRow_131 : decode cX6_firstRow 131 = .ok (.iload 7, 2) := by decide +kernel
theorem dX6_firstRow_133 : decode cX6_firstRow 133 = .ok (.iconst 3, 1) := by decide +kernel
theorem dX6_firstRow_134 : decode cX6_firstRow 134 = .ok (.idiv, 1) := by decide +kernel
theorem dX6_firstRow_135 : decode cX6_firstRow 135 = .ok (.istore 7, 2) := by decide +kernel
theorem dX6_firstRow_137 : decode cX6_firstRow 137 = .ok (.iinc 8 (-1), 3) := by decide +kernel
theorem dX6_firstRow_140 : decode cX6_firstRow 140 = .ok (.goto (-30), 3) := by decide +kernel
theorem dX6_firstRow_143 : decode cX6_firstRow 143 = .ok (.iload 5, 2) := by decide +kernel
theorem dX6_firstRow_145 : decode cX6_firstRow 145 = .ok (.ireturn, 1) := by decide +kernel
theorem dX6_firstRow_146 : decode cX6_firstRow 146 = .ok (.iinc 6 1, 3) := by decide +kernel
theorem dX6_firstRow_149 : decode cX6_firstRow 149 = .ok (.goto (-133), 3) := by decide +kernel
theorem dX6_firstRow_152 : decode cX6_firstRow 152 = .ok (.iload 4, 2) := by decide +kernel
theorem dX6_firstRow_154 : decode cX6_firstRow 154 = .ok (.iconst 3, 1) := by decide +kernel
theorem dX6_firstRow_155 : decode cX6_firstRow 155 = .ok (.imul, 1) := by decide +kernel
theorem dX6_firstRow_156 : decode cX6_firstRow 156 = .ok (.istore 4, 2) := by decide +kernel
theorem dX6_firstRow_158 : decode cX6_firstRow 158 = .ok (.iinc 5 1, 3) := by decide +kernel
theorem dX6_firstRow_161 : decode cX6_firstRow 161 = .ok (.goto (-155), 3) := by decide +kernel
theorem dX6_firstRow_164 : decode cX6_firstRow 164 = .ok (.bipush (-9), 2) := by decide +kernel
theorem dX6_firstRow_166 : decode cX6_firstRow 166 = .ok (.ireturn, 1) := by decide +kernel
theorem dX6_fewest_0 : decode cX6_fewest 0 = .ok (.aload_n 0, 1) := by decide +kernel
theorem dX6_fewest_1 : decode cX6_fewest 1 = .ok (.iload_n 1, 1) := by decide +kernel
theorem dX6_fewest_2 : decode cX6_fewest 2 = .ok (.invokevirtual 134, 3) := by decide +kernel
theorem dX6_fewest_5 : decode cX6_fewest 5 = .ok (.ifCond .eq 36, 3) := by decide +kernel
theorem dX6_fewest_8 : decode cX6_fewest 8 = .ok (.iload_n 2, 1) := by decide +kernel
theorem dX6_fewest_9 : decode cX6_fewest 9 = .ok (.i2l, 1) := by decide +kernel
theorem dX6_fewest_10 : decode cX6_fewest 10 = .ok (.lconst 0, 1) := by decide +kernel
theorem dX6_fewest_11 : decode cX6_fewest 11 = .ok (.aload_n 0, 1) := by decide +kernel
theorem dX6_fewest_12 : decode cX6_fewest 12 = .ok (.getfield 102, 3) := by decide +kernel
theorem dX6_fewest_15 : decode cX6_fewest 15 = .ok (.iconst 1, 1) := by decide +kernel
theorem dX6_fewest_16 : decode cX6_fewest 16 = .ok (.isub, 1) := by decide +kernel
theorem dX6_fewest_17 : decode cX6_fewest 17 = .ok (.i2l, 1) := by decide +kernel
theorem dX6_fewest_18 : decode cX6_fewest 18 = .ok (.invokestatic 69, 3) := by decide +kernel
theorem dX6_fewest_21 : decode cX6_fewest 21 = .ok (.ifCond .eq 20, 3) := by decide +kernel
theorem dX6_fewest_24 : decode cX6_fewest 24 = .ok (.iload_n 3, 1) := by decide +kernel
theorem dX6_fewest_25 : decode cX6_fewest 25 = .ok (.invokestatic 75, 3) := by decide +kernel
theorem dX6_fewest_28 : decode cX6_fewest 28 = .ok (.ifCond .eq 13, 3) := by decide +kernel
theorem dX6_fewest_31 : decode cX6_fewest 31 = .ok (.aload_n 0, 1) := by decide +kernel
theorem dX6_fewest_32 : decode cX6_fewest 32 = .ok (.iload_n 1, 1) := by decide +kernel
theorem dX6_fewest_33 : decode cX6_fewest 33 = .ok (.iload_n 2, 1) := by decide +kernel
theorem dX6_fewest_34 : decode cX6_fewest 34 = .ok (.iload_n 3, 1) := by decide +kernel
theorem dX6_fewest_35 : decode cX6_fewest 35 = .ok (.invokevirtual 178, 3) := by decide +kernel
theorem dX6_fewest_38 : decode cX6_fewest 38 = .ok (.goto 4, 3) := by decide +kernel
theorem dX6_fewest_41 : decode cX6_fewest 41 = .ok (.iconst (-1), 1) := by decide +kernel
theorem dX6_fewest_42 : decode cX6_fewest 42 = .ok (.ireturn, 1) := by decide +kernel
theorem dX6_order_0 : decode cX6_order 0 = .ok (.iload_n 1, 1) := by decide +kernel
theorem dX6_order_1 : decode cX6_order 1 = .ok (.invokestatic 143, 3) := by decide +kernel
theorem dX6_order_4 : decode cX6_order 4 = .ok (.ifCond .eq 10, 3) := by decide +kernel
theorem dX6_order_7 : decode cX6_order 7 = .ok (.iload_n 2, 1) := by decide +kernel
theorem dX6_order_8 : decode cX6_order 8 = .ok (.invokestatic 75, 3) := by decide +kernel
theorem dX6_order_11 : decode cX6_order 11 = .ok (.ifCond .ne 5, 3) := by decide +kernel
theorem dX6_order_14 : decode cX6_order 14 = .ok (.iconst (-1), 1) := by decide +kernel
theorem dX6_order_15 : decode cX6_order 15 = .ok (.ireturn, 1) := by decide +kernel
theorem dX6_order_16 : decode cX6_order 16 = .ok (.aload_n 0, 1) := by decide +kernel
theorem dX6_order_17 : decode cX6_order 17 = .ok (.getfield 102, 3) := by decide +kernel
theorem dX6_order_20 : decode cX6_order 20 = .ok (.ifCond .ne 8, 3) := by decide +kernel
theorem dX6_order_23 : decode cX6_order 23 = .ok (.bipush (-4), 2) := by decide +kernel
theorem dX6_order_25 : decode cX6_order 25 = .ok (.goto 11, 3) := by decide +kernel
theorem dX6_order_28 : decode cX6_order 28 = .ok (.aload_n 0, 1) := by decide +kernel
theorem dX6_order_29 : decode cX6_order 29 = .ok (.bipush (-9), 2) := by decide +kernel
theorem dX6_order_31 : decode cX6_order 31 = .ok (.iload_n 1, 1) := by decide +kernel
theorem dX6_order_32 : decode cX6_order 32 = .ok (.iload_n 2, 1) := by decide +kernel
theorem dX6_order_33 : decode cX6_order 33 = .ok (.invokevirtual 178, 3) := by decide +kernel
theorem dX6_order_36 : decode cX6_order 36 = .ok (.ireturn, 1) := by decide +kernel
theorem dX6_columns_0 : decode cX6_columns 0 = .ok (.iload_n 1, 1) := by decide +kernel
theorem dX6_columns_1 : decode cX6_columns 1 = .ok (.invokestatic 75, 3) := by decide +kernel
theorem dX6_columns_4 : decode cX6_columns 4 = .ok (.ifCond .ne 5, 3) := by decide +kernel
theorem dX6_columns_7 : decode cX6_columns 7 = .ok (.iconst (-1), 1) := by decide +kernel
theorem dX6_columns_8 : decode cX6_columns 8 = .ok (.ireturn, 1) := by decide +kernel
theorem dX6_columns_9 : decode cX6_columns 9 = .ok (.aload_n 0, 1) := by decide +kernel
theorem dX6_columns_10 : decode cX6_columns 10 = .ok (.getfield 102, 3) := by decide +kernel
theorem dX6_columns_13 : decode cX6_columns 13 = .ok (.ifCond .ne 6, 3) := by decide +kernel
theorem dX6_columns_16 : decode cX6_columns 16 = .ok (.bipush (-4), 2) := by decide +kernel
theorem dX6_columns_18 : decode cX6_columns 18 = .ok (.ireturn, 1) := by decide +kernel
theorem dX6_columns_19 : decode cX6_columns 19 = .ok (.aload_n 0, 1) := by decide +kernel
theorem dX6_columns_20 : decode cX6_columns 20 = .ok (.getfield 7, 3) := by decide +kernel
theorem dX6_columns_23 : decode cX6_columns 23 = .ok (.iload_n 1, 1) := by decide +kernel
theorem dX6_columns_24 : decode cX6_columns 24 = .ok (.iaload, 1) := by decide +kernel
theorem dX6_columns_25 : decode cX6_columns 25 = .ok (.ifCond .ge 9, 3) := by decide +kernel
theorem dX6_columns_28 : decode cX6_columns 28 = .ok (.aload_n 0, 1) := by decide +kernel
theorem dX6_columns_29 : decode cX6_columns 29 = .ok (.iconst 1, 1) := by decide +kernel
theorem dX6_columns_30 : decode cX6_columns 30 = .ok (.invokevirtual 79, 3) := by decide +kernel
theorem dX6_columns_33 : decode cX6_columns 33 = .ok (.ireturn, 1) := by decide +kernel
theorem dX6_columns_34 : decode cX6_columns 34 = .ok (.aload_n 0, 1) := by decide +kernel
theorem dX6_columns_35 : decode cX6_columns 35 = .ok (.getfield 7, 3) := by decide +kernel
theorem dX6_columns_38 : decode cX6_columns 38 = .ok (.iload_n 1, 1) := by decide +kernel
theorem dX6_columns_39 : decode cX6_columns 39 = .ok (.iaload, 1) := by decide +kernel
theorem dX6_columns_40 : decode cX6_columns 40 = .ok (.aload_n 0, 1) := by decide +kernel
theorem dX6_columns_41 : decode cX6_columns 41 = .ok (.getfield 102, 3) := by decide +kernel
theorem dX6_columns_44 : decode cX6_columns 44 = .ok (.if_icmp .eq 9, 3) := by decide +kernel
theorem dX6_columns_47 : decode cX6_columns 47 = .ok (.aload_n 0, 1) := by decide +kernel
theorem dX6_columns_48 : decode cX6_columns 48 = .ok (.iconst 5, 1) := by decide +kernel
theorem dX6_columns_49 : decode cX6_columns 49 = .ok (.invokevirtual 79, 3) := by decide +kernel
theorem dX6_columns_52 : decode cX6_columns 52 = .ok (.ireturn, 1) := by decide +kernel
theorem dX6_columns_53 : decode cX6_columns 53 = .ok (.iconst 0, 1) := by decide +kernel
theorem dX6_columns_54 : decode cX6_columns 54 = .ok (.istore_n 2, 1) := by decide +kernel
theorem dX6_columns_55 : decode cX6_columns 55 = .ok (.iconst 0, 1) := by decide +kernel
theorem dX6_columns_56 : decode cX6_columns 56 = .ok (.istore_n 3, 1) := by decide +kernel
theorem dX6_columns_57 : decode cX6_columns 57 = .ok (.iload_n 3, 1) := by decide +kernel
theorem dX6_columns_58 : decode cX6_columns 58 = .ok (.aload_n 0, 1) := by decide +kernel
theorem dX6_columns_59 : decode cX6_columns 59 = .ok (.getfield 102, 3) := by decide +kernel
theorem dX6_columns_62 : decode cX6_columns 62 = .ok (.if_icmp .ge 53, 3) := by decide +kernel
theorem dX6_columns_65 : decode cX6_columns 65 = .ok (.aload_n 0, 1) := by decide +kernel
theorem dX6_columns_66 : decode cX6_columns 66 = .ok (.getfield 13, 3) := by decide +kernel
theorem dX6_columns_69 : decode cX6_columns 69 = .ok (.bipush 40, 2) := by decide +kernel
theorem dX6_columns_71 : decode cX6_columns 71 = .ok (.iload_n 1, 1) := by decide +kernel
theorem dX6_columns_72 : decode cX6_columns 72 = .ok (.imul, 1) := by decide +kernel
theorem dX6_columns_73 : decode cX6_columns 73 = .ok (.iload_n 3, 1) := by decide +kernel
theorem dX6_columns_74 : decode cX6_columns 74 = .ok (.iadd, 1) := by decide +kernel
theorem dX6_columns_75 : decode cX6_columns 75 = .ok (.iaload, 1) := by decide +kernel
theorem dX6_columns_76 : decode cX6_columns 76 = .ok (.istore 4, 2) := by decide +kernel
theorem dX6_columns_78 : decode cX6_columns 78 = .ok (.aload_n 0, 1) := by decide +kernel
theorem dX6_columns_79 : decode cX6_columns 79 = .ok (.iload 4, 2) := by decide +kernel
theorem dX6_columns_81 : decode cX6_columns 81 = .ok (.invokevirtual 134, 3) := by decide +kernel
theorem dX6_columns_84 : decode cX6_columns 84 = .ok (.ifCond .eq 12, 3) := by decide +kernel
theorem dX6_columns_87 : decode cX6_columns 87 = .ok (.iload_n 2, 1) := by decide +kernel
theorem dX6_columns_88 : decode cX6_columns 88 = .ok (.iload 4, 2) := by decide +kernel
theorem dX6_columns_90 : decode cX6_columns 90 = .ok (.invokestatic 122, 3) := by decide +kernel
theorem dX6_columns_93 : decode cX6_columns 93 = .ok (.ifCond .eq 9, 3) := by decide +kernel
theorem dX6_columns_96 : decode cX6_columns 96 = .ok (.aload_n 0, 1) := by decide +kernel
theorem dX6_columns_97 : decode cX6_columns 97 = .ok (.iconst 3, 1) := by decide +kernel
theorem dX6_columns_98 : decode cX6_columns 98 = .ok (.invokevirtual 79, 3) := by decide +kernel
theorem dX6_columns_101 : decode cX6_columns 101 = .ok (.ireturn, 1) := by decide +kernel
theorem dX6_columns_102 : decode cX6_columns 102 = .ok (.iload_n 2, 1) := by decide +kernel
theorem dX6_columns_103 : decode cX6_columns 103 = .ok (.iconst 1, 1) := by decide +kernel
theorem dX6_columns_104 : decode cX6_columns 104 = .ok (.iload 4, 2) := by decide +kernel
theorem dX6_columns_106 : decode cX6_columns 106 = .ok (.ishl, 1) := by decide +kernel
theorem dX6_columns_107 : decode cX6_columns 107 = .ok (.ior, 1) := by decide +kernel
theorem dX6_columns_108 : decode cX6_columns 108 = .ok (.istore_n 2, 1) := by decide +kernel
theorem dX6_columns_109 : decode cX6_columns 109 = .ok (.iinc 3 1, 3) := by decide +kernel
theorem dX6_columns_112 : decode cX6_columns 112 = .ok (.goto (-55), 3) := by decide +kernel
theorem dX6_columns_115 : decode cX6_columns 115 = .ok (.iconst 0, 1) := by decide +kernel
theorem dX6_columns_116 : decode cX6_columns 116 = .ok (.istore_n 3, 1) := by decide +kernel
theorem dX6_columns_117 : decode cX6_columns 117 = .ok (.iconst 0, 1) := by decide +kernel
theorem dX6_columns_118 : decode cX6_columns 118 = .ok (.istore 4, 2) := by decide +kernel
theorem dX6_columns_120 : decode cX6_columns 120 = .ok (.iload 4, 2) := by decide +kernel
theorem dX6_columns_122 : decode cX6_columns 122 = .ok (.iconst 3, 1) := by decide +kernel
theorem dX6_columns_123 : decode cX6_columns 123 = .ok (.if_icmp .ge 94, 3) := by decide +kernel
theorem dX6_columns_126 : decode cX6_columns 126 = .ok (.aload_n 0, 1) := by decide +kernel
theorem dX6_columns_127 : decode cX6_columns 127 = .ok (.invokevirtual 167, 3) := by decide +kernel
theorem dX6_columns_130 : decode cX6_columns 130 = .ok (.aload_n 0, 1) := by decide +kernel
theorem dX6_columns_131 : decode cX6_columns 131 = .ok (.aload_n 0, 1) := by decide +kernel
theorem dX6_columns_132 : decode cX6_columns 132 = .ok (.getfield 28, 3) := by decide +kernel
theorem dX6_columns_135 : decode cX6_columns 135 = .ok (.iload 4, 2) := by decide +kernel
theorem dX6_columns_137 : decode cX6_columns 137 = .ok (.invokevirtual 149, 3) := by decide +kernel
theorem dX6_columns_140 : decode cX6_columns 140 = .ok (.iconst 1, 1) := by decide +kernel
theorem dX6_columns_141 : decode cX6_columns 141 = .ok (.istore 5, 2) := by decide +kernel
theorem dX6_columns_143 : decode cX6_columns 143 = .ok (.iconst 0, 1) := by decide +kernel
theorem dX6_columns_144 : decode cX6_columns 144 = .ok (.istore 6, 2) := by decide +kernel
theorem dX6_columns_146 : decode cX6_columns 146 = .ok (.iload 6, 2) := by decide +kernel
theorem dX6_columns_148 : decode cX6_columns 148 = .ok (.aload_n 0, 1) := by decide +kernel
theorem dX6_columns_149 : decode cX6_columns 149 = .ok (.getfield 102, 3) := by decide +kernel
theorem dX6_columns_152 : decode cX6_columns 152 = .ok (.if_icmp .ge 43, 3) := by decide +kernel
theorem dX6_columns_155 : decode cX6_columns 155 = .ok (.iload 5, 2) := by decide +kernel
theorem dX6_columns_157 : decode cX6_columns 157 = .ok (.ifCond .eq 29, 3) := by decide +kernel
theorem dX6_columns_160 : decode cX6_columns 160 = .ok (.aload_n 0, 1) := by decide +kernel
theorem dX6_columns_161 : decode cX6_columns 161 = .ok (.getfield 28, 3) := by decide +kernel
theorem dX6_columns_164 : decode cX6_columns 164 = .ok (.iload 6, 2) := by decide +kernel
theorem dX6_columns_166 : decode cX6_columns 166 = .ok (.iaload, 1) := by decide +kernel
theorem dX6_columns_167 : decode cX6_columns 167 = .ok (.aload_n 0, 1) := by decide +kernel
theorem dX6_columns_168 : decode cX6_columns 168 = .ok (.getfield 13, 3) := by decide +kernel
theorem dX6_columns_171 : decode cX6_columns 171 = .ok (.bipush 40, 2) := by decide +kernel
theorem dX6_columns_173 : decode cX6_columns 173 = .ok (.iload_n 1, 1) := by decide +kernel
theorem dX6_columns_174 : decode cX6_columns 174 = .ok (.imul, 1) := by decide +kernel
theorem dX6_columns_175 : decode cX6_columns 175 = .ok (.iload 6, 2) := by decide +kernel
theorem dX6_columns_177 : decode cX6_columns 177 = .ok (.iadd, 1) := by decide +kernel
theorem dX6_columns_178 : decode cX6_columns 178 = .ok (.iaload, 1) := by decide +kernel
theorem dX6_columns_179 : decode cX6_columns 179 = .ok (.if_icmp .ne 7, 3) := by decide +kernel
theorem dX6_columns_182 : decode cX6_columns 182 = .ok (.iconst 1, 1) := by decide +kernel
theorem dX6_columns_183 : decode cX6_columns 183 = .ok (.goto 4, 3) := by decide +kernel
theorem dX6_columns_186 : decode cX6_columns 186 = .ok (.iconst 0, 1) := by decide +kernel
theorem dX6_columns_187 : decode cX6_columns 187 = .ok (.istore 5, 2) := by decide +kernel
theorem dX6_columns_189 : decode cX6_columns 189 = .ok (.iinc 6 1, 3) := by decide +kernel
theorem dX6_columns_192 : decode cX6_columns 192 = .ok (.goto (-46), 3) := by decide +kernel
theorem dX6_columns_195 : decode cX6_columns 195 = .ok (.iload_n 3, 1) := by decide +kernel
theorem dX6_columns_196 : decode cX6_columns 196 = .ok (.iload 5, 2) := by decide +kernel
theorem dX6_columns_198 : decode cX6_columns 198 = .ok (.ifCond .eq 10, 3) := by decide +kernel
theorem dX6_columns_201 : decode cX6_columns 201 = .ok (.iconst 1, 1) := by decide +kernel
theorem dX6_columns_202 : decode cX6_columns 202 = .ok (.iload 4, 2) := by decide +kernel
theorem dX6_columns_204 : decode cX6_columns 204 = .ok (.ishl, 1) := by decide +kernel
theorem dX6_columns_205 : decode cX6_columns 205 = .ok (.goto 4, 3) := by decide +kernel
theorem dX6_columns_208 : decode cX6_columns 208 = .ok (.iconst 0, 1) := by decide +kernel
theorem dX6_columns_209 : decode cX6_columns 209 = .ok (.ior, 1) := by decide +kernel
theorem dX6_columns_210 : decode cX6_columns 210 = .ok (.istore_n 3, 1) := by decide +kernel
theorem dX6_columns_211 : decode cX6_columns 211 = .ok (.iinc 4 1, 3) := by decide +kernel
theorem dX6_columns_214 : decode cX6_columns 214 = .ok (.goto (-94), 3) := by decide +kernel
theorem dX6_columns_217 : decode cX6_columns 217 = .ok (.iload_n 3, 1) := by decide +kernel
theorem dX6_columns_218 : decode cX6_columns 218 = .ok (.ireturn, 1) := by decide +kernel
theorem dX6_pairs_0 : decode cX6_pairs 0 = .ok (.aload_n 0, 1) := by decide +kernel
theorem dX6_pairs_1 : decode cX6_pairs 1 = .ok (.getfield 7, 3) := by decide +kernel
theorem dX6_pairs_4 : decode cX6_pairs 4 = .ok (.iload_n 1, 1) := by decide +kernel
theorem dX6_pairs_5 : decode cX6_pairs 5 = .ok (.iaload, 1) := by decide +kernel
theorem dX6_pairs_6 : decode cX6_pairs 6 = .ok (.ifCond .ge 5, 3) := by decide +kernel
theorem dX6_pairs_9 : decode cX6_pairs 9 = .ok (.iconst 1, 1) := by decide +kernel
theorem dX6_pairs_10 : decode cX6_pairs 10 = .ok (.ireturn, 1) := by decide +kernel
theorem dX6_pairs_11 : decode cX6_pairs 11 = .ok (.aload_n 0, 1) := by decide +kernel
theorem dX6_pairs_12 : decode cX6_pairs 12 = .ok (.getfield 7, 3) := by decide +kernel
theorem dX6_pairs_15 : decode cX6_pairs 15 = .ok (.iload_n 1, 1) := by decide +kernel
theorem dX6_pairs_16 : decode cX6_pairs 16 = .ok (.iaload, 1) := by decide +kernel
theorem dX6_pairs_17 : decode cX6_pairs 17 = .ok (.bipush 16, 2) := by decide +kernel
theorem dX6_pairs_19 : decode cX6_pairs 19 = .ok (.if_icmp .gt 15, 3) := by decide +kernel
theorem dX6_pairs_22 : decode cX6_pairs 22 = .ok (.aload_n 0, 1) := by decide +kernel
theorem dX6_pairs_23 : decode cX6_pairs 23 = .ok (.getfield 7, 3) := by decide +kernel
theorem dX6_pairs_26 : decode cX6_pairs 26 = .ok (.iload_n 1, 1) := by decide +kernel
theorem dX6_pairs_27 : decode cX6_pairs 27 = .ok (.iaload, 1) := by decide +kernel
theorem dX6_pairs_28 : decode cX6_pairs 28 = .ok (.iconst 2, 1) := by decide +kernel
theorem dX6_pairs_29 : decode cX6_pairs 29 = .ok (.irem, 1) := by decide +kernel
theorem dX6_pairs_30 : decode cX6_pairs 30 = .ok (.iconst 1, 1) := by decide +kernel
theorem dX6_pairs_31 : decode cX6_pairs 31 = .ok (.if_icmp .ne 5, 3) := by decide +kernel
theorem dX6_pairs_34 : decode cX6_pairs 34 = .ok (.iconst 5, 1) := by decide +kernel
theorem dX6_pairs_35 : decode cX6_pairs 35 = .ok (.ireturn, 1) := by decide +kernel
theorem dX6_pairs_36 : decode cX6_pairs 36 = .ok (.iconst 0, 1) := by decide +kernel
theorem dX6_pairs_37 : decode cX6_pairs 37 = .ok (.istore_n 2, 1) := by decide +kernel
theorem dX6_pairs_38 : decode cX6_pairs 38 = .ok (.iload_n 2, 1) := by decide +kernel
theorem dX6_pairs_39 : decode cX6_pairs 39 = .ok (.aload_n 0, 1) := by decide +kernel
theorem dX6_pairs_40 : decode cX6_pairs 40 = .ok (.getfield 7, 3) := by decide +kernel
theorem dX6_pairs_43 : decode cX6_pairs 43 = .ok (.iload_n 1, 1) := by decide +kernel
theorem dX6_pairs_44 : decode cX6_pairs 44 = .ok (.iaload, 1) := by decide +kernel
theorem dX6_pairs_45 : decode cX6_pairs 45 = .ok (.if_icmp .ge 52, 3) := by decide +kernel
theorem dX6_pairs_48 : decode cX6_pairs 48 = .ok (.aload_n 0, 1) := by decide +kernel
theorem dX6_pairs_49 : decode cX6_pairs 49 = .ok (.getfield 13, 3) := by decide +kernel
theorem dX6_pairs_52 : decode cX6_pairs 52 = .ok (.bipush 40, 2) := by decide +kernel
theorem dX6_pairs_54 : decode cX6_pairs 54 = .ok (.iload_n 1, 1) := by decide +kernel
theorem dX6_pairs_55 : decode cX6_pairs 55 = .ok (.imul, 1) := by decide +kernel
theorem dX6_pairs_56 : decode cX6_pairs 56 = .ok (.iload_n 2, 1) := by decide +kernel
theorem dX6_pairs_57 : decode cX6_pairs 57 = .ok (.iadd, 1) := by decide +kernel
theorem dX6_pairs_58 : decode cX6_pairs 58 = .ok (.iaload, 1) := by decide +kernel
theorem dX6_pairs_59 : decode cX6_pairs 59 = .ok (.invokestatic 143, 3) := by decide +kernel
theorem dX6_pairs_62 : decode cX6_pairs 62 = .ok (.ifCond .eq 27, 3) := by decide +kernel
theorem dX6_pairs_65 : decode cX6_pairs 65 = .ok (.aload_n 0, 1) := by decide +kernel
theorem dX6_pairs_66 : decode cX6_pairs 66 = .ok (.getfield 13, 3) := by decide +kernel
theorem dX6_pairs_69 : decode cX6_pairs 69 = .ok (.bipush 40, 2) := by decide +kernel
theorem dX6_pairs_71 : decode cX6_pairs 71 = .ok (.iload_n 1, 1) := by decide +kernel
theorem dX6_pairs_72 : decode cX6_pairs 72 = .ok (.imul, 1) := by decide +kernel
theorem dX6_pairs_73 : decode cX6_pairs 73 = .ok (.iload_n 2, 1) := by decide +kernel
theorem dX6_pairs_74 : decode cX6_pairs 74 = .ok (.iadd, 1) := by decide +kernel
theorem dX6_pairs_75 : decode cX6_pairs 75 = .ok (.iconst 1, 1) := by decide +kernel
theorem dX6_pairs_76 : decode cX6_pairs 76 = .ok (.iadd, 1) := by decide +kernel
theorem dX6_pairs_77 : decode cX6_pairs 77 = .ok (.iaload, 1) := by decide +kernel
theorem dX6_pairs_78 : decode cX6_pairs 78 = .ok (.i2l, 1) := by decide +kernel
theorem dX6_pairs_79 : decode cX6_pairs 79 = .ok (.lconst 0, 1) := by decide +kernel
theorem dX6_pairs_80 : decode cX6_pairs 80 = .ok (.ldc2_w 182, 3) := by decide +kernel
theorem dX6_pairs_83 : decode cX6_pairs 83 = .ok (.invokestatic 69, 3) := by decide +kernel
theorem dX6_pairs_86 : decode cX6_pairs 86 = .ok (.ifCond .ne 5, 3) := by decide +kernel
theorem dX6_pairs_89 : decode cX6_pairs 89 = .ok (.iconst 3, 1) := by decide +kernel
theorem dX6_pairs_90 : decode cX6_pairs 90 = .ok (.ireturn, 1) := by decide +kernel
theorem dX6_pairs_91 : decode cX6_pairs 91 = .ok (.iinc 2 2, 3) := by decide +kernel
theorem dX6_pairs_94 : decode cX6_pairs 94 = .ok (.goto (-56), 3) := by decide +kernel
theorem dX6_pairs_97 : decode cX6_pairs 97 = .ok (.iconst 0, 1) := by decide +kernel
theorem dX6_pairs_98 : decode cX6_pairs 98 = .ok (.ireturn, 1) := by decide +kernel
theorem dX6_comesSo_0 : decode cX6_comesSo 0 = .ok (.iconst 1, 1) := by decide +kernel
theorem dX6_comesSo_1 : decode cX6_comesSo 1 = .ok (.istore 4, 2) := by decide +kernel
theorem dX6_comesSo_3 : decode cX6_comesSo 3 = .ok (.iconst 0, 1) := by decide +kernel
theorem dX6_comesSo_4 : decode cX6_comesSo 4 = .ok (.istore 5, 2) := by decide +kernel
theorem dX6_comesSo_6 : decode cX6_comesSo 6 = .ok (.iload 5, 2) := by decide +kernel
theorem dX6_comesSo_8 : decode cX6_comesSo 8 = .ok (.aload_n 0, 1) := by decide +kernel
theorem dX6_comesSo_9 : decode cX6_comesSo 9 = .ok (.getfield 7, 3) := by decide +kernel
theorem dX6_comesSo_12 : decode cX6_comesSo 12 = .ok (.iload_n 3, 1) := by decide +kernel
theorem dX6_comesSo_13 : decode cX6_comesSo 13 = .ok (.iaload, 1) := by decide +kernel
theorem dX6_comesSo_14 : decode cX6_comesSo 14 = .ok (.if_icmp .ge 71, 3) := by decide +kernel
theorem dX6_comesSo_17 : decode cX6_comesSo 17 = .ok (.iload 4, 2) := by decide +kernel
theorem dX6_comesSo_19 : decode cX6_comesSo 19 = .ok (.ifCond .eq 57, 3) := by decide +kernel
theorem dX6_comesSo_22 : decode cX6_comesSo 22 = .ok (.aload_n 0, 1) := by decide +kernel
theorem dX6_comesSo_23 : decode cX6_comesSo 23 = .ok (.getfield 28, 3) := by decide +kernel
theorem dX6_comesSo_26 : decode cX6_comesSo 26 = .ok (.bipush 6, 2) := by decide +kernel
theorem dX6_comesSo_28 : decode cX6_comesSo 28 = .ok (.iconst 3, 1) := by decide +kernel
theorem dX6_comesSo_29 : decode cX6_comesSo 29 = .ok (.iload_n 1, 1) := by decide +kernel
theorem dX6_comesSo_30 : decode cX6_comesSo 30 = .ok (.imul, 1) := by decide +kernel
theorem dX6_comesSo_31 : decode cX6_comesSo 31 = .ok (.iadd, 1) := by decide +kernel
theorem dX6_comesSo_32 : decode cX6_comesSo 32 = .ok (.iload_n 2, 1) := by decide +kernel
theorem dX6_comesSo_33 : decode cX6_comesSo 33 = .ok (.aload_n 0, 1) := by decide +kernel
theorem dX6_comesSo_34 : decode cX6_comesSo 34 = .ok (.getfield 13, 3) := by decide +kernel
theorem dX6_comesSo_37 : decode cX6_comesSo 37 = .ok (.bipush 40, 2) := by decide +kernel
theorem dX6_comesSo_39 : decode cX6_comesSo 39 = .ok (.iload_n 3, 1) := by decide +kernel
theorem dX6_comesSo_40 : decode cX6_comesSo 40 = .ok (.imul, 1) := by decide +kernel
theorem dX6_comesSo_41 : decode cX6_comesSo 41 = .ok (.iload 5, 2) := by decide +kernel
theorem dX6_comesSo_43 : decode cX6_comesSo 43 = .ok (.iadd, 1) := by decide +kernel
theorem dX6_comesSo_44 : decode cX6_comesSo 44 = .ok (.iaload, 1) := by decide +kernel
theorem dX6_comesSo_45 : decode cX6_comesSo 45 = .ok (.aload_n 0, 1) := by decide +kernel
theorem dX6_comesSo_46 : decode cX6_comesSo 46 = .ok (.getfield 25, 3) := by decide +kernel
theorem dX6_comesSo_49 : decode cX6_comesSo 49 = .ok (.bipush 24, 2) := by decide +kernel
theorem dX6_comesSo_51 : decode cX6_comesSo 51 = .ok (.iaload, 1) := by decide +kernel
theorem dX6_comesSo_52 : decode cX6_comesSo 52 = .ok (.invokestatic 118, 3) := by decide +kernel
theorem dX6_comesSo_55 : decode cX6_comesSo 55 = .ok (.aload_n 0, 1) := by decide +kernel
theorem dX6_comesSo_56 : decode cX6_comesSo 56 = .ok (.getfield 13, 3) := by decide +kernel
theorem dX6_comesSo_59 : decode cX6_comesSo 59 = .ok (.bipush 40, 2) := by decide +kernel
theorem dX6_comesSo_61 : decode cX6_comesSo 61 = .ok (.iload_n 3, 1) := by decide +kernel
theorem dX6_comesSo_62 : decode cX6_comesSo 62 = .ok (.imul, 1) := by decide +kernel
theorem dX6_comesSo_63 : decode cX6_comesSo 63 = .ok (.iload 5, 2) := by decide +kernel
theorem dX6_comesSo_65 : decode cX6_comesSo 65 = .ok (.iadd, 1) := by decide +kernel
theorem dX6_comesSo_66 : decode cX6_comesSo 66 = .ok (.iconst 1, 1) := by decide +kernel
theorem dX6_comesSo_67 : decode cX6_comesSo 67 = .ok (.iadd, 1) := by decide +kernel
theorem dX6_comesSo_68 : decode cX6_comesSo 68 = .ok (.iaload, 1) := by decide +kernel
theorem dX6_comesSo_69 : decode cX6_comesSo 69 = .ok (.if_icmp .ne 7, 3) := by decide +kernel
theorem dX6_comesSo_72 : decode cX6_comesSo 72 = .ok (.iconst 1, 1) := by decide +kernel
theorem dX6_comesSo_73 : decode cX6_comesSo 73 = .ok (.goto 4, 3) := by decide +kernel
theorem dX6_comesSo_76 : decode cX6_comesSo 76 = .ok (.iconst 0, 1) := by decide +kernel
theorem dX6_comesSo_77 : decode cX6_comesSo 77 = .ok (.istore 4, 2) := by decide +kernel
theorem dX6_comesSo_79 : decode cX6_comesSo 79 = .ok (.iinc 5 2, 3) := by decide +kernel
theorem dX6_comesSo_82 : decode cX6_comesSo 82 = .ok (.goto (-76), 3) := by decide +kernel
theorem dX6_comesSo_85 : decode cX6_comesSo 85 = .ok (.iload 4, 2) := by decide +kernel
theorem dX6_comesSo_87 : decode cX6_comesSo 87 = .ok (.ireturn, 1) := by decide +kernel
theorem dX6_kindsBy_0 : decode cX6_kindsBy 0 = .ok (.aload_n 0, 1) := by decide +kernel
theorem dX6_kindsBy_1 : decode cX6_kindsBy 1 = .ok (.invokevirtual 167, 3) := by decide +kernel
theorem dX6_kindsBy_4 : decode cX6_kindsBy 4 = .ok (.iconst 0, 1) := by decide +kernel
theorem dX6_kindsBy_5 : decode cX6_kindsBy 5 = .ok (.istore_n 3, 1) := by decide +kernel
theorem dX6_kindsBy_6 : decode cX6_kindsBy 6 = .ok (.iconst 0, 1) := by decide +kernel
theorem dX6_kindsBy_7 : decode cX6_kindsBy 7 = .ok (.istore 4, 2) := by decide +kernel
theorem dX6_kindsBy_9 : decode cX6_kindsBy 9 = .ok (.iload 4, 2) := by decide +kernel
theorem dX6_kindsBy_11 : decode cX6_kindsBy 11 = .ok (.bipush 6, 2) := by decide +kernel
theorem dX6_kindsBy_13 : decode cX6_kindsBy 13 = .ok (.if_icmp .ge 31, 3) := by decide +kernel
theorem dX6_kindsBy_16 : decode cX6_kindsBy 16 = .ok (.iload_n 3, 1) := by decide +kernel
theorem dX6_kindsBy_17 : decode cX6_kindsBy 17 = .ok (.aload_n 0, 1) := by decide +kernel
theorem dX6_kindsBy_18 : decode cX6_kindsBy 18 = .ok (.iload_n 1, 1) := by decide +kernel
theorem dX6_kindsBy_19 : decode cX6_kindsBy 19 = .ok (.iload 4, 2) := by decide +kernel
theorem dX6_kindsBy_21 : decode cX6_kindsBy 21 = .ok (.iload_n 2, 1) := by decide +kernel
theorem dX6_kindsBy_22 : decode cX6_kindsBy 22 = .ok (.invokevirtual 184, 3) := by decide +kernel
theorem dX6_kindsBy_25 : decode cX6_kindsBy 25 = .ok (.ifCond .eq 10, 3) := by decide +kernel
theorem dX6_kindsBy_28 : decode cX6_kindsBy 28 = .ok (.iconst 1, 1) := by decide +kernel
theorem dX6_kindsBy_29 : decode cX6_kindsBy 29 = .ok (.iload 4, 2) := by decide +kernel
theorem dX6_kindsBy_31 : decode cX6_kindsBy 31 = .ok (.ishl, 1) := by decide +kernel
theorem dX6_kindsBy_32 : decode cX6_kindsBy 32 = .ok (.goto 4, 3) := by decide +kernel
theorem dX6_kindsBy_35 : decode cX6_kindsBy 35 = .ok (.iconst 0, 1) := by decide +kernel
theorem dX6_kindsBy_36 : decode cX6_kindsBy 36 = .ok (.ior, 1) := by decide +kernel
theorem dX6_kindsBy_37 : decode cX6_kindsBy 37 = .ok (.istore_n 3, 1) := by decide +kernel
theorem dX6_kindsBy_38 : decode cX6_kindsBy 38 = .ok (.iinc 4 1, 3) := by decide +kernel
theorem dX6_kindsBy_41 : decode cX6_kindsBy 41 = .ok (.goto (-32), 3) := by decide +kernel
theorem dX6_kindsBy_44 : decode cX6_kindsBy 44 = .ok (.iload_n 3, 1) := by decide +kernel
theorem dX6_kindsBy_45 : decode cX6_kindsBy 45 = .ok (.ireturn, 1) := by decide +kernel
theorem dX6_kinds_0 : decode cX6_kinds 0 = .ok (.aload_n 0, 1) := by decide +kernel
theorem dX6_kinds_1 : decode cX6_kinds 1 = .ok (.iload_n 1, 1) := by decide +kernel
theorem dX6_kinds_2 : decode cX6_kinds 2 = .ok (.invokevirtual 134, 3) := by decide +kernel
theorem dX6_kinds_5 : decode cX6_kinds 5 = .ok (.ifCond .eq 10, 3) := by decide +kernel
theorem dX6_kinds_8 : decode cX6_kinds 8 = .ok (.iload_n 2, 1) := by decide +kernel
theorem dX6_kinds_9 : decode cX6_kinds 9 = .ok (.invokestatic 75, 3) := by decide +kernel
theorem dX6_kinds_12 : decode cX6_kinds 12 = .ok (.ifCond .ne 5, 3) := by decide +kernel
theorem dX6_kinds_15 : decode cX6_kinds 15 = .ok (.iconst (-1), 1) := by decide +kernel
theorem dX6_kinds_16 : decode cX6_kinds 16 = .ok (.ireturn, 1) := by decide +kernel
theorem dX6_kinds_17 : decode cX6_kinds 17 = .ok (.aload_n 0, 1) := by decide +kernel
theorem dX6_kinds_18 : decode cX6_kinds 18 = .ok (.iload_n 2, 1) := by decide +kernel
theorem dX6_kinds_19 : decode cX6_kinds 19 = .ok (.invokevirtual 188, 3) := by decide +kernel
theorem dX6_kinds_22 : decode cX6_kinds 22 = .ok (.istore_n 3, 1) := by decide +kernel
theorem dX6_kinds_23 : decode cX6_kinds 23 = .ok (.iload_n 3, 1) := by decide +kernel
theorem dX6_kinds_24 : decode cX6_kinds 24 = .ok (.ifCond .le 11, 3) := by decide +kernel
theorem dX6_kinds_27 : decode cX6_kinds 27 = .ok (.aload_n 0, 1) := by decide +kernel
theorem dX6_kinds_28 : decode cX6_kinds 28 = .ok (.iload_n 3, 1) := by decide +kernel
theorem dX6_kinds_29 : decode cX6_kinds 29 = .ok (.invokevirtual 79, 3) := by decide +kernel
theorem dX6_kinds_32 : decode cX6_kinds 32 = .ok (.goto 9, 3) := by decide +kernel
theorem dX6_kinds_35 : decode cX6_kinds 35 = .ok (.aload_n 0, 1) := by decide +kernel
theorem dX6_kinds_36 : decode cX6_kinds 36 = .ok (.iload_n 1, 1) := by decide +kernel
theorem dX6_kinds_37 : decode cX6_kinds 37 = .ok (.iload_n 2, 1) := by decide +kernel
theorem dX6_kinds_38 : decode cX6_kinds 38 = .ok (.invokevirtual 191, 3) := by decide +kernel
theorem dX6_kinds_41 : decode cX6_kinds 41 = .ok (.ireturn, 1) := by decide +kernel
theorem dX6_figures_0 : decode cX6_figures 0 = .ok (.aload_n 0, 1) := by decide +kernel
theorem dX6_figures_1 : decode cX6_figures 1 = .ok (.iload_n 1, 1) := by decide +kernel
theorem dX6_figures_2 : decode cX6_figures 2 = .ok (.invokevirtual 134, 3) := by decide +kernel
theorem dX6_figures_5 : decode cX6_figures 5 = .ok (.ifCond .eq 17, 3) := by decide +kernel
theorem dX6_figures_8 : decode cX6_figures 8 = .ok (.iload_n 2, 1) := by decide +kernel
theorem dX6_figures_9 : decode cX6_figures 9 = .ok (.invokestatic 143, 3) := by decide +kernel
theorem dX6_figures_12 : decode cX6_figures 12 = .ok (.ifCond .eq 10, 3) := by decide +kernel
theorem dX6_figures_15 : decode cX6_figures 15 = .ok (.iload_n 3, 1) := by decide +kernel
theorem dX6_figures_16 : decode cX6_figures 16 = .ok (.invokestatic 75, 3) := by decide +kernel
theorem dX6_figures_19 : decode cX6_figures 19 = .ok (.ifCond .ne 5, 3) := by decide +kernel
theorem dX6_figures_22 : decode cX6_figures 22 = .ok (.iconst (-1), 1) := by decide +kernel
theorem dX6_figures_23 : decode cX6_figures 23 = .ok (.ireturn, 1) := by decide +kernel
theorem dX6_figures_24 : decode cX6_figures 24 = .ok (.aload_n 0, 1) := by decide +kernel
theorem dX6_figures_25 : decode cX6_figures 25 = .ok (.iload_n 3, 1) := by decide +kernel
theorem dX6_figures_26 : decode cX6_figures 26 = .ok (.invokevirtual 188, 3) := by decide +kernel
theorem dX6_figures_29 : decode cX6_figures 29 = .ok (.istore 4, 2) := by decide +kernel
theorem dX6_figures_31 : decode cX6_figures 31 = .ok (.iload 4, 2) := by decide +kernel
theorem dX6_figures_33 : decode cX6_figures 33 = .ok (.ifCond .le 10, 3) := by decide +kernel
theorem dX6_figures_36 : decode cX6_figures 36 = .ok (.aload_n 0, 1) := by decide +kernel
theorem dX6_figures_37 : decode cX6_figures 37 = .ok (.iload 4, 2) := by decide +kernel
theorem dX6_figures_39 : decode cX6_figures 39 = .ok (.invokevirtual 79, 3) := by decide +kernel
theorem dX6_figures_42 : decode cX6_figures 42 = .ok (.ireturn, 1) := by decide +kernel
theorem dX6_figures_43 : decode cX6_figures 43 = .ok (.aload_n 0, 1) := by decide +kernel
theorem dX6_figures_44 : decode cX6_figures 44 = .ok (.invokevirtual 167, 3) := by decide +kernel
theorem dX6_figures_47 : decode cX6_figures 47 = .ok (.iconst 0, 1) := by decide +kernel
theorem dX6_figures_48 : decode cX6_figures 48 = .ok (.istore 5, 2) := by decide +kernel
theorem dX6_figures_50 : decode cX6_figures 50 = .ok (.iconst 0, 1) := by decide +kernel
theorem dX6_figures_51 : decode cX6_figures 51 = .ok (.istore 6, 2) := by decide +kernel
theorem dX6_figures_53 : decode cX6_figures 53 = .ok (.iload 6, 2) := by decide +kernel
theorem dX6_figures_55 : decode cX6_figures 55 = .ok (.bipush 10, 2) := by decide +kernel
theorem dX6_figures_57 : decode cX6_figures 57 = .ok (.if_icmp .ge 52, 3) := by decide +kernel
theorem dX6_figures_60 : decode cX6_figures 60 = .ok (.aload_n 0, 1) := by decide +kernel
theorem dX6_figures_61 : decode cX6_figures 61 = .ok (.getfield 28, 3) := by decide +kernel
theorem dX6_figures_64 : decode cX6_figures 64 = .ok (.bipush 6, 2) := by decide +kernel
theorem dX6_figures_66 : decode cX6_figures 66 = .ok (.iconst 3, 1) := by decide +kernel
theorem dX6_figures_67 : decode cX6_figures 67 = .ok (.iload_n 1, 1) := by decide +kernel
theorem dX6_figures_68 : decode cX6_figures 68 = .ok (.imul, 1) := by decide +kernel
theorem dX6_figures_69 : decode cX6_figures 69 = .ok (.iadd, 1) := by decide +kernel
theorem dX6_figures_70 : decode cX6_figures 70 = .ok (.iload_n 2, 1) := by decide +kernel
theorem dX6_figures_71 : decode cX6_figures 71 = .ok (.iadd, 1) := by decide +kernel
theorem dX6_figures_72 : decode cX6_figures 72 = .ok (.iload 6, 2) := by decide +kernel
theorem dX6_figures_74 : decode cX6_figures 74 = .ok (.iastore, 1) := by decide +kernel
theorem dX6_figures_75 : decode cX6_figures 75 = .ok (.iload 5, 2) := by decide +kernel
theorem dX6_figures_77 : decode cX6_figures 77 = .ok (.aload_n 0, 1) := by decide +kernel
theorem dX6_figures_78 : decode cX6_figures 78 = .ok (.iload_n 1, 1) := by decide +kernel
theorem dX6_figures_79 : decode cX6_figures 79 = .ok (.aload_n 0, 1) := by decide +kernel
theorem dX6_figures_80 : decode cX6_figures 80 = .ok (.getfield 22, 3) := by decide +kernel
theorem dX6_figures_83 : decode cX6_figures 83 = .ok (.iload_n 1, 1) := by decide +kernel
theorem dX6_figures_84 : decode cX6_figures 84 = .ok (.iaload, 1) := by decide +kernel
theorem dX6_figures_85 : decode cX6_figures 85 = .ok (.iload_n 3, 1) := by decide +kernel
theorem dX6_figures_86 : decode cX6_figures 86 = .ok (.invokevirtual 184, 3) := by decide +kernel
theorem dX6_figures_89 : decode cX6_figures 89 = .ok (.ifCond .eq 10, 3) := by decide +kernel
theorem dX6_figures_92 : decode cX6_figures 92 = .ok (.iconst 1, 1) := by decide +kernel
theorem dX6_figures_93 : decode cX6_figures 93 = .ok (.iload 6, 2) := by decide +kernel
theorem dX6_figures_95 : decode cX6_figures 95 = .ok (.ishl, 1) := by decide +kernel
theorem dX6_figures_96 : decode cX6_figures 96 = .ok (.goto 4, 3) := by decide +kernel
theorem dX6_figures_99 : decode cX6_figures 99 = .ok (.iconst 0, 1) := by decide +kernel
theorem dX6_figures_100 : decode cX6_figures 100 = .ok (.ior, 1) := by decide +kernel
theorem dX6_figures_101 : decode cX6_figures 101 = .ok (.istore 5, 2) := by decide +kernel
theorem dX6_figures_103 : decode cX6_figures 103 = .ok (.iinc 6 1, 3) := by decide +kernel
theorem dX6_figures_106 : decode cX6_figures 106 = .ok (.goto (-53), 3) := by decide +kernel
theorem dX6_figures_109 : decode cX6_figures 109 = .ok (.iload 5, 2) := by decide +kernel
theorem dX6_figures_111 : decode cX6_figures 111 = .ok (.ireturn, 1) := by decide +kernel
theorem dX6_next_0 : decode cX6_next 0 = .ok (.aload_n 0, 1) := by decide +kernel
theorem dX6_next_1 : decode cX6_next 1 = .ok (.iload_n 1, 1) := by decide +kernel
theorem dX6_next_2 : decode cX6_next 2 = .ok (.invokevirtual 134, 3) := by decide +kernel
theorem dX6_next_5 : decode cX6_next 5 = .ok (.ifCond .eq 10, 3) := by decide +kernel
theorem dX6_next_8 : decode cX6_next 8 = .ok (.iload_n 2, 1) := by decide +kernel
theorem dX6_next_9 : decode cX6_next 9 = .ok (.invokestatic 75, 3) := by decide +kernel
theorem dX6_next_12 : decode cX6_next 12 = .ok (.ifCond .ne 5, 3) := by decide +kernel
theorem dX6_next_15 : decode cX6_next 15 = .ok (.iconst (-1), 1) := by decide +kernel
theorem dX6_next_16 : decode cX6_next 16 = .ok (.ireturn, 1) := by decide +kernel
theorem dX6_next_17 : decode cX6_next 17 = .ok (.aload_n 0, 1) := by decide +kernel
theorem dX6_next_18 : decode cX6_next 18 = .ok (.iload_n 2, 1) := by decide +kernel
theorem dX6_next_19 : decode cX6_next 19 = .ok (.invokevirtual 188, 3) := by decide +kernel
theorem dX6_next_22 : decode cX6_next 22 = .ok (.istore_n 3, 1) := by decide +kernel
theorem dX6_next_23 : decode cX6_next 23 = .ok (.iload_n 3, 1) := by decide +kernel
theorem dX6_next_24 : decode cX6_next 24 = .ok (.ifCond .le 9, 3) := by decide +kernel
theorem dX6_next_27 : decode cX6_next 27 = .ok (.aload_n 0, 1) := by decide +kernel
theorem dX6_next_28 : decode cX6_next 28 = .ok (.iload_n 3, 1) := by decide +kernel
theorem dX6_next_29 : decode cX6_next 29 = .ok (.invokevirtual 79, 3) := by decide +kernel
theorem dX6_next_32 : decode cX6_next 32 = .ok (.ireturn, 1) := by decide +kernel
theorem dX6_next_33 : decode cX6_next 33 = .ok (.aload_n 0, 1) := by decide +kernel
theorem dX6_next_34 : decode cX6_next 34 = .ok (.iload_n 1, 1) := by decide +kernel
theorem dX6_next_35 : decode cX6_next 35 = .ok (.iload_n 2, 1) := by decide +kernel
theorem dX6_next_36 : decode cX6_next 36 = .ok (.invokevirtual 191, 3) := by decide +kernel
theorem dX6_next_39 : decode cX6_next 39 = .ok (.istore 4, 2) := by decide +kernel
theorem dX6_next_41 : decode cX6_next 41 = .ok (.iload 4, 2) := by decide +kernel
theorem dX6_next_43 : decode cX6_next 43 = .ok (.ifCond .ne 6, 3) := by decide +kernel
theorem dX6_next_46 : decode cX6_next 46 = .ok (.bipush (-9), 2) := by decide +kernel
theorem dX6_next_48 : decode cX6_next 48 = .ok (.ireturn, 1) := by decide +kernel
theorem dX6_next_49 : decode cX6_next 49 = .ok (.bipush (-9), 2) := by decide +kernel
theorem dX6_next_51 : decode cX6_next 51 = .ok (.istore 5, 2) := by decide +kernel
theorem dX6_next_53 : decode cX6_next 53 = .ok (.bipush 7, 2) := by decide +kernel
theorem dX6_next_55 : decode cX6_next 55 = .ok (.istore 6, 2) := by decide +kernel
theorem dX6_next_57 : decode cX6_next 57 = .ok (.iconst 0, 1) := by decide +kernel
theorem dX6_next_58 : decode cX6_next 58 = .ok (.istore 7, 2) := by decide +kernel
theorem dX6_next_60 : decode cX6_next 60 = .ok (.iload 7, 2) := by decide +kernel
theorem dX6_next_62 : decode cX6_next 62 = .ok (.iconst 3, 1) := by decide +kernel
theorem dX6_next_63 : decode cX6_next 63 = .ok (.if_icmp .ge 137, 3) := by decide +kernel
theorem dX6_next_66 : decode cX6_next 66 = .ok (.iconst 0, 1) := by decide +kernel
theorem dX6_next_67 : decode cX6_next 67 = .ok (.istore 8, 2) := by decide +kernel
theorem dX6_next_69 : decode cX6_next 69 = .ok (.iconst 0, 1) := by decide +kernel
theorem dX6_next_70 : decode cX6_next 70 = .ok (.istore 9, 2) := by decide +kernel
theorem dX6_next_72 : decode cX6_next 72 = .ok (.iload 9, 2) := by decide +kernel
theorem dX6_next_74 : decode cX6_next 74 = .ok (.bipush 11, 2) := by decide +kernel
theorem dX6_next_76 : decode cX6_next 76 = .ok (.if_icmp .ge 86, 3) := by decide +kernel
theorem dX6_next_79 : decode cX6_next 79 = .ok (.iconst 0, 1) := by decide +kernel
theorem dX6_next_80 : decode cX6_next 80 = .ok (.istore 10, 2) := by decide +kernel
theorem dX6_next_82 : decode cX6_next 82 = .ok (.iconst 0, 1) := by decide +kernel
theorem dX6_next_83 : decode cX6_next 83 = .ok (.istore 11, 2) := by decide +kernel
theorem dX6_next_85 : decode cX6_next 85 = .ok (.iload 11, 2) := by decide +kernel
theorem dX6_next_87 : decode cX6_next 87 = .ok (.bipush 6, 2) := by decide +kernel
theorem dX6_next_89 : decode cX6_next 89 = .ok (.if_icmp .ge 58, 3) := by decide +kernel
theorem dX6_next_92 : decode cX6_next 92 = .ok (.iload 10, 2) := by decide +kernel
theorem dX6_next_94 : decode cX6_next 94 = .ok (.iload 4, 2) := by decide +kernel
theorem dX6_next_96 : decode cX6_next 96 = .ok (.iload 11, 2) := by decide +kernel
theorem dX6_next_98 : decode cX6_next 98 = .ok (.invokestatic 122, 3) := by decide +kernel
theorem dX6_next_101 : decode cX6_next 101 = .ok (.ifCond .eq 36, 3) := by decide +kernel
theorem dX6_next_104 : decode cX6_next 104 = .ok (.aload_n 0, 1) := by decide +kernel
theorem dX6_next_105 : decode cX6_next 105 = .ok (.getfield 25, 3) := by decide +kernel
theorem dX6_next_108 : decode cX6_next 108 = .ok (.bipush 6, 2) := by decide +kernel
theorem dX6_next_110 : decode cX6_next 110 = .ok (.iconst 3, 1) := by decide +kernel
theorem dX6_next_111 : decode cX6_next 111 = .ok (.iload_n 1, 1) := by decide +kernel
theorem dX6_next_112 : decode cX6_next 112 = .ok (.imul, 1) := by decide +kernel
theorem dX6_next_113 : decode cX6_next 113 = .ok (.iadd, 1) := by decide +kernel
theorem dX6_next_114 : decode cX6_next 114 = .ok (.iload 11, 2) := by decide +kernel
theorem dX6_next_116 : decode cX6_next 116 = .ok (.iload 7, 2) := by decide +kernel
theorem dX6_next_118 : decode cX6_next 118 = .ok (.aload_n 0, 1) := by decide +kernel
theorem dX6_next_119 : decode cX6_next 119 = .ok (.getfield 25, 3) := by decide +kernel
theorem dX6_next_122 : decode cX6_next 122 = .ok (.bipush 24, 2) := by decide +kernel
theorem dX6_next_124 : decode cX6_next 124 = .ok (.iaload, 1) := by decide +kernel
theorem dX6_next_125 : decode cX6_next 125 = .ok (.invokestatic 118, 3) := by decide +kernel
theorem dX6_next_128 : decode cX6_next 128 = .ok (.iload 9, 2) := by decide +kernel
theorem dX6_next_130 : decode cX6_next 130 = .ok (.if_icmp .ne 7, 3) := by decide +kernel
theorem dX6_next_133 : decode cX6_next 133 = .ok (.iconst 1, 1) := by decide +kernel
theorem dX6_next_134 : decode cX6_next 134 = .ok (.goto 4, 3) := by decide +kernel
theorem dX6_next_137 : decode cX6_next 137 = .ok (.iconst 0, 1) := by decide +kernel
theorem dX6_next_138 : decode cX6_next 138 = .ok (.iadd, 1) := by decide +kernel
theorem dX6_next_139 : decode cX6_next 139 = .ok (.istore 10, 2) := by decide +kernel
theorem dX6_next_141 : decode cX6_next 141 = .ok (.iinc 11 1, 3) := by decide +kernel
theorem dX6_next_144 : decode cX6_next 144 = .ok (.goto (-59), 3) := by decide +kernel
theorem dX6_next_147 : decode cX6_next 147 = .ok (.iload 8, 2) := by decide +kernel
theorem dX6_next_149 : decode cX6_next 149 = .ok (.iload 10, 2) := by decide +kernel
theorem dX6_next_151 : decode cX6_next 151 = .ok (.invokestatic 114, 3) := by decide +kernel
theorem dX6_next_154 : decode cX6_next 154 = .ok (.istore 8, 2) := by decide +kernel
theorem dX6_next_156 : decode cX6_next 156 = .ok (.iinc 9 1, 3) := by decide +kernel
theorem dX6_next_159 : decode cX6_next 159 = .ok (.goto (-87), 3) := by decide +kernel
theorem dX6_next_162 : decode cX6_next 162 = .ok (.iload 8, 2) := by decide +kernel
theorem dX6_next_164 : decode cX6_next 164 = .ok (.iload 6, 2) := by decide +kernel
theorem dX6_next_166 : decode cX6_next 166 = .ok (.if_icmp .ge 8, 3) := by decide +kernel
theorem dX6_next_169 : decode cX6_next 169 = .ok (.iload 7, 2) := by decide +kernel
theorem dX6_next_171 : decode cX6_next 171 = .ok (.goto 5, 3) := by decide +kernel
theorem dX6_next_174 : decode cX6_next 174 = .ok (.iload 5, 2) := by decide +kernel
theorem dX6_next_176 : decode cX6_next 176 = .ok (.istore 5, 2) := by decide +kernel
theorem dX6_next_178 : decode cX6_next 178 = .ok (.iload 8, 2) := by decide +kernel
theorem dX6_next_180 : decode cX6_next 180 = .ok (.iload 6, 2) := by decide +kernel
theorem dX6_next_182 : decode cX6_next 182 = .ok (.if_icmp .ge 8, 3) := by decide +kernel
theorem dX6_next_185 : decode cX6_next 185 = .ok (.iload 8, 2) := by decide +kernel
theorem dX6_next_187 : decode cX6_next 187 = .ok (.goto 5, 3) := by decide +kernel
theorem dX6_next_190 : decode cX6_next 190 = .ok (.iload 6, 2) := by decide +kernel
theorem dX6_next_192 : decode cX6_next 192 = .ok (.istore 6, 2) := by decide +kernel
theorem dX6_next_194 : decode cX6_next 194 = .ok (.iinc 7 1, 3) := by decide +kernel
theorem dX6_next_197 : decode cX6_next 197 = .ok (.goto (-137), 3) := by decide +kernel
theorem dX6_next_200 : decode cX6_next 200 = .ok (.aload_n 0, 1) := by decide +kernel
theorem dX6_next_201 : decode cX6_next 201 = .ok (.iload 5, 2) := by decide +kernel
theorem dX6_next_203 : decode cX6_next 203 = .ok (.iload 6, 2) := by decide +kernel
theorem dX6_next_205 : decode cX6_next 205 = .ok (.invokevirtual 194, 3) := by decide +kernel
theorem dX6_next_208 : decode cX6_next 208 = .ok (.ireturn, 1) := by decide +kernel
theorem dX6_comesTo_0 : decode cX6_comesTo 0 = .ok (.iconst 0, 1) := by decide +kernel
