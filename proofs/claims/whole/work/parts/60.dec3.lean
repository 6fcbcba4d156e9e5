theorem dX12_of_79 : decode cX12_of 79 = .ok (.goto (-13), 3) := by decide +kernel
theorem dX12_of_82 : decode cX12_of 82 = .ok (.iload_n 3, 1) := by decide +kernel
theorem dX12_of_83 : decode cX12_of 83 = .ok (.ireturn, 1) := by decide +kernel
theorem dX12_of_84 : decode cX12_of 84 = .ok (.iconst (-1), 1) := by decide +kernel
theorem dX12_of_85 : decode cX12_of 85 = .ok (.ireturn, 1) := by decide +kernel
theorem dX12_as_0 : decode cX12_as 0 = .ok (.aload_n 0, 1) := by decide +kernel
theorem dX12_as_1 : decode cX12_as 1 = .ok (.iload_n 1, 1) := by decide +kernel
theorem dX12_as_2 : decode cX12_as 2 = .ok (.invokevirtual 202, 3) := by decide +kernel
theorem dX12_as_5 : decode cX12_as 5 = .ok (.ifCond .eq 12, 3) := by decide +kernel
theorem dX12_as_8 : decode cX12_as 8 = .ok (.iload_n 2, 1) := by decide +kernel
theorem dX12_as_9 : decode cX12_as 9 = .ok (.iconst 0, 1) := by decide +kernel
theorem dX12_as_10 : decode cX12_as 10 = .ok (.iconst 5, 1) := by decide +kernel
theorem dX12_as_11 : decode cX12_as 11 = .ok (.invokestatic 69, 3) := by decide +kernel
theorem dX12_as_14 : decode cX12_as 14 = .ok (.ifCond .ne 5, 3) := by decide +kernel
theorem dX12_as_17 : decode cX12_as 17 = .ok (.iconst (-1), 1) := by decide +kernel
theorem dX12_as_18 : decode cX12_as 18 = .ok (.ireturn, 1) := by decide +kernel
theorem dX12_as_19 : decode cX12_as 19 = .ok (.aload_n 0, 1) := by decide +kernel
theorem dX12_as_20 : decode cX12_as 20 = .ok (.getfield 7, 3) := by decide +kernel
theorem dX12_as_23 : decode cX12_as 23 = .ok (.sipush 2000, 3) := by decide +kernel
theorem dX12_as_26 : decode cX12_as 26 = .ok (.iload_n 1, 1) := by decide +kernel
theorem dX12_as_27 : decode cX12_as 27 = .ok (.iadd, 1) := by decide +kernel
theorem dX12_as_28 : decode cX12_as 28 = .ok (.iaload, 1) := by decide +kernel
theorem dX12_as_29 : decode cX12_as 29 = .ok (.istore_n 3, 1) := by decide +kernel
theorem dX12_as_30 : decode cX12_as 30 = .ok (.iload_n 2, 1) := by decide +kernel
theorem dX12_as_31 : decode cX12_as 31 = .ok (.ifCond .eq 28, 3) := by decide +kernel
theorem dX12_as_34 : decode cX12_as 34 = .ok (.iload_n 2, 1) := by decide +kernel
theorem dX12_as_35 : decode cX12_as 35 = .ok (.iload_n 3, 1) := by decide +kernel
theorem dX12_as_36 : decode cX12_as 36 = .ok (.if_icmp .eq 23, 3) := by decide +kernel
theorem dX12_as_39 : decode cX12_as 39 = .ok (.iload_n 2, 1) := by decide +kernel
theorem dX12_as_40 : decode cX12_as 40 = .ok (.iconst 2, 1) := by decide +kernel
theorem dX12_as_41 : decode cX12_as 41 = .ok (.if_icmp .ne 8, 3) := by decide +kernel
theorem dX12_as_44 : decode cX12_as 44 = .ok (.iload_n 3, 1) := by decide +kernel
theorem dX12_as_45 : decode cX12_as 45 = .ok (.iconst 4, 1) := by decide +kernel
theorem dX12_as_46 : decode cX12_as 46 = .ok (.if_icmp .ge 13, 3) := by decide +kernel
theorem dX12_as_49 : decode cX12_as 49 = .ok (.iload_n 2, 1) := by decide +kernel
theorem dX12_as_50 : decode cX12_as 50 = .ok (.iconst 4, 1) := by decide +kernel
theorem dX12_as_51 : decode cX12_as 51 = .ok (.if_icmp .ne 12, 3) := by decide +kernel
theorem dX12_as_54 : decode cX12_as 54 = .ok (.iload_n 3, 1) := by decide +kernel
theorem dX12_as_55 : decode cX12_as 55 = .ok (.iconst 5, 1) := by decide +kernel
theorem dX12_as_56 : decode cX12_as 56 = .ok (.if_icmp .ne 7, 3) := by decide +kernel
theorem dX12_as_59 : decode cX12_as 59 = .ok (.iconst 1, 1) := by decide +kernel
theorem dX12_as_60 : decode cX12_as 60 = .ok (.goto 4, 3) := by decide +kernel
theorem dX12_as_63 : decode cX12_as 63 = .ok (.iconst 0, 1) := by decide +kernel
theorem dX12_as_64 : decode cX12_as 64 = .ok (.istore 4, 2) := by decide +kernel
theorem dX12_as_66 : decode cX12_as 66 = .ok (.iload 4, 2) := by decide +kernel
theorem dX12_as_68 : decode cX12_as 68 = .ok (.ifCond .eq 16, 3) := by decide +kernel
theorem dX12_as_71 : decode cX12_as 71 = .ok (.aload_n 0, 1) := by decide +kernel
theorem dX12_as_72 : decode cX12_as 72 = .ok (.getfield 7, 3) := by decide +kernel
theorem dX12_as_75 : decode cX12_as 75 = .ok (.sipush 2016, 3) := by decide +kernel
theorem dX12_as_78 : decode cX12_as 78 = .ok (.iload_n 1, 1) := by decide +kernel
theorem dX12_as_79 : decode cX12_as 79 = .ok (.iadd, 1) := by decide +kernel
theorem dX12_as_80 : decode cX12_as 80 = .ok (.iaload, 1) := by decide +kernel
theorem dX12_as_81 : decode cX12_as 81 = .ok (.goto 5, 3) := by decide +kernel
theorem dX12_as_84 : decode cX12_as 84 = .ok (.bipush (-6), 2) := by decide +kernel
theorem dX12_as_86 : decode cX12_as 86 = .ok (.ireturn, 1) := by decide +kernel
theorem dX12_row_0 : decode cX12_row 0 = .ok (.iload_n 2, 1) := by decide +kernel
theorem dX12_row_1 : decode cX12_row 1 = .ok (.iconst 0, 1) := by decide +kernel
theorem dX12_row_2 : decode cX12_row 2 = .ok (.aload_n 0, 1) := by decide +kernel
theorem dX12_row_3 : decode cX12_row 3 = .ok (.getfield 7, 3) := by decide +kernel
theorem dX12_row_6 : decode cX12_row 6 = .ok (.iconst 3, 1) := by decide +kernel
theorem dX12_row_7 : decode cX12_row 7 = .ok (.iaload, 1) := by decide +kernel
theorem dX12_row_8 : decode cX12_row 8 = .ok (.iconst 1, 1) := by decide +kernel
theorem dX12_row_9 : decode cX12_row 9 = .ok (.isub, 1) := by decide +kernel
theorem dX12_row_10 : decode cX12_row 10 = .ok (.invokestatic 69, 3) := by decide +kernel
theorem dX12_row_13 : decode cX12_row 13 = .ok (.ifCond .ne 5, 3) := by decide +kernel
theorem dX12_row_16 : decode cX12_row 16 = .ok (.iconst (-1), 1) := by decide +kernel
theorem dX12_row_17 : decode cX12_row 17 = .ok (.ireturn, 1) := by decide +kernel
theorem dX12_row_18 : decode cX12_row 18 = .ok (.iload_n 1, 1) := by decide +kernel
theorem dX12_row_19 : decode cX12_row 19 = .ok (.invokestatic 186, 3) := by decide +kernel
theorem dX12_row_22 : decode cX12_row 22 = .ok (.ifCond .ne 6, 3) := by decide +kernel
theorem dX12_row_25 : decode cX12_row 25 = .ok (.bipush (-2), 2) := by decide +kernel
theorem dX12_row_27 : decode cX12_row 27 = .ok (.ireturn, 1) := by decide +kernel
theorem dX12_row_28 : decode cX12_row 28 = .ok (.aload_n 0, 1) := by decide +kernel
theorem dX12_row_29 : decode cX12_row 29 = .ok (.iload_n 1, 1) := by decide +kernel
theorem dX12_row_30 : decode cX12_row 30 = .ok (.invokevirtual 211, 3) := by decide +kernel
theorem dX12_row_33 : decode cX12_row 33 = .ok (.aload_n 0, 1) := by decide +kernel
theorem dX12_row_34 : decode cX12_row 34 = .ok (.getfield 34, 3) := by decide +kernel
theorem dX12_row_37 : decode cX12_row 37 = .ok (.iload_n 2, 1) := by decide +kernel
theorem dX12_row_38 : decode cX12_row 38 = .ok (.iaload, 1) := by decide +kernel
theorem dX12_row_39 : decode cX12_row 39 = .ok (.ireturn, 1) := by decide +kernel
theorem dX12_isOwner_0 : decode cX12_isOwner 0 = .ok (.iload_n 0, 1) := by decide +kernel
theorem dX12_isOwner_1 : decode cX12_isOwner 1 = .ok (.iconst 0, 1) := by decide +kernel
theorem dX12_isOwner_2 : decode cX12_isOwner 2 = .ok (.bipush 9, 2) := by decide +kernel
theorem dX12_isOwner_4 : decode cX12_isOwner 4 = .ok (.invokestatic 69, 3) := by decide +kernel
theorem dX12_isOwner_7 : decode cX12_isOwner 7 = .ok (.ireturn, 1) := by decide +kernel
theorem dX12_sell_0 : decode cX12_sell 0 = .ok (.aload_n 0, 1) := by decide +kernel
theorem dX12_sell_1 : decode cX12_sell 1 = .ok (.iload_n 1, 1) := by decide +kernel
theorem dX12_sell_2 : decode cX12_sell 2 = .ok (.invokevirtual 202, 3) := by decide +kernel
theorem dX12_sell_5 : decode cX12_sell 5 = .ok (.ifCond .eq 17, 3) := by decide +kernel
theorem dX12_sell_8 : decode cX12_sell 8 = .ok (.iload_n 2, 1) := by decide +kernel
theorem dX12_sell_9 : decode cX12_sell 9 = .ok (.invokestatic 214, 3) := by decide +kernel
theorem dX12_sell_12 : decode cX12_sell 12 = .ok (.ifCond .eq 10, 3) := by decide +kernel
theorem dX12_sell_15 : decode cX12_sell 15 = .ok (.iload_n 3, 1) := by decide +kernel
theorem dX12_sell_16 : decode cX12_sell 16 = .ok (.invokestatic 214, 3) := by decide +kernel
theorem dX12_sell_19 : decode cX12_sell 19 = .ok (.ifCond .ne 5, 3) := by decide +kernel
theorem dX12_sell_22 : decode cX12_sell 22 = .ok (.iconst (-1), 1) := by decide +kernel
theorem dX12_sell_23 : decode cX12_sell 23 = .ok (.ireturn, 1) := by decide +kernel
theorem dX12_sell_24 : decode cX12_sell 24 = .ok (.iload 4, 2) := by decide +kernel
theorem dX12_sell_26 : decode cX12_sell 26 = .ok (.iconst 0, 1) := by decide +kernel
theorem dX12_sell_27 : decode cX12_sell 27 = .ok (.aload_n 0, 1) := by decide +kernel
theorem dX12_sell_28 : decode cX12_sell 28 = .ok (.getfield 7, 3) := by decide +kernel
theorem dX12_sell_31 : decode cX12_sell 31 = .ok (.iconst 0, 1) := by decide +kernel
theorem dX12_sell_32 : decode cX12_sell 32 = .ok (.iaload, 1) := by decide +kernel
theorem dX12_sell_33 : decode cX12_sell 33 = .ok (.invokestatic 69, 3) := by decide +kernel
theorem dX12_sell_36 : decode cX12_sell 36 = .ok (.ifCond .eq 8, 3) := by decide +kernel
theorem dX12_sell_39 : decode cX12_sell 39 = .ok (.iload_n 2, 1) := by decide +kernel
theorem dX12_sell_40 : decode cX12_sell 40 = .ok (.iload_n 3, 1) := by decide +kernel
theorem dX12_sell_41 : decode cX12_sell 41 = .ok (.if_icmp .ne 6, 3) := by decide +kernel
theorem dX12_sell_44 : decode cX12_sell 44 = .ok (.bipush (-2), 2) := by decide +kernel
theorem dX12_sell_46 : decode cX12_sell 46 = .ok (.ireturn, 1) := by decide +kernel
theorem dX12_sell_47 : decode cX12_sell 47 = .ok (.aload_n 0, 1) := by decide +kernel
theorem dX12_sell_48 : decode cX12_sell 48 = .ok (.getfield 7, 3) := by decide +kernel
theorem dX12_sell_51 : decode cX12_sell 51 = .ok (.iconst 4, 1) := by decide +kernel
theorem dX12_sell_52 : decode cX12_sell 52 = .ok (.iaload, 1) := by decide +kernel
theorem dX12_sell_53 : decode cX12_sell 53 = .ok (.bipush 30, 2) := by decide +kernel
theorem dX12_sell_55 : decode cX12_sell 55 = .ok (.if_icmp .ne 6, 3) := by decide +kernel
theorem dX12_sell_58 : decode cX12_sell 58 = .ok (.bipush (-4), 2) := by decide +kernel
theorem dX12_sell_60 : decode cX12_sell 60 = .ok (.ireturn, 1) := by decide +kernel
theorem dX12_sell_61 : decode cX12_sell 61 = .ok (.aload_n 0, 1) := by decide +kernel
theorem dX12_sell_62 : decode cX12_sell 62 = .ok (.getfield 7, 3) := by decide +kernel
theorem dX12_sell_65 : decode cX12_sell 65 = .ok (.iconst 4, 1) := by decide +kernel
theorem dX12_sell_66 : decode cX12_sell 66 = .ok (.iaload, 1) := by decide +kernel
theorem dX12_sell_67 : decode cX12_sell 67 = .ok (.istore 5, 2) := by decide +kernel
theorem dX12_sell_69 : decode cX12_sell 69 = .ok (.aload_n 0, 1) := by decide +kernel
theorem dX12_sell_70 : decode cX12_sell 70 = .ok (.getfield 7, 3) := by decide +kernel
theorem dX12_sell_73 : decode cX12_sell 73 = .ok (.sipush 2210, 3) := by decide +kernel
theorem dX12_sell_76 : decode cX12_sell 76 = .ok (.iload 5, 2) := by decide +kernel
theorem dX12_sell_78 : decode cX12_sell 78 = .ok (.iadd, 1) := by decide +kernel
theorem dX12_sell_79 : decode cX12_sell 79 = .ok (.iload_n 1, 1) := by decide +kernel
theorem dX12_sell_80 : decode cX12_sell 80 = .ok (.iastore, 1) := by decide +kernel
theorem dX12_sell_81 : decode cX12_sell 81 = .ok (.aload_n 0, 1) := by decide +kernel
theorem dX12_sell_82 : decode cX12_sell 82 = .ok (.getfield 7, 3) := by decide +kernel
theorem dX12_sell_85 : decode cX12_sell 85 = .ok (.sipush 2240, 3) := by decide +kernel
theorem dX12_sell_88 : decode cX12_sell 88 = .ok (.iload 5, 2) := by decide +kernel
theorem dX12_sell_90 : decode cX12_sell 90 = .ok (.iadd, 1) := by decide +kernel
theorem dX12_sell_91 : decode cX12_sell 91 = .ok (.iload_n 2, 1) := by decide +kernel
theorem dX12_sell_92 : decode cX12_sell 92 = .ok (.iastore, 1) := by decide +kernel
theorem dX12_sell_93 : decode cX12_sell 93 = .ok (.aload_n 0, 1) := by decide +kernel
theorem dX12_sell_94 : decode cX12_sell 94 = .ok (.getfield 7, 3) := by decide +kernel
theorem dX12_sell_97 : decode cX12_sell 97 = .ok (.sipush 2270, 3) := by decide +kernel
theorem dX12_sell_100 : decode cX12_sell 100 = .ok (.iload 5, 2) := by decide +kernel
theorem dX12_sell_102 : decode cX12_sell 102 = .ok (.iadd, 1) := by decide +kernel
theorem dX12_sell_103 : decode cX12_sell 103 = .ok (.iload_n 3, 1) := by decide +kernel
theorem dX12_sell_104 : decode cX12_sell 104 = .ok (.iastore, 1) := by decide +kernel
theorem dX12_sell_105 : decode cX12_sell 105 = .ok (.aload_n 0, 1) := by decide +kernel
theorem dX12_sell_106 : decode cX12_sell 106 = .ok (.getfield 7, 3) := by decide +kernel
theorem dX12_sell_109 : decode cX12_sell 109 = .ok (.sipush 2300, 3) := by decide +kernel
theorem dX12_sell_112 : decode cX12_sell 112 = .ok (.iload 5, 2) := by decide +kernel
theorem dX12_sell_114 : decode cX12_sell 114 = .ok (.iadd, 1) := by decide +kernel
theorem dX12_sell_115 : decode cX12_sell 115 = .ok (.iload 4, 2) := by decide +kernel
theorem dX12_sell_117 : decode cX12_sell 117 = .ok (.iastore, 1) := by decide +kernel
theorem dX12_sell_118 : decode cX12_sell 118 = .ok (.aload_n 0, 1) := by decide +kernel
theorem dX12_sell_119 : decode cX12_sell 119 = .ok (.getfield 7, 3) := by decide +kernel
theorem dX12_sell_122 : decode cX12_sell 122 = .ok (.iconst 4, 1) := by decide +kernel
theorem dX12_sell_123 : decode cX12_sell 123 = .ok (.dup2, 1) := by decide +kernel
theorem dX12_sell_124 : decode cX12_sell 124 = .ok (.iaload, 1) := by decide +kernel
theorem dX12_sell_125 : decode cX12_sell 125 = .ok (.iconst 1, 1) := by decide +kernel
theorem dX12_sell_126 : decode cX12_sell 126 = .ok (.iadd, 1) := by decide +kernel
theorem dX12_sell_127 : decode cX12_sell 127 = .ok (.iastore, 1) := by decide +kernel
theorem dX12_sell_128 : decode cX12_sell 128 = .ok (.aload_n 0, 1) := by decide +kernel
theorem dX12_sell_129 : decode cX12_sell 129 = .ok (.getfield 7, 3) := by decide +kernel
theorem dX12_sell_132 : decode cX12_sell 132 = .ok (.iconst 4, 1) := by decide +kernel
theorem dX12_sell_133 : decode cX12_sell 133 = .ok (.iaload, 1) := by decide +kernel
theorem dX12_sell_134 : decode cX12_sell 134 = .ok (.ireturn, 1) := by decide +kernel
theorem dX12_whose_0 : decode cX12_whose 0 = .ok (.aload_n 0, 1) := by decide +kernel
theorem dX12_whose_1 : decode cX12_whose 1 = .ok (.iload_n 1, 1) := by decide +kernel
theorem dX12_whose_2 : decode cX12_whose 2 = .ok (.invokevirtual 202, 3) := by decide +kernel
theorem dX12_whose_5 : decode cX12_whose 5 = .ok (.ifCond .eq 17, 3) := by decide +kernel
theorem dX12_whose_8 : decode cX12_whose 8 = .ok (.iload_n 3, 1) := by decide +kernel
theorem dX12_whose_9 : decode cX12_whose 9 = .ok (.iconst (-1), 1) := by decide +kernel
theorem dX12_whose_10 : decode cX12_whose 10 = .ok (.aload_n 0, 1) := by decide +kernel
theorem dX12_whose_11 : decode cX12_whose 11 = .ok (.getfield 7, 3) := by decide +kernel
theorem dX12_whose_14 : decode cX12_whose 14 = .ok (.iconst 4, 1) := by decide +kernel
theorem dX12_whose_15 : decode cX12_whose 15 = .ok (.iaload, 1) := by decide +kernel
theorem dX12_whose_16 : decode cX12_whose 16 = .ok (.invokestatic 69, 3) := by decide +kernel
theorem dX12_whose_19 : decode cX12_whose 19 = .ok (.ifCond .ne 5, 3) := by decide +kernel
theorem dX12_whose_22 : decode cX12_whose 22 = .ok (.iconst (-1), 1) := by decide +kernel
theorem dX12_whose_23 : decode cX12_whose 23 = .ok (.ireturn, 1) := by decide +kernel
theorem dX12_whose_24 : decode cX12_whose 24 = .ok (.iload_n 2, 1) := by decide +kernel
theorem dX12_whose_25 : decode cX12_whose 25 = .ok (.invokestatic 186, 3) := by decide +kernel
theorem dX12_whose_28 : decode cX12_whose 28 = .ok (.ifCond .ne 6, 3) := by decide +kernel
theorem dX12_whose_31 : decode cX12_whose 31 = .ok (.bipush (-2), 2) := by decide +kernel
theorem dX12_whose_33 : decode cX12_whose 33 = .ok (.ireturn, 1) := by decide +kernel
theorem dX12_whose_34 : decode cX12_whose 34 = .ok (.iload_n 3, 1) := by decide +kernel
theorem dX12_whose_35 : decode cX12_whose 35 = .ok (.iconst (-1), 1) := by decide +kernel
theorem dX12_whose_36 : decode cX12_whose 36 = .ok (.if_icmp .ne 12, 3) := by decide +kernel
theorem dX12_whose_39 : decode cX12_whose 39 = .ok (.aload_n 0, 1) := by decide +kernel
theorem dX12_whose_40 : decode cX12_whose 40 = .ok (.getfield 7, 3) := by decide +kernel
theorem dX12_whose_43 : decode cX12_whose 43 = .ok (.iconst 4, 1) := by decide +kernel
theorem dX12_whose_44 : decode cX12_whose 44 = .ok (.iaload, 1) := by decide +kernel
theorem dX12_whose_45 : decode cX12_whose 45 = .ok (.goto 4, 3) := by decide +kernel
theorem dX12_whose_48 : decode cX12_whose 48 = .ok (.iload_n 3, 1) := by decide +kernel
theorem dX12_whose_49 : decode cX12_whose 49 = .ok (.istore 4, 2) := by decide +kernel
theorem dX12_whose_51 : decode cX12_whose 51 = .ok (.iconst 0, 1) := by decide +kernel
theorem dX12_whose_52 : decode cX12_whose 52 = .ok (.istore 5, 2) := by decide +kernel
theorem dX12_whose_54 : decode cX12_whose 54 = .ok (.iconst 0, 1) := by decide +kernel
theorem dX12_whose_55 : decode cX12_whose 55 = .ok (.istore 6, 2) := by decide +kernel
theorem dX12_whose_57 : decode cX12_whose 57 = .ok (.iload 6, 2) := by decide +kernel
theorem dX12_whose_59 : decode cX12_whose 59 = .ok (.iload_n 2, 1) := by decide +kernel
theorem dX12_whose_60 : decode cX12_whose 60 = .ok (.if_icmp .gt 102, 3) := by decide +kernel
theorem dX12_whose_63 : decode cX12_whose 63 = .ok (.iconst 0, 1) := by decide +kernel
theorem dX12_whose_64 : decode cX12_whose 64 = .ok (.istore 7, 2) := by decide +kernel
theorem dX12_whose_66 : decode cX12_whose 66 = .ok (.iload 7, 2) := by decide +kernel
theorem dX12_whose_68 : decode cX12_whose 68 = .ok (.iload 4, 2) := by decide +kernel
theorem dX12_whose_70 : decode cX12_whose 70 = .ok (.if_icmp .ge 86, 3) := by decide +kernel
theorem dX12_whose_73 : decode cX12_whose 73 = .ok (.aload_n 0, 1) := by decide +kernel
theorem dX12_whose_74 : decode cX12_whose 74 = .ok (.getfield 7, 3) := by decide +kernel
theorem dX12_whose_77 : decode cX12_whose 77 = .ok (.sipush 2210, 3) := by decide +kernel
theorem dX12_whose_80 : decode cX12_whose 80 = .ok (.iload 7, 2) := by decide +kernel
theorem dX12_whose_82 : decode cX12_whose 82 = .ok (.iadd, 1) := by decide +kernel
theorem dX12_whose_83 : decode cX12_whose 83 = .ok (.iaload, 1) := by decide +kernel
theorem dX12_whose_84 : decode cX12_whose 84 = .ok (.iload_n 1, 1) := by decide +kernel
theorem dX12_whose_85 : decode cX12_whose 85 = .ok (.if_icmp .ne 39, 3) := by decide +kernel
theorem dX12_whose_88 : decode cX12_whose 88 = .ok (.aload_n 0, 1) := by decide +kernel
theorem dX12_whose_89 : decode cX12_whose 89 = .ok (.getfield 7, 3) := by decide +kernel
theorem dX12_whose_92 : decode cX12_whose 92 = .ok (.sipush 2300, 3) := by decide +kernel
theorem dX12_whose_95 : decode cX12_whose 95 = .ok (.iload 7, 2) := by decide +kernel
theorem dX12_whose_97 : decode cX12_whose 97 = .ok (.iadd, 1) := by decide +kernel
theorem dX12_whose_98 : decode cX12_whose 98 = .ok (.iaload, 1) := by decide +kernel
theorem dX12_whose_99 : decode cX12_whose 99 = .ok (.iload 6, 2) := by decide +kernel
theorem dX12_whose_101 : decode cX12_whose 101 = .ok (.if_icmp .ne 23, 3) := by decide +kernel
theorem dX12_whose_104 : decode cX12_whose 104 = .ok (.aload_n 0, 1) := by decide +kernel
theorem dX12_whose_105 : decode cX12_whose 105 = .ok (.getfield 7, 3) := by decide +kernel
theorem dX12_whose_108 : decode cX12_whose 108 = .ok (.sipush 2240, 3) := by decide +kernel
theorem dX12_whose_111 : decode cX12_whose 111 = .ok (.iload 7, 2) := by decide +kernel
theorem dX12_whose_113 : decode cX12_whose 113 = .ok (.iadd, 1) := by decide +kernel
theorem dX12_whose_114 : decode cX12_whose 114 = .ok (.iaload, 1) := by decide +kernel
theorem dX12_whose_115 : decode cX12_whose 115 = .ok (.iload 5, 2) := by decide +kernel
theorem dX12_whose_117 : decode cX12_whose 117 = .ok (.if_icmp .ne 7, 3) := by decide +kernel
theorem dX12_whose_120 : decode cX12_whose 120 = .ok (.iconst 1, 1) := by decide +kernel
theorem dX12_whose_121 : decode cX12_whose 121 = .ok (.goto 4, 3) := by decide +kernel
theorem dX12_whose_124 : decode cX12_whose 124 = .ok (.iconst 0, 1) := by decide +kernel
theorem dX12_whose_125 : decode cX12_whose 125 = .ok (.istore 8, 2) := by decide +kernel
theorem dX12_whose_127 : decode cX12_whose 127 = .ok (.iload 8, 2) := by decide +kernel
theorem dX12_whose_129 : decode cX12_whose 129 = .ok (.ifCond .eq 17, 3) := by decide +kernel
theorem dX12_whose_132 : decode cX12_whose 132 = .ok (.aload_n 0, 1) := by decide +kernel
theorem dX12_whose_133 : decode cX12_whose 133 = .ok (.getfield 7, 3) := by decide +kernel
theorem dX12_whose_136 : decode cX12_whose 136 = .ok (.sipush 2270, 3) := by decide +kernel
theorem dX12_whose_139 : decode cX12_whose 139 = .ok (.iload 7, 2) := by decide +kernel
theorem dX12_whose_141 : decode cX12_whose 141 = .ok (.iadd, 1) := by decide +kernel
theorem dX12_whose_142 : decode cX12_whose 142 = .ok (.iaload, 1) := by decide +kernel
theorem dX12_whose_143 : decode cX12_whose 143 = .ok (.goto 5, 3) := by decide +kernel
theorem dX12_whose_146 : decode cX12_whose 146 = .ok (.iload 5, 2) := by decide +kernel
theorem dX12_whose_148 : decode cX12_whose 148 = .ok (.istore 5, 2) := by decide +kernel
theorem dX12_whose_150 : decode cX12_whose 150 = .ok (.iinc 7 1, 3) := by decide +kernel
theorem dX12_whose_153 : decode cX12_whose 153 = .ok (.goto (-87), 3) := by decide +kernel
theorem dX12_whose_156 : decode cX12_whose 156 = .ok (.iinc 6 1, 3) := by decide +kernel
theorem dX12_whose_159 : decode cX12_whose 159 = .ok (.goto (-102), 3) := by decide +kernel
theorem dX12_whose_162 : decode cX12_whose 162 = .ok (.iload 5, 2) := by decide +kernel
theorem dX12_whose_164 : decode cX12_whose 164 = .ok (.ireturn, 1) := by decide +kernel
theorem dX12_used_0 : decode cX12_used 0 = .ok (.aload_n 0, 1) := by decide +kernel
theorem dX12_used_1 : decode cX12_used 1 = .ok (.iload_n 1, 1) := by decide +kernel
theorem dX12_used_2 : decode cX12_used 2 = .ok (.invokevirtual 202, 3) := by decide +kernel
theorem dX12_used_5 : decode cX12_used 5 = .ok (.ifCond .ne 5, 3) := by decide +kernel
theorem dX12_used_8 : decode cX12_used 8 = .ok (.iconst (-1), 1) := by decide +kernel
theorem dX12_used_9 : decode cX12_used 9 = .ok (.ireturn, 1) := by decide +kernel
theorem dX12_used_10 : decode cX12_used 10 = .ok (.iload_n 2, 1) := by decide +kernel
theorem dX12_used_11 : decode cX12_used 11 = .ok (.aload_n 0, 1) := by decide +kernel
theorem dX12_used_12 : decode cX12_used 12 = .ok (.getfield 7, 3) := by decide +kernel
theorem dX12_used_15 : decode cX12_used 15 = .ok (.sipush 2032, 3) := by decide +kernel
theorem dX12_used_18 : decode cX12_used 18 = .ok (.iload_n 1, 1) := by decide +kernel
theorem dX12_used_19 : decode cX12_used 19 = .ok (.iadd, 1) := by decide +kernel
theorem dX12_used_20 : decode cX12_used 20 = .ok (.iaload, 1) := by decide +kernel
theorem dX12_used_21 : decode cX12_used 21 = .ok (.aload_n 0, 1) := by decide +kernel
theorem dX12_used_22 : decode cX12_used 22 = .ok (.getfield 7, 3) := by decide +kernel
theorem dX12_used_25 : decode cX12_used 25 = .ok (.iconst 0, 1) := by decide +kernel
theorem dX12_used_26 : decode cX12_used 26 = .ok (.iaload, 1) := by decide +kernel
theorem dX12_used_27 : decode cX12_used 27 = .ok (.invokestatic 69, 3) := by decide +kernel
theorem dX12_used_30 : decode cX12_used 30 = .ok (.ifCond .ne 6, 3) := by decide +kernel
theorem dX12_used_33 : decode cX12_used 33 = .ok (.bipush (-2), 2) := by decide +kernel
theorem dX12_used_35 : decode cX12_used 35 = .ok (.ireturn, 1) := by decide +kernel
theorem dX12_used_36 : decode cX12_used 36 = .ok (.iconst 0, 1) := by decide +kernel
theorem dX12_used_37 : decode cX12_used 37 = .ok (.istore_n 3, 1) := by decide +kernel
theorem dX12_used_38 : decode cX12_used 38 = .ok (.iload_n 3, 1) := by decide +kernel
theorem dX12_used_39 : decode cX12_used 39 = .ok (.aload_n 0, 1) := by decide +kernel
theorem dX12_used_40 : decode cX12_used 40 = .ok (.getfield 7, 3) := by decide +kernel
theorem dX12_used_43 : decode cX12_used 43 = .ok (.sipush 2040, 3) := by decide +kernel
theorem dX12_used_46 : decode cX12_used 46 = .ok (.iload_n 1, 1) := by decide +kernel
theorem dX12_used_47 : decode cX12_used 47 = .ok (.iadd, 1) := by decide +kernel
theorem dX12_used_48 : decode cX12_used 48 = .ok (.iaload, 1) := by decide +kernel
theorem dX12_used_49 : decode cX12_used 49 = .ok (.if_icmp .ge 31, 3) := by decide +kernel
theorem dX12_used_52 : decode cX12_used 52 = .ok (.aload_n 0, 1) := by decide +kernel
theorem dX12_used_53 : decode cX12_used 53 = .ok (.getfield 7, 3) := by decide +kernel
theorem dX12_used_56 : decode cX12_used 56 = .ok (.sipush 2048, 3) := by decide +kernel
theorem dX12_used_59 : decode cX12_used 59 = .ok (.bipush 20, 2) := by decide +kernel
theorem dX12_used_61 : decode cX12_used 61 = .ok (.iload_n 1, 1) := by decide +kernel
theorem dX12_used_62 : decode cX12_used 62 = .ok (.imul, 1) := by decide +kernel
theorem dX12_used_63 : decode cX12_used 63 = .ok (.iadd, 1) := by decide +kernel
theorem dX12_used_64 : decode cX12_used 64 = .ok (.iload_n 3, 1) := by decide +kernel
theorem dX12_used_65 : decode cX12_used 65 = .ok (.iadd, 1) := by decide +kernel
theorem dX12_used_66 : decode cX12_used 66 = .ok (.iaload, 1) := by decide +kernel
theorem dX12_used_67 : decode cX12_used 67 = .ok (.iload_n 2, 1) := by decide +kernel
theorem dX12_used_68 : decode cX12_used 68 = .ok (.if_icmp .ne 6, 3) := by decide +kernel
theorem dX12_used_71 : decode cX12_used 71 = .ok (.bipush (-3), 2) := by decide +kernel
theorem dX12_used_73 : decode cX12_used 73 = .ok (.ireturn, 1) := by decide +kernel
theorem dX12_used_74 : decode cX12_used 74 = .ok (.iinc 3 1, 3) := by decide +kernel
theorem dX12_used_77 : decode cX12_used 77 = .ok (.goto (-39), 3) := by decide +kernel
theorem dX12_used_80 : decode cX12_used 80 = .ok (.aload_n 0, 1) := by decide +kernel
theorem dX12_used_81 : decode cX12_used 81 = .ok (.getfield 7, 3) := by decide +kernel
theorem dX12_used_84 : decode cX12_used 84 = .ok (.sipush 2040, 3) := by decide +kernel
theorem dX12_used_87 : decode cX12_used 87 = .ok (.iload_n 1, 1) := by decide +kernel
theorem dX12_used_88 : decode cX12_used 88 = .ok (.iadd, 1) := by decide +kernel
theorem dX12_used_89 : decode cX12_used 89 = .ok (.iaload, 1) := by decide +kernel
theorem dX12_used_90 : decode cX12_used 90 = .ok (.bipush 20, 2) := by decide +kernel
theorem dX12_used_92 : decode cX12_used 92 = .ok (.if_icmp .ne 6, 3) := by decide +kernel
theorem dX12_used_95 : decode cX12_used 95 = .ok (.bipush (-4), 2) := by decide +kernel
theorem dX12_used_97 : decode cX12_used 97 = .ok (.ireturn, 1) := by decide +kernel
theorem dX12_used_98 : decode cX12_used 98 = .ok (.aload_n 0, 1) := by decide +kernel
theorem dX12_used_99 : decode cX12_used 99 = .ok (.getfield 7, 3) := by decide +kernel
theorem dX12_used_102 : decode cX12_used 102 = .ok (.sipush 2048, 3) := by decide +kernel
theorem dX12_used_105 : decode cX12_used 105 = .ok (.bipush 20, 2) := by decide +kernel
theorem dX12_used_107 : decode cX12_used 107 = .ok (.iload_n 1, 1) := by decide +kernel
theorem dX12_used_108 : decode cX12_used 108 = .ok (.imul, 1) := by decide +kernel
theorem dX12_used_109 : decode cX12_used 109 = .ok (.iadd, 1) := by decide +kernel
theorem dX12_used_110 : decode cX12_used 110 = .ok (.aload_n 0, 1) := by decide +kernel
theorem dX12_used_111 : decode cX12_used 111 = .ok (.getfield 7, 3) := by decide +kernel
theorem dX12_used_114 : decode cX12_used 114 = .ok (.sipush 2040, 3) := by decide +kernel
theorem dX12_used_117 : decode cX12_used 117 = .ok (.iload_n 1, 1) := by decide +kernel
theorem dX12_used_118 : decode cX12_used 118 = .ok (.iadd, 1) := by decide +kernel
theorem dX12_used_119 : decode cX12_used 119 = .ok (.iaload, 1) := by decide +kernel
theorem dX12_used_120 : decode cX12_used 120 = .ok (.iadd, 1) := by decide +kernel
theorem dX12_used_121 : decode cX12_used 121 = .ok (.iload_n 2, 1) := by decide +kernel
theorem dX12_used_122 : decode cX12_used 122 = .ok (.iastore, 1) := by decide +kernel
theorem dX12_used_123 : decode cX12_used 123 = .ok (.aload_n 0, 1) := by decide +kernel
theorem dX12_used_124 : decode cX12_used 124 = .ok (.getfield 7, 3) := by decide +kernel
theorem dX12_used_127 : decode cX12_used 127 = .ok (.sipush 2040, 3) := by decide +kernel
theorem dX12_used_130 : decode cX12_used 130 = .ok (.iload_n 1, 1) := by decide +kernel
theorem dX12_used_131 : decode cX12_used 131 = .ok (.iadd, 1) := by decide +kernel
theorem dX12_used_132 : decode cX12_used 132 = .ok (.dup2, 1) := by decide +kernel
theorem dX12_used_133 : decode cX12_used 133 = .ok (.iaload, 1) := by decide +kernel
theorem dX12_used_134 : decode cX12_used 134 = .ok (.iconst 1, 1) := by decide +kernel
theorem dX12_used_135 : decode cX12_used 135 = .ok (.iadd, 1) := by decide +kernel
theorem dX12_used_136 : decode cX12_used 136 = .ok (.iastore, 1) := by decide +kernel
theorem dX12_used_137 : decode cX12_used 137 = .ok (.aload_n 0, 1) := by decide +kernel
theorem dX12_used_138 : decode cX12_used 138 = .ok (.getfield 7, 3) := by decide +kernel
theorem dX12_used_141 : decode cX12_used 141 = .ok (.sipush 2040, 3) := by decide +kernel
theorem dX12_used_144 : decode cX12_used 144 = .ok (.iload_n 1, 1) := by decide +kernel
theorem dX12_used_145 : decode cX12_used 145 = .ok (.iadd, 1) := by decide +kernel
theorem dX12_used_146 : decode cX12_used 146 = .ok (.iaload, 1) := by decide +kernel
theorem dX12_used_147 : decode cX12_used 147 = .ok (.ireturn, 1) := by decide +kernel
theorem dX12_lapsed_0 : decode cX12_lapsed 0 = .ok (.aload_n 0, 1) := by decide +kernel
theorem dX12_lapsed_1 : decode cX12_lapsed 1 = .ok (.iload_n 1, 1) := by decide +kernel
theorem dX12_lapsed_2 : decode cX12_lapsed 2 = .ok (.invokevirtual 202, 3) := by decide +kernel
theorem dX12_lapsed_5 : decode cX12_lapsed 5 = .ok (.ifCond .ne 5, 3) := by decide +kernel
theorem dX12_lapsed_8 : decode cX12_lapsed 8 = .ok (.iconst (-1), 1) := by decide +kernel
theorem dX12_lapsed_9 : decode cX12_lapsed 9 = .ok (.ireturn, 1) := by decide +kernel
theorem dX12_lapsed_10 : decode cX12_lapsed 10 = .ok (.iload_n 2, 1) := by decide +kernel
theorem dX12_lapsed_11 : decode cX12_lapsed 11 = .ok (.invokestatic 186, 3) := by decide +kernel
theorem dX12_lapsed_14 : decode cX12_lapsed 14 = .ok (.ifCond .ne 6, 3) := by decide +kernel
theorem dX12_lapsed_17 : decode cX12_lapsed 17 = .ok (.bipush (-2), 2) := by decide +kernel
theorem dX12_lapsed_19 : decode cX12_lapsed 19 = .ok (.ireturn, 1) := by decide +kernel
theorem dX12_lapsed_20 : decode cX12_lapsed 20 = .ok (.aload_n 0, 1) := by decide +kernel
theorem dX12_lapsed_21 : decode cX12_lapsed 21 = .ok (.getfield 7, 3) := by decide +kernel
theorem dX12_lapsed_24 : decode cX12_lapsed 24 = .ok (.sipush 2032, 3) := by decide +kernel
theorem dX12_lapsed_27 : decode cX12_lapsed 27 = .ok (.iload_n 1, 1) := by decide +kernel
theorem dX12_lapsed_28 : decode cX12_lapsed 28 = .ok (.iadd, 1) := by decide +kernel
theorem dX12_lapsed_29 : decode cX12_lapsed 29 = .ok (.iaload, 1) := by decide +kernel
theorem dX12_lapsed_30 : decode cX12_lapsed 30 = .ok (.istore_n 3, 1) := by decide +kernel
theorem dX12_lapsed_31 : decode cX12_lapsed 31 = .ok (.iconst 0, 1) := by decide +kernel
theorem dX12_lapsed_32 : decode cX12_lapsed 32 = .ok (.istore 4, 2) := by decide +kernel
theorem dX12_lapsed_34 : decode cX12_lapsed 34 = .ok (.iload 4, 2) := by decide +kernel
theorem dX12_lapsed_36 : decode cX12_lapsed 36 = .ok (.aload_n 0, 1) := by decide +kernel
theorem dX12_lapsed_37 : decode cX12_lapsed 37 = .ok (.getfield 7, 3) := by decide +kernel
theorem dX12_lapsed_40 : decode cX12_lapsed 40 = .ok (.sipush 2040, 3) := by decide +kernel
theorem dX12_lapsed_43 : decode cX12_lapsed 43 = .ok (.iload_n 1, 1) := by decide +kernel
theorem dX12_lapsed_44 : decode cX12_lapsed 44 = .ok (.iadd, 1) := by decide +kernel
theorem dX12_lapsed_45 : decode cX12_lapsed 45 = .ok (.iaload, 1) := by decide +kernel
theorem dX12_lapsed_46 : decode cX12_lapsed 46 = .ok (.if_icmp .ge 46, 3) := by decide +kernel
theorem dX12_lapsed_49 : decode cX12_lapsed 49 = .ok (.aload_n 0, 1) := by decide +kernel
theorem dX12_lapsed_50 : decode cX12_lapsed 50 = .ok (.getfield 7, 3) := by decide +kernel
theorem dX12_lapsed_53 : decode cX12_lapsed 53 = .ok (.sipush 2048, 3) := by decide +kernel
theorem dX12_lapsed_56 : decode cX12_lapsed 56 = .ok (.bipush 20, 2) := by decide +kernel
theorem dX12_lapsed_58 : decode cX12_lapsed 58 = .ok (.iload_n 1, 1) := by decide +kernel
theorem dX12_lapsed_59 : decode cX12_lapsed 59 = .ok (.imul, 1) := by decide +kernel
theorem dX12_lapsed_60 : decode cX12_lapsed 60 = .ok (.iadd, 1) := by decide +kernel
theorem dX12_lapsed_61 : decode cX12_lapsed 61 = .ok (.iload 4, 2) := by decide +kernel
theorem dX12_lapsed_63 : decode cX12_lapsed 63 = .ok (.iadd, 1) := by decide +kernel
theorem dX12_lapsed_64 : decode cX12_lapsed 64 = .ok (.iaload, 1) := by decide +kernel
theorem dX12_lapsed_65 : decode cX12_lapsed 65 = .ok (.istore 5, 2) := by decide +kernel
theorem dX12_lapsed_67 : decode cX12_lapsed 67 = .ok (.iload 5, 2) := by decide +kernel
theorem dX12_lapsed_69 : decode cX12_lapsed 69 = .ok (.iload_n 2, 1) := by decide +kernel
theorem dX12_lapsed_70 : decode cX12_lapsed 70 = .ok (.if_icmp .gt 14, 3) := by decide +kernel
theorem dX12_lapsed_73 : decode cX12_lapsed 73 = .ok (.iload 5, 2) := by decide +kernel
theorem dX12_lapsed_75 : decode cX12_lapsed 75 = .ok (.iload_n 3, 1) := by decide +kernel
theorem dX12_lapsed_76 : decode cX12_lapsed 76 = .ok (.if_icmp .le 8, 3) := by decide +kernel
theorem dX12_lapsed_79 : decode cX12_lapsed 79 = .ok (.iload 5, 2) := by decide +kernel
theorem dX12_lapsed_81 : decode cX12_lapsed 81 = .ok (.goto 4, 3) := by decide +kernel
theorem dX12_lapsed_84 : decode cX12_lapsed 84 = .ok (.iload_n 3, 1) := by decide +kernel
theorem dX12_lapsed_85 : decode cX12_lapsed 85 = .ok (.istore_n 3, 1) := by decide +kernel
theorem dX12_lapsed_86 : decode cX12_lapsed 86 = .ok (.iinc 4 1, 3) := by decide +kernel
theorem dX12_lapsed_89 : decode cX12_lapsed 89 = .ok (.goto (-55), 3) := by decide +kernel
theorem dX12_lapsed_92 : decode cX12_lapsed 92 = .ok (.iload_n 2, 1) := by decide +kernel
theorem dX12_lapsed_93 : decode cX12_lapsed 93 = .ok (.iload_n 3, 1) := by decide +kernel
theorem dX12_lapsed_94 : decode cX12_lapsed 94 = .ok (.isub, 1) := by decide +kernel
theorem dX12_lapsed_95 : decode cX12_lapsed 95 = .ok (.aload_n 0, 1) := by decide +kernel
theorem dX12_lapsed_96 : decode cX12_lapsed 96 = .ok (.iconst 3, 1) := by decide +kernel
theorem dX12_lapsed_97 : decode cX12_lapsed 97 = .ok (.iload_n 2, 1) := by decide +kernel
theorem dX12_lapsed_98 : decode cX12_lapsed 98 = .ok (.invokevirtual 81, 3) := by decide +kernel
theorem dX12_lapsed_101 : decode cX12_lapsed 101 = .ok (.if_icmp .le 7, 3) := by decide +kernel
theorem dX12_lapsed_104 : decode cX12_lapsed 104 = .ok (.iconst 1, 1) := by decide +kernel
theorem dX12_lapsed_105 : decode cX12_lapsed 105 = .ok (.goto 4, 3) := by decide +kernel
theorem dX12_lapsed_108 : decode cX12_lapsed 108 = .ok (.iconst 0, 1) := by decide +kernel
theorem dX12_lapsed_109 : decode cX12_lapsed 109 = .ok (.ireturn, 1) := by decide +kernel
theorem dX12_without_0 : decode cX12_without 0 = .ok (.iload_n 1, 1) := by decide +kernel
theorem dX12_without_1 : decode cX12_without 1 = .ok (.istore_n 2, 1) := by decide +kernel
theorem dX12_without_2 : decode cX12_without 2 = .ok (.iconst 0, 1) := by decide +kernel
theorem dX12_without_3 : decode cX12_without 3 = .ok (.istore_n 3, 1) := by decide +kernel
theorem dX12_without_4 : decode cX12_without 4 = .ok (.iconst 1, 1) := by decide +kernel
theorem dX12_without_5 : decode cX12_without 5 = .ok (.istore 4, 2) := by decide +kernel
theorem dX12_without_7 : decode cX12_without 7 = .ok (.iconst 0, 1) := by decide +kernel
theorem dX12_without_8 : decode cX12_without 8 = .ok (.istore 5, 2) := by decide +kernel
theorem dX12_without_10 : decode cX12_without 10 = .ok (.iload 5, 2) := by decide +kernel
theorem dX12_without_12 : decode cX12_without 12 = .ok (.iconst 4, 1) := by decide +kernel
theorem dX12_without_13 : decode cX12_without 13 = .ok (.if_icmp .ge 50, 3) := by decide +kernel
theorem dX12_without_16 : decode cX12_without 16 = .ok (.iload_n 2, 1) := by decide +kernel
theorem dX12_without_17 : decode cX12_without 17 = .ok (.bipush 7, 2) := by decide +kernel
theorem dX12_without_19 : decode cX12_without 19 = .ok (.irem, 1) := by decide +kernel
theorem dX12_without_20 : decode cX12_without 20 = .ok (.aload_n 0, 1) := by decide +kernel
theorem dX12_without_21 : decode cX12_without 21 = .ok (.getfield 50, 3) := by decide +kernel
theorem dX12_without_24 : decode cX12_without 24 = .ok (.iload 5, 2) := by decide +kernel
theorem dX12_without_26 : decode cX12_without 26 = .ok (.iaload, 1) := by decide +kernel
theorem dX12_without_27 : decode cX12_without 27 = .ok (.isub, 1) := by decide +kernel
theorem dX12_without_28 : decode cX12_without 28 = .ok (.istore 6, 2) := by decide +kernel
theorem dX12_without_30 : decode cX12_without 30 = .ok (.iload 6, 2) := by decide +kernel
theorem dX12_without_32 : decode cX12_without 32 = .ok (.ifCond .ge 5, 3) := by decide +kernel
theorem dX12_without_35 : decode cX12_without 35 = .ok (.iconst (-1), 1) := by decide +kernel
theorem dX12_without_36 : decode cX12_without 36 = .ok (.ireturn, 1) := by decide +kernel
theorem dX12_without_37 : decode cX12_without 37 = .ok (.iload_n 3, 1) := by decide +kernel
theorem dX12_without_38 : decode cX12_without 38 = .ok (.iload 4, 2) := by decide +kernel
theorem dX12_without_40 : decode cX12_without 40 = .ok (.iload 6, 2) := by decide +kernel
theorem dX12_without_42 : decode cX12_without 42 = .ok (.imul, 1) := by decide +kernel
theorem dX12_without_43 : decode cX12_without 43 = .ok (.iadd, 1) := by decide +kernel
theorem dX12_without_44 : decode cX12_without 44 = .ok (.istore_n 3, 1) := by decide +kernel
theorem dX12_without_45 : decode cX12_without 45 = .ok (.iload 4, 2) := by decide +kernel
theorem dX12_without_47 : decode cX12_without 47 = .ok (.bipush 7, 2) := by decide +kernel
theorem dX12_without_49 : decode cX12_without 49 = .ok (.imul, 1) := by decide +kernel
theorem dX12_without_50 : decode cX12_without 50 = .ok (.istore 4, 2) := by decide +kernel
theorem dX12_without_52 : decode cX12_without 52 = .ok (.iload_n 2, 1) := by decide +kernel
theorem dX12_without_53 : decode cX12_without 53 = .ok (.bipush 7, 2) := by decide +kernel
theorem dX12_without_55 : decode cX12_without 55 = .ok (.idiv, 1) := by decide +kernel
theorem dX12_without_56 : decode cX12_without 56 = .ok (.istore_n 2, 1) := by decide +kernel
theorem dX12_without_57 : decode cX12_without 57 = .ok (.iinc 5 1, 3) := by decide +kernel
theorem dX12_without_60 : decode cX12_without 60 = .ok (.goto (-50), 3) := by decide +kernel
theorem dX12_without_63 : decode cX12_without 63 = .ok (.iload_n 3, 1) := by decide +kernel
theorem dX12_without_64 : decode cX12_without 64 = .ok (.ireturn, 1) := by decide +kernel
theorem dX12_isWarm_0 : decode cX12_isWarm 0 = .ok (.iconst 0, 1) := by decide +kernel
theorem dX12_isWarm_1 : decode cX12_isWarm 1 = .ok (.istore_n 3, 1) := by decide +kernel
theorem dX12_isWarm_2 : decode cX12_isWarm 2 = .ok (.iconst 0, 1) := by decide +kernel
theorem dX12_isWarm_3 : decode cX12_isWarm 3 = .ok (.istore 4, 2) := by decide +kernel
theorem dX12_isWarm_5 : decode cX12_isWarm 5 = .ok (.iload 4, 2) := by decide +kernel
theorem dX12_isWarm_7 : decode cX12_isWarm 7 = .ok (.iconst 4, 1) := by decide +kernel
theorem dX12_isWarm_8 : decode cX12_isWarm 8 = .ok (.if_icmp .ge 42, 3) := by decide +kernel
theorem dX12_isWarm_11 : decode cX12_isWarm 11 = .ok (.iload_n 3, 1) := by decide +kernel
theorem dX12_isWarm_12 : decode cX12_isWarm 12 = .ok (.aload_n 0, 1) := by decide +kernel
theorem dX12_isWarm_13 : decode cX12_isWarm 13 = .ok (.getfield 50, 3) := by decide +kernel
theorem dX12_isWarm_16 : decode cX12_isWarm 16 = .ok (.iload 4, 2) := by decide +kernel
theorem dX12_isWarm_18 : decode cX12_isWarm 18 = .ok (.iaload, 1) := by decide +kernel
theorem dX12_isWarm_19 : decode cX12_isWarm 19 = .ok (.ifCond .le 22, 3) := by decide +kernel
theorem dX12_isWarm_22 : decode cX12_isWarm 22 = .ok (.aload_n 0, 1) := by decide +kernel
theorem dX12_isWarm_23 : decode cX12_isWarm 23 = .ok (.getfield 50, 3) := by decide +kernel
theorem dX12_isWarm_26 : decode cX12_isWarm 26 = .ok (.iload 4, 2) := by decide +kernel
theorem dX12_isWarm_28 : decode cX12_isWarm 28 = .ok (.iaload, 1) := by decide +kernel
theorem dX12_isWarm_29 : decode cX12_isWarm 29 = .ok (.aload_n 0, 1) := by decide +kernel
theorem dX12_isWarm_30 : decode cX12_isWarm 30 = .ok (.iload 4, 2) := by decide +kernel
theorem dX12_isWarm_32 : decode cX12_isWarm 32 = .ok (.iload_n 2, 1) := by decide +kernel
theorem dX12_isWarm_33 : decode cX12_isWarm 33 = .ok (.iconst 3, 1) := by decide +kernel
theorem dX12_isWarm_34 : decode cX12_isWarm 34 = .ok (.invokevirtual 110, 3) := by decide +kernel
theorem dX12_isWarm_37 : decode cX12_isWarm 37 = .ok (.imul, 1) := by decide +kernel
theorem dX12_isWarm_38 : decode cX12_isWarm 38 = .ok (.goto 4, 3) := by decide +kernel
theorem dX12_isWarm_41 : decode cX12_isWarm 41 = .ok (.iconst 0, 1) := by decide +kernel
theorem dX12_isWarm_42 : decode cX12_isWarm 42 = .ok (.iadd, 1) := by decide +kernel
theorem dX12_isWarm_43 : decode cX12_isWarm 43 = .ok (.istore_n 3, 1) := by decide +kernel
theorem dX12_isWarm_44 : decode cX12_isWarm 44 = .ok (.iinc 4 1, 3) := by decide +kernel
theorem dX12_isWarm_47 : decode cX12_isWarm 47 = .ok (.goto (-42), 3) := by decide +kernel
theorem dX12_isWarm_50 : decode cX12_isWarm 50 = .ok (.iload_n 3, 1) := by decide +kernel
theorem dX12_isWarm_51 : decode cX12_isWarm 51 = .ok (.aload_n 0, 1) := by decide +kernel
theorem dX12_isWarm_52 : decode cX12_isWarm 52 = .ok (.getfield 7, 3) := by decide +kernel
theorem dX12_isWarm_55 : decode cX12_isWarm 55 = .ok (.sipush 2016, 3) := by decide +kernel
theorem dX12_isWarm_58 : decode cX12_isWarm 58 = .ok (.iload_n 1, 1) := by decide +kernel
theorem dX12_isWarm_59 : decode cX12_isWarm 59 = .ok (.iadd, 1) := by decide +kernel
theorem dX12_isWarm_60 : decode cX12_isWarm 60 = .ok (.iaload, 1) := by decide +kernel
theorem dX12_isWarm_61 : decode cX12_isWarm 61 = .ok (.aload_n 0, 1) := by decide +kernel
theorem dX12_isWarm_62 : decode cX12_isWarm 62 = .ok (.iload_n 1, 1) := by decide +kernel
theorem dX12_isWarm_63 : decode cX12_isWarm 63 = .ok (.invokevirtual 208, 3) := by decide +kernel
theorem dX12_isWarm_66 : decode cX12_isWarm 66 = .ok (.imul, 1) := by decide +kernel
theorem dX12_isWarm_67 : decode cX12_isWarm 67 = .ok (.if_icmp .lt 7, 3) := by decide +kernel
theorem dX12_isWarm_70 : decode cX12_isWarm 70 = .ok (.iconst 1, 1) := by decide +kernel
theorem dX12_isWarm_71 : decode cX12_isWarm 71 = .ok (.goto 4, 3) := by decide +kernel
theorem dX12_isWarm_74 : decode cX12_isWarm 74 = .ok (.iconst 0, 1) := by decide +kernel
theorem dX12_isWarm_75 : decode cX12_isWarm 75 = .ok (.ireturn, 1) := by decide +kernel
theorem dX12_serves_0 : decode cX12_serves 0 = .ok (.iconst 0, 1) := by decide +kernel
theorem dX12_serves_1 : decode cX12_serves 1 = .ok (.istore_n 3, 1) := by decide +kernel
theorem dX12_serves_2 : decode cX12_serves 2 = .ok (.iconst 0, 1) := by decide +kernel
theorem dX12_serves_3 : decode cX12_serves 3 = .ok (.istore 4, 2) := by decide +kernel
theorem dX12_serves_5 : decode cX12_serves 5 = .ok (.iload 4, 2) := by decide +kernel
theorem dX12_serves_7 : decode cX12_serves 7 = .ok (.sipush 2401, 3) := by decide +kernel
theorem dX12_serves_10 : decode cX12_serves 10 = .ok (.if_icmp .ge 17, 3) := by decide +kernel
theorem dX12_serves_13 : decode cX12_serves 13 = .ok (.aload_n 0, 1) := by decide +kernel
theorem dX12_serves_14 : decode cX12_serves 14 = .ok (.getfield 44, 3) := by decide +kernel
theorem dX12_serves_17 : decode cX12_serves 17 = .ok (.iload 4, 2) := by decide +kernel
theorem dX12_serves_19 : decode cX12_serves 19 = .ok (.iconst 0, 1) := by decide +kernel
theorem dX12_serves_20 : decode cX12_serves 20 = .ok (.bastore, 1) := by decide +kernel
theorem dX12_serves_21 : decode cX12_serves 21 = .ok (.iinc 4 1, 3) := by decide +kernel
theorem dX12_serves_24 : decode cX12_serves 24 = .ok (.goto (-19), 3) := by decide +kernel
theorem dX12_serves_27 : decode cX12_serves 27 = .ok (.aload_n 0, 1) := by decide +kernel
theorem dX12_serves_28 : decode cX12_serves 28 = .ok (.getfield 7, 3) := by decide +kernel
theorem dX12_serves_31 : decode cX12_serves 31 = .ok (.sipush 2016, 3) := by decide +kernel
theorem dX12_serves_34 : decode cX12_serves 34 = .ok (.iload_n 1, 1) := by decide +kernel
theorem dX12_serves_35 : decode cX12_serves 35 = .ok (.iadd, 1) := by decide +kernel
theorem dX12_serves_36 : decode cX12_serves 36 = .ok (.iaload, 1) := by decide +kernel
theorem dX12_serves_37 : decode cX12_serves 37 = .ok (.istore 4, 2) := by decide +kernel
theorem dX12_serves_39 : decode cX12_serves 39 = .ok (.iconst 0, 1) := by decide +kernel
theorem dX12_serves_40 : decode cX12_serves 40 = .ok (.istore 5, 2) := by decide +kernel
theorem dX12_serves_42 : decode cX12_serves 42 = .ok (.iload 5, 2) := by decide +kernel
theorem dX12_serves_44 : decode cX12_serves 44 = .ok (.sipush 625, 3) := by decide +kernel
theorem dX12_serves_47 : decode cX12_serves 47 = .ok (.if_icmp .ge 187, 3) := by decide +kernel
theorem dX12_serves_50 : decode cX12_serves 50 = .ok (.iconst 0, 1) := by decide +kernel
theorem dX12_serves_51 : decode cX12_serves 51 = .ok (.istore 6, 2) := by decide +kernel
theorem dX12_serves_53 : decode cX12_serves 53 = .ok (.iload 5, 2) := by decide +kernel
theorem dX12_serves_55 : decode cX12_serves 55 = .ok (.istore 7, 2) := by decide +kernel
theorem dX12_serves_57 : decode cX12_serves 57 = .ok (.iconst 0, 1) := by decide +kernel
theorem dX12_serves_58 : decode cX12_serves 58 = .ok (.istore 8, 2) := by decide +kernel
theorem dX12_serves_60 : decode cX12_serves 60 = .ok (.iload 8, 2) := by decide +kernel
theorem dX12_serves_62 : decode cX12_serves 62 = .ok (.iconst 4, 1) := by decide +kernel
theorem dX12_serves_63 : decode cX12_serves 63 = .ok (.if_icmp .ge 38, 3) := by decide +kernel
theorem dX12_serves_66 : decode cX12_serves 66 = .ok (.aload_n 0, 1) := by decide +kernel
theorem dX12_serves_67 : decode cX12_serves 67 = .ok (.getfield 50, 3) := by decide +kernel
theorem dX12_serves_70 : decode cX12_serves 70 = .ok (.iload 8, 2) := by decide +kernel
theorem dX12_serves_72 : decode cX12_serves 72 = .ok (.iload 7, 2) := by decide +kernel
theorem dX12_serves_74 : decode cX12_serves 74 = .ok (.iconst 5, 1) := by decide +kernel
theorem dX12_serves_75 : decode cX12_serves 75 = .ok (.irem, 1) := by decide +kernel
theorem dX12_serves_76 : decode cX12_serves 76 = .ok (.iastore, 1) := by decide +kernel
theorem dX12_serves_77 : decode cX12_serves 77 = .ok (.iload 6, 2) := by decide +kernel
theorem dX12_serves_79 : decode cX12_serves 79 = .ok (.aload_n 0, 1) := by decide +kernel
theorem dX12_serves_80 : decode cX12_serves 80 = .ok (.getfield 50, 3) := by decide +kernel
theorem dX12_serves_83 : decode cX12_serves 83 = .ok (.iload 8, 2) := by decide +kernel
theorem dX12_serves_85 : decode cX12_serves 85 = .ok (.iaload, 1) := by decide +kernel
theorem dX12_serves_86 : decode cX12_serves 86 = .ok (.iadd, 1) := by decide +kernel
theorem dX12_serves_87 : decode cX12_serves 87 = .ok (.istore 6, 2) := by decide +kernel
theorem dX12_serves_89 : decode cX12_serves 89 = .ok (.iload 7, 2) := by decide +kernel
theorem dX12_serves_91 : decode cX12_serves 91 = .ok (.iconst 5, 1) := by decide +kernel
theorem dX12_serves_92 : decode cX12_serves 92 = .ok (.idiv, 1) := by decide +kernel
theorem dX12_serves_93 : decode cX12_serves 93 = .ok (.istore 7, 2) := by decide +kernel
theorem dX12_serves_95 : decode cX12_serves 95 = .ok (.iinc 8 1, 3) := by decide +kernel
theorem dX12_serves_98 : decode cX12_serves 98 = .ok (.goto (-38), 3) := by decide +kernel
theorem dX12_serves_101 : decode cX12_serves 101 = .ok (.iload 6, 2) := by decide +kernel
theorem dX12_serves_103 : decode cX12_serves 103 = .ok (.iload 4, 2) := by decide +kernel
theorem dX12_serves_105 : decode cX12_serves 105 = .ok (.if_icmp .ne 7, 3) := by decide +kernel
theorem dX12_serves_108 : decode cX12_serves 108 = .ok (.iconst 1, 1) := by decide +kernel
theorem dX12_serves_109 : decode cX12_serves 109 = .ok (.goto 4, 3) := by decide +kernel
theorem dX12_serves_112 : decode cX12_serves 112 = .ok (.iconst 0, 1) := by decide +kernel
theorem dX12_serves_113 : decode cX12_serves 113 = .ok (.istore 8, 2) := by decide +kernel
theorem dX12_serves_115 : decode cX12_serves 115 = .ok (.iconst 0, 1) := by decide +kernel
theorem dX12_serves_116 : decode cX12_serves 116 = .ok (.istore 9, 2) := by decide +kernel
theorem dX12_serves_118 : decode cX12_serves 118 = .ok (.iload 9, 2) := by decide +kernel
theorem dX12_serves_120 : decode cX12_serves 120 = .ok (.iconst 4, 1) := by decide +kernel
theorem dX12_serves_121 : decode cX12_serves 121 = .ok (.if_icmp .ge 38, 3) := by decide +kernel
theorem dX12_serves_124 : decode cX12_serves 124 = .ok (.iload 8, 2) := by decide +kernel
theorem dX12_serves_126 : decode cX12_serves 126 = .ok (.ifCond .eq 24, 3) := by decide +kernel
theorem dX12_serves_129 : decode cX12_serves 129 = .ok (.aload_n 0, 1) := by decide +kernel
theorem dX12_serves_130 : decode cX12_serves 130 = .ok (.getfield 50, 3) := by decide +kernel
theorem dX12_serves_133 : decode cX12_serves 133 = .ok (.iload 9, 2) := by decide +kernel
theorem dX12_serves_135 : decode cX12_serves 135 = .ok (.iaload, 1) := by decide +kernel
theorem dX12_serves_136 : decode cX12_serves 136 = .ok (.aload_n 0, 1) := by decide +kernel
theorem dX12_serves_137 : decode cX12_serves 137 = .ok (.getfield 47, 3) := by decide +kernel
theorem dX12_serves_140 : decode cX12_serves 140 = .ok (.iload 9, 2) := by decide +kernel
theorem dX12_serves_142 : decode cX12_serves 142 = .ok (.iaload, 1) := by decide +kernel
theorem dX12_serves_143 : decode cX12_serves 143 = .ok (.if_icmp .gt 7, 3) := by decide +kernel
theorem dX12_serves_146 : decode cX12_serves 146 = .ok (.iconst 1, 1) := by decide +kernel
theorem dX12_serves_147 : decode cX12_serves 147 = .ok (.goto 4, 3) := by decide +kernel
theorem dX12_serves_150 : decode cX12_serves 150 = .ok (.iconst 0, 1) := by decide +kernel
theorem dX12_serves_151 : decode cX12_serves 151 = .ok (.istore 8, 2) := by decide +kernel
theorem dX12_serves_153 : decode cX12_serves 153 = .ok (.iinc 9 1, 3) := by decide +kernel
theorem dX12_serves_156 : decode cX12_serves 156 = .ok (.goto (-38), 3) := by decide +kernel
theorem dX12_serves_159 : decode cX12_serves 159 = .ok (.iload 8, 2) := by decide +kernel
theorem dX12_serves_161 : decode cX12_serves 161 = .ok (.ifCond .eq 67, 3) := by decide +kernel
theorem dX12_serves_164 : decode cX12_serves 164 = .ok (.aload_n 0, 1) := by decide +kernel
theorem dX12_serves_165 : decode cX12_serves 165 = .ok (.iload_n 1, 1) := by decide +kernel
theorem dX12_serves_166 : decode cX12_serves 166 = .ok (.iload_n 2, 1) := by decide +kernel
theorem dX12_serves_167 : decode cX12_serves 167 = .ok (.invokevirtual 217, 3) := by decide +kernel
theorem dX12_serves_170 : decode cX12_serves 170 = .ok (.ifCond .eq 58, 3) := by decide +kernel
theorem dX12_serves_173 : decode cX12_serves 173 = .ok (.iconst 0, 1) := by decide +kernel
theorem dX12_serves_174 : decode cX12_serves 174 = .ok (.istore 9, 2) := by decide +kernel
theorem dX12_serves_176 : decode cX12_serves 176 = .ok (.iload 9, 2) := by decide +kernel
theorem dX12_serves_178 : decode cX12_serves 178 = .ok (.sipush 2401, 3) := by decide +kernel
theorem dX12_serves_181 : decode cX12_serves 181 = .ok (.if_icmp .ge 47, 3) := by decide +kernel
theorem dX12_serves_184 : decode cX12_serves 184 = .ok (.aload_n 0, 1) := by decide +kernel
theorem dX12_serves_185 : decode cX12_serves 185 = .ok (.getfield 40, 3) := by decide +kernel
theorem dX12_serves_188 : decode cX12_serves 188 = .ok (.iload 9, 2) := by decide +kernel
theorem dX12_serves_190 : decode cX12_serves 190 = .ok (.baload, 1) := by decide +kernel
theorem dX12_serves_191 : decode cX12_serves 191 = .ok (.ifCond .eq 12, 3) := by decide +kernel
theorem dX12_serves_194 : decode cX12_serves 194 = .ok (.aload_n 0, 1) := by decide +kernel
theorem dX12_serves_195 : decode cX12_serves 195 = .ok (.iload 9, 2) := by decide +kernel
theorem dX12_serves_197 : decode cX12_serves 197 = .ok (.invokevirtual 220, 3) := by decide +kernel
theorem dX12_serves_200 : decode cX12_serves 200 = .ok (.goto 4, 3) := by decide +kernel
theorem dX12_serves_203 : decode cX12_serves 203 = .ok (.iconst (-1), 1) := by decide +kernel
theorem dX12_serves_204 : decode cX12_serves 204 = .ok (.istore 10, 2) := by decide +kernel
theorem dX12_serves_206 : decode cX12_serves 206 = .ok (.iload 10, 2) := by decide +kernel
theorem dX12_serves_208 : decode cX12_serves 208 = .ok (.iconst (-1), 1) := by decide +kernel
theorem dX12_serves_209 : decode cX12_serves 209 = .ok (.if_icmp .eq 13, 3) := by decide +kernel
theorem dX12_serves_212 : decode cX12_serves 212 = .ok (.aload_n 0, 1) := by decide +kernel
theorem dX12_serves_213 : decode cX12_serves 213 = .ok (.getfield 44, 3) := by decide +kernel
theorem dX12_serves_216 : decode cX12_serves 216 = .ok (.iload 10, 2) := by decide +kernel
theorem dX12_serves_218 : decode cX12_serves 218 = .ok (.iconst 1, 1) := by decide +kernel
theorem dX12_serves_219 : decode cX12_serves 219 = .ok (.bastore, 1) := by decide +kernel
theorem dX12_serves_220 : decode cX12_serves 220 = .ok (.iconst 1, 1) := by decide +kernel
theorem dX12_serves_221 : decode cX12_serves 221 = .ok (.istore_n 3, 1) := by decide +kernel
theorem dX12_serves_222 : decode cX12_serves 222 = .ok (.iinc 9 1, 3) := by decide +kernel
theorem dX12_serves_225 : decode cX12_serves 225 = .ok (.goto (-49), 3) := by decide +kernel
theorem dX12_serves_228 : decode cX12_serves 228 = .ok (.iinc 5 1, 3) := by decide +kernel
theorem dX12_serves_231 : decode cX12_serves 231 = .ok (.goto (-189), 3) := by decide +kernel
theorem dX12_serves_234 : decode cX12_serves 234 = .ok (.iconst 0, 1) := by decide +kernel
theorem dX12_serves_235 : decode cX12_serves 235 = .ok (.istore 5, 2) := by decide +kernel
theorem dX12_serves_237 : decode cX12_serves 237 = .ok (.iload 5, 2) := by decide +kernel
theorem dX12_serves_239 : decode cX12_serves 239 = .ok (.sipush 2401, 3) := by decide +kernel
theorem dX12_serves_242 : decode cX12_serves 242 = .ok (.if_icmp .ge 27, 3) := by decide +kernel
theorem dX12_serves_245 : decode cX12_serves 245 = .ok (.iload_n 3, 1) := by decide +kernel
theorem dX12_serves_246 : decode cX12_serves 246 = .ok (.ifCond .eq 23, 3) := by decide +kernel
theorem dX12_serves_249 : decode cX12_serves 249 = .ok (.aload_n 0, 1) := by decide +kernel
theorem dX12_serves_250 : decode cX12_serves 250 = .ok (.getfield 40, 3) := by decide +kernel
theorem dX12_serves_253 : decode cX12_serves 253 = .ok (.iload 5, 2) := by decide +kernel
theorem dX12_serves_255 : decode cX12_serves 255 = .ok (.aload_n 0, 1) := by decide +kernel
theorem dX12_serves_256 : decode cX12_serves 256 = .ok (.getfield 44, 3) := by decide +kernel
theorem dX12_serves_259 : decode cX12_serves 259 = .ok (.iload 5, 2) := by decide +kernel
theorem dX12_serves_261 : decode cX12_serves 261 = .ok (.baload, 1) := by decide +kernel
theorem dX12_serves_262 : decode cX12_serves 262 = .ok (.bastore, 1) := by decide +kernel
theorem dX12_serves_263 : decode cX12_serves 263 = .ok (.iinc 5 1, 3) := by decide +kernel
theorem dX12_serves_266 : decode cX12_serves 266 = .ok (.goto (-29), 3) := by decide +kernel
theorem dX12_serves_269 : decode cX12_serves 269 = .ok (.iload_n 3, 1) := by decide +kernel
theorem dX12_serves_270 : decode cX12_serves 270 = .ok (.ireturn, 1) := by decide +kernel
theorem dX12_mixOf_0 : decode cX12_mixOf 0 = .ok (.aload_n 0, 1) := by decide +kernel
theorem dX12_mixOf_1 : decode cX12_mixOf 1 = .ok (.iload_n 2, 1) := by decide +kernel
theorem dX12_mixOf_2 : decode cX12_mixOf 2 = .ok (.invokevirtual 211, 3) := by decide +kernel
theorem dX12_mixOf_5 : decode cX12_mixOf 5 = .ok (.iconst 0, 1) := by decide +kernel
theorem dX12_mixOf_6 : decode cX12_mixOf 6 = .ok (.istore_n 3, 1) := by decide +kernel
theorem dX12_mixOf_7 : decode cX12_mixOf 7 = .ok (.iconst 1, 1) := by decide +kernel
theorem dX12_mixOf_8 : decode cX12_mixOf 8 = .ok (.istore 4, 2) := by decide +kernel
theorem dX12_mixOf_10 : decode cX12_mixOf 10 = .ok (.iconst 0, 1) := by decide +kernel
theorem dX12_mixOf_11 : decode cX12_mixOf 11 = .ok (.istore 5, 2) := by decide +kernel
theorem dX12_mixOf_13 : decode cX12_mixOf 13 = .ok (.iload 5, 2) := by decide +kernel
theorem dX12_mixOf_15 : decode cX12_mixOf 15 = .ok (.iconst 4, 1) := by decide +kernel
theorem dX12_mixOf_16 : decode cX12_mixOf 16 = .ok (.if_icmp .ge 91, 3) := by decide +kernel
theorem dX12_mixOf_19 : decode cX12_mixOf 19 = .ok (.aload_n 0, 1) := by decide +kernel
theorem dX12_mixOf_20 : decode cX12_mixOf 20 = .ok (.iload 5, 2) := by decide +kernel
theorem dX12_mixOf_22 : decode cX12_mixOf 22 = .ok (.invokevirtual 94, 3) := by decide +kernel
theorem dX12_mixOf_25 : decode cX12_mixOf 25 = .ok (.ifCond .eq 32, 3) := by decide +kernel
theorem dX12_mixOf_28 : decode cX12_mixOf 28 = .ok (.iload_n 1, 1) := by decide +kernel
theorem dX12_mixOf_29 : decode cX12_mixOf 29 = .ok (.aload_n 0, 1) := by decide +kernel
theorem dX12_mixOf_30 : decode cX12_mixOf 30 = .ok (.getfield 7, 3) := by decide +kernel
theorem dX12_mixOf_33 : decode cX12_mixOf 33 = .ok (.sipush 200, 3) := by decide +kernel
theorem dX12_mixOf_36 : decode cX12_mixOf 36 = .ok (.iload 5, 2) := by decide +kernel
theorem dX12_mixOf_38 : decode cX12_mixOf 38 = .ok (.iadd, 1) := by decide +kernel
theorem dX12_mixOf_39 : decode cX12_mixOf 39 = .ok (.iaload, 1) := by decide +kernel
theorem dX12_mixOf_40 : decode cX12_mixOf 40 = .ok (.if_icmp .lt 17, 3) := by decide +kernel
theorem dX12_mixOf_43 : decode cX12_mixOf 43 = .ok (.aload_n 0, 1) := by decide +kernel
theorem dX12_mixOf_44 : decode cX12_mixOf 44 = .ok (.iload 5, 2) := by decide +kernel
theorem dX12_mixOf_46 : decode cX12_mixOf 46 = .ok (.iload_n 1, 1) := by decide +kernel
theorem dX12_mixOf_47 : decode cX12_mixOf 47 = .ok (.iconst 2, 1) := by decide +kernel
theorem dX12_mixOf_48 : decode cX12_mixOf 48 = .ok (.invokevirtual 110, 3) := by decide +kernel
theorem dX12_mixOf_51 : decode cX12_mixOf 51 = .ok (.bipush 10, 2) := by decide +kernel
theorem dX12_mixOf_53 : decode cX12_mixOf 53 = .ok (.idiv, 1) := by decide +kernel
theorem dX12_mixOf_54 : decode cX12_mixOf 54 = .ok (.goto 4, 3) := by decide +kernel
theorem dX12_mixOf_57 : decode cX12_mixOf 57 = .ok (.iconst 0, 1) := by decide +kernel
theorem dX12_mixOf_58 : decode cX12_mixOf 58 = .ok (.istore 6, 2) := by decide +kernel
theorem dX12_mixOf_60 : decode cX12_mixOf 60 = .ok (.aload_n 0, 1) := by decide +kernel
theorem dX12_mixOf_61 : decode cX12_mixOf 61 = .ok (.getfield 47, 3) := by decide +kernel
theorem dX12_mixOf_64 : decode cX12_mixOf 64 = .ok (.iload 5, 2) := by decide +kernel
theorem dX12_mixOf_66 : decode cX12_mixOf 66 = .ok (.iload 6, 2) := by decide +kernel
theorem dX12_mixOf_68 : decode cX12_mixOf 68 = .ok (.bipush 6, 2) := by decide +kernel
theorem dX12_mixOf_70 : decode cX12_mixOf 70 = .ok (.if_icmp .le 8, 3) := by decide +kernel
theorem dX12_mixOf_73 : decode cX12_mixOf 73 = .ok (.bipush 6, 2) := by decide +kernel
theorem dX12_mixOf_75 : decode cX12_mixOf 75 = .ok (.goto 5, 3) := by decide +kernel
theorem dX12_mixOf_78 : decode cX12_mixOf 78 = .ok (.iload 6, 2) := by decide +kernel
theorem dX12_mixOf_80 : decode cX12_mixOf 80 = .ok (.iastore, 1) := by decide +kernel
theorem dX12_mixOf_81 : decode cX12_mixOf 81 = .ok (.iload_n 3, 1) := by decide +kernel
theorem dX12_mixOf_82 : decode cX12_mixOf 82 = .ok (.iload 4, 2) := by decide +kernel
theorem dX12_mixOf_84 : decode cX12_mixOf 84 = .ok (.aload_n 0, 1) := by decide +kernel
theorem dX12_mixOf_85 : decode cX12_mixOf 85 = .ok (.getfield 47, 3) := by decide +kernel
theorem dX12_mixOf_88 : decode cX12_mixOf 88 = .ok (.iload 5, 2) := by decide +kernel
theorem dX12_mixOf_90 : decode cX12_mixOf 90 = .ok (.iaload, 1) := by decide +kernel
theorem dX12_mixOf_91 : decode cX12_mixOf 91 = .ok (.imul, 1) := by decide +kernel
theorem dX12_mixOf_92 : decode cX12_mixOf 92 = .ok (.iadd, 1) := by decide +kernel
theorem dX12_mixOf_93 : decode cX12_mixOf 93 = .ok (.istore_n 3, 1) := by decide +kernel
theorem dX12_mixOf_94 : decode cX12_mixOf 94 = .ok (.iload 4, 2) := by decide +kernel
theorem dX12_mixOf_96 : decode cX12_mixOf 96 = .ok (.bipush 7, 2) := by decide +kernel
theorem dX12_mixOf_98 : decode cX12_mixOf 98 = .ok (.imul, 1) := by decide +kernel
theorem dX12_mixOf_99 : decode cX12_mixOf 99 = .ok (.istore 4, 2) := by decide +kernel
theorem dX12_mixOf_101 : decode cX12_mixOf 101 = .ok (.iinc 5 1, 3) := by decide +kernel
theorem dX12_mixOf_104 : decode cX12_mixOf 104 = .ok (.goto (-91), 3) := by decide +kernel
theorem dX12_mixOf_107 : decode cX12_mixOf 107 = .ok (.iconst 0, 1) := by decide +kernel
theorem dX12_mixOf_108 : decode cX12_mixOf 108 = .ok (.istore 5, 2) := by decide +kernel
theorem dX12_mixOf_110 : decode cX12_mixOf 110 = .ok (.iload 5, 2) := by decide +kernel
theorem dX12_mixOf_112 : decode cX12_mixOf 112 = .ok (.sipush 2401, 3) := by decide +kernel
theorem dX12_mixOf_115 : decode cX12_mixOf 115 = .ok (.if_icmp .ge 27, 3) := by decide +kernel
theorem dX12_mixOf_118 : decode cX12_mixOf 118 = .ok (.aload_n 0, 1) := by decide +kernel
theorem dX12_mixOf_119 : decode cX12_mixOf 119 = .ok (.getfield 40, 3) := by decide +kernel
theorem dX12_mixOf_122 : decode cX12_mixOf 122 = .ok (.iload 5, 2) := by decide +kernel
theorem dX12_mixOf_124 : decode cX12_mixOf 124 = .ok (.iload 5, 2) := by decide +kernel
theorem dX12_mixOf_126 : decode cX12_mixOf 126 = .ok (.iload_n 3, 1) := by decide +kernel
theorem dX12_mixOf_127 : decode cX12_mixOf 127 = .ok (.if_icmp .ne 7, 3) := by decide +kernel
theorem dX12_mixOf_130 : decode cX12_mixOf 130 = .ok (.iconst 1, 1) := by decide +kernel
theorem dX12_mixOf_131 : decode cX12_mixOf 131 = .ok (.goto 4, 3) := by decide +kernel
theorem dX12_mixOf_134 : decode cX12_mixOf 134 = .ok (.iconst 0, 1) := by decide +kernel
theorem dX12_mixOf_135 : decode cX12_mixOf 135 = .ok (.bastore, 1) := by decide +kernel
theorem dX12_mixOf_136 : decode cX12_mixOf 136 = .ok (.iinc 5 1, 3) := by decide +kernel
theorem dX12_mixOf_139 : decode cX12_mixOf 139 = .ok (.goto (-29), 3) := by decide +kernel
theorem dX12_mixOf_142 : decode cX12_mixOf 142 = .ok (.iconst 0, 1) := by decide +kernel
theorem dX12_mixOf_143 : decode cX12_mixOf 143 = .ok (.istore 5, 2) := by decide +kernel
theorem dX12_mixOf_145 : decode cX12_mixOf 145 = .ok (.iconst 0, 1) := by decide +kernel
theorem dX12_mixOf_146 : decode cX12_mixOf 146 = .ok (.istore 6, 2) := by decide +kernel
theorem dX12_mixOf_148 : decode cX12_mixOf 148 = .ok (.iload 6, 2) := by decide +kernel
theorem dX12_mixOf_150 : decode cX12_mixOf 150 = .ok (.aload_n 0, 1) := by decide +kernel
theorem dX12_mixOf_151 : decode cX12_mixOf 151 = .ok (.getfield 7, 3) := by decide +kernel
theorem dX12_mixOf_154 : decode cX12_mixOf 154 = .ok (.iconst 3, 1) := by decide +kernel
theorem dX12_mixOf_155 : decode cX12_mixOf 155 = .ok (.iaload, 1) := by decide +kernel
theorem dX12_mixOf_156 : decode cX12_mixOf 156 = .ok (.if_icmp .ge 42, 3) := by decide +kernel
theorem dX12_mixOf_159 : decode cX12_mixOf 159 = .ok (.iload 5, 2) := by decide +kernel
theorem dX12_mixOf_161 : decode cX12_mixOf 161 = .ok (.aload_n 0, 1) := by decide +kernel
theorem dX12_mixOf_162 : decode cX12_mixOf 162 = .ok (.aload_n 0, 1) := by decide +kernel
theorem dX12_mixOf_163 : decode cX12_mixOf 163 = .ok (.getfield 34, 3) := by decide +kernel
theorem dX12_mixOf_166 : decode cX12_mixOf 166 = .ok (.iload 6, 2) := by decide +kernel
theorem dX12_mixOf_168 : decode cX12_mixOf 168 = .ok (.iaload, 1) := by decide +kernel
theorem dX12_mixOf_169 : decode cX12_mixOf 169 = .ok (.iload_n 1, 1) := by decide +kernel
theorem dX12_mixOf_170 : decode cX12_mixOf 170 = .ok (.invokevirtual 223, 3) := by decide +kernel
theorem dX12_mixOf_173 : decode cX12_mixOf 173 = .ok (.ifCond .eq 15, 3) := by decide +kernel
theorem dX12_mixOf_176 : decode cX12_mixOf 176 = .ok (.iconst 1, 1) := by decide +kernel
theorem dX12_mixOf_177 : decode cX12_mixOf 177 = .ok (.aload_n 0, 1) := by decide +kernel
theorem dX12_mixOf_178 : decode cX12_mixOf 178 = .ok (.getfield 34, 3) := by decide +kernel
theorem dX12_mixOf_181 : decode cX12_mixOf 181 = .ok (.iload 6, 2) := by decide +kernel
theorem dX12_mixOf_183 : decode cX12_mixOf 183 = .ok (.iaload, 1) := by decide +kernel
theorem dX12_mixOf_184 : decode cX12_mixOf 184 = .ok (.ishl, 1) := by decide +kernel
theorem dX12_mixOf_185 : decode cX12_mixOf 185 = .ok (.goto 4, 3) := by decide +kernel
theorem dX12_mixOf_188 : decode cX12_mixOf 188 = .ok (.iconst 0, 1) := by decide +kernel
theorem dX12_mixOf_189 : decode cX12_mixOf 189 = .ok (.ior, 1) := by decide +kernel
theorem dX12_mixOf_190 : decode cX12_mixOf 190 = .ok (.istore 5, 2) := by decide +kernel
theorem dX12_mixOf_192 : decode cX12_mixOf 192 = .ok (.iinc 6 1, 3) := by decide +kernel
theorem dX12_mixOf_195 : decode cX12_mixOf 195 = .ok (.goto (-47), 3) := by decide +kernel
theorem dX12_mixOf_198 : decode cX12_mixOf 198 = .ok (.iload 5, 2) := by decide +kernel
theorem dX12_mixOf_200 : decode cX12_mixOf 200 = .ok (.ireturn, 1) := by decide +kernel
theorem dX12_mix_0 : decode cX12_mix 0 = .ok (.aload_n 0, 1) := by decide +kernel
theorem dX12_mix_1 : decode cX12_mix 1 = .ok (.iload_n 1, 1) := by decide +kernel
theorem dX12_mix_2 : decode cX12_mix 2 = .ok (.invokevirtual 107, 3) := by decide +kernel
theorem dX12_mix_5 : decode cX12_mix 5 = .ok (.ifCond .eq 12, 3) := by decide +kernel
theorem dX12_mix_8 : decode cX12_mix 8 = .ok (.aload_n 0, 1) := by decide +kernel
theorem dX12_mix_9 : decode cX12_mix 9 = .ok (.iload_n 1, 1) := by decide +kernel
theorem dX12_mix_10 : decode cX12_mix 10 = .ok (.iload_n 1, 1) := by decide +kernel
theorem dX12_mix_11 : decode cX12_mix 11 = .ok (.invokevirtual 226, 3) := by decide +kernel
theorem dX12_mix_14 : decode cX12_mix 14 = .ok (.goto 4, 3) := by decide +kernel
theorem dX12_mix_17 : decode cX12_mix 17 = .ok (.iconst (-1), 1) := by decide +kernel
theorem dX12_mix_18 : decode cX12_mix 18 = .ok (.ireturn, 1) := by decide +kernel
theorem dX12_want_0 : decode cX12_want 0 = .ok (.aload_n 0, 1) := by decide +kernel
theorem dX12_want_1 : decode cX12_want 1 = .ok (.iload_n 2, 1) := by decide +kernel
theorem dX12_want_2 : decode cX12_want 2 = .ok (.invokevirtual 202, 3) := by decide +kernel
theorem dX12_want_5 : decode cX12_want 5 = .ok (.ifCond .ne 5, 3) := by decide +kernel
theorem dX12_want_8 : decode cX12_want 8 = .ok (.iconst (-1), 1) := by decide +kernel
theorem dX12_want_9 : decode cX12_want 9 = .ok (.ireturn, 1) := by decide +kernel
theorem dX12_want_10 : decode cX12_want 10 = .ok (.iload_n 1, 1) := by decide +kernel
theorem dX12_want_11 : decode cX12_want 11 = .ok (.iconst 0, 1) := by decide +kernel
theorem dX12_want_12 : decode cX12_want 12 = .ok (.sipush 999, 3) := by decide +kernel
theorem dX12_want_15 : decode cX12_want 15 = .ok (.invokestatic 69, 3) := by decide +kernel
theorem dX12_want_18 : decode cX12_want 18 = .ok (.ifCond .ne 6, 3) := by decide +kernel
theorem dX12_want_21 : decode cX12_want 21 = .ok (.bipush (-2), 2) := by decide +kernel
theorem dX12_want_23 : decode cX12_want 23 = .ok (.ireturn, 1) := by decide +kernel
theorem dX12_want_24 : decode cX12_want 24 = .ok (.aload_n 0, 1) := by decide +kernel
theorem dX12_want_25 : decode cX12_want 25 = .ok (.aload_n 0, 1) := by decide +kernel
theorem dX12_want_26 : decode cX12_want 26 = .ok (.getfield 7, 3) := by decide +kernel
theorem dX12_want_29 : decode cX12_want 29 = .ok (.iconst 0, 1) := by decide +kernel
theorem dX12_want_30 : decode cX12_want 30 = .ok (.iaload, 1) := by decide +kernel
theorem dX12_want_31 : decode cX12_want 31 = .ok (.invokevirtual 211, 3) := by decide +kernel
theorem dX12_want_34 : decode cX12_want 34 = .ok (.aload_n 0, 1) := by decide +kernel
theorem dX12_want_35 : decode cX12_want 35 = .ok (.iconst 5, 1) := by decide +kernel
theorem dX12_want_36 : decode cX12_want 36 = .ok (.aload_n 0, 1) := by decide +kernel
theorem dX12_want_37 : decode cX12_want 37 = .ok (.getfield 7, 3) := by decide +kernel
theorem dX12_want_40 : decode cX12_want 40 = .ok (.iconst 0, 1) := by decide +kernel
theorem dX12_want_41 : decode cX12_want 41 = .ok (.iaload, 1) := by decide +kernel
theorem dX12_want_42 : decode cX12_want 42 = .ok (.invokevirtual 81, 3) := by decide +kernel
theorem dX12_want_45 : decode cX12_want 45 = .ok (.istore_n 3, 1) := by decide +kernel
theorem dX12_want_46 : decode cX12_want 46 = .ok (.iconst 0, 1) := by decide +kernel
theorem dX12_want_47 : decode cX12_want 47 = .ok (.istore 4, 2) := by decide +kernel
theorem dX12_want_49 : decode cX12_want 49 = .ok (.iconst 0, 1) := by decide +kernel
theorem dX12_want_50 : decode cX12_want 50 = .ok (.istore 5, 2) := by decide +kernel
theorem dX12_want_52 : decode cX12_want 52 = .ok (.iload 5, 2) := by decide +kernel
theorem dX12_want_54 : decode cX12_want 54 = .ok (.aload_n 0, 1) := by decide +kernel
theorem dX12_want_55 : decode cX12_want 55 = .ok (.getfield 7, 3) := by decide +kernel
theorem dX12_want_58 : decode cX12_want 58 = .ok (.iconst 3, 1) := by decide +kernel
theorem dX12_want_59 : decode cX12_want 59 = .ok (.iaload, 1) := by decide +kernel
theorem dX12_want_60 : decode cX12_want 60 = .ok (.if_icmp .ge 33, 3) := by decide +kernel
theorem dX12_want_63 : decode cX12_want 63 = .ok (.iload 4, 2) := by decide +kernel
theorem dX12_want_65 : decode cX12_want 65 = .ok (.aload_n 0, 1) := by decide +kernel
theorem dX12_want_66 : decode cX12_want 66 = .ok (.getfield 7, 3) := by decide +kernel
theorem dX12_want_69 : decode cX12_want 69 = .ok (.sipush 2016, 3) := by decide +kernel
theorem dX12_want_72 : decode cX12_want 72 = .ok (.iload 5, 2) := by decide +kernel
theorem dX12_want_74 : decode cX12_want 74 = .ok (.iadd, 1) := by decide +kernel
theorem dX12_want_75 : decode cX12_want 75 = .ok (.iaload, 1) := by decide +kernel
theorem dX12_want_76 : decode cX12_want 76 = .ok (.iadd, 1) := by decide +kernel
theorem dX12_want_77 : decode cX12_want 77 = .ok (.istore 4, 2) := by decide +kernel
theorem dX12_want_79 : decode cX12_want 79 = .ok (.aload_n 0, 1) := by decide +kernel
theorem dX12_want_80 : decode cX12_want 80 = .ok (.getfield 53, 3) := by decide +kernel
theorem dX12_want_83 : decode cX12_want 83 = .ok (.iload 5, 2) := by decide +kernel
theorem dX12_want_85 : decode cX12_want 85 = .ok (.iconst 0, 1) := by decide +kernel
theorem dX12_want_86 : decode cX12_want 86 = .ok (.iastore, 1) := by decide +kernel
theorem dX12_want_87 : decode cX12_want 87 = .ok (.iinc 5 1, 3) := by decide +kernel
theorem dX12_want_90 : decode cX12_want 90 = .ok (.goto (-38), 3) := by decide +kernel
theorem dX12_want_93 : decode cX12_want 93 = .ok (.iload_n 1, 1) := by decide +kernel
theorem dX12_want_94 : decode cX12_want 94 = .ok (.istore 5, 2) := by decide +kernel
theorem dX12_want_96 : decode cX12_want 96 = .ok (.iload_n 3, 1) := by decide +kernel
theorem dX12_want_97 : decode cX12_want 97 = .ok (.ifCond .ne 86, 3) := by decide +kernel
theorem dX12_want_100 : decode cX12_want 100 = .ok (.iconst 0, 1) := by decide +kernel
theorem dX12_want_101 : decode cX12_want 101 = .ok (.istore 6, 2) := by decide +kernel
theorem dX12_want_103 : decode cX12_want 103 = .ok (.iload 6, 2) := by decide +kernel
theorem dX12_want_105 : decode cX12_want 105 = .ok (.aload_n 0, 1) := by decide +kernel
theorem dX12_want_106 : decode cX12_want 106 = .ok (.getfield 7, 3) := by decide +kernel
theorem dX12_want_109 : decode cX12_want 109 = .ok (.iconst 3, 1) := by decide +kernel
theorem dX12_want_110 : decode cX12_want 110 = .ok (.iaload, 1) := by decide +kernel
theorem dX12_want_111 : decode cX12_want 111 = .ok (.if_icmp .ge 69, 3) := by decide +kernel
theorem dX12_want_114 : decode cX12_want 114 = .ok (.aload_n 0, 1) := by decide +kernel
theorem dX12_want_115 : decode cX12_want 115 = .ok (.getfield 34, 3) := by decide +kernel
theorem dX12_want_118 : decode cX12_want 118 = .ok (.iload 6, 2) := by decide +kernel
theorem dX12_want_120 : decode cX12_want 120 = .ok (.iaload, 1) := by decide +kernel
theorem dX12_want_121 : decode cX12_want 121 = .ok (.istore 7, 2) := by decide +kernel
theorem dX12_want_123 : decode cX12_want 123 = .ok (.aload_n 0, 1) := by decide +kernel
theorem dX12_want_124 : decode cX12_want 124 = .ok (.getfield 53, 3) := by decide +kernel
theorem dX12_want_127 : decode cX12_want 127 = .ok (.iload 7, 2) := by decide +kernel
theorem dX12_want_129 : decode cX12_want 129 = .ok (.aload_n 0, 1) := by decide +kernel
theorem dX12_want_130 : decode cX12_want 130 = .ok (.getfield 7, 3) := by decide +kernel
theorem dX12_want_133 : decode cX12_want 133 = .ok (.sipush 2016, 3) := by decide +kernel
theorem dX12_want_136 : decode cX12_want 136 = .ok (.iload 7, 2) := by decide +kernel
theorem dX12_want_138 : decode cX12_want 138 = .ok (.iadd, 1) := by decide +kernel
theorem dX12_want_139 : decode cX12_want 139 = .ok (.iaload, 1) := by decide +kernel
theorem dX12_want_140 : decode cX12_want 140 = .ok (.iload 5, 2) := by decide +kernel
theorem dX12_want_142 : decode cX12_want 142 = .ok (.if_icmp .ge 17, 3) := by decide +kernel
theorem dX12_want_145 : decode cX12_want 145 = .ok (.aload_n 0, 1) := by decide +kernel
theorem dX12_want_146 : decode cX12_want 146 = .ok (.getfield 7, 3) := by decide +kernel
theorem dX12_want_149 : decode cX12_want 149 = .ok (.sipush 2016, 3) := by decide +kernel
theorem dX12_want_152 : decode cX12_want 152 = .ok (.iload 7, 2) := by decide +kernel
theorem dX12_want_154 : decode cX12_want 154 = .ok (.iadd, 1) := by decide +kernel
theorem dX12_want_155 : decode cX12_want 155 = .ok (.iaload, 1) := by decide +kernel
theorem dX12_want_156 : decode cX12_want 156 = .ok (.goto 5, 3) := by decide +kernel
theorem dX12_want_159 : decode cX12_want 159 = .ok (.iload 5, 2) := by decide +kernel
theorem dX12_want_161 : decode cX12_want 161 = .ok (.iastore, 1) := by decide +kernel
theorem dX12_want_162 : decode cX12_want 162 = .ok (.iload 5, 2) := by decide +kernel
theorem dX12_want_164 : decode cX12_want 164 = .ok (.aload_n 0, 1) := by decide +kernel
theorem dX12_want_165 : decode cX12_want 165 = .ok (.getfield 53, 3) := by decide +kernel
theorem dX12_want_168 : decode cX12_want 168 = .ok (.iload 7, 2) := by decide +kernel
theorem dX12_want_170 : decode cX12_want 170 = .ok (.iaload, 1) := by decide +kernel
theorem dX12_want_171 : decode cX12_want 171 = .ok (.isub, 1) := by decide +kernel
theorem dX12_want_172 : decode cX12_want 172 = .ok (.istore 5, 2) := by decide +kernel
theorem dX12_want_174 : decode cX12_want 174 = .ok (.iinc 6 1, 3) := by decide +kernel
theorem dX12_want_177 : decode cX12_want 177 = .ok (.goto (-74), 3) := by decide +kernel
theorem dX12_want_180 : decode cX12_want 180 = .ok (.goto 216, 3) := by decide +kernel
theorem dX12_want_183 : decode cX12_want 183 = .ok (.iload_n 3, 1) := by decide +kernel
theorem dX12_want_184 : decode cX12_want 184 = .ok (.iconst 1, 1) := by decide +kernel
theorem dX12_want_185 : decode cX12_want 185 = .ok (.if_icmp .ne 93, 3) := by decide +kernel
theorem dX12_want_188 : decode cX12_want 188 = .ok (.iconst 0, 1) := by decide +kernel
theorem dX12_want_189 : decode cX12_want 189 = .ok (.istore 6, 2) := by decide +kernel
theorem dX12_want_191 : decode cX12_want 191 = .ok (.iload 6, 2) := by decide +kernel
theorem dX12_want_193 : decode cX12_want 193 = .ok (.aload_n 0, 1) := by decide +kernel
theorem dX12_want_194 : decode cX12_want 194 = .ok (.getfield 7, 3) := by decide +kernel
theorem dX12_want_197 : decode cX12_want 197 = .ok (.iconst 3, 1) := by decide +kernel
theorem dX12_want_198 : decode cX12_want 198 = .ok (.iaload, 1) := by decide +kernel
theorem dX12_want_199 : decode cX12_want 199 = .ok (.if_icmp .ge 44, 3) := by decide +kernel
theorem dX12_want_202 : decode cX12_want 202 = .ok (.aload_n 0, 1) := by decide +kernel
theorem dX12_want_203 : decode cX12_want 203 = .ok (.getfield 53, 3) := by decide +kernel
theorem dX12_want_206 : decode cX12_want 206 = .ok (.iload 6, 2) := by decide +kernel
theorem dX12_want_208 : decode cX12_want 208 = .ok (.iload_n 1, 1) := by decide +kernel
theorem dX12_want_209 : decode cX12_want 209 = .ok (.aload_n 0, 1) := by decide +kernel
theorem dX12_want_210 : decode cX12_want 210 = .ok (.getfield 7, 3) := by decide +kernel
theorem dX12_want_213 : decode cX12_want 213 = .ok (.sipush 2016, 3) := by decide +kernel
theorem dX12_want_216 : decode cX12_want 216 = .ok (.iload 6, 2) := by decide +kernel
theorem dX12_want_218 : decode cX12_want 218 = .ok (.iadd, 1) := by decide +kernel
theorem dX12_want_219 : decode cX12_want 219 = .ok (.iaload, 1) := by decide +kernel
theorem dX12_want_220 : decode cX12_want 220 = .ok (.imul, 1) := by decide +kernel
theorem dX12_want_221 : decode cX12_want 221 = .ok (.iload 4, 2) := by decide +kernel
theorem dX12_want_223 : decode cX12_want 223 = .ok (.idiv, 1) := by decide +kernel
theorem dX12_want_224 : decode cX12_want 224 = .ok (.iastore, 1) := by decide +kernel
theorem dX12_want_225 : decode cX12_want 225 = .ok (.iload 5, 2) := by decide +kernel
theorem dX12_want_227 : decode cX12_want 227 = .ok (.aload_n 0, 1) := by decide +kernel
theorem dX12_want_228 : decode cX12_want 228 = .ok (.getfield 53, 3) := by decide +kernel
theorem dX12_want_231 : decode cX12_want 231 = .ok (.iload 6, 2) := by decide +kernel
theorem dX12_want_233 : decode cX12_want 233 = .ok (.iaload, 1) := by decide +kernel
theorem dX12_want_234 : decode cX12_want 234 = .ok (.isub, 1) := by decide +kernel
theorem dX12_want_235 : decode cX12_want 235 = .ok (.istore 5, 2) := by decide +kernel
theorem dX12_want_237 : decode cX12_want 237 = .ok (.iinc 6 1, 3) := by decide +kernel
theorem dX12_want_240 : decode cX12_want 240 = .ok (.goto (-49), 3) := by decide +kernel
theorem dX12_want_243 : decode cX12_want 243 = .ok (.iconst 0, 1) := by decide +kernel
theorem dX12_want_244 : decode cX12_want 244 = .ok (.istore 6, 2) := by decide +kernel
theorem dX12_want_246 : decode cX12_want 246 = .ok (.iload 6, 2) := by decide +kernel
theorem dX12_want_248 : decode cX12_want 248 = .ok (.iload 5, 2) := by decide +kernel
theorem dX12_want_250 : decode cX12_want 250 = .ok (.if_icmp .ge 25, 3) := by decide +kernel
theorem dX12_want_253 : decode cX12_want 253 = .ok (.aload_n 0, 1) := by decide +kernel
theorem dX12_want_254 : decode cX12_want 254 = .ok (.getfield 53, 3) := by decide +kernel
theorem dX12_want_257 : decode cX12_want 257 = .ok (.aload_n 0, 1) := by decide +kernel
theorem dX12_want_258 : decode cX12_want 258 = .ok (.getfield 34, 3) := by decide +kernel
theorem dX12_want_261 : decode cX12_want 261 = .ok (.iload 6, 2) := by decide +kernel
theorem dX12_want_263 : decode cX12_want 263 = .ok (.iaload, 1) := by decide +kernel
theorem dX12_want_264 : decode cX12_want 264 = .ok (.dup2, 1) := by decide +kernel
theorem dX12_want_265 : decode cX12_want 265 = .ok (.iaload, 1) := by decide +kernel
theorem dX12_want_266 : decode cX12_want 266 = .ok (.iconst 1, 1) := by decide +kernel
theorem dX12_want_267 : decode cX12_want 267 = .ok (.iadd, 1) := by decide +kernel
theorem dX12_want_268 : decode cX12_want 268 = .ok (.iastore, 1) := by decide +kernel
theorem dX12_want_269 : decode cX12_want 269 = .ok (.iinc 6 1, 3) := by decide +kernel
theorem dX12_want_272 : decode cX12_want 272 = .ok (.goto (-26), 3) := by decide +kernel
theorem dX12_want_275 : decode cX12_want 275 = .ok (.goto 121, 3) := by decide +kernel
theorem dX12_want_278 : decode cX12_want 278 = .ok (.iconst 0, 1) := by decide +kernel
theorem dX12_want_279 : decode cX12_want 279 = .ok (.istore 6, 2) := by decide +kernel
theorem dX12_want_281 : decode cX12_want 281 = .ok (.iload 6, 2) := by decide +kernel
theorem dX12_want_283 : decode cX12_want 283 = .ok (.iconst 4, 1) := by decide +kernel
theorem dX12_want_284 : decode cX12_want 284 = .ok (.if_icmp .ge 112, 3) := by decide +kernel
theorem dX12_want_287 : decode cX12_want 287 = .ok (.iconst 0, 1) := by decide +kernel
theorem dX12_want_288 : decode cX12_want 288 = .ok (.istore 7, 2) := by decide +kernel
theorem dX12_want_290 : decode cX12_want 290 = .ok (.iload 7, 2) := by decide +kernel
theorem dX12_want_292 : decode cX12_want 292 = .ok (.aload_n 0, 1) := by decide +kernel
theorem dX12_want_293 : decode cX12_want 293 = .ok (.getfield 7, 3) := by decide +kernel
theorem dX12_want_296 : decode cX12_want 296 = .ok (.iconst 3, 1) := by decide +kernel
theorem dX12_want_297 : decode cX12_want 297 = .ok (.iaload, 1) := by decide +kernel
theorem dX12_want_298 : decode cX12_want 298 = .ok (.if_icmp .ge 92, 3) := by decide +kernel
theorem dX12_want_301 : decode cX12_want 301 = .ok (.iload 5, 2) := by decide +kernel
theorem dX12_want_303 : decode cX12_want 303 = .ok (.ifCond .le 38, 3) := by decide +kernel
theorem dX12_want_306 : decode cX12_want 306 = .ok (.aload_n 0, 1) := by decide +kernel
theorem dX12_want_307 : decode cX12_want 307 = .ok (.getfield 53, 3) := by decide +kernel
theorem dX12_want_310 : decode cX12_want 310 = .ok (.aload_n 0, 1) := by decide +kernel
theorem dX12_want_311 : decode cX12_want 311 = .ok (.getfield 34, 3) := by decide +kernel
theorem dX12_want_314 : decode cX12_want 314 = .ok (.iload 7, 2) := by decide +kernel
theorem dX12_want_316 : decode cX12_want 316 = .ok (.iaload, 1) := by decide +kernel
theorem dX12_want_317 : decode cX12_want 317 = .ok (.iaload, 1) := by decide +kernel
theorem dX12_want_318 : decode cX12_want 318 = .ok (.aload_n 0, 1) := by decide +kernel
theorem dX12_want_319 : decode cX12_want 319 = .ok (.getfield 7, 3) := by decide +kernel
theorem dX12_want_322 : decode cX12_want 322 = .ok (.sipush 2016, 3) := by decide +kernel
theorem dX12_want_325 : decode cX12_want 325 = .ok (.aload_n 0, 1) := by decide +kernel
theorem dX12_want_326 : decode cX12_want 326 = .ok (.getfield 34, 3) := by decide +kernel
theorem dX12_want_329 : decode cX12_want 329 = .ok (.iload 7, 2) := by decide +kernel
theorem dX12_want_331 : decode cX12_want 331 = .ok (.iaload, 1) := by decide +kernel
theorem dX12_want_332 : decode cX12_want 332 = .ok (.iadd, 1) := by decide +kernel
theorem dX12_want_333 : decode cX12_want 333 = .ok (.iaload, 1) := by decide +kernel
theorem dX12_want_334 : decode cX12_want 334 = .ok (.if_icmp .ge 7, 3) := by decide +kernel
theorem dX12_want_337 : decode cX12_want 337 = .ok (.iconst 1, 1) := by decide +kernel
theorem dX12_want_338 : decode cX12_want 338 = .ok (.goto 4, 3) := by decide +kernel
theorem dX12_want_341 : decode cX12_want 341 = .ok (.iconst 0, 1) := by decide +kernel
theorem dX12_want_342 : decode cX12_want 342 = .ok (.istore 8, 2) := by decide +kernel
theorem dX12_want_344 : decode cX12_want 344 = .ok (.aload_n 0, 1) := by decide +kernel
theorem dX12_want_345 : decode cX12_want 345 = .ok (.getfield 53, 3) := by decide +kernel
theorem dX12_want_348 : decode cX12_want 348 = .ok (.aload_n 0, 1) := by decide +kernel
theorem dX12_want_349 : decode cX12_want 349 = .ok (.getfield 34, 3) := by decide +kernel
theorem dX12_want_352 : decode cX12_want 352 = .ok (.iload 7, 2) := by decide +kernel
theorem dX12_want_354 : decode cX12_want 354 = .ok (.iaload, 1) := by decide +kernel
theorem dX12_want_355 : decode cX12_want 355 = .ok (.dup2, 1) := by decide +kernel
theorem dX12_want_356 : decode cX12_want 356 = .ok (.iaload, 1) := by decide +kernel
theorem dX12_want_357 : decode cX12_want 357 = .ok (.iload 8, 2) := by decide +kernel
theorem dX12_want_359 : decode cX12_want 359 = .ok (.ifCond .eq 7, 3) := by decide +kernel
theorem dX12_want_362 : decode cX12_want 362 = .ok (.iconst 1, 1) := by decide +kernel
theorem dX12_want_363 : decode cX12_want 363 = .ok (.goto 4, 3) := by decide +kernel
theorem dX12_want_366 : decode cX12_want 366 = .ok (.iconst 0, 1) := by decide +kernel
theorem dX12_want_367 : decode cX12_want 367 = .ok (.iadd, 1) := by decide +kernel
theorem dX12_want_368 : decode cX12_want 368 = .ok (.iastore, 1) := by decide +kernel
theorem dX12_want_369 : decode cX12_want 369 = .ok (.iload 5, 2) := by decide +kernel
theorem dX12_want_371 : decode cX12_want 371 = .ok (.iload 8, 2) := by decide +kernel
theorem dX12_want_373 : decode cX12_want 373 = .ok (.ifCond .eq 7, 3) := by decide +kernel
theorem dX12_want_376 : decode cX12_want 376 = .ok (.iconst 1, 1) := by decide +kernel
theorem dX12_want_377 : decode cX12_want 377 = .ok (.goto 4, 3) := by decide +kernel
theorem dX12_want_380 : decode cX12_want 380 = .ok (.iconst 0, 1) := by decide +kernel
theorem dX12_want_381 : decode cX12_want 381 = .ok (.isub, 1) := by decide +kernel
theorem dX12_want_382 : decode cX12_want 382 = .ok (.istore 5, 2) := by decide +kernel
theorem dX12_want_384 : decode cX12_want 384 = .ok (.iinc 7 1, 3) := by decide +kernel
theorem dX12_want_387 : decode cX12_want 387 = .ok (.goto (-97), 3) := by decide +kernel
theorem dX12_want_390 : decode cX12_want 390 = .ok (.iinc 6 1, 3) := by decide +kernel
theorem dX12_want_393 : decode cX12_want 393 = .ok (.goto (-112), 3) := by decide +kernel
theorem dX12_want_396 : decode cX12_want 396 = .ok (.aload_n 0, 1) := by decide +kernel
theorem dX12_want_397 : decode cX12_want 397 = .ok (.getfield 53, 3) := by decide +kernel
theorem dX12_want_400 : decode cX12_want 400 = .ok (.iload_n 2, 1) := by decide +kernel
theorem dX12_want_401 : decode cX12_want 401 = .ok (.iaload, 1) := by decide +kernel
theorem dX12_want_402 : decode cX12_want 402 = .ok (.ireturn, 1) := by decide +kernel
theorem dX12_look_0 : decode cX12_look 0 = .ok (.aload_n 0, 1) := by decide +kernel
theorem dX12_look_1 : decode cX12_look 1 = .ok (.iload_n 1, 1) := by decide +kernel
theorem dX12_look_2 : decode cX12_look 2 = .ok (.invokevirtual 94, 3) := by decide +kernel
theorem dX12_look_5 : decode cX12_look 5 = .ok (.ifCond .ne 5, 3) := by decide +kernel
theorem dX12_look_8 : decode cX12_look 8 = .ok (.iconst (-1), 1) := by decide +kernel
theorem dX12_look_9 : decode cX12_look 9 = .ok (.ireturn, 1) := by decide +kernel
theorem dX12_look_10 : decode cX12_look 10 = .ok (.iload_n 2, 1) := by decide +kernel
theorem dX12_look_11 : decode cX12_look 11 = .ok (.invokestatic 186, 3) := by decide +kernel
theorem dX12_look_14 : decode cX12_look 14 = .ok (.ifCond .eq 26, 3) := by decide +kernel
theorem dX12_look_17 : decode cX12_look 17 = .ok (.iload_n 3, 1) := by decide +kernel
theorem dX12_look_18 : decode cX12_look 18 = .ok (.iconst 0, 1) := by decide +kernel
theorem dX12_look_19 : decode cX12_look 19 = .ok (.sipush 9999, 3) := by decide +kernel
theorem dX12_look_22 : decode cX12_look 22 = .ok (.invokestatic 69, 3) := by decide +kernel
theorem dX12_look_25 : decode cX12_look 25 = .ok (.ifCond .eq 15, 3) := by decide +kernel
theorem dX12_look_28 : decode cX12_look 28 = .ok (.iload 4, 2) := by decide +kernel
theorem dX12_look_30 : decode cX12_look 30 = .ok (.iconst 0, 1) := by decide +kernel
theorem dX12_look_31 : decode cX12_look 31 = .ok (.sipush 2000, 3) := by decide +kernel
theorem dX12_look_34 : decode cX12_look 34 = .ok (.invokestatic 69, 3) := by decide +kernel
theorem dX12_look_37 : decode cX12_look 37 = .ok (.ifCond .ne 6, 3) := by decide +kernel
theorem dX12_look_40 : decode cX12_look 40 = .ok (.bipush (-2), 2) := by decide +kernel
theorem dX12_look_42 : decode cX12_look 42 = .ok (.ireturn, 1) := by decide +kernel
theorem dX12_look_43 : decode cX12_look 43 = .ok (.aload_n 0, 1) := by decide +kernel
theorem dX12_look_44 : decode cX12_look 44 = .ok (.getfield 7, 3) := by decide +kernel
theorem dX12_look_47 : decode cX12_look 47 = .ok (.iconst 5, 1) := by decide +kernel
theorem dX12_look_48 : decode cX12_look 48 = .ok (.iaload, 1) := by decide +kernel
theorem dX12_look_49 : decode cX12_look 49 = .ok (.bipush 60, 2) := by decide +kernel
theorem dX12_look_51 : decode cX12_look 51 = .ok (.if_icmp .ne 6, 3) := by decide +kernel
theorem dX12_look_54 : decode cX12_look 54 = .ok (.bipush (-4), 2) := by decide +kernel
theorem dX12_look_56 : decode cX12_look 56 = .ok (.ireturn, 1) := by decide +kernel
theorem dX12_look_57 : decode cX12_look 57 = .ok (.aload_n 0, 1) := by decide +kernel
theorem dX12_look_58 : decode cX12_look 58 = .ok (.getfield 7, 3) := by decide +kernel
theorem dX12_look_61 : decode cX12_look 61 = .ok (.iconst 5, 1) := by decide +kernel
theorem dX12_look_62 : decode cX12_look 62 = .ok (.iaload, 1) := by decide +kernel
theorem dX12_look_63 : decode cX12_look 63 = .ok (.istore 5, 2) := by decide +kernel
theorem dX12_look_65 : decode cX12_look 65 = .ok (.aload_n 0, 1) := by decide +kernel
theorem dX12_look_66 : decode cX12_look 66 = .ok (.getfield 7, 3) := by decide +kernel
theorem dX12_look_69 : decode cX12_look 69 = .ok (.sipush 2330, 3) := by decide +kernel
theorem dX12_look_72 : decode cX12_look 72 = .ok (.iload 5, 2) := by decide +kernel
theorem dX12_look_74 : decode cX12_look 74 = .ok (.iadd, 1) := by decide +kernel
theorem dX12_look_75 : decode cX12_look 75 = .ok (.iload_n 1, 1) := by decide +kernel
theorem dX12_look_76 : decode cX12_look 76 = .ok (.iastore, 1) := by decide +kernel
theorem dX12_look_77 : decode cX12_look 77 = .ok (.aload_n 0, 1) := by decide +kernel
theorem dX12_look_78 : decode cX12_look 78 = .ok (.getfield 7, 3) := by decide +kernel
theorem dX12_look_81 : decode cX12_look 81 = .ok (.sipush 2390, 3) := by decide +kernel
theorem dX12_look_84 : decode cX12_look 84 = .ok (.iload 5, 2) := by decide +kernel
theorem dX12_look_86 : decode cX12_look 86 = .ok (.iadd, 1) := by decide +kernel
theorem dX12_look_87 : decode cX12_look 87 = .ok (.iload_n 2, 1) := by decide +kernel
theorem dX12_look_88 : decode cX12_look 88 = .ok (.iastore, 1) := by decide +kernel
theorem dX12_look_89 : decode cX12_look 89 = .ok (.aload_n 0, 1) := by decide +kernel
theorem dX12_look_90 : decode cX12_look 90 = .ok (.getfield 7, 3) := by decide +kernel
theorem dX12_look_93 : decode cX12_look 93 = .ok (.sipush 2450, 3) := by decide +kernel
theorem dX12_look_96 : decode cX12_look 96 = .ok (.iload 5, 2) := by decide +kernel
theorem dX12_look_98 : decode cX12_look 98 = .ok (.iadd, 1) := by decide +kernel
theorem dX12_look_99 : decode cX12_look 99 = .ok (.iload_n 3, 1) := by decide +kernel
theorem dX12_look_100 : decode cX12_look 100 = .ok (.iastore, 1) := by decide +kernel
theorem dX12_look_101 : decode cX12_look 101 = .ok (.aload_n 0, 1) := by decide +kernel
theorem dX12_look_102 : decode cX12_look 102 = .ok (.getfield 7, 3) := by decide +kernel
theorem dX12_look_105 : decode cX12_look 105 = .ok (.sipush 2510, 3) := by decide +kernel
theorem dX12_look_108 : decode cX12_look 108 = .ok (.iload 5, 2) := by decide +kernel
theorem dX12_look_110 : decode cX12_look 110 = .ok (.iadd, 1) := by decide +kernel
theorem dX12_look_111 : decode cX12_look 111 = .ok (.iload 4, 2) := by decide +kernel
theorem dX12_look_113 : decode cX12_look 113 = .ok (.iastore, 1) := by decide +kernel
theorem dX12_look_114 : decode cX12_look 114 = .ok (.aload_n 0, 1) := by decide +kernel
theorem dX12_look_115 : decode cX12_look 115 = .ok (.getfield 7, 3) := by decide +kernel
theorem dX12_look_118 : decode cX12_look 118 = .ok (.iconst 5, 1) := by decide +kernel
theorem dX12_look_119 : decode cX12_look 119 = .ok (.dup2, 1) := by decide +kernel
theorem dX12_look_120 : decode cX12_look 120 = .ok (.iaload, 1) := by decide +kernel
theorem dX12_look_121 : decode cX12_look 121 = .ok (.iconst 1, 1) := by decide +kernel
theorem dX12_look_122 : decode cX12_look 122 = .ok (.iadd, 1) := by decide +kernel
theorem dX12_look_123 : decode cX12_look 123 = .ok (.iastore, 1) := by decide +kernel
theorem dX12_look_124 : decode cX12_look 124 = .ok (.aload_n 0, 1) := by decide +kernel
theorem dX12_look_125 : decode cX12_look 125 = .ok (.getfield 7, 3) := by decide +kernel
theorem dX12_look_128 : decode cX12_look 128 = .ok (.iconst 5, 1) := by decide +kernel
theorem dX12_look_129 : decode cX12_look 129 = .ok (.iaload, 1) := by decide +kernel
theorem dX12_look_130 : decode cX12_look 130 = .ok (.ireturn, 1) := by decide +kernel
theorem dX12_off_0 : decode cX12_off 0 = .ok (.aload_n 0, 1) := by decide +kernel
theorem dX12_off_1 : decode cX12_off 1 = .ok (.iload_n 1, 1) := by decide +kernel
theorem dX12_off_2 : decode cX12_off 2 = .ok (.invokevirtual 94, 3) := by decide +kernel
theorem dX12_off_5 : decode cX12_off 5 = .ok (.ifCond .ne 5, 3) := by decide +kernel
theorem dX12_off_8 : decode cX12_off 8 = .ok (.iconst (-1), 1) := by decide +kernel
theorem dX12_off_9 : decode cX12_off 9 = .ok (.ireturn, 1) := by decide +kernel
theorem dX12_off_10 : decode cX12_off 10 = .ok (.iconst 0, 1) := by decide +kernel
theorem dX12_off_11 : decode cX12_off 11 = .ok (.istore_n 2, 1) := by decide +kernel
theorem dX12_off_12 : decode cX12_off 12 = .ok (.iconst 0, 1) := by decide +kernel
theorem dX12_off_13 : decode cX12_off 13 = .ok (.istore_n 3, 1) := by decide +kernel
theorem dX12_off_14 : decode cX12_off 14 = .ok (.iload_n 3, 1) := by decide +kernel
theorem dX12_off_15 : decode cX12_off 15 = .ok (.aload_n 0, 1) := by decide +kernel
theorem dX12_off_16 : decode cX12_off 16 = .ok (.getfield 7, 3) := by decide +kernel
theorem dX12_off_19 : decode cX12_off 19 = .ok (.iconst 5, 1) := by decide +kernel
theorem dX12_off_20 : decode cX12_off 20 = .ok (.iaload, 1) := by decide +kernel
theorem dX12_off_21 : decode cX12_off 21 = .ok (.if_icmp .ge 142, 3) := by decide +kernel
theorem dX12_off_24 : decode cX12_off 24 = .ok (.aload_n 0, 1) := by decide +kernel
theorem dX12_off_25 : decode cX12_off 25 = .ok (.getfield 7, 3) := by decide +kernel
theorem dX12_off_28 : decode cX12_off 28 = .ok (.sipush 2390, 3) := by decide +kernel
theorem dX12_off_31 : decode cX12_off 31 = .ok (.iload_n 3, 1) := by decide +kernel
theorem dX12_off_32 : decode cX12_off 32 = .ok (.iadd, 1) := by decide +kernel
theorem dX12_off_33 : decode cX12_off 33 = .ok (.iaload, 1) := by decide +kernel
theorem dX12_off_34 : decode cX12_off 34 = .ok (.istore 4, 2) := by decide +kernel
theorem dX12_off_36 : decode cX12_off 36 = .ok (.aload_n 0, 1) := by decide +kernel
theorem dX12_off_37 : decode cX12_off 37 = .ok (.getfield 7, 3) := by decide +kernel
theorem dX12_off_40 : decode cX12_off 40 = .ok (.sipush 2330, 3) := by decide +kernel
theorem dX12_off_43 : decode cX12_off 43 = .ok (.iload_n 3, 1) := by decide +kernel
theorem dX12_off_44 : decode cX12_off 44 = .ok (.iadd, 1) := by decide +kernel
theorem dX12_off_45 : decode cX12_off 45 = .ok (.iaload, 1) := by decide +kernel
theorem dX12_off_46 : decode cX12_off 46 = .ok (.iload_n 1, 1) := by decide +kernel
theorem dX12_off_47 : decode cX12_off 47 = .ok (.if_icmp .ne 110, 3) := by decide +kernel
theorem dX12_off_50 : decode cX12_off 50 = .ok (.aload_n 0, 1) := by decide +kernel
theorem dX12_off_51 : decode cX12_off 51 = .ok (.iload 4, 2) := by decide +kernel
theorem dX12_off_53 : decode cX12_off 53 = .ok (.invokevirtual 107, 3) := by decide +kernel
theorem dX12_off_56 : decode cX12_off 56 = .ok (.ifCond .eq 101, 3) := by decide +kernel
theorem dX12_off_59 : decode cX12_off 59 = .ok (.iload 4, 2) := by decide +kernel
theorem dX12_off_61 : decode cX12_off 61 = .ok (.aload_n 0, 1) := by decide +kernel
theorem dX12_off_62 : decode cX12_off 62 = .ok (.getfield 7, 3) := by decide +kernel
theorem dX12_off_65 : decode cX12_off 65 = .ok (.sipush 200, 3) := by decide +kernel
theorem dX12_off_68 : decode cX12_off 68 = .ok (.iload_n 1, 1) := by decide +kernel
theorem dX12_off_69 : decode cX12_off 69 = .ok (.iadd, 1) := by decide +kernel
theorem dX12_off_70 : decode cX12_off 70 = .ok (.iaload, 1) := by decide +kernel
theorem dX12_off_71 : decode cX12_off 71 = .ok (.if_icmp .lt 86, 3) := by decide +kernel
theorem dX12_off_74 : decode cX12_off 74 = .ok (.aload_n 0, 1) := by decide +kernel
theorem dX12_off_75 : decode cX12_off 75 = .ok (.iconst 4, 1) := by decide +kernel
theorem dX12_off_76 : decode cX12_off 76 = .ok (.iload 4, 2) := by decide +kernel
theorem dX12_off_78 : decode cX12_off 78 = .ok (.invokevirtual 81, 3) := by decide +kernel
theorem dX12_off_81 : decode cX12_off 81 = .ok (.istore 5, 2) := by decide +kernel
theorem dX12_off_83 : decode cX12_off 83 = .ok (.aload_n 0, 1) := by decide +kernel
theorem dX12_off_84 : decode cX12_off 84 = .ok (.getfield 7, 3) := by decide +kernel
theorem dX12_off_87 : decode cX12_off 87 = .ok (.sipush 2450, 3) := by decide +kernel
theorem dX12_off_90 : decode cX12_off 90 = .ok (.iload_n 3, 1) := by decide +kernel
theorem dX12_off_91 : decode cX12_off 91 = .ok (.iadd, 1) := by decide +kernel
theorem dX12_off_92 : decode cX12_off 92 = .ok (.iaload, 1) := by decide +kernel
theorem dX12_off_93 : decode cX12_off 93 = .ok (.aload_n 0, 1) := by decide +kernel
theorem dX12_off_94 : decode cX12_off 94 = .ok (.iload_n 1, 1) := by decide +kernel
theorem dX12_off_95 : decode cX12_off 95 = .ok (.iload 4, 2) := by decide +kernel
theorem dX12_off_97 : decode cX12_off 97 = .ok (.iconst 0, 1) := by decide +kernel
theorem dX12_off_98 : decode cX12_off 98 = .ok (.invokevirtual 110, 3) := by decide +kernel
theorem dX12_off_101 : decode cX12_off 101 = .ok (.isub, 1) := by decide +kernel
theorem dX12_off_102 : decode cX12_off 102 = .ok (.invokestatic 73, 3) := by decide +kernel
theorem dX12_off_105 : decode cX12_off 105 = .ok (.iload 5, 2) := by decide +kernel
theorem dX12_off_107 : decode cX12_off 107 = .ok (.if_icmp .gt 30, 3) := by decide +kernel
theorem dX12_off_110 : decode cX12_off 110 = .ok (.aload_n 0, 1) := by decide +kernel
theorem dX12_off_111 : decode cX12_off 111 = .ok (.getfield 7, 3) := by decide +kernel
theorem dX12_off_114 : decode cX12_off 114 = .ok (.sipush 2510, 3) := by decide +kernel
theorem dX12_off_117 : decode cX12_off 117 = .ok (.iload_n 3, 1) := by decide +kernel
theorem dX12_off_118 : decode cX12_off 118 = .ok (.iadd, 1) := by decide +kernel
theorem dX12_off_119 : decode cX12_off 119 = .ok (.iaload, 1) := by decide +kernel
theorem dX12_off_120 : decode cX12_off 120 = .ok (.aload_n 0, 1) := by decide +kernel
theorem dX12_off_121 : decode cX12_off 121 = .ok (.iload_n 1, 1) := by decide +kernel
theorem dX12_off_122 : decode cX12_off 122 = .ok (.iload 4, 2) := by decide +kernel
theorem dX12_off_124 : decode cX12_off 124 = .ok (.iconst 1, 1) := by decide +kernel
theorem dX12_off_125 : decode cX12_off 125 = .ok (.invokevirtual 110, 3) := by decide +kernel
theorem dX12_off_128 : decode cX12_off 128 = .ok (.isub, 1) := by decide +kernel
theorem dX12_off_129 : decode cX12_off 129 = .ok (.invokestatic 73, 3) := by decide +kernel
theorem dX12_off_132 : decode cX12_off 132 = .ok (.iload 5, 2) := by decide +kernel
theorem dX12_off_134 : decode cX12_off 134 = .ok (.if_icmp .le 7, 3) := by decide +kernel
theorem dX12_off_137 : decode cX12_off 137 = .ok (.iconst 1, 1) := by decide +kernel
theorem dX12_off_138 : decode cX12_off 138 = .ok (.goto 4, 3) := by decide +kernel
theorem dX12_off_141 : decode cX12_off 141 = .ok (.iconst 0, 1) := by decide +kernel
theorem dX12_off_142 : decode cX12_off 142 = .ok (.istore 6, 2) := by decide +kernel
theorem dX12_off_144 : decode cX12_off 144 = .ok (.iload_n 2, 1) := by decide +kernel
theorem dX12_off_145 : decode cX12_off 145 = .ok (.iload 6, 2) := by decide +kernel
theorem dX12_off_147 : decode cX12_off 147 = .ok (.ifCond .eq 7, 3) := by decide +kernel
theorem dX12_off_150 : decode cX12_off 150 = .ok (.iconst 1, 1) := by decide +kernel
theorem dX12_off_151 : decode cX12_off 151 = .ok (.goto 4, 3) := by decide +kernel
theorem dX12_off_154 : decode cX12_off 154 = .ok (.iconst 0, 1) := by decide +kernel
theorem dX12_off_155 : decode cX12_off 155 = .ok (.iadd, 1) := by decide +kernel
theorem dX12_off_156 : decode cX12_off 156 = .ok (.istore_n 2, 1) := by decide +kernel
theorem dX12_off_157 : decode cX12_off 157 = .ok (.iinc 3 1, 3) := by decide +kernel
theorem dX12_off_160 : decode cX12_off 160 = .ok (.goto (-146), 3) := by decide +kernel
theorem dX12_off_163 : decode cX12_off 163 = .ok (.iload_n 2, 1) := by decide +kernel
theorem dX12_off_164 : decode cX12_off 164 = .ok (.ireturn, 1) := by decide +kernel
theorem dX12_drops_0 : decode cX12_drops 0 = .ok (.iconst 0, 1) := by decide +kernel
theorem dX12_drops_1 : decode cX12_drops 1 = .ok (.istore_n 1, 1) := by decide +kernel
theorem dX12_drops_2 : decode cX12_drops 2 = .ok (.iconst 0, 1) := by decide +kernel
theorem dX12_drops_3 : decode cX12_drops 3 = .ok (.istore_n 2, 1) := by decide +kernel
theorem dX12_drops_4 : decode cX12_drops 4 = .ok (.iload_n 2, 1) := by decide +kernel
theorem dX12_drops_5 : decode cX12_drops 5 = .ok (.bipush 12, 2) := by decide +kernel
theorem dX12_drops_7 : decode cX12_drops 7 = .ok (.if_icmp .ge 31, 3) := by decide +kernel
theorem dX12_drops_10 : decode cX12_drops 10 = .ok (.iload_n 1, 1) := by decide +kernel
theorem dX12_drops_11 : decode cX12_drops 11 = .ok (.aload_n 0, 1) := by decide +kernel
theorem dX12_drops_12 : decode cX12_drops 12 = .ok (.getfield 7, 3) := by decide +kernel
theorem dX12_drops_15 : decode cX12_drops 15 = .ok (.sipush 2570, 3) := by decide +kernel
theorem dX12_drops_18 : decode cX12_drops 18 = .ok (.iload_n 2, 1) := by decide +kernel
theorem dX12_drops_19 : decode cX12_drops 19 = .ok (.iadd, 1) := by decide +kernel
theorem dX12_drops_20 : decode cX12_drops 20 = .ok (.iaload, 1) := by decide +kernel
theorem dX12_drops_21 : decode cX12_drops 21 = .ok (.iconst (-1), 1) := by decide +kernel
theorem dX12_drops_22 : decode cX12_drops 22 = .ok (.if_icmp .eq 7, 3) := by decide +kernel
theorem dX12_drops_25 : decode cX12_drops 25 = .ok (.iconst 1, 1) := by decide +kernel
theorem dX12_drops_26 : decode cX12_drops 26 = .ok (.goto 4, 3) := by decide +kernel
theorem dX12_drops_29 : decode cX12_drops 29 = .ok (.iconst 0, 1) := by decide +kernel
theorem dX12_drops_30 : decode cX12_drops 30 = .ok (.iadd, 1) := by decide +kernel
theorem dX12_drops_31 : decode cX12_drops 31 = .ok (.istore_n 1, 1) := by decide +kernel
theorem dX12_drops_32 : decode cX12_drops 32 = .ok (.iinc 2 1, 3) := by decide +kernel
theorem dX12_drops_35 : decode cX12_drops 35 = .ok (.goto (-31), 3) := by decide +kernel
theorem dX12_drops_38 : decode cX12_drops 38 = .ok (.iload_n 1, 1) := by decide +kernel
theorem dX12_drops_39 : decode cX12_drops 39 = .ok (.ireturn, 1) := by decide +kernel
theorem dX12_drop_0 : decode cX12_drop 0 = .ok (.aload_n 0, 1) := by decide +kernel
theorem dX12_drop_1 : decode cX12_drop 1 = .ok (.iload_n 1, 1) := by decide +kernel
theorem dX12_drop_2 : decode cX12_drop 2 = .ok (.invokevirtual 94, 3) := by decide +kernel
theorem dX12_drop_5 : decode cX12_drop 5 = .ok (.ifCond .ne 5, 3) := by decide +kernel
theorem dX12_drop_8 : decode cX12_drop 8 = .ok (.iconst (-1), 1) := by decide +kernel
theorem dX12_drop_9 : decode cX12_drop 9 = .ok (.ireturn, 1) := by decide +kernel
theorem dX12_drop_10 : decode cX12_drop 10 = .ok (.iload_n 2, 1) := by decide +kernel
theorem dX12_drop_11 : decode cX12_drop 11 = .ok (.iconst 0, 1) := by decide +kernel
theorem dX12_drop_12 : decode cX12_drop 12 = .ok (.sipush 999, 3) := by decide +kernel
theorem dX12_drop_15 : decode cX12_drop 15 = .ok (.invokestatic 69, 3) := by decide +kernel
theorem dX12_drop_18 : decode cX12_drop 18 = .ok (.ifCond .ne 6, 3) := by decide +kernel
theorem dX12_drop_21 : decode cX12_drop 21 = .ok (.bipush (-2), 2) := by decide +kernel
theorem dX12_drop_23 : decode cX12_drop 23 = .ok (.ireturn, 1) := by decide +kernel
theorem dX12_drop_24 : decode cX12_drop 24 = .ok (.aload_n 0, 1) := by decide +kernel
theorem dX12_drop_25 : decode cX12_drop 25 = .ok (.getfield 7, 3) := by decide +kernel
theorem dX12_drop_28 : decode cX12_drop 28 = .ok (.sipush 2570, 3) := by decide +kernel
theorem dX12_drop_31 : decode cX12_drop 31 = .ok (.iload_n 1, 1) := by decide +kernel
theorem dX12_drop_32 : decode cX12_drop 32 = .ok (.iadd, 1) := by decide +kernel
theorem dX12_drop_33 : decode cX12_drop 33 = .ok (.iaload, 1) := by decide +kernel
theorem dX12_drop_34 : decode cX12_drop 34 = .ok (.iconst (-1), 1) := by decide +kernel
theorem dX12_drop_35 : decode cX12_drop 35 = .ok (.if_icmp .ne 14, 3) := by decide +kernel
theorem dX12_drop_38 : decode cX12_drop 38 = .ok (.aload_n 0, 1) := by decide +kernel
theorem dX12_drop_39 : decode cX12_drop 39 = .ok (.invokevirtual 229, 3) := by decide +kernel
theorem dX12_drop_42 : decode cX12_drop 42 = .ok (.iconst 4, 1) := by decide +kernel
theorem dX12_drop_43 : decode cX12_drop 43 = .ok (.if_icmp .ne 6, 3) := by decide +kernel
theorem dX12_drop_46 : decode cX12_drop 46 = .ok (.bipush (-4), 2) := by decide +kernel
theorem dX12_drop_48 : decode cX12_drop 48 = .ok (.ireturn, 1) := by decide +kernel
theorem dX12_drop_49 : decode cX12_drop 49 = .ok (.aload_n 0, 1) := by decide +kernel
theorem dX12_drop_50 : decode cX12_drop 50 = .ok (.getfield 7, 3) := by decide +kernel
theorem dX12_drop_53 : decode cX12_drop 53 = .ok (.sipush 2570, 3) := by decide +kernel
theorem dX12_drop_56 : decode cX12_drop 56 = .ok (.iload_n 1, 1) := by decide +kernel
theorem dX12_drop_57 : decode cX12_drop 57 = .ok (.iadd, 1) := by decide +kernel
theorem dX12_drop_58 : decode cX12_drop 58 = .ok (.iload_n 2, 1) := by decide +kernel
theorem dX12_drop_59 : decode cX12_drop 59 = .ok (.iastore, 1) := by decide +kernel
theorem dX12_drop_60 : decode cX12_drop 60 = .ok (.aload_n 0, 1) := by decide +kernel
theorem dX12_drop_61 : decode cX12_drop 61 = .ok (.invokevirtual 229, 3) := by decide +kernel
theorem dX12_drop_64 : decode cX12_drop 64 = .ok (.ireturn, 1) := by decide +kernel
theorem dX12_count1_0 : decode cX12_count1 0 = .ok (.iconst 0, 1) := by decide +kernel
theorem dX12_count1_1 : decode cX12_count1 1 = .ok (.istore_n 1, 1) := by decide +kernel
theorem dX12_count1_2 : decode cX12_count1 2 = .ok (.iconst 0, 1) := by decide +kernel
theorem dX12_count1_3 : decode cX12_count1 3 = .ok (.istore_n 2, 1) := by decide +kernel
theorem dX12_count1_4 : decode cX12_count1 4 = .ok (.iload_n 2, 1) := by decide +kernel
theorem dX12_count1_5 : decode cX12_count1 5 = .ok (.bipush 12, 2) := by decide +kernel
theorem dX12_count1_7 : decode cX12_count1 7 = .ok (.if_icmp .ge 17, 3) := by decide +kernel
theorem dX12_count1_10 : decode cX12_count1 10 = .ok (.iload_n 1, 1) := by decide +kernel
theorem dX12_count1_11 : decode cX12_count1 11 = .ok (.iload_n 0, 1) := by decide +kernel
theorem dX12_count1_12 : decode cX12_count1 12 = .ok (.iload_n 2, 1) := by decide +kernel
theorem dX12_count1_13 : decode cX12_count1 13 = .ok (.ishr, 1) := by decide +kernel
theorem dX12_count1_14 : decode cX12_count1 14 = .ok (.iconst 1, 1) := by decide +kernel
theorem dX12_count1_15 : decode cX12_count1 15 = .ok (.iand, 1) := by decide +kernel
theorem dX12_count1_16 : decode cX12_count1 16 = .ok (.iadd, 1) := by decide +kernel
theorem dX12_count1_17 : decode cX12_count1 17 = .ok (.istore_n 1, 1) := by decide +kernel
theorem dX12_count1_18 : decode cX12_count1 18 = .ok (.iinc 2 1, 3) := by decide +kernel
theorem dX12_count1_21 : decode cX12_count1 21 = .ok (.goto (-17), 3) := by decide +kernel
theorem dX12_count1_24 : decode cX12_count1 24 = .ok (.iload_n 1, 1) := by decide +kernel
theorem dX12_count1_25 : decode cX12_count1 25 = .ok (.ireturn, 1) := by decide +kernel
theorem dX12_explains_0 : decode cX12_explains 0 = .ok (.iconst 1, 1) := by decide +kernel
theorem dX12_explains_1 : decode cX12_explains 1 = .ok (.istore 4, 2) := by decide +kernel
theorem dX12_explains_3 : decode cX12_explains 3 = .ok (.iconst 0, 1) := by decide +kernel
theorem dX12_explains_4 : decode cX12_explains 4 = .ok (.istore 5, 2) := by decide +kernel
theorem dX12_explains_6 : decode cX12_explains 6 = .ok (.iload 5, 2) := by decide +kernel
theorem dX12_explains_8 : decode cX12_explains 8 = .ok (.aload_n 0, 1) := by decide +kernel
theorem dX12_explains_9 : decode cX12_explains 9 = .ok (.getfield 7, 3) := by decide +kernel
theorem dX12_explains_12 : decode cX12_explains 12 = .ok (.iconst 1, 1) := by decide +kernel
theorem dX12_explains_13 : decode cX12_explains 13 = .ok (.iaload, 1) := by decide +kernel
theorem dX12_explains_14 : decode cX12_explains 14 = .ok (.if_icmp .ge 167, 3) := by decide +kernel
theorem dX12_explains_17 : decode cX12_explains 17 = .ok (.aload_n 0, 1) := by decide +kernel
theorem dX12_explains_18 : decode cX12_explains 18 = .ok (.getfield 7, 3) := by decide +kernel
theorem dX12_explains_21 : decode cX12_explains 21 = .ok (.sipush 2570, 3) := by decide +kernel
theorem dX12_explains_24 : decode cX12_explains 24 = .ok (.iload 5, 2) := by decide +kernel
theorem dX12_explains_26 : decode cX12_explains 26 = .ok (.iadd, 1) := by decide +kernel
theorem dX12_explains_27 : decode cX12_explains 27 = .ok (.iaload, 1) := by decide +kernel
theorem dX12_explains_28 : decode cX12_explains 28 = .ok (.iconst (-1), 1) := by decide +kernel
theorem dX12_explains_29 : decode cX12_explains 29 = .ok (.if_icmp .eq 146, 3) := by decide +kernel
theorem dX12_explains_32 : decode cX12_explains 32 = .ok (.iconst 0, 1) := by decide +kernel
theorem dX12_explains_33 : decode cX12_explains 33 = .ok (.istore 6, 2) := by decide +kernel
theorem dX12_explains_35 : decode cX12_explains 35 = .ok (.iconst 0, 1) := by decide +kernel
theorem dX12_explains_36 : decode cX12_explains 36 = .ok (.istore 7, 2) := by decide +kernel
theorem dX12_explains_38 : decode cX12_explains 38 = .ok (.iload 7, 2) := by decide +kernel
theorem dX12_explains_40 : decode cX12_explains 40 = .ok (.iload_n 2, 1) := by decide +kernel
theorem dX12_explains_41 : decode cX12_explains 41 = .ok (.if_icmp .ge 101, 3) := by decide +kernel
theorem dX12_explains_44 : decode cX12_explains 44 = .ok (.iload_n 1, 1) := by decide +kernel
theorem dX12_explains_45 : decode cX12_explains 45 = .ok (.iload 7, 2) := by decide +kernel
theorem dX12_explains_47 : decode cX12_explains 47 = .ok (.ishr, 1) := by decide +kernel
theorem dX12_explains_48 : decode cX12_explains 48 = .ok (.iconst 1, 1) := by decide +kernel
theorem dX12_explains_49 : decode cX12_explains 49 = .ok (.iand, 1) := by decide +kernel
theorem dX12_explains_50 : decode cX12_explains 50 = .ok (.iconst 1, 1) := by decide +kernel
theorem dX12_explains_51 : decode cX12_explains 51 = .ok (.if_icmp .ne 19, 3) := by decide +kernel
theorem dX12_explains_54 : decode cX12_explains 54 = .ok (.aload_n 0, 1) := by decide +kernel
theorem dX12_explains_55 : decode cX12_explains 55 = .ok (.getfield 56, 3) := by decide +kernel
theorem dX12_explains_58 : decode cX12_explains 58 = .ok (.iload 7, 2) := by decide +kernel
theorem dX12_explains_60 : decode cX12_explains 60 = .ok (.iaload, 1) := by decide +kernel
theorem dX12_explains_61 : decode cX12_explains 61 = .ok (.iload 5, 2) := by decide +kernel
theorem dX12_explains_63 : decode cX12_explains 63 = .ok (.if_icmp .eq 7, 3) := by decide +kernel
theorem dX12_explains_66 : decode cX12_explains 66 = .ok (.iconst 1, 1) := by decide +kernel
theorem dX12_explains_67 : decode cX12_explains 67 = .ok (.goto 4, 3) := by decide +kernel
theorem dX12_explains_70 : decode cX12_explains 70 = .ok (.iconst 0, 1) := by decide +kernel
theorem dX12_explains_71 : decode cX12_explains 71 = .ok (.istore 8, 2) := by decide +kernel
theorem dX12_explains_73 : decode cX12_explains 73 = .ok (.iload 6, 2) := by decide +kernel
theorem dX12_explains_75 : decode cX12_explains 75 = .ok (.iload 8, 2) := by decide +kernel
theorem dX12_explains_77 : decode cX12_explains 77 = .ok (.ifCond .eq 55, 3) := by decide +kernel
theorem dX12_explains_80 : decode cX12_explains 80 = .ok (.aload_n 0, 1) := by decide +kernel
theorem dX12_explains_81 : decode cX12_explains 81 = .ok (.getfield 7, 3) := by decide +kernel
theorem dX12_explains_84 : decode cX12_explains 84 = .ok (.sipush 164, 3) := by decide +kernel
theorem dX12_explains_87 : decode cX12_explains 87 = .ok (.aload_n 0, 1) := by decide +kernel
theorem dX12_explains_88 : decode cX12_explains 88 = .ok (.getfield 56, 3) := by decide +kernel
theorem dX12_explains_91 : decode cX12_explains 91 = .ok (.iload 7, 2) := by decide +kernel
theorem dX12_explains_93 : decode cX12_explains 93 = .ok (.iaload, 1) := by decide +kernel
theorem dX12_explains_94 : decode cX12_explains 94 = .ok (.iadd, 1) := by decide +kernel
theorem dX12_explains_95 : decode cX12_explains 95 = .ok (.iaload, 1) := by decide +kernel
theorem dX12_explains_96 : decode cX12_explains 96 = .ok (.aload_n 0, 1) := by decide +kernel
theorem dX12_explains_97 : decode cX12_explains 97 = .ok (.getfield 7, 3) := by decide +kernel
theorem dX12_explains_100 : decode cX12_explains 100 = .ok (.sipush 152, 3) := by decide +kernel
theorem dX12_explains_103 : decode cX12_explains 103 = .ok (.aload_n 0, 1) := by decide +kernel
theorem dX12_explains_104 : decode cX12_explains 104 = .ok (.getfield 56, 3) := by decide +kernel
theorem dX12_explains_107 : decode cX12_explains 107 = .ok (.iload 7, 2) := by decide +kernel
theorem dX12_explains_109 : decode cX12_explains 109 = .ok (.iaload, 1) := by decide +kernel
theorem dX12_explains_110 : decode cX12_explains 110 = .ok (.iadd, 1) := by decide +kernel
theorem dX12_explains_111 : decode cX12_explains 111 = .ok (.iaload, 1) := by decide +kernel
theorem dX12_explains_112 : decode cX12_explains 112 = .ok (.aload_n 0, 1) := by decide +kernel
theorem dX12_explains_113 : decode cX12_explains 113 = .ok (.getfield 7, 3) := by decide +kernel
theorem dX12_explains_116 : decode cX12_explains 116 = .ok (.sipush 152, 3) := by decide +kernel
theorem dX12_explains_119 : decode cX12_explains 119 = .ok (.iload 5, 2) := by decide +kernel
theorem dX12_explains_121 : decode cX12_explains 121 = .ok (.iadd, 1) := by decide +kernel
theorem dX12_explains_122 : decode cX12_explains 122 = .ok (.iaload, 1) := by decide +kernel
theorem dX12_explains_123 : decode cX12_explains 123 = .ok (.invokestatic 85, 3) := by decide +kernel
theorem dX12_explains_126 : decode cX12_explains 126 = .ok (.iconst 1, 1) := by decide +kernel
theorem dX12_explains_127 : decode cX12_explains 127 = .ok (.iadd, 1) := by decide +kernel
theorem dX12_explains_128 : decode cX12_explains 128 = .ok (.idiv, 1) := by decide +kernel
theorem dX12_explains_129 : decode cX12_explains 129 = .ok (.goto 4, 3) := by decide +kernel
theorem dX12_explains_132 : decode cX12_explains 132 = .ok (.iconst 0, 1) := by decide +kernel
theorem dX12_explains_133 : decode cX12_explains 133 = .ok (.iadd, 1) := by decide +kernel
theorem dX12_explains_134 : decode cX12_explains 134 = .ok (.istore 6, 2) := by decide +kernel
theorem dX12_explains_136 : decode cX12_explains 136 = .ok (.iinc 7 1, 3) := by decide +kernel
theorem dX12_explains_139 : decode cX12_explains 139 = .ok (.goto (-101), 3) := by decide +kernel
theorem dX12_explains_142 : decode cX12_explains 142 = .ok (.iload 4, 2) := by decide +kernel
theorem dX12_explains_144 : decode cX12_explains 144 = .ok (.ifCond .eq 28, 3) := by decide +kernel
theorem dX12_explains_147 : decode cX12_explains 147 = .ok (.iload 6, 2) := by decide +kernel
theorem dX12_explains_149 : decode cX12_explains 149 = .ok (.aload_n 0, 1) := by decide +kernel
theorem dX12_explains_150 : decode cX12_explains 150 = .ok (.getfield 7, 3) := by decide +kernel
theorem dX12_explains_153 : decode cX12_explains 153 = .ok (.sipush 2570, 3) := by decide +kernel
theorem dX12_explains_156 : decode cX12_explains 156 = .ok (.iload 5, 2) := by decide +kernel
theorem dX12_explains_158 : decode cX12_explains 158 = .ok (.iadd, 1) := by decide +kernel
theorem dX12_explains_159 : decode cX12_explains 159 = .ok (.iaload, 1) := by decide +kernel
theorem dX12_explains_160 : decode cX12_explains 160 = .ok (.isub, 1) := by decide +kernel
theorem dX12_explains_161 : decode cX12_explains 161 = .ok (.invokestatic 73, 3) := by decide +kernel
theorem dX12_explains_164 : decode cX12_explains 164 = .ok (.iload_n 3, 1) := by decide +kernel
theorem dX12_explains_165 : decode cX12_explains 165 = .ok (.if_icmp .gt 7, 3) := by decide +kernel
theorem dX12_explains_168 : decode cX12_explains 168 = .ok (.iconst 1, 1) := by decide +kernel
theorem dX12_explains_169 : decode cX12_explains 169 = .ok (.goto 4, 3) := by decide +kernel
theorem dX12_explains_172 : decode cX12_explains 172 = .ok (.iconst 0, 1) := by decide +kernel
theorem dX12_explains_173 : decode cX12_explains 173 = .ok (.istore 4, 2) := by decide +kernel
theorem dX12_explains_175 : decode cX12_explains 175 = .ok (.iinc 5 1, 3) := by decide +kernel
theorem dX12_explains_178 : decode cX12_explains 178 = .ok (.goto (-172), 3) := by decide +kernel
theorem dX12_explains_181 : decode cX12_explains 181 = .ok (.iload 4, 2) := by decide +kernel
theorem dX12_explains_183 : decode cX12_explains 183 = .ok (.ireturn, 1) := by decide +kernel
theorem dX12_cause_0 : decode cX12_cause 0 = .ok (.iload_n 2, 1) := by decide +kernel
theorem dX12_cause_1 : decode cX12_cause 1 = .ok (.iconst 0, 1) := by decide +kernel
theorem dX12_cause_2 : decode cX12_cause 2 = .ok (.iconst 1, 1) := by decide +kernel
theorem dX12_cause_3 : decode cX12_cause 3 = .ok (.invokestatic 69, 3) := by decide +kernel
theorem dX12_cause_6 : decode cX12_cause 6 = .ok (.ifCond .ne 5, 3) := by decide +kernel
theorem dX12_cause_9 : decode cX12_cause 9 = .ok (.iconst (-1), 1) := by decide +kernel
theorem dX12_cause_10 : decode cX12_cause 10 = .ok (.ireturn, 1) := by decide +kernel
theorem dX12_cause_11 : decode cX12_cause 11 = .ok (.iload_n 1, 1) := by decide +kernel
theorem dX12_cause_12 : decode cX12_cause 12 = .ok (.iconst 0, 1) := by decide +kernel
theorem dX12_cause_13 : decode cX12_cause 13 = .ok (.bipush 99, 2) := by decide +kernel
theorem dX12_cause_15 : decode cX12_cause 15 = .ok (.invokestatic 69, 3) := by decide +kernel
theorem dX12_cause_18 : decode cX12_cause 18 = .ok (.ifCond .ne 6, 3) := by decide +kernel
theorem dX12_cause_21 : decode cX12_cause 21 = .ok (.bipush (-2), 2) := by decide +kernel
theorem dX12_cause_23 : decode cX12_cause 23 = .ok (.ireturn, 1) := by decide +kernel
theorem dX12_cause_24 : decode cX12_cause 24 = .ok (.iconst 0, 1) := by decide +kernel
theorem dX12_cause_25 : decode cX12_cause 25 = .ok (.istore_n 3, 1) := by decide +kernel
theorem dX12_cause_26 : decode cX12_cause 26 = .ok (.iconst 0, 1) := by decide +kernel
theorem dX12_cause_27 : decode cX12_cause 27 = .ok (.istore 4, 2) := by decide +kernel
theorem dX12_cause_29 : decode cX12_cause 29 = .ok (.iload 4, 2) := by decide +kernel
theorem dX12_cause_31 : decode cX12_cause 31 = .ok (.aload_n 0, 1) := by decide +kernel
theorem dX12_cause_32 : decode cX12_cause 32 = .ok (.getfield 7, 3) := by decide +kernel
theorem dX12_cause_35 : decode cX12_cause 35 = .ok (.iconst 1, 1) := by decide +kernel
theorem dX12_cause_36 : decode cX12_cause 36 = .ok (.iaload, 1) := by decide +kernel
theorem dX12_cause_37 : decode cX12_cause 37 = .ok (.if_icmp .ge 40, 3) := by decide +kernel
theorem dX12_cause_40 : decode cX12_cause 40 = .ok (.iload_n 3, 1) := by decide +kernel
theorem dX12_cause_41 : decode cX12_cause 41 = .ok (.bipush 8, 2) := by decide +kernel
theorem dX12_cause_43 : decode cX12_cause 43 = .ok (.if_icmp .ge 34, 3) := by decide +kernel
theorem dX12_cause_46 : decode cX12_cause 46 = .ok (.aload_n 0, 1) := by decide +kernel
theorem dX12_cause_47 : decode cX12_cause 47 = .ok (.getfield 7, 3) := by decide +kernel
theorem dX12_cause_50 : decode cX12_cause 50 = .ok (.sipush 140, 3) := by decide +kernel
theorem dX12_cause_53 : decode cX12_cause 53 = .ok (.iload 4, 2) := by decide +kernel
theorem dX12_cause_55 : decode cX12_cause 55 = .ok (.iadd, 1) := by decide +kernel
theorem dX12_cause_56 : decode cX12_cause 56 = .ok (.iaload, 1) := by decide +kernel
theorem dX12_cause_57 : decode cX12_cause 57 = .ok (.ifCond .eq 14, 3) := by decide +kernel
theorem dX12_cause_60 : decode cX12_cause 60 = .ok (.aload_n 0, 1) := by decide +kernel
theorem dX12_cause_61 : decode cX12_cause 61 = .ok (.getfield 56, 3) := by decide +kernel
theorem dX12_cause_64 : decode cX12_cause 64 = .ok (.iload_n 3, 1) := by decide +kernel
theorem dX12_cause_65 : decode cX12_cause 65 = .ok (.iload 4, 2) := by decide +kernel
theorem dX12_cause_67 : decode cX12_cause 67 = .ok (.iastore, 1) := by decide +kernel
theorem dX12_cause_68 : decode cX12_cause 68 = .ok (.iinc 3 1, 3) := by decide +kernel
theorem dX12_cause_71 : decode cX12_cause 71 = .ok (.iinc 4 1, 3) := by decide +kernel
theorem dX12_cause_74 : decode cX12_cause 74 = .ok (.goto (-45), 3) := by decide +kernel
theorem dX12_cause_77 : decode cX12_cause 77 = .ok (.bipush (-5), 2) := by decide +kernel
theorem dX12_cause_79 : decode cX12_cause 79 = .ok (.istore 4, 2) := by decide +kernel
theorem dX12_cause_81 : decode cX12_cause 81 = .ok (.iconst 0, 1) := by decide +kernel
theorem dX12_cause_82 : decode cX12_cause 82 = .ok (.istore 5, 2) := by decide +kernel
theorem dX12_cause_84 : decode cX12_cause 84 = .ok (.iconst 0, 1) := by decide +kernel
theorem dX12_cause_85 : decode cX12_cause 85 = .ok (.istore 6, 2) := by decide +kernel
theorem dX12_cause_87 : decode cX12_cause 87 = .ok (.iload 6, 2) := by decide +kernel
theorem dX12_cause_89 : decode cX12_cause 89 = .ok (.iconst 1, 1) := by decide +kernel
theorem dX12_cause_90 : decode cX12_cause 90 = .ok (.iload_n 3, 1) := by decide +kernel
theorem dX12_cause_91 : decode cX12_cause 91 = .ok (.ishl, 1) := by decide +kernel
theorem dX12_cause_92 : decode cX12_cause 92 = .ok (.if_icmp .ge 94, 3) := by decide +kernel
theorem dX12_cause_95 : decode cX12_cause 95 = .ok (.aload_n 0, 1) := by decide +kernel
theorem dX12_cause_96 : decode cX12_cause 96 = .ok (.iload 6, 2) := by decide +kernel
theorem dX12_cause_98 : decode cX12_cause 98 = .ok (.iload_n 3, 1) := by decide +kernel
theorem dX12_cause_99 : decode cX12_cause 99 = .ok (.iload_n 1, 1) := by decide +kernel
theorem dX12_cause_100 : decode cX12_cause 100 = .ok (.invokevirtual 232, 3) := by decide +kernel
theorem dX12_cause_103 : decode cX12_cause 103 = .ok (.ifCond .eq 77, 3) := by decide +kernel
theorem dX12_cause_106 : decode cX12_cause 106 = .ok (.iload 4, 2) := by decide +kernel
theorem dX12_cause_108 : decode cX12_cause 108 = .ok (.bipush (-5), 2) := by decide +kernel
theorem dX12_cause_110 : decode cX12_cause 110 = .ok (.if_icmp .eq 16, 3) := by decide +kernel
theorem dX12_cause_113 : decode cX12_cause 113 = .ok (.iload 6, 2) := by decide +kernel
theorem dX12_cause_115 : decode cX12_cause 115 = .ok (.invokestatic 235, 3) := by decide +kernel
theorem dX12_cause_118 : decode cX12_cause 118 = .ok (.iload 4, 2) := by decide +kernel
theorem dX12_cause_120 : decode cX12_cause 120 = .ok (.invokestatic 235, 3) := by decide +kernel
theorem dX12_cause_123 : decode cX12_cause 123 = .ok (.if_icmp .ge 7, 3) := by decide +kernel
theorem dX12_cause_126 : decode cX12_cause 126 = .ok (.iconst 1, 1) := by decide +kernel
theorem dX12_cause_127 : decode cX12_cause 127 = .ok (.goto 4, 3) := by decide +kernel
theorem dX12_cause_130 : decode cX12_cause 130 = .ok (.iconst 0, 1) := by decide +kernel
theorem dX12_cause_131 : decode cX12_cause 131 = .ok (.istore 7, 2) := by decide +kernel
theorem dX12_cause_133 : decode cX12_cause 133 = .ok (.iload 7, 2) := by decide +kernel
theorem dX12_cause_135 : decode cX12_cause 135 = .ok (.ifCond .eq 7, 3) := by decide +kernel
theorem dX12_cause_138 : decode cX12_cause 138 = .ok (.iconst 1, 1) := by decide +kernel
theorem dX12_cause_139 : decode cX12_cause 139 = .ok (.goto 25, 3) := by decide +kernel
theorem dX12_cause_142 : decode cX12_cause 142 = .ok (.iload 6, 2) := by decide +kernel
theorem dX12_cause_144 : decode cX12_cause 144 = .ok (.invokestatic 235, 3) := by decide +kernel
theorem dX12_cause_147 : decode cX12_cause 147 = .ok (.iload 4, 2) := by decide +kernel
theorem dX12_cause_149 : decode cX12_cause 149 = .ok (.invokestatic 235, 3) := by decide +kernel
theorem dX12_cause_152 : decode cX12_cause 152 = .ok (.if_icmp .ne 10, 3) := by decide +kernel
theorem dX12_cause_155 : decode cX12_cause 155 = .ok (.iload 5, 2) := by decide +kernel
theorem dX12_cause_157 : decode cX12_cause 157 = .ok (.iconst 1, 1) := by decide +kernel
theorem dX12_cause_158 : decode cX12_cause 158 = .ok (.iadd, 1) := by decide +kernel
theorem dX12_cause_159 : decode cX12_cause 159 = .ok (.goto 5, 3) := by decide +kernel
theorem dX12_cause_162 : decode cX12_cause 162 = .ok (.iload 5, 2) := by decide +kernel
theorem dX12_cause_164 : decode cX12_cause 164 = .ok (.istore 5, 2) := by decide +kernel
theorem dX12_cause_166 : decode cX12_cause 166 = .ok (.iload 7, 2) := by decide +kernel
theorem dX12_cause_168 : decode cX12_cause 168 = .ok (.ifCond .eq 8, 3) := by decide +kernel
theorem dX12_cause_171 : decode cX12_cause 171 = .ok (.iload 6, 2) := by decide +kernel
theorem dX12_cause_173 : decode cX12_cause 173 = .ok (.goto 5, 3) := by decide +kernel
theorem dX12_cause_176 : decode cX12_cause 176 = .ok (.iload 4, 2) := by decide +kernel
theorem dX12_cause_178 : decode cX12_cause 178 = .ok (.istore 4, 2) := by decide +kernel
theorem dX12_cause_180 : decode cX12_cause 180 = .ok (.iinc 6 1, 3) := by decide +kernel
theorem dX12_cause_183 : decode cX12_cause 183 = .ok (.goto (-96), 3) := by decide +kernel
theorem dX12_cause_186 : decode cX12_cause 186 = .ok (.iload 4, 2) := by decide +kernel
theorem dX12_cause_188 : decode cX12_cause 188 = .ok (.bipush (-5), 2) := by decide +kernel
theorem dX12_cause_190 : decode cX12_cause 190 = .ok (.if_icmp .eq 7, 3) := by decide +kernel
theorem dX12_cause_193 : decode cX12_cause 193 = .ok (.iload_n 2, 1) := by decide +kernel
theorem dX12_cause_194 : decode cX12_cause 194 = .ok (.ifCond .ne 8, 3) := by decide +kernel
theorem dX12_cause_197 : decode cX12_cause 197 = .ok (.iload 4, 2) := by decide +kernel
theorem dX12_cause_199 : decode cX12_cause 199 = .ok (.goto 5, 3) := by decide +kernel
theorem dX12_cause_202 : decode cX12_cause 202 = .ok (.iload 5, 2) := by decide +kernel
theorem dX12_cause_204 : decode cX12_cause 204 = .ok (.ireturn, 1) := by decide +kernel
theorem dX12_keeps_0 : decode cX12_keeps 0 = .ok (.iconst 0, 1) := by decide +kernel
theorem dX12_keeps_1 : decode cX12_keeps 1 = .ok (.istore_n 1, 1) := by decide +kernel
theorem dX12_keeps_2 : decode cX12_keeps 2 = .ok (.iload_n 1, 1) := by decide +kernel
theorem dX12_keeps_3 : decode cX12_keeps 3 = .ok (.bipush 60, 2) := by decide +kernel
theorem dX12_keeps_5 : decode cX12_keeps 5 = .ok (.if_icmp .ge 24, 3) := by decide +kernel
theorem dX12_keeps_8 : decode cX12_keeps 8 = .ok (.aload_n 0, 1) := by decide +kernel
theorem dX12_keeps_9 : decode cX12_keeps 9 = .ok (.getfield 59, 3) := by decide +kernel
theorem dX12_keeps_12 : decode cX12_keeps 12 = .ok (.iload_n 1, 1) := by decide +kernel
theorem dX12_keeps_13 : decode cX12_keeps 13 = .ok (.aload_n 0, 1) := by decide +kernel
theorem dX12_keeps_14 : decode cX12_keeps 14 = .ok (.getfield 7, 3) := by decide +kernel
theorem dX12_keeps_17 : decode cX12_keeps 17 = .ok (.bipush 20, 2) := by decide +kernel
theorem dX12_keeps_19 : decode cX12_keeps 19 = .ok (.iload_n 1, 1) := by decide +kernel
theorem dX12_keeps_20 : decode cX12_keeps 20 = .ok (.iadd, 1) := by decide +kernel
theorem dX12_keeps_21 : decode cX12_keeps 21 = .ok (.iaload, 1) := by decide +kernel
theorem dX12_keeps_22 : decode cX12_keeps 22 = .ok (.iastore, 1) := by decide +kernel
theorem dX12_keeps_23 : decode cX12_keeps 23 = .ok (.iinc 1 1, 3) := by decide +kernel
theorem dX12_keeps_26 : decode cX12_keeps 26 = .ok (.goto (-24), 3) := by decide +kernel
theorem dX12_keeps_29 : decode cX12_keeps 29 = .ok (.iconst 0, 1) := by decide +kernel
theorem dX12_keeps_30 : decode cX12_keeps 30 = .ok (.istore_n 1, 1) := by decide +kernel
theorem dX12_keeps_31 : decode cX12_keeps 31 = .ok (.iload_n 1, 1) := by decide +kernel
theorem dX12_keeps_32 : decode cX12_keeps 32 = .ok (.bipush 12, 2) := by decide +kernel
theorem dX12_keeps_34 : decode cX12_keeps 34 = .ok (.if_icmp .ge 25, 3) := by decide +kernel
theorem dX12_keeps_37 : decode cX12_keeps 37 = .ok (.aload_n 0, 1) := by decide +kernel
theorem dX12_keeps_38 : decode cX12_keeps 38 = .ok (.getfield 62, 3) := by decide +kernel
theorem dX12_keeps_41 : decode cX12_keeps 41 = .ok (.iload_n 1, 1) := by decide +kernel
theorem dX12_keeps_42 : decode cX12_keeps 42 = .ok (.aload_n 0, 1) := by decide +kernel
theorem dX12_keeps_43 : decode cX12_keeps 43 = .ok (.getfield 7, 3) := by decide +kernel
theorem dX12_keeps_46 : decode cX12_keeps 46 = .ok (.sipush 224, 3) := by decide +kernel
theorem dX12_keeps_49 : decode cX12_keeps 49 = .ok (.iload_n 1, 1) := by decide +kernel
theorem dX12_keeps_50 : decode cX12_keeps 50 = .ok (.iadd, 1) := by decide +kernel
theorem dX12_keeps_51 : decode cX12_keeps 51 = .ok (.iaload, 1) := by decide +kernel
theorem dX12_keeps_52 : decode cX12_keeps 52 = .ok (.iastore, 1) := by decide +kernel
theorem dX12_keeps_53 : decode cX12_keeps 53 = .ok (.iinc 1 1, 3) := by decide +kernel
theorem dX12_keeps_56 : decode cX12_keeps 56 = .ok (.goto (-25), 3) := by decide +kernel
theorem dX12_keeps_59 : decode cX12_keeps 59 = .ok (.return_, 1) := by decide +kernel
theorem dX12_givesBack_0 : decode cX12_givesBack 0 = .ok (.iconst 0, 1) := by decide +kernel
theorem dX12_givesBack_1 : decode cX12_givesBack 1 = .ok (.istore_n 1, 1) := by decide +kernel
theorem dX12_givesBack_2 : decode cX12_givesBack 2 = .ok (.iload_n 1, 1) := by decide +kernel
theorem dX12_givesBack_3 : decode cX12_givesBack 3 = .ok (.bipush 60, 2) := by decide +kernel
theorem dX12_givesBack_5 : decode cX12_givesBack 5 = .ok (.if_icmp .ge 24, 3) := by decide +kernel
theorem dX12_givesBack_8 : decode cX12_givesBack 8 = .ok (.aload_n 0, 1) := by decide +kernel
theorem dX12_givesBack_9 : decode cX12_givesBack 9 = .ok (.getfield 7, 3) := by decide +kernel
theorem dX12_givesBack_12 : decode cX12_givesBack 12 = .ok (.bipush 20, 2) := by decide +kernel
theorem dX12_givesBack_14 : decode cX12_givesBack 14 = .ok (.iload_n 1, 1) := by decide +kernel
theorem dX12_givesBack_15 : decode cX12_givesBack 15 = .ok (.iadd, 1) := by decide +kernel
theorem dX12_givesBack_16 : decode cX12_givesBack 16 = .ok (.aload_n 0, 1) := by decide +kernel
theorem dX12_givesBack_17 : decode cX12_givesBack 17 = .ok (.getfield 59, 3) := by decide +kernel
theorem dX12_givesBack_20 : decode cX12_givesBack 20 = .ok (.iload_n 1, 1) := by decide +kernel
theorem dX12_givesBack_21 : decode cX12_givesBack 21 = .ok (.iaload, 1) := by decide +kernel
theorem dX12_givesBack_22 : decode cX12_givesBack 22 = .ok (.iastore, 1) := by decide +kernel
theorem dX12_givesBack_23 : decode cX12_givesBack 23 = .ok (.iinc 1 1, 3) := by decide +kernel
theorem dX12_givesBack_26 : decode cX12_givesBack 26 = .ok (.goto (-24), 3) := by decide +kernel
theorem dX12_givesBack_29 : decode cX12_givesBack 29 = .ok (.iconst 0, 1) := by decide +kernel
theorem dX12_givesBack_30 : decode cX12_givesBack 30 = .ok (.istore_n 1, 1) := by decide +kernel
theorem dX12_givesBack_31 : decode cX12_givesBack 31 = .ok (.iload_n 1, 1) := by decide +kernel
theorem dX12_givesBack_32 : decode cX12_givesBack 32 = .ok (.bipush 12, 2) := by decide +kernel
theorem dX12_givesBack_34 : decode cX12_givesBack 34 = .ok (.if_icmp .ge 25, 3) := by decide +kernel
theorem dX12_givesBack_37 : decode cX12_givesBack 37 = .ok (.aload_n 0, 1) := by decide +kernel
theorem dX12_givesBack_38 : decode cX12_givesBack 38 = .ok (.getfield 7, 3) := by decide +kernel
theorem dX12_givesBack_41 : decode cX12_givesBack 41 = .ok (.sipush 224, 3) := by decide +kernel
theorem dX12_givesBack_44 : decode cX12_givesBack 44 = .ok (.iload_n 1, 1) := by decide +kernel
theorem dX12_givesBack_45 : decode cX12_givesBack 45 = .ok (.iadd, 1) := by decide +kernel
theorem dX12_givesBack_46 : decode cX12_givesBack 46 = .ok (.aload_n 0, 1) := by decide +kernel
theorem dX12_givesBack_47 : decode cX12_givesBack 47 = .ok (.getfield 62, 3) := by decide +kernel
theorem dX12_givesBack_50 : decode cX12_givesBack 50 = .ok (.iload_n 1, 1) := by decide +kernel
theorem dX12_givesBack_51 : decode cX12_givesBack 51 = .ok (.iaload, 1) := by decide +kernel
theorem dX12_givesBack_52 : decode cX12_givesBack 52 = .ok (.iastore, 1) := by decide +kernel
theorem dX12_givesBack_53 : decode cX12_givesBack 53 = .ok (.iinc 1 1, 3) := by decide +kernel
theorem dX12_givesBack_56 : decode cX12_givesBack 56 = .ok (.goto (-25), 3) := by decide +kernel
theorem dX12_givesBack_59 : decode cX12_givesBack 59 = .ok (.return_, 1) := by decide +kernel
theorem dX12_tire_0 : decode cX12_tire 0 = .ok (.aload_n 0, 1) := by decide +kernel
theorem dX12_tire_1 : decode cX12_tire 1 = .ok (.iload_n 1, 1) := by decide +kernel
theorem dX12_tire_2 : decode cX12_tire 2 = .ok (.invokevirtual 94, 3) := by decide +kernel
theorem dX12_tire_5 : decode cX12_tire 5 = .ok (.ifCond .ne 5, 3) := by decide +kernel
theorem dX12_tire_8 : decode cX12_tire 8 = .ok (.iconst (-1), 1) := by decide +kernel
theorem dX12_tire_9 : decode cX12_tire 9 = .ok (.ireturn, 1) := by decide +kernel
theorem dX12_tire_10 : decode cX12_tire 10 = .ok (.iload_n 2, 1) := by decide +kernel
theorem dX12_tire_11 : decode cX12_tire 11 = .ok (.iconst 1, 1) := by decide +kernel
theorem dX12_tire_12 : decode cX12_tire 12 = .ok (.sipush 9999, 3) := by decide +kernel
theorem dX12_tire_15 : decode cX12_tire 15 = .ok (.invokestatic 69, 3) := by decide +kernel
theorem dX12_tire_18 : decode cX12_tire 18 = .ok (.ifCond .ne 6, 3) := by decide +kernel
theorem dX12_tire_21 : decode cX12_tire 21 = .ok (.bipush (-2), 2) := by decide +kernel
theorem dX12_tire_23 : decode cX12_tire 23 = .ok (.ireturn, 1) := by decide +kernel
theorem dX12_tire_24 : decode cX12_tire 24 = .ok (.aload_n 0, 1) := by decide +kernel
theorem dX12_tire_25 : decode cX12_tire 25 = .ok (.invokevirtual 238, 3) := by decide +kernel
theorem dX12_tire_28 : decode cX12_tire 28 = .ok (.bipush (-5), 2) := by decide +kernel
theorem dX12_tire_30 : decode cX12_tire 30 = .ok (.istore_n 3, 1) := by decide +kernel
theorem dX12_tire_31 : decode cX12_tire 31 = .ok (.aload_n 0, 1) := by decide +kernel
theorem dX12_tire_32 : decode cX12_tire 32 = .ok (.getfield 7, 3) := by decide +kernel
theorem dX12_tire_35 : decode cX12_tire 35 = .ok (.iconst 0, 1) := by decide +kernel
theorem dX12_tire_36 : decode cX12_tire 36 = .ok (.iaload, 1) := by decide +kernel
theorem dX12_tire_37 : decode cX12_tire 37 = .ok (.istore 4, 2) := by decide +kernel
theorem dX12_tire_39 : decode cX12_tire 39 = .ok (.iload 4, 2) := by decide +kernel
theorem dX12_tire_41 : decode cX12_tire 41 = .ok (.sipush 400, 3) := by decide +kernel
theorem dX12_tire_44 : decode cX12_tire 44 = .ok (.if_icmp .ge 51, 3) := by decide +kernel
theorem dX12_tire_47 : decode cX12_tire 47 = .ok (.iload 4, 2) := by decide +kernel
theorem dX12_tire_49 : decode cX12_tire 49 = .ok (.aload_n 0, 1) := by decide +kernel
theorem dX12_tire_50 : decode cX12_tire 50 = .ok (.getfield 7, 3) := by decide +kernel
theorem dX12_tire_53 : decode cX12_tire 53 = .ok (.iconst 0, 1) := by decide +kernel
theorem dX12_tire_54 : decode cX12_tire 54 = .ok (.iaload, 1) := by decide +kernel
theorem dX12_tire_55 : decode cX12_tire 55 = .ok (.bipush 60, 2) := by decide +kernel
theorem dX12_tire_57 : decode cX12_tire 57 = .ok (.iadd, 1) := by decide +kernel
theorem dX12_tire_58 : decode cX12_tire 58 = .ok (.if_icmp .ge 37, 3) := by decide +kernel
theorem dX12_tire_61 : decode cX12_tire 61 = .ok (.iload_n 3, 1) := by decide +kernel
theorem dX12_tire_62 : decode cX12_tire 62 = .ok (.bipush (-5), 2) := by decide +kernel
theorem dX12_tire_64 : decode cX12_tire 64 = .ok (.if_icmp .ne 31, 3) := by decide +kernel
theorem dX12_tire_67 : decode cX12_tire 67 = .ok (.aload_n 0, 1) := by decide +kernel
theorem dX12_tire_68 : decode cX12_tire 68 = .ok (.invokevirtual 101, 3) := by decide +kernel
theorem dX12_tire_71 : decode cX12_tire 71 = .ok (.aload_n 0, 1) := by decide +kernel
theorem dX12_tire_72 : decode cX12_tire 72 = .ok (.getfield 22, 3) := by decide +kernel
theorem dX12_tire_75 : decode cX12_tire 75 = .ok (.iload_n 1, 1) := by decide +kernel
theorem dX12_tire_76 : decode cX12_tire 76 = .ok (.iaload, 1) := by decide +kernel
theorem dX12_tire_77 : decode cX12_tire 77 = .ok (.iload_n 2, 1) := by decide +kernel
theorem dX12_tire_78 : decode cX12_tire 78 = .ok (.if_icmp .ge 8, 3) := by decide +kernel
theorem dX12_tire_81 : decode cX12_tire 81 = .ok (.iload 4, 2) := by decide +kernel
theorem dX12_tire_83 : decode cX12_tire 83 = .ok (.goto 5, 3) := by decide +kernel
theorem dX12_tire_86 : decode cX12_tire 86 = .ok (.bipush (-5), 2) := by decide +kernel
theorem dX12_tire_88 : decode cX12_tire 88 = .ok (.istore_n 3, 1) := by decide +kernel
theorem dX12_tire_89 : decode cX12_tire 89 = .ok (.iinc 4 1, 3) := by decide +kernel
theorem dX12_tire_92 : decode cX12_tire 92 = .ok (.goto (-53), 3) := by decide +kernel
theorem dX12_tire_95 : decode cX12_tire 95 = .ok (.aload_n 0, 1) := by decide +kernel
theorem dX12_tire_96 : decode cX12_tire 96 = .ok (.invokevirtual 241, 3) := by decide +kernel
theorem dX12_tire_99 : decode cX12_tire 99 = .ok (.iload_n 3, 1) := by decide +kernel
theorem dX12_tire_100 : decode cX12_tire 100 = .ok (.ireturn, 1) := by decide +kernel
theorem dX12_shakes_0 : decode cX12_shakes 0 = .ok (.iconst 0, 1) := by decide +kernel
theorem dX12_shakes_1 : decode cX12_shakes 1 = .ok (.istore_n 1, 1) := by decide +kernel
theorem dX12_shakes_2 : decode cX12_shakes 2 = .ok (.iconst 0, 1) := by decide +kernel
theorem dX12_shakes_3 : decode cX12_shakes 3 = .ok (.istore_n 2, 1) := by decide +kernel
theorem dX12_shakes_4 : decode cX12_shakes 4 = .ok (.iload_n 2, 1) := by decide +kernel
theorem dX12_shakes_5 : decode cX12_shakes 5 = .ok (.bipush 30, 2) := by decide +kernel
theorem dX12_shakes_7 : decode cX12_shakes 7 = .ok (.if_icmp .ge 22, 3) := by decide +kernel
theorem dX12_shakes_10 : decode cX12_shakes 10 = .ok (.iload_n 1, 1) := by decide +kernel
theorem dX12_shakes_11 : decode cX12_shakes 11 = .ok (.aload_n 0, 1) := by decide +kernel
theorem dX12_shakes_12 : decode cX12_shakes 12 = .ok (.getfield 7, 3) := by decide +kernel
theorem dX12_shakes_15 : decode cX12_shakes 15 = .ok (.sipush 2590, 3) := by decide +kernel
theorem dX12_shakes_18 : decode cX12_shakes 18 = .ok (.iload_n 2, 1) := by decide +kernel
theorem dX12_shakes_19 : decode cX12_shakes 19 = .ok (.iadd, 1) := by decide +kernel
theorem dX12_shakes_20 : decode cX12_shakes 20 = .ok (.iaload, 1) := by decide +kernel
theorem dX12_shakes_21 : decode cX12_shakes 21 = .ok (.iadd, 1) := by decide +kernel
theorem dX12_shakes_22 : decode cX12_shakes 22 = .ok (.istore_n 1, 1) := by decide +kernel
theorem dX12_shakes_23 : decode cX12_shakes 23 = .ok (.iinc 2 1, 3) := by decide +kernel
theorem dX12_shakes_26 : decode cX12_shakes 26 = .ok (.goto (-22), 3) := by decide +kernel
theorem dX12_shakes_29 : decode cX12_shakes 29 = .ok (.iload_n 1, 1) := by decide +kernel
theorem dX12_shakes_30 : decode cX12_shakes 30 = .ok (.ireturn, 1) := by decide +kernel
theorem dX12_shake_0 : decode cX12_shake 0 = .ok (.iload_n 1, 1) := by decide +kernel
theorem dX12_shake_1 : decode cX12_shake 1 = .ok (.invokestatic 77, 3) := by decide +kernel
theorem dX12_shake_4 : decode cX12_shake 4 = .ok (.ifCond .ne 5, 3) := by decide +kernel
theorem dX12_shake_7 : decode cX12_shake 7 = .ok (.iconst (-1), 1) := by decide +kernel
theorem dX12_shake_8 : decode cX12_shake 8 = .ok (.ireturn, 1) := by decide +kernel
theorem dX12_shake_9 : decode cX12_shake 9 = .ok (.iload_n 2, 1) := by decide +kernel
theorem dX12_shake_10 : decode cX12_shake 10 = .ok (.sipush (-999), 3) := by decide +kernel
theorem dX12_shake_13 : decode cX12_shake 13 = .ok (.sipush 999, 3) := by decide +kernel
theorem dX12_shake_16 : decode cX12_shake 16 = .ok (.invokestatic 69, 3) := by decide +kernel
theorem dX12_shake_19 : decode cX12_shake 19 = .ok (.ifCond .ne 6, 3) := by decide +kernel
theorem dX12_shake_22 : decode cX12_shake 22 = .ok (.bipush (-2), 2) := by decide +kernel
theorem dX12_shake_24 : decode cX12_shake 24 = .ok (.ireturn, 1) := by decide +kernel
theorem dX12_shake_25 : decode cX12_shake 25 = .ok (.aload_n 0, 1) := by decide +kernel
theorem dX12_shake_26 : decode cX12_shake 26 = .ok (.getfield 7, 3) := by decide +kernel
theorem dX12_shake_29 : decode cX12_shake 29 = .ok (.sipush 2590, 3) := by decide +kernel
theorem dX12_shake_32 : decode cX12_shake 32 = .ok (.iload_n 1, 1) := by decide +kernel
theorem dX12_shake_33 : decode cX12_shake 33 = .ok (.iadd, 1) := by decide +kernel
theorem dX12_shake_34 : decode cX12_shake 34 = .ok (.iaload, 1) := by decide +kernel
theorem dX12_shake_35 : decode cX12_shake 35 = .ok (.ifCond .ne 15, 3) := by decide +kernel
theorem dX12_shake_38 : decode cX12_shake 38 = .ok (.aload_n 0, 1) := by decide +kernel
theorem dX12_shake_39 : decode cX12_shake 39 = .ok (.invokevirtual 244, 3) := by decide +kernel
theorem dX12_shake_42 : decode cX12_shake 42 = .ok (.bipush 6, 2) := by decide +kernel
theorem dX12_shake_44 : decode cX12_shake 44 = .ok (.if_icmp .ne 6, 3) := by decide +kernel
theorem dX12_shake_47 : decode cX12_shake 47 = .ok (.bipush (-4), 2) := by decide +kernel
theorem dX12_shake_49 : decode cX12_shake 49 = .ok (.ireturn, 1) := by decide +kernel
theorem dX12_shake_50 : decode cX12_shake 50 = .ok (.aload_n 0, 1) := by decide +kernel
theorem dX12_shake_51 : decode cX12_shake 51 = .ok (.getfield 7, 3) := by decide +kernel
theorem dX12_shake_54 : decode cX12_shake 54 = .ok (.sipush 2590, 3) := by decide +kernel
theorem dX12_shake_57 : decode cX12_shake 57 = .ok (.iload_n 1, 1) := by decide +kernel
theorem dX12_shake_58 : decode cX12_shake 58 = .ok (.iadd, 1) := by decide +kernel
theorem dX12_shake_59 : decode cX12_shake 59 = .ok (.iconst 1, 1) := by decide +kernel
theorem dX12_shake_60 : decode cX12_shake 60 = .ok (.iastore, 1) := by decide +kernel
theorem dX12_shake_61 : decode cX12_shake 61 = .ok (.aload_n 0, 1) := by decide +kernel
theorem dX12_shake_62 : decode cX12_shake 62 = .ok (.getfield 7, 3) := by decide +kernel
theorem dX12_shake_65 : decode cX12_shake 65 = .ok (.sipush 2620, 3) := by decide +kernel
theorem dX12_shake_68 : decode cX12_shake 68 = .ok (.iload_n 1, 1) := by decide +kernel
theorem dX12_shake_69 : decode cX12_shake 69 = .ok (.iadd, 1) := by decide +kernel
theorem dX12_shake_70 : decode cX12_shake 70 = .ok (.iload_n 2, 1) := by decide +kernel
theorem dX12_shake_71 : decode cX12_shake 71 = .ok (.iastore, 1) := by decide +kernel
theorem dX12_shake_72 : decode cX12_shake 72 = .ok (.aload_n 0, 1) := by decide +kernel
theorem dX12_shake_73 : decode cX12_shake 73 = .ok (.invokevirtual 244, 3) := by decide +kernel
theorem dX12_shake_76 : decode cX12_shake 76 = .ok (.ireturn, 1) := by decide +kernel
theorem dX12_push_0 : decode cX12_push 0 = .ok (.iload_n 1, 1) := by decide +kernel
theorem dX12_push_1 : decode cX12_push 1 = .ok (.invokestatic 77, 3) := by decide +kernel
theorem dX12_push_4 : decode cX12_push 4 = .ok (.ifCond .ne 5, 3) := by decide +kernel
theorem dX12_push_7 : decode cX12_push 7 = .ok (.iconst (-1), 1) := by decide +kernel
theorem dX12_push_8 : decode cX12_push 8 = .ok (.ireturn, 1) := by decide +kernel
theorem dX12_push_9 : decode cX12_push 9 = .ok (.iload_n 2, 1) := by decide +kernel
theorem dX12_push_10 : decode cX12_push 10 = .ok (.bipush (-99), 2) := by decide +kernel
theorem dX12_push_12 : decode cX12_push 12 = .ok (.bipush 99, 2) := by decide +kernel
theorem dX12_push_14 : decode cX12_push 14 = .ok (.invokestatic 69, 3) := by decide +kernel
theorem dX12_push_17 : decode cX12_push 17 = .ok (.ifCond .ne 6, 3) := by decide +kernel
theorem dX12_push_20 : decode cX12_push 20 = .ok (.bipush (-2), 2) := by decide +kernel
theorem dX12_push_22 : decode cX12_push 22 = .ok (.ireturn, 1) := by decide +kernel
theorem dX12_push_23 : decode cX12_push 23 = .ok (.aload_n 0, 1) := by decide +kernel
theorem dX12_push_24 : decode cX12_push 24 = .ok (.getfield 7, 3) := by decide +kernel
theorem dX12_push_27 : decode cX12_push 27 = .ok (.bipush 7, 2) := by decide +kernel
theorem dX12_push_29 : decode cX12_push 29 = .ok (.iaload, 1) := by decide +kernel
theorem dX12_push_30 : decode cX12_push 30 = .ok (.bipush 6, 2) := by decide +kernel
theorem dX12_push_32 : decode cX12_push 32 = .ok (.if_icmp .ne 6, 3) := by decide +kernel
theorem dX12_push_35 : decode cX12_push 35 = .ok (.bipush (-4), 2) := by decide +kernel
theorem dX12_push_37 : decode cX12_push 37 = .ok (.ireturn, 1) := by decide +kernel
theorem dX12_push_38 : decode cX12_push 38 = .ok (.aload_n 0, 1) := by decide +kernel
theorem dX12_push_39 : decode cX12_push 39 = .ok (.getfield 7, 3) := by decide +kernel
theorem dX12_push_42 : decode cX12_push 42 = .ok (.sipush 2650, 3) := by decide +kernel
theorem dX12_push_45 : decode cX12_push 45 = .ok (.aload_n 0, 1) := by decide +kernel
theorem dX12_push_46 : decode cX12_push 46 = .ok (.getfield 7, 3) := by decide +kernel
theorem dX12_push_49 : decode cX12_push 49 = .ok (.bipush 7, 2) := by decide +kernel
theorem dX12_push_51 : decode cX12_push 51 = .ok (.iaload, 1) := by decide +kernel
theorem dX12_push_52 : decode cX12_push 52 = .ok (.iadd, 1) := by decide +kernel
theorem dX12_push_53 : decode cX12_push 53 = .ok (.iload_n 1, 1) := by decide +kernel
theorem dX12_push_54 : decode cX12_push 54 = .ok (.iastore, 1) := by decide +kernel
theorem dX12_push_55 : decode cX12_push 55 = .ok (.aload_n 0, 1) := by decide +kernel
theorem dX12_push_56 : decode cX12_push 56 = .ok (.getfield 7, 3) := by decide +kernel
theorem dX12_push_59 : decode cX12_push 59 = .ok (.sipush 2660, 3) := by decide +kernel
theorem dX12_push_62 : decode cX12_push 62 = .ok (.aload_n 0, 1) := by decide +kernel
theorem dX12_push_63 : decode cX12_push 63 = .ok (.getfield 7, 3) := by decide +kernel
theorem dX12_push_66 : decode cX12_push 66 = .ok (.bipush 7, 2) := by decide +kernel
theorem dX12_push_68 : decode cX12_push 68 = .ok (.iaload, 1) := by decide +kernel
theorem dX12_push_69 : decode cX12_push 69 = .ok (.iadd, 1) := by decide +kernel
theorem dX12_push_70 : decode cX12_push 70 = .ok (.iload_n 2, 1) := by decide +kernel
theorem dX12_push_71 : decode cX12_push 71 = .ok (.iastore, 1) := by decide +kernel
theorem dX12_push_72 : decode cX12_push 72 = .ok (.aload_n 0, 1) := by decide +kernel
theorem dX12_push_73 : decode cX12_push 73 = .ok (.getfield 7, 3) := by decide +kernel
theorem dX12_push_76 : decode cX12_push 76 = .ok (.bipush 7, 2) := by decide +kernel
theorem dX12_push_78 : decode cX12_push 78 = .ok (.dup2, 1) := by decide +kernel
theorem dX12_push_79 : decode cX12_push 79 = .ok (.iaload, 1) := by decide +kernel
theorem dX12_push_80 : decode cX12_push 80 = .ok (.iconst 1, 1) := by decide +kernel
theorem dX12_push_81 : decode cX12_push 81 = .ok (.iadd, 1) := by decide +kernel
theorem dX12_push_82 : decode cX12_push 82 = .ok (.iastore, 1) := by decide +kernel
theorem dX12_push_83 : decode cX12_push 83 = .ok (.aload_n 0, 1) := by decide +kernel
theorem dX12_push_84 : decode cX12_push 84 = .ok (.getfield 7, 3) := by decide +kernel
theorem dX12_push_87 : decode cX12_push 87 = .ok (.bipush 7, 2) := by decide +kernel
theorem dX12_push_89 : decode cX12_push 89 = .ok (.iaload, 1) := by decide +kernel
theorem dX12_push_90 : decode cX12_push 90 = .ok (.ireturn, 1) := by decide +kernel
theorem dX12_shook_0 : decode cX12_shook 0 = .ok (.iconst 1, 1) := by decide +kernel
theorem dX12_shook_1 : decode cX12_shook 1 = .ok (.istore_n 2, 1) := by decide +kernel
theorem dX12_shook_2 : decode cX12_shook 2 = .ok (.iconst 0, 1) := by decide +kernel
theorem dX12_shook_3 : decode cX12_shook 3 = .ok (.istore_n 3, 1) := by decide +kernel
theorem dX12_shook_4 : decode cX12_shook 4 = .ok (.iload_n 3, 1) := by decide +kernel
theorem dX12_shook_5 : decode cX12_shook 5 = .ok (.bipush 30, 2) := by decide +kernel
theorem dX12_shook_7 : decode cX12_shook 7 = .ok (.if_icmp .ge 154, 3) := by decide +kernel
theorem dX12_shook_10 : decode cX12_shook 10 = .ok (.iconst 0, 1) := by decide +kernel
theorem dX12_shook_11 : decode cX12_shook 11 = .ok (.istore 4, 2) := by decide +kernel
theorem dX12_shook_13 : decode cX12_shook 13 = .ok (.iconst 0, 1) := by decide +kernel
theorem dX12_shook_14 : decode cX12_shook 14 = .ok (.istore 5, 2) := by decide +kernel
theorem dX12_shook_16 : decode cX12_shook 16 = .ok (.iload 5, 2) := by decide +kernel
theorem dX12_shook_18 : decode cX12_shook 18 = .ok (.aload_n 0, 1) := by decide +kernel
theorem dX12_shook_19 : decode cX12_shook 19 = .ok (.getfield 7, 3) := by decide +kernel
theorem dX12_shook_22 : decode cX12_shook 22 = .ok (.bipush 7, 2) := by decide +kernel
theorem dX12_shook_24 : decode cX12_shook 24 = .ok (.iaload, 1) := by decide +kernel
theorem dX12_shook_25 : decode cX12_shook 25 = .ok (.if_icmp .ge 92, 3) := by decide +kernel
theorem dX12_shook_28 : decode cX12_shook 28 = .ok (.aload_n 0, 1) := by decide +kernel
theorem dX12_shook_29 : decode cX12_shook 29 = .ok (.getfield 7, 3) := by decide +kernel
theorem dX12_shook_32 : decode cX12_shook 32 = .ok (.sipush 2650, 3) := by decide +kernel
theorem dX12_shook_35 : decode cX12_shook 35 = .ok (.iload 5, 2) := by decide +kernel
theorem dX12_shook_37 : decode cX12_shook 37 = .ok (.iadd, 1) := by decide +kernel
theorem dX12_shook_38 : decode cX12_shook 38 = .ok (.iaload, 1) := by decide +kernel
theorem dX12_shook_39 : decode cX12_shook 39 = .ok (.iload_n 3, 1) := by decide +kernel
theorem dX12_shook_40 : decode cX12_shook 40 = .ok (.invokestatic 85, 3) := by decide +kernel
theorem dX12_shook_43 : decode cX12_shook 43 = .ok (.istore 6, 2) := by decide +kernel
theorem dX12_shook_45 : decode cX12_shook 45 = .ok (.iload 6, 2) := by decide +kernel
theorem dX12_shook_47 : decode cX12_shook 47 = .ok (.iconst 2, 1) := by decide +kernel
theorem dX12_shook_48 : decode cX12_shook 48 = .ok (.if_icmp .ge 17, 3) := by decide +kernel
theorem dX12_shook_51 : decode cX12_shook 51 = .ok (.aload_n 0, 1) := by decide +kernel
theorem dX12_shook_52 : decode cX12_shook 52 = .ok (.getfield 7, 3) := by decide +kernel
theorem dX12_shook_55 : decode cX12_shook 55 = .ok (.sipush 2660, 3) := by decide +kernel
theorem dX12_shook_58 : decode cX12_shook 58 = .ok (.iload 5, 2) := by decide +kernel
theorem dX12_shook_60 : decode cX12_shook 60 = .ok (.iadd, 1) := by decide +kernel
theorem dX12_shook_61 : decode cX12_shook 61 = .ok (.iaload, 1) := by decide +kernel
theorem dX12_shook_62 : decode cX12_shook 62 = .ok (.goto 26, 3) := by decide +kernel
theorem dX12_shook_65 : decode cX12_shook 65 = .ok (.iload 6, 2) := by decide +kernel
theorem dX12_shook_67 : decode cX12_shook 67 = .ok (.iconst 2, 1) := by decide +kernel
theorem dX12_shook_68 : decode cX12_shook 68 = .ok (.if_icmp .ne 19, 3) := by decide +kernel
theorem dX12_shook_71 : decode cX12_shook 71 = .ok (.aload_n 0, 1) := by decide +kernel
theorem dX12_shook_72 : decode cX12_shook 72 = .ok (.getfield 7, 3) := by decide +kernel
theorem dX12_shook_75 : decode cX12_shook 75 = .ok (.sipush 2660, 3) := by decide +kernel
theorem dX12_shook_78 : decode cX12_shook 78 = .ok (.iload 5, 2) := by decide +kernel
theorem dX12_shook_80 : decode cX12_shook 80 = .ok (.iadd, 1) := by decide +kernel
theorem dX12_shook_81 : decode cX12_shook 81 = .ok (.iaload, 1) := by decide +kernel
theorem dX12_shook_82 : decode cX12_shook 82 = .ok (.iconst 2, 1) := by decide +kernel
theorem dX12_shook_83 : decode cX12_shook 83 = .ok (.idiv, 1) := by decide +kernel
theorem dX12_shook_84 : decode cX12_shook 84 = .ok (.goto 4, 3) := by decide +kernel
theorem dX12_shook_87 : decode cX12_shook 87 = .ok (.iconst 0, 1) := by decide +kernel
theorem dX12_shook_88 : decode cX12_shook 88 = .ok (.istore 7, 2) := by decide +kernel
theorem dX12_shook_90 : decode cX12_shook 90 = .ok (.iload 4, 2) := by decide +kernel
theorem dX12_shook_92 : decode cX12_shook 92 = .ok (.iload_n 1, 1) := by decide +kernel
theorem dX12_shook_93 : decode cX12_shook 93 = .ok (.iload 5, 2) := by decide +kernel
theorem dX12_shook_95 : decode cX12_shook 95 = .ok (.ishr, 1) := by decide +kernel
theorem dX12_shook_96 : decode cX12_shook 96 = .ok (.iconst 1, 1) := by decide +kernel
theorem dX12_shook_97 : decode cX12_shook 97 = .ok (.iand, 1) := by decide +kernel
theorem dX12_shook_98 : decode cX12_shook 98 = .ok (.iconst 1, 1) := by decide +kernel
theorem dX12_shook_99 : decode cX12_shook 99 = .ok (.if_icmp .ne 8, 3) := by decide +kernel
theorem dX12_shook_102 : decode cX12_shook 102 = .ok (.iload 7, 2) := by decide +kernel
theorem dX12_shook_104 : decode cX12_shook 104 = .ok (.goto 4, 3) := by decide +kernel
theorem dX12_shook_107 : decode cX12_shook 107 = .ok (.iconst 0, 1) := by decide +kernel
theorem dX12_shook_108 : decode cX12_shook 108 = .ok (.iadd, 1) := by decide +kernel
theorem dX12_shook_109 : decode cX12_shook 109 = .ok (.istore 4, 2) := by decide +kernel
theorem dX12_shook_111 : decode cX12_shook 111 = .ok (.iinc 5 1, 3) := by decide +kernel
theorem dX12_shook_114 : decode cX12_shook 114 = .ok (.goto (-98), 3) := by decide +kernel
theorem dX12_shook_117 : decode cX12_shook 117 = .ok (.iload_n 2, 1) := by decide +kernel
theorem dX12_shook_118 : decode cX12_shook 118 = .ok (.ifCond .eq 35, 3) := by decide +kernel
theorem dX12_shook_121 : decode cX12_shook 121 = .ok (.aload_n 0, 1) := by decide +kernel
theorem dX12_shook_122 : decode cX12_shook 122 = .ok (.getfield 7, 3) := by decide +kernel
theorem dX12_shook_125 : decode cX12_shook 125 = .ok (.sipush 2590, 3) := by decide +kernel
theorem dX12_shook_128 : decode cX12_shook 128 = .ok (.iload_n 3, 1) := by decide +kernel
theorem dX12_shook_129 : decode cX12_shook 129 = .ok (.iadd, 1) := by decide +kernel
theorem dX12_shook_130 : decode cX12_shook 130 = .ok (.iaload, 1) := by decide +kernel
theorem dX12_shook_131 : decode cX12_shook 131 = .ok (.ifCond .eq 18, 3) := by decide +kernel
theorem dX12_shook_134 : decode cX12_shook 134 = .ok (.iload 4, 2) := by decide +kernel
theorem dX12_shook_136 : decode cX12_shook 136 = .ok (.aload_n 0, 1) := by decide +kernel
theorem dX12_shook_137 : decode cX12_shook 137 = .ok (.getfield 7, 3) := by decide +kernel
theorem dX12_shook_140 : decode cX12_shook 140 = .ok (.sipush 2620, 3) := by decide +kernel
theorem dX12_shook_143 : decode cX12_shook 143 = .ok (.iload_n 3, 1) := by decide +kernel
theorem dX12_shook_144 : decode cX12_shook 144 = .ok (.iadd, 1) := by decide +kernel
theorem dX12_shook_145 : decode cX12_shook 145 = .ok (.iaload, 1) := by decide +kernel
theorem dX12_shook_146 : decode cX12_shook 146 = .ok (.if_icmp .ne 7, 3) := by decide +kernel
theorem dX12_shook_149 : decode cX12_shook 149 = .ok (.iconst 1, 1) := by decide +kernel
theorem dX12_shook_150 : decode cX12_shook 150 = .ok (.goto 4, 3) := by decide +kernel
theorem dX12_shook_153 : decode cX12_shook 153 = .ok (.iconst 0, 1) := by decide +kernel
theorem dX12_shook_154 : decode cX12_shook 154 = .ok (.istore_n 2, 1) := by decide +kernel
theorem dX12_shook_155 : decode cX12_shook 155 = .ok (.iinc 3 1, 3) := by decide +kernel
theorem dX12_shook_158 : decode cX12_shook 158 = .ok (.goto (-154), 3) := by decide +kernel
theorem dX12_shook_161 : decode cX12_shook 161 = .ok (.iload_n 2, 1) := by decide +kernel
theorem dX12_shook_162 : decode cX12_shook 162 = .ok (.ireturn, 1) := by decide +kernel
theorem dX12_shift_0 : decode cX12_shift 0 = .ok (.iload_n 1, 1) := by decide +kernel
theorem dX12_shift_1 : decode cX12_shift 1 = .ok (.iconst 0, 1) := by decide +kernel
theorem dX12_shift_2 : decode cX12_shift 2 = .ok (.iconst 1, 1) := by decide +kernel
theorem dX12_shift_3 : decode cX12_shift 3 = .ok (.invokestatic 69, 3) := by decide +kernel
theorem dX12_shift_6 : decode cX12_shift 6 = .ok (.ifCond .ne 5, 3) := by decide +kernel
theorem dX12_shift_9 : decode cX12_shift 9 = .ok (.iconst (-1), 1) := by decide +kernel
theorem dX12_shift_10 : decode cX12_shift 10 = .ok (.ireturn, 1) := by decide +kernel
theorem dX12_shift_11 : decode cX12_shift 11 = .ok (.bipush (-5), 2) := by decide +kernel
theorem dX12_shift_13 : decode cX12_shift 13 = .ok (.istore_n 2, 1) := by decide +kernel
theorem dX12_shift_14 : decode cX12_shift 14 = .ok (.iconst 0, 1) := by decide +kernel
theorem dX12_shift_15 : decode cX12_shift 15 = .ok (.istore_n 3, 1) := by decide +kernel
theorem dX12_shift_16 : decode cX12_shift 16 = .ok (.iconst 0, 1) := by decide +kernel
theorem dX12_shift_17 : decode cX12_shift 17 = .ok (.istore 4, 2) := by decide +kernel
theorem dX12_shift_19 : decode cX12_shift 19 = .ok (.iload 4, 2) := by decide +kernel
theorem dX12_shift_21 : decode cX12_shift 21 = .ok (.iconst 1, 1) := by decide +kernel
theorem dX12_shift_22 : decode cX12_shift 22 = .ok (.aload_n 0, 1) := by decide +kernel
theorem dX12_shift_23 : decode cX12_shift 23 = .ok (.getfield 7, 3) := by decide +kernel
theorem dX12_shift_26 : decode cX12_shift 26 = .ok (.bipush 7, 2) := by decide +kernel
theorem dX12_shift_28 : decode cX12_shift 28 = .ok (.iaload, 1) := by decide +kernel
theorem dX12_shift_29 : decode cX12_shift 29 = .ok (.ishl, 1) := by decide +kernel
theorem dX12_shift_30 : decode cX12_shift 30 = .ok (.if_icmp .ge 84, 3) := by decide +kernel
theorem dX12_shift_33 : decode cX12_shift 33 = .ok (.aload_n 0, 1) := by decide +kernel
theorem dX12_shift_34 : decode cX12_shift 34 = .ok (.iload 4, 2) := by decide +kernel
theorem dX12_shift_36 : decode cX12_shift 36 = .ok (.invokevirtual 247, 3) := by decide +kernel
theorem dX12_shift_39 : decode cX12_shift 39 = .ok (.ifCond .eq 69, 3) := by decide +kernel
theorem dX12_shift_42 : decode cX12_shift 42 = .ok (.iload_n 2, 1) := by decide +kernel
theorem dX12_shift_43 : decode cX12_shift 43 = .ok (.bipush (-5), 2) := by decide +kernel
theorem dX12_shift_45 : decode cX12_shift 45 = .ok (.if_icmp .eq 15, 3) := by decide +kernel
theorem dX12_shift_48 : decode cX12_shift 48 = .ok (.iload 4, 2) := by decide +kernel
theorem dX12_shift_50 : decode cX12_shift 50 = .ok (.invokestatic 235, 3) := by decide +kernel
theorem dX12_shift_53 : decode cX12_shift 53 = .ok (.iload_n 2, 1) := by decide +kernel
theorem dX12_shift_54 : decode cX12_shift 54 = .ok (.invokestatic 235, 3) := by decide +kernel
theorem dX12_shift_57 : decode cX12_shift 57 = .ok (.if_icmp .ge 7, 3) := by decide +kernel
theorem dX12_shift_60 : decode cX12_shift 60 = .ok (.iconst 1, 1) := by decide +kernel
theorem dX12_shift_61 : decode cX12_shift 61 = .ok (.goto 4, 3) := by decide +kernel
theorem dX12_shift_64 : decode cX12_shift 64 = .ok (.iconst 0, 1) := by decide +kernel
theorem dX12_shift_65 : decode cX12_shift 65 = .ok (.istore 5, 2) := by decide +kernel
theorem dX12_shift_67 : decode cX12_shift 67 = .ok (.iload 5, 2) := by decide +kernel
theorem dX12_shift_69 : decode cX12_shift 69 = .ok (.ifCond .eq 7, 3) := by decide +kernel
theorem dX12_shift_72 : decode cX12_shift 72 = .ok (.iconst 1, 1) := by decide +kernel
theorem dX12_shift_73 : decode cX12_shift 73 = .ok (.goto 22, 3) := by decide +kernel
theorem dX12_shift_76 : decode cX12_shift 76 = .ok (.iload 4, 2) := by decide +kernel
theorem dX12_shift_78 : decode cX12_shift 78 = .ok (.invokestatic 235, 3) := by decide +kernel
theorem dX12_shift_81 : decode cX12_shift 81 = .ok (.iload_n 2, 1) := by decide +kernel
theorem dX12_shift_82 : decode cX12_shift 82 = .ok (.invokestatic 235, 3) := by decide +kernel
theorem dX12_shift_85 : decode cX12_shift 85 = .ok (.if_icmp .ne 9, 3) := by decide +kernel
theorem dX12_shift_88 : decode cX12_shift 88 = .ok (.iload_n 3, 1) := by decide +kernel
theorem dX12_shift_89 : decode cX12_shift 89 = .ok (.iconst 1, 1) := by decide +kernel
theorem dX12_shift_90 : decode cX12_shift 90 = .ok (.iadd, 1) := by decide +kernel
theorem dX12_shift_91 : decode cX12_shift 91 = .ok (.goto 4, 3) := by decide +kernel
theorem dX12_shift_94 : decode cX12_shift 94 = .ok (.iload_n 3, 1) := by decide +kernel
theorem dX12_shift_95 : decode cX12_shift 95 = .ok (.istore_n 3, 1) := by decide +kernel
theorem dX12_shift_96 : decode cX12_shift 96 = .ok (.iload 5, 2) := by decide +kernel
theorem dX12_shift_98 : decode cX12_shift 98 = .ok (.ifCond .eq 8, 3) := by decide +kernel
theorem dX12_shift_101 : decode cX12_shift 101 = .ok (.iload 4, 2) := by decide +kernel
theorem dX12_shift_103 : decode cX12_shift 103 = .ok (.goto 4, 3) := by decide +kernel
theorem dX12_shift_106 : decode cX12_shift 106 = .ok (.iload_n 2, 1) := by decide +kernel
theorem dX12_shift_107 : decode cX12_shift 107 = .ok (.istore_n 2, 1) := by decide +kernel
theorem dX12_shift_108 : decode cX12_shift 108 = .ok (.iinc 4 1, 3) := by decide +kernel
theorem dX12_shift_111 : decode cX12_shift 111 = .ok (.goto (-92), 3) := by decide +kernel
theorem dX12_shift_114 : decode cX12_shift 114 = .ok (.iload_n 2, 1) := by decide +kernel
theorem dX12_shift_115 : decode cX12_shift 115 = .ok (.bipush (-5), 2) := by decide +kernel
theorem dX12_shift_117 : decode cX12_shift 117 = .ok (.if_icmp .eq 7, 3) := by decide +kernel
theorem dX12_shift_120 : decode cX12_shift 120 = .ok (.iload_n 1, 1) := by decide +kernel
theorem dX12_shift_121 : decode cX12_shift 121 = .ok (.ifCond .ne 7, 3) := by decide +kernel
theorem dX12_shift_124 : decode cX12_shift 124 = .ok (.iload_n 2, 1) := by decide +kernel
theorem dX12_shift_125 : decode cX12_shift 125 = .ok (.goto 4, 3) := by decide +kernel
theorem dX12_shift_128 : decode cX12_shift 128 = .ok (.iload_n 3, 1) := by decide +kernel
theorem dX12_shift_129 : decode cX12_shift 129 = .ok (.ireturn, 1) := by decide +kernel
theorem dX12_givenWith_0 : decode cX12_givenWith 0 = .ok (.aload_n 0, 1) := by decide +kernel
theorem dX12_givenWith_1 : decode cX12_givenWith 1 = .ok (.getfield 7, 3) := by decide +kernel
theorem dX12_givenWith_4 : decode cX12_givenWith 4 = .ok (.iconst 1, 1) := by decide +kernel
theorem dX12_givenWith_5 : decode cX12_givenWith 5 = .ok (.iaload, 1) := by decide +kernel
theorem dX12_givenWith_6 : decode cX12_givenWith 6 = .ok (.istore_n 3, 1) := by decide +kernel
theorem dX12_givenWith_7 : decode cX12_givenWith 7 = .ok (.aload_n 0, 1) := by decide +kernel
theorem dX12_givenWith_8 : decode cX12_givenWith 8 = .ok (.getfield 7, 3) := by decide +kernel
theorem dX12_givenWith_11 : decode cX12_givenWith 11 = .ok (.sipush 140, 3) := by decide +kernel
theorem dX12_givenWith_14 : decode cX12_givenWith 14 = .ok (.iload_n 3, 1) := by decide +kernel
theorem dX12_givenWith_15 : decode cX12_givenWith 15 = .ok (.iadd, 1) := by decide +kernel
theorem dX12_givenWith_16 : decode cX12_givenWith 16 = .ok (.iconst 1, 1) := by decide +kernel
theorem dX12_givenWith_17 : decode cX12_givenWith 17 = .ok (.iastore, 1) := by decide +kernel
theorem dX12_givenWith_18 : decode cX12_givenWith 18 = .ok (.aload_n 0, 1) := by decide +kernel
theorem dX12_givenWith_19 : decode cX12_givenWith 19 = .ok (.getfield 7, 3) := by decide +kernel
theorem dX12_givenWith_22 : decode cX12_givenWith 22 = .ok (.sipush 152, 3) := by decide +kernel
theorem dX12_givenWith_25 : decode cX12_givenWith 25 = .ok (.iload_n 3, 1) := by decide +kernel
theorem dX12_givenWith_26 : decode cX12_givenWith 26 = .ok (.iadd, 1) := by decide +kernel
theorem dX12_givenWith_27 : decode cX12_givenWith 27 = .ok (.iload_n 1, 1) := by decide +kernel
theorem dX12_givenWith_28 : decode cX12_givenWith 28 = .ok (.iastore, 1) := by decide +kernel
theorem dX12_givenWith_29 : decode cX12_givenWith 29 = .ok (.aload_n 0, 1) := by decide +kernel
theorem dX12_givenWith_30 : decode cX12_givenWith 30 = .ok (.getfield 7, 3) := by decide +kernel
theorem dX12_givenWith_33 : decode cX12_givenWith 33 = .ok (.sipush 164, 3) := by decide +kernel
theorem dX12_givenWith_36 : decode cX12_givenWith 36 = .ok (.iload_n 3, 1) := by decide +kernel
theorem dX12_givenWith_37 : decode cX12_givenWith 37 = .ok (.iadd, 1) := by decide +kernel
theorem dX12_givenWith_38 : decode cX12_givenWith 38 = .ok (.iload_n 2, 1) := by decide +kernel
theorem dX12_givenWith_39 : decode cX12_givenWith 39 = .ok (.iastore, 1) := by decide +kernel
theorem dX12_givenWith_40 : decode cX12_givenWith 40 = .ok (.aload_n 0, 1) := by decide +kernel
theorem dX12_givenWith_41 : decode cX12_givenWith 41 = .ok (.getfield 7, 3) := by decide +kernel
theorem dX12_givenWith_44 : decode cX12_givenWith 44 = .ok (.sipush 188, 3) := by decide +kernel
theorem dX12_givenWith_47 : decode cX12_givenWith 47 = .ok (.iload_n 3, 1) := by decide +kernel
theorem dX12_givenWith_48 : decode cX12_givenWith 48 = .ok (.iadd, 1) := by decide +kernel
theorem dX12_givenWith_49 : decode cX12_givenWith 49 = .ok (.iconst 0, 1) := by decide +kernel
theorem dX12_givenWith_50 : decode cX12_givenWith 50 = .ok (.iastore, 1) := by decide +kernel
theorem dX12_givenWith_51 : decode cX12_givenWith 51 = .ok (.aload_n 0, 1) := by decide +kernel
theorem dX12_givenWith_52 : decode cX12_givenWith 52 = .ok (.getfield 7, 3) := by decide +kernel
theorem dX12_givenWith_55 : decode cX12_givenWith 55 = .ok (.sipush 212, 3) := by decide +kernel
theorem dX12_givenWith_58 : decode cX12_givenWith 58 = .ok (.iload_n 3, 1) := by decide +kernel
theorem dX12_givenWith_59 : decode cX12_givenWith 59 = .ok (.iadd, 1) := by decide +kernel
theorem dX12_givenWith_60 : decode cX12_givenWith 60 = .ok (.iaload, 1) := by decide +kernel
theorem dX12_givenWith_61 : decode cX12_givenWith 61 = .ok (.istore 4, 2) := by decide +kernel
theorem dX12_givenWith_63 : decode cX12_givenWith 63 = .ok (.aload_n 0, 1) := by decide +kernel
theorem dX12_givenWith_64 : decode cX12_givenWith 64 = .ok (.invokevirtual 238, 3) := by decide +kernel
theorem dX12_givenWith_67 : decode cX12_givenWith 67 = .ok (.aload_n 0, 1) := by decide +kernel
theorem dX12_givenWith_68 : decode cX12_givenWith 68 = .ok (.getfield 7, 3) := by decide +kernel
theorem dX12_givenWith_71 : decode cX12_givenWith 71 = .ok (.iconst 1, 1) := by decide +kernel
theorem dX12_givenWith_72 : decode cX12_givenWith 72 = .ok (.dup2, 1) := by decide +kernel
theorem dX12_givenWith_73 : decode cX12_givenWith 73 = .ok (.iaload, 1) := by decide +kernel
theorem dX12_givenWith_74 : decode cX12_givenWith 74 = .ok (.iconst 1, 1) := by decide +kernel
theorem dX12_givenWith_75 : decode cX12_givenWith 75 = .ok (.iadd, 1) := by decide +kernel
theorem dX12_givenWith_76 : decode cX12_givenWith 76 = .ok (.iastore, 1) := by decide +kernel
theorem dX12_givenWith_77 : decode cX12_givenWith 77 = .ok (.iconst 0, 1) := by decide +kernel
theorem dX12_givenWith_78 : decode cX12_givenWith 78 = .ok (.istore 5, 2) := by decide +kernel
theorem dX12_givenWith_80 : decode cX12_givenWith 80 = .ok (.iconst 0, 1) := by decide +kernel
theorem dX12_givenWith_81 : decode cX12_givenWith 81 = .ok (.istore 6, 2) := by decide +kernel
theorem dX12_givenWith_83 : decode cX12_givenWith 83 = .ok (.iload 6, 2) := by decide +kernel
theorem dX12_givenWith_85 : decode cX12_givenWith 85 = .ok (.iconst 5, 1) := by decide +kernel
theorem dX12_givenWith_86 : decode cX12_givenWith 86 = .ok (.if_icmp .ge 40, 3) := by decide +kernel
theorem dX12_givenWith_89 : decode cX12_givenWith 89 = .ok (.aload_n 0, 1) := by decide +kernel
theorem dX12_givenWith_90 : decode cX12_givenWith 90 = .ok (.invokevirtual 101, 3) := by decide +kernel
theorem dX12_givenWith_93 : decode cX12_givenWith 93 = .ok (.iconst 0, 1) := by decide +kernel
theorem dX12_givenWith_94 : decode cX12_givenWith 94 = .ok (.istore 7, 2) := by decide +kernel
theorem dX12_givenWith_96 : decode cX12_givenWith 96 = .ok (.iload 7, 2) := by decide +kernel
theorem dX12_givenWith_98 : decode cX12_givenWith 98 = .ok (.iload_n 3, 1) := by decide +kernel
theorem dX12_givenWith_99 : decode cX12_givenWith 99 = .ok (.if_icmp .ge 21, 3) := by decide +kernel
theorem dX12_givenWith_102 : decode cX12_givenWith 102 = .ok (.iload 5, 2) := by decide +kernel
theorem dX12_givenWith_104 : decode cX12_givenWith 104 = .ok (.aload_n 0, 1) := by decide +kernel
theorem dX12_givenWith_105 : decode cX12_givenWith 105 = .ok (.getfield 16, 3) := by decide +kernel
theorem dX12_givenWith_108 : decode cX12_givenWith 108 = .ok (.iload 7, 2) := by decide +kernel
theorem dX12_givenWith_110 : decode cX12_givenWith 110 = .ok (.iaload, 1) := by decide +kernel
theorem dX12_givenWith_111 : decode cX12_givenWith 111 = .ok (.iadd, 1) := by decide +kernel
theorem dX12_givenWith_112 : decode cX12_givenWith 112 = .ok (.istore 5, 2) := by decide +kernel
theorem dX12_givenWith_114 : decode cX12_givenWith 114 = .ok (.iinc 7 1, 3) := by decide +kernel
theorem dX12_givenWith_117 : decode cX12_givenWith 117 = .ok (.goto (-21), 3) := by decide +kernel
theorem dX12_givenWith_120 : decode cX12_givenWith 120 = .ok (.iinc 6 1, 3) := by decide +kernel
theorem dX12_givenWith_123 : decode cX12_givenWith 123 = .ok (.goto (-40), 3) := by decide +kernel
theorem dX12_givenWith_126 : decode cX12_givenWith 126 = .ok (.aload_n 0, 1) := by decide +kernel
theorem dX12_givenWith_127 : decode cX12_givenWith 127 = .ok (.getfield 7, 3) := by decide +kernel
theorem dX12_givenWith_130 : decode cX12_givenWith 130 = .ok (.iconst 1, 1) := by decide +kernel
theorem dX12_givenWith_131 : decode cX12_givenWith 131 = .ok (.dup2, 1) := by decide +kernel
theorem dX12_givenWith_132 : decode cX12_givenWith 132 = .ok (.iaload, 1) := by decide +kernel
theorem dX12_givenWith_133 : decode cX12_givenWith 133 = .ok (.iconst 1, 1) := by decide +kernel
theorem dX12_givenWith_134 : decode cX12_givenWith 134 = .ok (.isub, 1) := by decide +kernel
theorem dX12_givenWith_135 : decode cX12_givenWith 135 = .ok (.iastore, 1) := by decide +kernel
theorem dX12_givenWith_136 : decode cX12_givenWith 136 = .ok (.aload_n 0, 1) := by decide +kernel
theorem dX12_givenWith_137 : decode cX12_givenWith 137 = .ok (.invokevirtual 241, 3) := by decide +kernel
theorem dX12_givenWith_140 : decode cX12_givenWith 140 = .ok (.aload_n 0, 1) := by decide +kernel
theorem dX12_givenWith_141 : decode cX12_givenWith 141 = .ok (.getfield 7, 3) := by decide +kernel
theorem dX12_givenWith_144 : decode cX12_givenWith 144 = .ok (.sipush 212, 3) := by decide +kernel
theorem dX12_givenWith_147 : decode cX12_givenWith 147 = .ok (.iload_n 3, 1) := by decide +kernel
theorem dX12_givenWith_148 : decode cX12_givenWith 148 = .ok (.iadd, 1) := by decide +kernel
theorem dX12_givenWith_149 : decode cX12_givenWith 149 = .ok (.iload 4, 2) := by decide +kernel
theorem dX12_givenWith_151 : decode cX12_givenWith 151 = .ok (.iastore, 1) := by decide +kernel
theorem dX12_givenWith_152 : decode cX12_givenWith 152 = .ok (.iload 5, 2) := by decide +kernel
theorem dX12_givenWith_154 : decode cX12_givenWith 154 = .ok (.ireturn, 1) := by decide +kernel
theorem dX12_place_0 : decode cX12_place 0 = .ok (.iload_n 1, 1) := by decide +kernel
theorem dX12_place_1 : decode cX12_place 1 = .ok (.iconst 1, 1) := by decide +kernel
theorem dX12_place_2 : decode cX12_place 2 = .ok (.sipush 500, 3) := by decide +kernel
theorem dX12_place_5 : decode cX12_place 5 = .ok (.invokestatic 69, 3) := by decide +kernel
theorem dX12_place_8 : decode cX12_place 8 = .ok (.ifCond .ne 6, 3) := by decide +kernel
theorem dX12_place_11 : decode cX12_place 11 = .ok (.bipush (-2), 2) := by decide +kernel
theorem dX12_place_13 : decode cX12_place 13 = .ok (.ireturn, 1) := by decide +kernel
theorem dX12_place_14 : decode cX12_place 14 = .ok (.aload_n 0, 1) := by decide +kernel
theorem dX12_place_15 : decode cX12_place 15 = .ok (.getfield 7, 3) := by decide +kernel
theorem dX12_place_18 : decode cX12_place 18 = .ok (.iconst 1, 1) := by decide +kernel
theorem dX12_place_19 : decode cX12_place 19 = .ok (.iaload, 1) := by decide +kernel
theorem dX12_place_20 : decode cX12_place 20 = .ok (.bipush 12, 2) := by decide +kernel
theorem dX12_place_22 : decode cX12_place 22 = .ok (.if_icmp .eq 17, 3) := by decide +kernel
theorem dX12_place_25 : decode cX12_place 25 = .ok (.aload_n 0, 1) := by decide +kernel
theorem dX12_place_26 : decode cX12_place 26 = .ok (.getfield 7, 3) := by decide +kernel
theorem dX12_place_29 : decode cX12_place 29 = .ok (.iconst 0, 1) := by decide +kernel
theorem dX12_place_30 : decode cX12_place 30 = .ok (.iaload, 1) := by decide +kernel
theorem dX12_place_31 : decode cX12_place 31 = .ok (.iconst 5, 1) := by decide +kernel
theorem dX12_place_32 : decode cX12_place 32 = .ok (.iadd, 1) := by decide +kernel
theorem dX12_place_33 : decode cX12_place 33 = .ok (.sipush 400, 3) := by decide +kernel
theorem dX12_place_36 : decode cX12_place 36 = .ok (.if_icmp .le 6, 3) := by decide +kernel
theorem dX12_place_39 : decode cX12_place 39 = .ok (.bipush (-3), 2) := by decide +kernel
theorem dX12_place_41 : decode cX12_place 41 = .ok (.ireturn, 1) := by decide +kernel
theorem dX12_place_42 : decode cX12_place 42 = .ok (.bipush (-5), 2) := by decide +kernel
theorem dX12_place_44 : decode cX12_place 44 = .ok (.istore_n 2, 1) := by decide +kernel
theorem dX12_place_45 : decode cX12_place 45 = .ok (.iconst (-1), 1) := by decide +kernel
theorem dX12_place_46 : decode cX12_place 46 = .ok (.istore_n 3, 1) := by decide +kernel
theorem dX12_place_47 : decode cX12_place 47 = .ok (.iconst 0, 1) := by decide +kernel
theorem dX12_place_48 : decode cX12_place 48 = .ok (.istore 4, 2) := by decide +kernel
theorem dX12_place_50 : decode cX12_place 50 = .ok (.iload 4, 2) := by decide +kernel
theorem dX12_place_52 : decode cX12_place 52 = .ok (.bipush 30, 2) := by decide +kernel
theorem dX12_place_54 : decode cX12_place 54 = .ok (.if_icmp .ge 64, 3) := by decide +kernel
theorem dX12_place_57 : decode cX12_place 57 = .ok (.aload_n 0, 1) := by decide +kernel
theorem dX12_place_58 : decode cX12_place 58 = .ok (.iload 4, 2) := by decide +kernel
theorem dX12_place_60 : decode cX12_place 60 = .ok (.invokevirtual 88, 3) := by decide +kernel
theorem dX12_place_63 : decode cX12_place 63 = .ok (.ifCond .ne 49, 3) := by decide +kernel
theorem dX12_place_66 : decode cX12_place 66 = .ok (.aload_n 0, 1) := by decide +kernel
theorem dX12_place_67 : decode cX12_place 67 = .ok (.iload 4, 2) := by decide +kernel
theorem dX12_place_69 : decode cX12_place 69 = .ok (.iconst 1, 1) := by decide +kernel
theorem dX12_place_70 : decode cX12_place 70 = .ok (.iconst 1, 1) := by decide +kernel
theorem dX12_place_71 : decode cX12_place 71 = .ok (.invokevirtual 91, 3) := by decide +kernel
theorem dX12_place_74 : decode cX12_place 74 = .ok (.ifCond .eq 38, 3) := by decide +kernel
theorem dX12_place_77 : decode cX12_place 77 = .ok (.aload_n 0, 1) := by decide +kernel
theorem dX12_place_78 : decode cX12_place 78 = .ok (.iload 4, 2) := by decide +kernel
theorem dX12_place_80 : decode cX12_place 80 = .ok (.iload_n 1, 1) := by decide +kernel
theorem dX12_place_81 : decode cX12_place 81 = .ok (.invokevirtual 250, 3) := by decide +kernel
theorem dX12_place_84 : decode cX12_place 84 = .ok (.istore 5, 2) := by decide +kernel
theorem dX12_place_86 : decode cX12_place 86 = .ok (.iload 5, 2) := by decide +kernel
theorem dX12_place_88 : decode cX12_place 88 = .ok (.iload_n 3, 1) := by decide +kernel
theorem dX12_place_89 : decode cX12_place 89 = .ok (.if_icmp .le 8, 3) := by decide +kernel
theorem dX12_place_92 : decode cX12_place 92 = .ok (.iload 4, 2) := by decide +kernel
theorem dX12_place_94 : decode cX12_place 94 = .ok (.goto 4, 3) := by decide +kernel
theorem dX12_place_97 : decode cX12_place 97 = .ok (.iload_n 2, 1) := by decide +kernel
theorem dX12_place_98 : decode cX12_place 98 = .ok (.istore_n 2, 1) := by decide +kernel
theorem dX12_place_99 : decode cX12_place 99 = .ok (.iload 5, 2) := by decide +kernel
theorem dX12_place_101 : decode cX12_place 101 = .ok (.iload_n 3, 1) := by decide +kernel
theorem dX12_place_102 : decode cX12_place 102 = .ok (.if_icmp .le 8, 3) := by decide +kernel
theorem dX12_place_105 : decode cX12_place 105 = .ok (.iload 5, 2) := by decide +kernel
theorem dX12_place_107 : decode cX12_place 107 = .ok (.goto 4, 3) := by decide +kernel
theorem dX12_place_110 : decode cX12_place 110 = .ok (.iload_n 3, 1) := by decide +kernel
theorem dX12_place_111 : decode cX12_place 111 = .ok (.istore_n 3, 1) := by decide +kernel
theorem dX12_place_112 : decode cX12_place 112 = .ok (.iinc 4 1, 3) := by decide +kernel
theorem dX12_place_115 : decode cX12_place 115 = .ok (.goto (-65), 3) := by decide +kernel
theorem dX12_place_118 : decode cX12_place 118 = .ok (.iload_n 2, 1) := by decide +kernel
theorem dX12_place_119 : decode cX12_place 119 = .ok (.ireturn, 1) := by decide +kernel
theorem dX12_tried_0 : decode cX12_tried 0 = .ok (.iload_n 1, 1) := by decide +kernel
theorem dX12_tried_1 : decode cX12_tried 1 = .ok (.iconst 0, 1) := by decide +kernel
theorem dX12_tried_2 : decode cX12_tried 2 = .ok (.iconst 1, 1) := by decide +kernel
theorem dX12_tried_3 : decode cX12_tried 3 = .ok (.invokestatic 69, 3) := by decide +kernel
theorem dX12_tried_6 : decode cX12_tried 6 = .ok (.ifCond .eq 16, 3) := by decide +kernel
theorem dX12_tried_9 : decode cX12_tried 9 = .ok (.iload_n 1, 1) := by decide +kernel
theorem dX12_tried_10 : decode cX12_tried 10 = .ok (.iconst 1, 1) := by decide +kernel
theorem dX12_tried_11 : decode cX12_tried 11 = .ok (.if_icmp .ne 13, 3) := by decide +kernel
theorem dX12_tried_14 : decode cX12_tried 14 = .ok (.aload_n 0, 1) := by decide +kernel
theorem dX12_tried_15 : decode cX12_tried 15 = .ok (.iload_n 2, 1) := by decide +kernel
theorem dX12_tried_16 : decode cX12_tried 16 = .ok (.invokevirtual 107, 3) := by decide +kernel
theorem dX12_tried_19 : decode cX12_tried 19 = .ok (.ifCond .ne 5, 3) := by decide +kernel
theorem dX12_tried_22 : decode cX12_tried 22 = .ok (.iconst (-1), 1) := by decide +kernel
theorem dX12_tried_23 : decode cX12_tried 23 = .ok (.ireturn, 1) := by decide +kernel
theorem dX12_tried_24 : decode cX12_tried 24 = .ok (.aload_n 0, 1) := by decide +kernel
theorem dX12_tried_25 : decode cX12_tried 25 = .ok (.aload_n 0, 1) := by decide +kernel
theorem dX12_tried_26 : decode cX12_tried 26 = .ok (.getfield 7, 3) := by decide +kernel
theorem dX12_tried_29 : decode cX12_tried 29 = .ok (.iconst 2, 1) := by decide +kernel
theorem dX12_tried_30 : decode cX12_tried 30 = .ok (.iaload, 1) := by decide +kernel
theorem dX12_tried_31 : decode cX12_tried 31 = .ok (.aload_n 0, 1) := by decide +kernel
theorem dX12_tried_32 : decode cX12_tried 32 = .ok (.getfield 7, 3) := by decide +kernel
theorem dX12_tried_35 : decode cX12_tried 35 = .ok (.iconst 0, 1) := by decide +kernel
theorem dX12_tried_36 : decode cX12_tried 36 = .ok (.iaload, 1) := by decide +kernel
theorem dX12_tried_37 : decode cX12_tried 37 = .ok (.invokevirtual 189, 3) := by decide +kernel
theorem dX12_tried_40 : decode cX12_tried 40 = .ok (.ifCond .ne 11, 3) := by decide +kernel
theorem dX12_tried_43 : decode cX12_tried 43 = .ok (.bipush (-10), 2) := by decide +kernel
theorem dX12_tried_45 : decode cX12_tried 45 = .ok (.aload_n 0, 1) := by decide +kernel
theorem dX12_tried_46 : decode cX12_tried 46 = .ok (.getfield 116, 3) := by decide +kernel
theorem dX12_tried_49 : decode cX12_tried 49 = .ok (.isub, 1) := by decide +kernel
theorem dX12_tried_50 : decode cX12_tried 50 = .ok (.ireturn, 1) := by decide +kernel
theorem dX12_tried_51 : decode cX12_tried 51 = .ok (.aload_n 0, 1) := by decide +kernel
theorem dX12_tried_52 : decode cX12_tried 52 = .ok (.getfield 7, 3) := by decide +kernel
theorem dX12_tried_55 : decode cX12_tried 55 = .ok (.iconst 2, 1) := by decide +kernel
theorem dX12_tried_56 : decode cX12_tried 56 = .ok (.dup2, 1) := by decide +kernel
theorem dX12_tried_57 : decode cX12_tried 57 = .ok (.iaload, 1) := by decide +kernel
theorem dX12_tried_58 : decode cX12_tried 58 = .ok (.iconst 1, 1) := by decide +kernel
theorem dX12_tried_59 : decode cX12_tried 59 = .ok (.iadd, 1) := by decide +kernel
theorem dX12_tried_60 : decode cX12_tried 60 = .ok (.iastore, 1) := by decide +kernel
theorem dX12_tried_61 : decode cX12_tried 61 = .ok (.iconst (-1), 1) := by decide +kernel
theorem dX12_tried_62 : decode cX12_tried 62 = .ok (.istore_n 3, 1) := by decide +kernel
theorem dX12_tried_63 : decode cX12_tried 63 = .ok (.iload_n 1, 1) := by decide +kernel
theorem dX12_tried_64 : decode cX12_tried 64 = .ok (.iconst 1, 1) := by decide +kernel
theorem dX12_tried_65 : decode cX12_tried 65 = .ok (.if_icmp .ne 21, 3) := by decide +kernel
theorem dX12_tried_68 : decode cX12_tried 68 = .ok (.aload_n 0, 1) := by decide +kernel
theorem dX12_tried_69 : decode cX12_tried 69 = .ok (.iload_n 2, 1) := by decide +kernel
theorem dX12_tried_70 : decode cX12_tried 70 = .ok (.aload_n 0, 1) := by decide +kernel
theorem dX12_tried_71 : decode cX12_tried 71 = .ok (.getfield 7, 3) := by decide +kernel
theorem dX12_tried_74 : decode cX12_tried 74 = .ok (.iconst 0, 1) := by decide +kernel
theorem dX12_tried_75 : decode cX12_tried 75 = .ok (.iaload, 1) := by decide +kernel
theorem dX12_tried_76 : decode cX12_tried 76 = .ok (.invokevirtual 226, 3) := by decide +kernel
theorem dX12_tried_79 : decode cX12_tried 79 = .ok (.invokestatic 235, 3) := by decide +kernel
theorem dX12_tried_82 : decode cX12_tried 82 = .ok (.istore_n 3, 1) := by decide +kernel
theorem dX12_tried_83 : decode cX12_tried 83 = .ok (.goto 29, 3) := by decide +kernel
theorem dX12_tried_86 : decode cX12_tried 86 = .ok (.aload_n 0, 1) := by decide +kernel
theorem dX12_tried_87 : decode cX12_tried 87 = .ok (.getfield 7, 3) := by decide +kernel
theorem dX12_tried_90 : decode cX12_tried 90 = .ok (.iconst 3, 1) := by decide +kernel
theorem dX12_tried_91 : decode cX12_tried 91 = .ok (.iaload, 1) := by decide +kernel
theorem dX12_tried_92 : decode cX12_tried 92 = .ok (.ifCond .le 20, 3) := by decide +kernel
theorem dX12_tried_95 : decode cX12_tried 95 = .ok (.aload_n 0, 1) := by decide +kernel
theorem dX12_tried_96 : decode cX12_tried 96 = .ok (.aload_n 0, 1) := by decide +kernel
theorem dX12_tried_97 : decode cX12_tried 97 = .ok (.getfield 7, 3) := by decide +kernel
theorem dX12_tried_100 : decode cX12_tried 100 = .ok (.iconst 0, 1) := by decide +kernel
theorem dX12_tried_101 : decode cX12_tried 101 = .ok (.iaload, 1) := by decide +kernel
theorem dX12_tried_102 : decode cX12_tried 102 = .ok (.invokevirtual 211, 3) := by decide +kernel
theorem dX12_tried_105 : decode cX12_tried 105 = .ok (.aload_n 0, 1) := by decide +kernel
theorem dX12_tried_106 : decode cX12_tried 106 = .ok (.getfield 34, 3) := by decide +kernel
theorem dX12_tried_109 : decode cX12_tried 109 = .ok (.iconst 0, 1) := by decide +kernel
theorem dX12_tried_110 : decode cX12_tried 110 = .ok (.iaload, 1) := by decide +kernel
theorem dX12_tried_111 : decode cX12_tried 111 = .ok (.istore_n 3, 1) := by decide +kernel
theorem dX12_tried_112 : decode cX12_tried 112 = .ok (.aload_n 0, 1) := by decide +kernel
theorem dX12_tried_113 : decode cX12_tried 113 = .ok (.getfield 7, 3) := by decide +kernel
theorem dX12_tried_116 : decode cX12_tried 116 = .ok (.iconst 2, 1) := by decide +kernel
theorem dX12_tried_117 : decode cX12_tried 117 = .ok (.dup2, 1) := by decide +kernel
theorem dX12_tried_118 : decode cX12_tried 118 = .ok (.iaload, 1) := by decide +kernel
theorem dX12_tried_119 : decode cX12_tried 119 = .ok (.iconst 1, 1) := by decide +kernel
theorem dX12_tried_120 : decode cX12_tried 120 = .ok (.isub, 1) := by decide +kernel
theorem dX12_tried_121 : decode cX12_tried 121 = .ok (.iastore, 1) := by decide +kernel
theorem dX12_tried_122 : decode cX12_tried 122 = .ok (.iload_n 3, 1) := by decide +kernel
theorem dX12_tried_123 : decode cX12_tried 123 = .ok (.ireturn, 1) := by decide +kernel
theorem dX12_image_0 : decode cX12_image 0 = .ok (.iconst 0, 1) := by decide +kernel
theorem dX12_image_1 : decode cX12_image 1 = .ok (.istore_n 1, 1) := by decide +kernel
theorem dX12_image_2 : decode cX12_image 2 = .ok (.iload_n 1, 1) := by decide +kernel
theorem dX12_image_3 : decode cX12_image 3 = .ok (.sipush 21948, 3) := by decide +kernel
theorem dX12_image_6 : decode cX12_image 6 = .ok (.if_icmp .ge 21, 3) := by decide +kernel
theorem dX12_image_9 : decode cX12_image 9 = .ok (.aload_n 0, 1) := by decide +kernel
theorem dX12_image_10 : decode cX12_image 10 = .ok (.getfield 13, 3) := by decide +kernel
theorem dX12_image_13 : decode cX12_image 13 = .ok (.iload_n 1, 1) := by decide +kernel
theorem dX12_image_14 : decode cX12_image 14 = .ok (.aload_n 0, 1) := by decide +kernel
theorem dX12_image_15 : decode cX12_image 15 = .ok (.getfield 7, 3) := by decide +kernel
theorem dX12_image_18 : decode cX12_image 18 = .ok (.iload_n 1, 1) := by decide +kernel
theorem dX12_image_19 : decode cX12_image 19 = .ok (.iaload, 1) := by decide +kernel
theorem dX12_image_20 : decode cX12_image 20 = .ok (.iastore, 1) := by decide +kernel
theorem dX12_image_21 : decode cX12_image 21 = .ok (.iinc 1 1, 3) := by decide +kernel
theorem dX12_image_24 : decode cX12_image 24 = .ok (.goto (-22), 3) := by decide +kernel
theorem dX12_image_27 : decode cX12_image 27 = .ok (.aload_n 0, 1) := by decide +kernel
theorem dX12_image_28 : decode cX12_image 28 = .ok (.iconst 1, 1) := by decide +kernel
theorem dX12_image_29 : decode cX12_image 29 = .ok (.putfield 253, 3) := by decide +kernel
theorem dX12_image_32 : decode cX12_image 32 = .ok (.aload_n 0, 1) := by decide +kernel
theorem dX12_image_33 : decode cX12_image 33 = .ok (.getfield 7, 3) := by decide +kernel
theorem dX12_image_36 : decode cX12_image 36 = .ok (.iconst 0, 1) := by decide +kernel
theorem dX12_image_37 : decode cX12_image 37 = .ok (.iaload, 1) := by decide +kernel
theorem dX12_image_38 : decode cX12_image 38 = .ok (.ireturn, 1) := by decide +kernel
theorem dX12_undo_0 : decode cX12_undo 0 = .ok (.aload_n 0, 1) := by decide +kernel
theorem dX12_undo_1 : decode cX12_undo 1 = .ok (.getfield 253, 3) := by decide +kernel
theorem dX12_undo_4 : decode cX12_undo 4 = .ok (.ifCond .ne 6, 3) := by decide +kernel
theorem dX12_undo_7 : decode cX12_undo 7 = .ok (.bipush (-3), 2) := by decide +kernel
theorem dX12_undo_9 : decode cX12_undo 9 = .ok (.ireturn, 1) := by decide +kernel
theorem dX12_undo_10 : decode cX12_undo 10 = .ok (.iconst 0, 1) := by decide +kernel
theorem dX12_undo_11 : decode cX12_undo 11 = .ok (.istore_n 1, 1) := by decide +kernel
theorem dX12_undo_12 : decode cX12_undo 12 = .ok (.iload_n 1, 1) := by decide +kernel
theorem dX12_undo_13 : decode cX12_undo 13 = .ok (.sipush 21948, 3) := by decide +kernel
theorem dX12_undo_16 : decode cX12_undo 16 = .ok (.if_icmp .ge 21, 3) := by decide +kernel
theorem dX12_undo_19 : decode cX12_undo 19 = .ok (.aload_n 0, 1) := by decide +kernel
theorem dX12_undo_20 : decode cX12_undo 20 = .ok (.getfield 7, 3) := by decide +kernel
theorem dX12_undo_23 : decode cX12_undo 23 = .ok (.iload_n 1, 1) := by decide +kernel
theorem dX12_undo_24 : decode cX12_undo 24 = .ok (.aload_n 0, 1) := by decide +kernel
theorem dX12_undo_25 : decode cX12_undo 25 = .ok (.getfield 13, 3) := by decide +kernel
theorem dX12_undo_28 : decode cX12_undo 28 = .ok (.iload_n 1, 1) := by decide +kernel
theorem dX12_undo_29 : decode cX12_undo 29 = .ok (.iaload, 1) := by decide +kernel
theorem dX12_undo_30 : decode cX12_undo 30 = .ok (.iastore, 1) := by decide +kernel
theorem dX12_undo_31 : decode cX12_undo 31 = .ok (.iinc 1 1, 3) := by decide +kernel
theorem dX12_undo_34 : decode cX12_undo 34 = .ok (.goto (-22), 3) := by decide +kernel
theorem dX12_undo_37 : decode cX12_undo 37 = .ok (.aload_n 0, 1) := by decide +kernel
theorem dX12_undo_38 : decode cX12_undo 38 = .ok (.getfield 7, 3) := by decide +kernel
theorem dX12_undo_41 : decode cX12_undo 41 = .ok (.iconst 0, 1) := by decide +kernel
theorem dX12_undo_42 : decode cX12_undo 42 = .ok (.iaload, 1) := by decide +kernel
theorem dX12_undo_43 : decode cX12_undo 43 = .ok (.ireturn, 1) := by decide +kernel
theorem dX12_count_0 : decode cX12_count 0 = .ok (.iload_n 1, 1) := by decide +kernel
theorem dX12_count_1 : decode cX12_count 1 = .ok (.tableswitch 139 0 8 #[51, 58, 65, 72, 79, 86, 93, 101, 109], 51) := by decide +kernel
theorem dX12_count_52 : decode cX12_count 52 = .ok (.aload_n 0, 1) := by decide +kernel
theorem dX12_count_53 : decode cX12_count 53 = .ok (.getfield 7, 3) := by decide +kernel
theorem dX12_count_56 : decode cX12_count 56 = .ok (.iconst 1, 1) := by decide +kernel
theorem dX12_count_57 : decode cX12_count 57 = .ok (.iaload, 1) := by decide +kernel
theorem dX12_count_58 : decode cX12_count 58 = .ok (.ireturn, 1) := by decide +kernel
theorem dX12_count_59 : decode cX12_count 59 = .ok (.aload_n 0, 1) := by decide +kernel
theorem dX12_count_60 : decode cX12_count 60 = .ok (.getfield 7, 3) := by decide +kernel
theorem dX12_count_63 : decode cX12_count 63 = .ok (.iconst 2, 1) := by decide +kernel
theorem dX12_count_64 : decode cX12_count 64 = .ok (.iaload, 1) := by decide +kernel
theorem dX12_count_65 : decode cX12_count 65 = .ok (.ireturn, 1) := by decide +kernel
theorem dX12_count_66 : decode cX12_count 66 = .ok (.aload_n 0, 1) := by decide +kernel
theorem dX12_count_67 : decode cX12_count 67 = .ok (.getfield 7, 3) := by decide +kernel
theorem dX12_count_70 : decode cX12_count 70 = .ok (.iconst 3, 1) := by decide +kernel
theorem dX12_count_71 : decode cX12_count 71 = .ok (.iaload, 1) := by decide +kernel
theorem dX12_count_72 : decode cX12_count 72 = .ok (.ireturn, 1) := by decide +kernel
theorem dX12_count_73 : decode cX12_count 73 = .ok (.aload_n 0, 1) := by decide +kernel
theorem dX12_count_74 : decode cX12_count 74 = .ok (.getfield 7, 3) := by decide +kernel
theorem dX12_count_77 : decode cX12_count 77 = .ok (.iconst 4, 1) := by decide +kernel
theorem dX12_count_78 : decode cX12_count 78 = .ok (.iaload, 1) := by decide +kernel
theorem dX12_count_79 : decode cX12_count 79 = .ok (.ireturn, 1) := by decide +kernel
theorem dX12_count_80 : decode cX12_count 80 = .ok (.aload_n 0, 1) := by decide +kernel
theorem dX12_count_81 : decode cX12_count 81 = .ok (.getfield 7, 3) := by decide +kernel
theorem dX12_count_84 : decode cX12_count 84 = .ok (.iconst 5, 1) := by decide +kernel
theorem dX12_count_85 : decode cX12_count 85 = .ok (.iaload, 1) := by decide +kernel
theorem dX12_count_86 : decode cX12_count 86 = .ok (.ireturn, 1) := by decide +kernel
theorem dX12_count_87 : decode cX12_count 87 = .ok (.aload_n 0, 1) := by decide +kernel
theorem dX12_count_88 : decode cX12_count 88 = .ok (.getfield 7, 3) := by decide +kernel
theorem dX12_count_91 : decode cX12_count 91 = .ok (.iconst 0, 1) := by decide +kernel
theorem dX12_count_92 : decode cX12_count 92 = .ok (.iaload, 1) := by decide +kernel
theorem dX12_count_93 : decode cX12_count 93 = .ok (.ireturn, 1) := by decide +kernel
theorem dX12_count_94 : decode cX12_count 94 = .ok (.aload_n 0, 1) := by decide +kernel
theorem dX12_count_95 : decode cX12_count 95 = .ok (.getfield 7, 3) := by decide +kernel
theorem dX12_count_98 : decode cX12_count 98 = .ok (.bipush 6, 2) := by decide +kernel
theorem dX12_count_100 : decode cX12_count 100 = .ok (.iaload, 1) := by decide +kernel
theorem dX12_count_101 : decode cX12_count 101 = .ok (.ireturn, 1) := by decide +kernel
theorem dX12_count_102 : decode cX12_count 102 = .ok (.aload_n 0, 1) := by decide +kernel
theorem dX12_count_103 : decode cX12_count 103 = .ok (.getfield 7, 3) := by decide +kernel
theorem dX12_count_106 : decode cX12_count 106 = .ok (.bipush 7, 2) := by decide +kernel
theorem dX12_count_108 : decode cX12_count 108 = .ok (.iaload, 1) := by decide +kernel
theorem dX12_count_109 : decode cX12_count 109 = .ok (.ireturn, 1) := by decide +kernel
theorem dX12_count_110 : decode cX12_count 110 = .ok (.iconst 0, 1) := by decide +kernel
theorem dX12_count_111 : decode cX12_count 111 = .ok (.istore_n 2, 1) := by decide +kernel
theorem dX12_count_112 : decode cX12_count 112 = .ok (.iconst 0, 1) := by decide +kernel
theorem dX12_count_113 : decode cX12_count 113 = .ok (.istore_n 3, 1) := by decide +kernel
theorem dX12_count_114 : decode cX12_count 114 = .ok (.iload_n 3, 1) := by decide +kernel
theorem dX12_count_115 : decode cX12_count 115 = .ok (.bipush 30, 2) := by decide +kernel
theorem dX12_count_117 : decode cX12_count 117 = .ok (.if_icmp .ge 21, 3) := by decide +kernel
theorem dX12_count_120 : decode cX12_count 120 = .ok (.iload_n 2, 1) := by decide +kernel
theorem dX12_count_121 : decode cX12_count 121 = .ok (.aload_n 0, 1) := by decide +kernel
theorem dX12_count_122 : decode cX12_count 122 = .ok (.getfield 7, 3) := by decide +kernel
theorem dX12_count_125 : decode cX12_count 125 = .ok (.bipush 50, 2) := by decide +kernel
theorem dX12_count_127 : decode cX12_count 127 = .ok (.iload_n 3, 1) := by decide +kernel
theorem dX12_count_128 : decode cX12_count 128 = .ok (.iadd, 1) := by decide +kernel
theorem dX12_count_129 : decode cX12_count 129 = .ok (.iaload, 1) := by decide +kernel
theorem dX12_count_130 : decode cX12_count 130 = .ok (.iadd, 1) := by decide +kernel
theorem dX12_count_131 : decode cX12_count 131 = .ok (.istore_n 2, 1) := by decide +kernel
theorem dX12_count_132 : decode cX12_count 132 = .ok (.iinc 3 1, 3) := by decide +kernel
theorem dX12_count_135 : decode cX12_count 135 = .ok (.goto (-21), 3) := by decide +kernel
theorem dX12_count_138 : decode cX12_count 138 = .ok (.iload_n 2, 1) := by decide +kernel
theorem dX12_count_139 : decode cX12_count 139 = .ok (.ireturn, 1) := by decide +kernel
theorem dX12_count_140 : decode cX12_count 140 = .ok (.iconst (-1), 1) := by decide +kernel
theorem dX12_count_141 : decode cX12_count 141 = .ok (.ireturn, 1) := by decide +kernel
theorem dJ6_bitCount_0f7a4_0 : decode cJ6_bitCount_0f7a4 0 = .ok (.iload_n 0, 1) := by decide +kernel
theorem dJ6_bitCount_0f7a4_1 : decode cJ6_bitCount_0f7a4 1 = .ok (.iload_n 0, 1) := by decide +kernel
theorem dJ6_bitCount_0f7a4_2 : decode cJ6_bitCount_0f7a4 2 = .ok (.iconst 1, 1) := by decide +kernel
theorem dJ6_bitCount_0f7a4_3 : decode cJ6_bitCount_0f7a4 3 = .ok (.iushr, 1) := by decide +kernel
theorem dJ6_bitCount_0f7a4_4 : decode cJ6_bitCount_0f7a4 4 = .ok (.ldc_w 265, 3) := by decide +kernel
theorem dJ6_bitCount_0f7a4_7 : decode cJ6_bitCount_0f7a4 7 = .ok (.iand, 1) := by decide +kernel
theorem dJ6_bitCount_0f7a4_8 : decode cJ6_bitCount_0f7a4 8 = .ok (.isub, 1) := by decide +kernel
theorem dJ6_bitCount_0f7a4_9 : decode cJ6_bitCount_0f7a4 9 = .ok (.istore_n 0, 1) := by decide +kernel
theorem dJ6_bitCount_0f7a4_10 : decode cJ6_bitCount_0f7a4 10 = .ok (.iload_n 0, 1) := by decide +kernel
theorem dJ6_bitCount_0f7a4_11 : decode cJ6_bitCount_0f7a4 11 = .ok (.ldc_w 266, 3) := by decide +kernel
theorem dJ6_bitCount_0f7a4_14 : decode cJ6_bitCount_0f7a4 14 = .ok (.iand, 1) := by decide +kernel
theorem dJ6_bitCount_0f7a4_15 : decode cJ6_bitCount_0f7a4 15 = .ok (.iload_n 0, 1) := by decide +kernel
theorem dJ6_bitCount_0f7a4_16 : decode cJ6_bitCount_0f7a4 16 = .ok (.iconst 2, 1) := by decide +kernel
theorem dJ6_bitCount_0f7a4_17 : decode cJ6_bitCount_0f7a4 17 = .ok (.iushr, 1) := by decide +kernel
theorem dJ6_bitCount_0f7a4_18 : decode cJ6_bitCount_0f7a4 18 = .ok (.ldc_w 266, 3) := by decide +kernel
theorem dJ6_bitCount_0f7a4_21 : decode cJ6_bitCount_0f7a4 21 = .ok (.iand, 1) := by decide +kernel
theorem dJ6_bitCount_0f7a4_22 : decode cJ6_bitCount_0f7a4 22 = .ok (.iadd, 1) := by decide +kernel
theorem dJ6_bitCount_0f7a4_23 : decode cJ6_bitCount_0f7a4 23 = .ok (.istore_n 0, 1) := by decide +kernel
theorem dJ6_bitCount_0f7a4_24 : decode cJ6_bitCount_0f7a4 24 = .ok (.iload_n 0, 1) := by decide +kernel
theorem dJ6_bitCount_0f7a4_25 : decode cJ6_bitCount_0f7a4 25 = .ok (.iload_n 0, 1) := by decide +kernel
theorem dJ6_bitCount_0f7a4_26 : decode cJ6_bitCount_0f7a4 26 = .ok (.iconst 4, 1) := by decide +kernel
theorem dJ6_bitCount_0f7a4_27 : decode cJ6_bitCount_0f7a4 27 = .ok (.iushr, 1) := by decide +kernel
theorem dJ6_bitCount_0f7a4_28 : decode cJ6_bitCount_0f7a4 28 = .ok (.iadd, 1) := by decide +kernel
theorem dJ6_bitCount_0f7a4_29 : decode cJ6_bitCount_0f7a4 29 = .ok (.ldc_w 267, 3) := by decide +kernel
theorem dJ6_bitCount_0f7a4_32 : decode cJ6_bitCount_0f7a4 32 = .ok (.iand, 1) := by decide +kernel
theorem dJ6_bitCount_0f7a4_33 : decode cJ6_bitCount_0f7a4 33 = .ok (.istore_n 0, 1) := by decide +kernel
theorem dJ6_bitCount_0f7a4_34 : decode cJ6_bitCount_0f7a4 34 = .ok (.iload_n 0, 1) := by decide +kernel
theorem dJ6_bitCount_0f7a4_35 : decode cJ6_bitCount_0f7a4 35 = .ok (.iload_n 0, 1) := by decide +kernel
theorem dJ6_bitCount_0f7a4_36 : decode cJ6_bitCount_0f7a4 36 = .ok (.bipush 8, 2) := by decide +kernel
theorem dJ6_bitCount_0f7a4_38 : decode cJ6_bitCount_0f7a4 38 = .ok (.iushr, 1) := by decide +kernel
theorem dJ6_bitCount_0f7a4_39 : decode cJ6_bitCount_0f7a4 39 = .ok (.iadd, 1) := by decide +kernel
theorem dJ6_bitCount_0f7a4_40 : decode cJ6_bitCount_0f7a4 40 = .ok (.istore_n 0, 1) := by decide +kernel
theorem dJ6_bitCount_0f7a4_41 : decode cJ6_bitCount_0f7a4 41 = .ok (.iload_n 0, 1) := by decide +kernel
theorem dJ6_bitCount_0f7a4_42 : decode cJ6_bitCount_0f7a4 42 = .ok (.iload_n 0, 1) := by decide +kernel
theorem dJ6_bitCount_0f7a4_43 : decode cJ6_bitCount_0f7a4 43 = .ok (.bipush 16, 2) := by decide +kernel
theorem dJ6_bitCount_0f7a4_45 : decode cJ6_bitCount_0f7a4 45 = .ok (.iushr, 1) := by decide +kernel
theorem dJ6_bitCount_0f7a4_46 : decode cJ6_bitCount_0f7a4 46 = .ok (.iadd, 1) := by decide +kernel
theorem dJ6_bitCount_0f7a4_47 : decode cJ6_bitCount_0f7a4 47 = .ok (.istore_n 0, 1) := by decide +kernel
theorem dJ6_bitCount_0f7a4_48 : decode cJ6_bitCount_0f7a4 48 = .ok (.iload_n 0, 1) := by decide +kernel
theorem dJ6_bitCount_0f7a4_49 : decode cJ6_bitCount_0f7a4 49 = .ok (.bipush 63, 2) := by decide +kernel
theorem dJ6_bitCount_0f7a4_51 : decode cJ6_bitCount_0f7a4 51 = .ok (.iand, 1) := by decide +kernel
theorem dJ6_bitCount_0f7a4_52 : decode cJ6_bitCount_0f7a4 52 = .ok (.ireturn, 1) := by decide +kernel
theorem dJ9_abs_0f7a4_0 : decode cJ9_abs_0f7a4 0 = .ok (.iload_n 0, 1) := by decide +kernel
theorem dJ9_abs_0f7a4_1 : decode cJ9_abs_0f7a4 1 = .ok (.ifCond .ge 8, 3) := by decide +kernel
theorem dJ9_abs_0f7a4_4 : decode cJ9_abs_0f7a4 4 = .ok (.iload_n 0, 1) := by decide +kernel
theorem dJ9_abs_0f7a4_5 : decode cJ9_abs_0f7a4 5 = .ok (.ineg, 1) := by decide +kernel
theorem dJ9_abs_0f7a4_6 : decode cJ9_abs_0f7a4 6 = .ok (.goto 4, 3) := by decide +kernel
theorem dJ9_abs_0f7a4_9 : decode cJ9_abs_0f7a4 9 = .ok (.iload_n 0, 1) := by decide +kernel
theorem dJ9_abs_0f7a4_10 : decode cJ9_abs_0f7a4 10 = .ok (.ireturn, 1) := by decide +kernel
theorem dJ9_max_7cf53_0 : decode cJ9_max_7cf53 0 = .ok (.iload_n 0, 1) := by decide +kernel
theorem dJ9_max_7cf53_1 : decode cJ9_max_7cf53 1 = .ok (.iload_n 1, 1) := by decide +kernel
theorem dJ9_max_7cf53_2 : decode cJ9_max_7cf53 2 = .ok (.if_icmp .lt 7, 3) := by decide +kernel
theorem dJ9_max_7cf53_5 : decode cJ9_max_7cf53 5 = .ok (.iload_n 0, 1) := by decide +kernel
theorem dJ9_max_7cf53_6 : decode cJ9_max_7cf53 6 = .ok (.goto 4, 3) := by decide +kernel
theorem dJ9_max_7cf53_9 : decode cJ9_max_7cf53 9 = .ok (.iload_n 1, 1) := by decide +kernel
theorem dJ9_max_7cf53_10 : decode cJ9_max_7cf53 10 = .ok (.ireturn, 1) := by decide +kernel
theorem dJ9_min_7cf53_0 : decode cJ9_min_7cf53 0 = .ok (.iload_n 0, 1) := by decide +kernel
theorem dJ9_min_7cf53_1 : decode cJ9_min_7cf53 1 = .ok (.iload_n 1, 1) := by decide +kernel
theorem dJ9_min_7cf53_2 : decode cJ9_min_7cf53 2 = .ok (.if_icmp .gt 7, 3) := by decide +kernel
theorem dJ9_min_7cf53_5 : decode cJ9_min_7cf53 5 = .ok (.iload_n 0, 1) := by decide +kernel
theorem dJ9_min_7cf53_6 : decode cJ9_min_7cf53 6 = .ok (.goto 4, 3) := by decide +kernel
theorem dJ9_min_7cf53_9 : decode cJ9_min_7cf53 9 = .ok (.iload_n 1, 1) := by decide +kernel
theorem dJ9_min_7cf53_10 : decode cJ9_min_7cf53 10 = .ok (.ireturn, 1) := by decide +kernel
theorem dJ0_length_8abf5_0 : decode cJ0_length_8abf5 0 = .ok (.aload_n 0, 1) := by decide +kernel
theorem dJ0_length_8abf5_1 : decode cJ0_length_8abf5 1 = .ok (.getfield 9, 3) := by decide +kernel
theorem dJ0_length_8abf5_4 : decode cJ0_length_8abf5 4 = .ok (.arraylength, 1) := by decide +kernel
theorem dJ0_length_8abf5_5 : decode cJ0_length_8abf5 5 = .ok (.aload_n 0, 1) := by decide +kernel
theorem dJ0_length_8abf5_6 : decode cJ0_length_8abf5 6 = .ok (.invokevirtual 335, 3) := by decide +kernel
theorem dJ0_length_8abf5_9 : decode cJ0_length_8abf5 9 = .ok (.ishr, 1) := by decide +kernel
theorem dJ0_length_8abf5_10 : decode cJ0_length_8abf5 10 = .ok (.ireturn, 1) := by decide +kernel
theorem dJ0_charAt_5068e_0 : decode cJ0_charAt_5068e 0 = .ok (.aload_n 0, 1) := by decide +kernel
theorem dJ0_charAt_5068e_1 : decode cJ0_charAt_5068e 1 = .ok (.invokevirtual 492, 3) := by decide +kernel
theorem dJ0_charAt_5068e_4 : decode cJ0_charAt_5068e 4 = .ok (.ifCond .eq 12, 3) := by decide +kernel
theorem dJ0_charAt_5068e_7 : decode cJ0_charAt_5068e 7 = .ok (.aload_n 0, 1) := by decide +kernel
theorem dJ0_charAt_5068e_8 : decode cJ0_charAt_5068e 8 = .ok (.getfield 9, 3) := by decide +kernel
theorem dJ0_charAt_5068e_11 : decode cJ0_charAt_5068e 11 = .ok (.iload_n 1, 1) := by decide +kernel
theorem dJ0_charAt_5068e_12 : decode cJ0_charAt_5068e 12 = .ok (.invokestatic 495, 3) := by decide +kernel
theorem dJ0_charAt_5068e_15 : decode cJ0_charAt_5068e 15 = .ok (.ireturn, 1) := by decide +kernel
theorem dJ0_charAt_5068e_16 : decode cJ0_charAt_5068e 16 = .ok (.aload_n 0, 1) := by decide +kernel
theorem dJ0_charAt_5068e_17 : decode cJ0_charAt_5068e 17 = .ok (.getfield 9, 3) := by decide +kernel
theorem dJ0_charAt_5068e_20 : decode cJ0_charAt_5068e 20 = .ok (.iload_n 1, 1) := by decide +kernel
theorem dJ0_charAt_5068e_21 : decode cJ0_charAt_5068e 21 = .ok (.invokestatic 498, 3) := by decide +kernel
theorem dJ0_charAt_5068e_24 : decode cJ0_charAt_5068e 24 = .ok (.ireturn, 1) := by decide +kernel
theorem dJ0_coder_7d493_0 : decode cJ0_coder_7d493 0 = .ok (.getstatic 38, 3) := by decide +kernel
theorem dJ0_coder_7d493_3 : decode cJ0_coder_7d493 3 = .ok (.ifCond .eq 10, 3) := by decide +kernel
theorem dJ0_coder_7d493_6 : decode cJ0_coder_7d493 6 = .ok (.aload_n 0, 1) := by decide +kernel
theorem dJ0_coder_7d493_7 : decode cJ0_coder_7d493 7 = .ok (.getfield 15, 3) := by decide +kernel
theorem dJ0_coder_7d493_10 : decode cJ0_coder_7d493 10 = .ok (.goto 4, 3) := by decide +kernel
theorem dJ0_coder_7d493_13 : decode cJ0_coder_7d493 13 = .ok (.iconst 1, 1) := by decide +kernel
theorem dJ0_coder_7d493_14 : decode cJ0_coder_7d493 14 = .ok (.ireturn, 1) := by decide +kernel
theorem dJ0_isLatin1_aae02_0 : decode cJ0_isLatin1_aae02 0 = .ok (.getstatic 38, 3) := by decide +kernel
theorem dJ0_isLatin1_aae02_3 : decode cJ0_isLatin1_aae02 3 = .ok (.ifCond .eq 14, 3) := by decide +kernel
theorem dJ0_isLatin1_aae02_6 : decode cJ0_isLatin1_aae02 6 = .ok (.aload_n 0, 1) := by decide +kernel
theorem dJ0_isLatin1_aae02_7 : decode cJ0_isLatin1_aae02 7 = .ok (.getfield 15, 3) := by decide +kernel
theorem dJ0_isLatin1_aae02_10 : decode cJ0_isLatin1_aae02 10 = .ok (.ifCond .ne 7, 3) := by decide +kernel
theorem dJ0_isLatin1_aae02_13 : decode cJ0_isLatin1_aae02 13 = .ok (.iconst 1, 1) := by decide +kernel
theorem dJ0_isLatin1_aae02_14 : decode cJ0_isLatin1_aae02 14 = .ok (.goto 4, 3) := by decide +kernel
theorem dJ0_isLatin1_aae02_17 : decode cJ0_isLatin1_aae02 17 = .ok (.iconst 0, 1) := by decide +kernel
theorem dJ0_isLatin1_aae02_18 : decode cJ0_isLatin1_aae02 18 = .ok (.ireturn, 1) := by decide +kernel
theorem dJ0_checkIndex_df160_0 : decode cJ0_checkIndex_df160 0 = .ok (.iload_n 0, 1) := by decide +kernel
theorem dJ0_checkIndex_df160_1 : decode cJ0_checkIndex_df160 1 = .ok (.iload_n 1, 1) := by decide +kernel
theorem dJ0_checkIndex_df160_2 : decode cJ0_checkIndex_df160 2 = .ok (.getstatic 1053, 3) := by decide +kernel
theorem dJ0_checkIndex_df160_5 : decode cJ0_checkIndex_df160 5 = .ok (.invokestatic 1059, 3) := by decide +kernel
theorem dJ0_checkIndex_df160_8 : decode cJ0_checkIndex_df160 8 = .ok (.pop, 1) := by decide +kernel
theorem dJ0_checkIndex_df160_9 : decode cJ0_checkIndex_df160 9 = .ok (.return_, 1) := by decide +kernel
theorem dJ1_charAt_3b067_0 : decode cJ1_charAt_3b067 0 = .ok (.iload_n 1, 1) := by decide +kernel
theorem dJ1_charAt_3b067_1 : decode cJ1_charAt_3b067 1 = .ok (.aload_n 0, 1) := by decide +kernel
theorem dJ1_charAt_3b067_2 : decode cJ1_charAt_3b067 2 = .ok (.arraylength, 1) := by decide +kernel
theorem dJ1_charAt_3b067_3 : decode cJ1_charAt_3b067 3 = .ok (.invokestatic 9, 3) := by decide +kernel
theorem dJ1_charAt_3b067_6 : decode cJ1_charAt_3b067 6 = .ok (.aload_n 0, 1) := by decide +kernel
theorem dJ1_charAt_3b067_7 : decode cJ1_charAt_3b067 7 = .ok (.iload_n 1, 1) := by decide +kernel
theorem dJ1_charAt_3b067_8 : decode cJ1_charAt_3b067 8 = .ok (.baload, 1) := by decide +kernel
theorem dJ1_charAt_3b067_9 : decode cJ1_charAt_3b067 9 = .ok (.sipush 255, 3) := by decide +kernel
theorem dJ1_charAt_3b067_12 : decode cJ1_charAt_3b067 12 = .ok (.iand, 1) := by decide +kernel
theorem dJ1_charAt_3b067_13 : decode cJ1_charAt_3b067 13 = .ok (.i2c, 1) := by decide +kernel
theorem dJ1_charAt_3b067_14 : decode cJ1_charAt_3b067 14 = .ok (.ireturn, 1) := by decide +kernel
theorem dJ2_getChar_3b067_0 : decode cJ2_getChar_3b067 0 = .ok (.getstatic 44, 3) := by decide +kernel
theorem dJ2_getChar_3b067_3 : decode cJ2_getChar_3b067 3 = .ok (.ifCond .ne 25, 3) := by decide +kernel
theorem dJ2_getChar_3b067_6 : decode cJ2_getChar_3b067 6 = .ok (.iload_n 1, 1) := by decide +kernel
theorem dJ2_getChar_3b067_7 : decode cJ2_getChar_3b067 7 = .ok (.ifCond .lt 11, 3) := by decide +kernel
theorem dJ2_getChar_3b067_10 : decode cJ2_getChar_3b067 10 = .ok (.iload_n 1, 1) := by decide +kernel
theorem dJ2_getChar_3b067_11 : decode cJ2_getChar_3b067 11 = .ok (.aload_n 0, 1) := by decide +kernel
theorem dJ2_getChar_3b067_12 : decode cJ2_getChar_3b067 12 = .ok (.invokestatic 48, 3) := by decide +kernel
theorem dJ2_getChar_3b067_15 : decode cJ2_getChar_3b067 15 = .ok (.if_icmp .lt 13, 3) := by decide +kernel
theorem dJ2_getChar_3b067_18 : decode cJ2_getChar_3b067 18 = .ok (.new 52, 3) := by decide +kernel
theorem dJ2_getChar_3b067_21 : decode cJ2_getChar_3b067 21 = .ok (.dup, 1) := by decide +kernel
theorem dJ2_getChar_3b067_22 : decode cJ2_getChar_3b067 22 = .ok (.ldc 54, 2) := by decide +kernel
theorem dJ2_getChar_3b067_24 : decode cJ2_getChar_3b067 24 = .ok (.invokespecial 56, 3) := by decide +kernel
theorem dJ2_getChar_3b067_27 : decode cJ2_getChar_3b067 27 = .ok (.athrow, 1) := by decide +kernel
theorem dJ2_getChar_3b067_28 : decode cJ2_getChar_3b067 28 = .ok (.iload_n 1, 1) := by decide +kernel
theorem dJ2_getChar_3b067_29 : decode cJ2_getChar_3b067 29 = .ok (.iconst 1, 1) := by decide +kernel
theorem dJ2_getChar_3b067_30 : decode cJ2_getChar_3b067 30 = .ok (.ishl, 1) := by decide +kernel
theorem dJ2_getChar_3b067_31 : decode cJ2_getChar_3b067 31 = .ok (.istore_n 1, 1) := by decide +kernel
theorem dJ2_getChar_3b067_32 : decode cJ2_getChar_3b067 32 = .ok (.aload_n 0, 1) := by decide +kernel
theorem dJ2_getChar_3b067_33 : decode cJ2_getChar_3b067 33 = .ok (.iload_n 1, 1) := by decide +kernel
theorem dJ2_getChar_3b067_34 : decode cJ2_getChar_3b067 34 = .ok (.iinc 1 1, 3) := by decide +kernel
theorem dJ2_getChar_3b067_37 : decode cJ2_getChar_3b067 37 = .ok (.baload, 1) := by decide +kernel
theorem dJ2_getChar_3b067_38 : decode cJ2_getChar_3b067 38 = .ok (.sipush 255, 3) := by decide +kernel
theorem dJ2_getChar_3b067_41 : decode cJ2_getChar_3b067 41 = .ok (.iand, 1) := by decide +kernel
theorem dJ2_getChar_3b067_42 : decode cJ2_getChar_3b067 42 = .ok (.getstatic 59, 3) := by decide +kernel
theorem dJ2_getChar_3b067_45 : decode cJ2_getChar_3b067 45 = .ok (.ishl, 1) := by decide +kernel
theorem dJ2_getChar_3b067_46 : decode cJ2_getChar_3b067 46 = .ok (.aload_n 0, 1) := by decide +kernel
theorem dJ2_getChar_3b067_47 : decode cJ2_getChar_3b067 47 = .ok (.iload_n 1, 1) := by decide +kernel
theorem dJ2_getChar_3b067_48 : decode cJ2_getChar_3b067 48 = .ok (.baload, 1) := by decide +kernel
theorem dJ2_getChar_3b067_49 : decode cJ2_getChar_3b067 49 = .ok (.sipush 255, 3) := by decide +kernel
theorem dJ2_getChar_3b067_52 : decode cJ2_getChar_3b067 52 = .ok (.iand, 1) := by decide +kernel
theorem dJ2_getChar_3b067_53 : decode cJ2_getChar_3b067 53 = .ok (.getstatic 63, 3) := by decide +kernel
theorem dJ2_getChar_3b067_56 : decode cJ2_getChar_3b067 56 = .ok (.ishl, 1) := by decide +kernel
theorem dJ2_getChar_3b067_57 : decode cJ2_getChar_3b067 57 = .ok (.ior, 1) := by decide +kernel
theorem dJ2_getChar_3b067_58 : decode cJ2_getChar_3b067 58 = .ok (.i2c, 1) := by decide +kernel
theorem dJ2_getChar_3b067_59 : decode cJ2_getChar_3b067 59 = .ok (.ireturn, 1) := by decide +kernel
theorem dJ2_length_9d52b_0 : decode cJ2_length_9d52b 0 = .ok (.aload_n 0, 1) := by decide +kernel
theorem dJ2_length_9d52b_1 : decode cJ2_length_9d52b 1 = .ok (.arraylength, 1) := by decide +kernel
theorem dJ2_length_9d52b_2 : decode cJ2_length_9d52b 2 = .ok (.iconst 1, 1) := by decide +kernel
theorem dJ2_length_9d52b_3 : decode cJ2_length_9d52b 3 = .ok (.ishr, 1) := by decide +kernel
theorem dJ2_length_9d52b_4 : decode cJ2_length_9d52b 4 = .ok (.ireturn, 1) := by decide +kernel
theorem dJ2_charAt_3b067_0 : decode cJ2_charAt_3b067 0 = .ok (.iload_n 1, 1) := by decide +kernel
theorem dJ2_charAt_3b067_1 : decode cJ2_charAt_3b067 1 = .ok (.aload_n 0, 1) := by decide +kernel
theorem dJ2_charAt_3b067_2 : decode cJ2_charAt_3b067 2 = .ok (.invokestatic 67, 3) := by decide +kernel
theorem dJ2_charAt_3b067_5 : decode cJ2_charAt_3b067 5 = .ok (.aload_n 0, 1) := by decide +kernel
theorem dJ2_charAt_3b067_6 : decode cJ2_charAt_3b067 6 = .ok (.iload_n 1, 1) := by decide +kernel
theorem dJ2_charAt_3b067_7 : decode cJ2_charAt_3b067 7 = .ok (.invokestatic 71, 3) := by decide +kernel
theorem dJ2_charAt_3b067_10 : decode cJ2_charAt_3b067 10 = .ok (.ireturn, 1) := by decide +kernel
theorem dJ2_checkIndex_2214a_0 : decode cJ2_checkIndex_2214a 0 = .ok (.iload_n 0, 1) := by decide +kernel
theorem dJ2_checkIndex_2214a_1 : decode cJ2_checkIndex_2214a 1 = .ok (.aload_n 1, 1) := by decide +kernel
theorem dJ2_checkIndex_2214a_2 : decode cJ2_checkIndex_2214a 2 = .ok (.invokestatic 48, 3) := by decide +kernel
theorem dJ2_checkIndex_2214a_5 : decode cJ2_checkIndex_2214a 5 = .ok (.invokestatic 414, 3) := by decide +kernel
theorem dJ2_checkIndex_2214a_8 : decode cJ2_checkIndex_2214a 8 = .ok (.return_, 1) := by decide +kernel
theorem dJ3_checkIndex_8e157_0 : decode cJ3_checkIndex_8e157 0 = .ok (.iload_n 0, 1) := by decide +kernel
theorem dJ3_checkIndex_8e157_1 : decode cJ3_checkIndex_8e157 1 = .ok (.ifCond .lt 8, 3) := by decide +kernel
theorem dJ3_checkIndex_8e157_4 : decode cJ3_checkIndex_8e157 4 = .ok (.iload_n 0, 1) := by decide +kernel
theorem dJ3_checkIndex_8e157_5 : decode cJ3_checkIndex_8e157 5 = .ok (.iload_n 1, 1) := by decide +kernel
theorem dJ3_checkIndex_8e157_6 : decode cJ3_checkIndex_8e157 6 = .ok (.if_icmp .lt 10, 3) := by decide +kernel
theorem dJ3_checkIndex_8e157_9 : decode cJ3_checkIndex_8e157 9 = .ok (.aload_n 2, 1) := by decide +kernel
theorem dJ3_checkIndex_8e157_10 : decode cJ3_checkIndex_8e157 10 = .ok (.iload_n 0, 1) := by decide +kernel
theorem dJ3_checkIndex_8e157_11 : decode cJ3_checkIndex_8e157 11 = .ok (.iload_n 1, 1) := by decide +kernel
theorem dJ3_checkIndex_8e157_12 : decode cJ3_checkIndex_8e157 12 = .ok (.invokestatic 95, 3) := by decide +kernel
theorem dJ3_checkIndex_8e157_15 : decode cJ3_checkIndex_8e157 15 = .ok (.athrow, 1) := by decide +kernel
theorem dJ3_checkIndex_8e157_16 : decode cJ3_checkIndex_8e157 16 = .ok (.iload_n 0, 1) := by decide +kernel
theorem dJ3_checkIndex_8e157_17 : decode cJ3_checkIndex_8e157 17 = .ok (.ireturn, 1) := by decide +kernel
theorem dL_law_0 : decode cL_law 0 = .ok (.new 7, 3) := by decide +kernel
theorem dL_law_3 : decode cL_law 3 = .ok (.dup, 1) := by decide +kernel
theorem dL_law_4 : decode cL_law 4 = .ok (.invokespecial 9, 3) := by decide +kernel
theorem dL_law_7 : decode cL_law 7 = .ok (.astore_n 1, 1) := by decide +kernel
theorem dL_law_8 : decode cL_law 8 = .ok (.new 10, 3) := by decide +kernel
theorem dL_law_11 : decode cL_law 11 = .ok (.dup, 1) := by decide +kernel
theorem dL_law_12 : decode cL_law 12 = .ok (.invokespecial 12, 3) := by decide +kernel
theorem dL_law_15 : decode cL_law 15 = .ok (.astore_n 2, 1) := by decide +kernel
theorem dL_law_16 : decode cL_law 16 = .ok (.iconst 0, 1) := by decide +kernel
theorem dL_law_17 : decode cL_law 17 = .ok (.istore_n 3, 1) := by decide +kernel
theorem dL_law_18 : decode cL_law 18 = .ok (.iload_n 3, 1) := by decide +kernel
theorem dL_law_19 : decode cL_law 19 = .ok (.aload_n 0, 1) := by decide +kernel
theorem dL_law_20 : decode cL_law 20 = .ok (.arraylength, 1) := by decide +kernel
theorem dL_law_21 : decode cL_law 21 = .ok (.bipush 6, 2) := by decide +kernel
theorem dL_law_23 : decode cL_law 23 = .ok (.isub, 1) := by decide +kernel
theorem dL_law_24 : decode cL_law 24 = .ok (.if_icmp .gt 1391, 3) := by decide +kernel
theorem dL_law_27 : decode cL_law 27 = .ok (.aload_n 0, 1) := by decide +kernel
theorem dL_law_28 : decode cL_law 28 = .ok (.iload_n 3, 1) := by decide +kernel
theorem dL_law_29 : decode cL_law 29 = .ok (.iaload, 1) := by decide +kernel
theorem dL_law_30 : decode cL_law 30 = .ok (.bipush 63, 2) := by decide +kernel
theorem dL_law_32 : decode cL_law 32 = .ok (.iand, 1) := by decide +kernel
theorem dL_law_33 : decode cL_law 33 = .ok (.tableswitch 1376 0 34 #[155, 198, 231, 284, 333, 356, 399, 432, 455, 518, 541, 584, 627, 690, 723, 756, 789, 842, 885, 918, 951, 974, 1007, 1060, 1083, 1116, 1149, 1182, 1215, 1248, 1271, 1294, 1327, 1340, 1353], 155) := by decide +kernel
theorem dL_law_188 : decode cL_law 188 = .ok (.aload_n 1, 1) := by decide +kernel
theorem dL_law_189 : decode cL_law 189 = .ok (.aload_n 0, 1) := by decide +kernel
theorem dL_law_190 : decode cL_law 190 = .ok (.iload_n 3, 1) := by decide +kernel
theorem dL_law_191 : decode cL_law 191 = .ok (.iconst 1, 1) := by decide +kernel
theorem dL_law_192 : decode cL_law 192 = .ok (.iadd, 1) := by decide +kernel
theorem dL_law_193 : decode cL_law 193 = .ok (.iaload, 1) := by decide +kernel
theorem dL_law_194 : decode cL_law 194 = .ok (.aload_n 0, 1) := by decide +kernel
theorem dL_law_195 : decode cL_law 195 = .ok (.iload_n 3, 1) := by decide +kernel
theorem dL_law_196 : decode cL_law 196 = .ok (.iconst 2, 1) := by decide +kernel
theorem dL_law_197 : decode cL_law 197 = .ok (.iadd, 1) := by decide +kernel
theorem dL_law_198 : decode cL_law 198 = .ok (.iaload, 1) := by decide +kernel
theorem dL_law_199 : decode cL_law 199 = .ok (.aload_n 0, 1) := by decide +kernel
theorem dL_law_200 : decode cL_law 200 = .ok (.iload_n 3, 1) := by decide +kernel
theorem dL_law_201 : decode cL_law 201 = .ok (.iconst 3, 1) := by decide +kernel
theorem dL_law_202 : decode cL_law 202 = .ok (.iadd, 1) := by decide +kernel
theorem dL_law_203 : decode cL_law 203 = .ok (.iaload, 1) := by decide +kernel
theorem dL_law_204 : decode cL_law 204 = .ok (.invokevirtual 13, 3) := by decide +kernel
theorem dL_law_207 : decode cL_law 207 = .ok (.aload_n 2, 1) := by decide +kernel
theorem dL_law_208 : decode cL_law 208 = .ok (.aload_n 0, 1) := by decide +kernel
theorem dL_law_209 : decode cL_law 209 = .ok (.iload_n 3, 1) := by decide +kernel
theorem dL_law_210 : decode cL_law 210 = .ok (.iconst 1, 1) := by decide +kernel
theorem dL_law_211 : decode cL_law 211 = .ok (.iadd, 1) := by decide +kernel
theorem dL_law_212 : decode cL_law 212 = .ok (.iaload, 1) := by decide +kernel
theorem dL_law_213 : decode cL_law 213 = .ok (.aload_n 0, 1) := by decide +kernel
theorem dL_law_214 : decode cL_law 214 = .ok (.iload_n 3, 1) := by decide +kernel
theorem dL_law_215 : decode cL_law 215 = .ok (.iconst 2, 1) := by decide +kernel
theorem dL_law_216 : decode cL_law 216 = .ok (.iadd, 1) := by decide +kernel
theorem dL_law_217 : decode cL_law 217 = .ok (.iaload, 1) := by decide +kernel
theorem dL_law_218 : decode cL_law 218 = .ok (.aload_n 0, 1) := by decide +kernel
theorem dL_law_219 : decode cL_law 219 = .ok (.iload_n 3, 1) := by decide +kernel
theorem dL_law_220 : decode cL_law 220 = .ok (.iconst 3, 1) := by decide +kernel
theorem dL_law_221 : decode cL_law 221 = .ok (.iadd, 1) := by decide +kernel
theorem dL_law_222 : decode cL_law 222 = .ok (.iaload, 1) := by decide +kernel
theorem dL_law_223 : decode cL_law 223 = .ok (.invokevirtual 17, 3) := by decide +kernel
theorem dL_law_226 : decode cL_law 226 = .ok (.if_icmp .eq 1183, 3) := by decide +kernel
theorem dL_law_229 : decode cL_law 229 = .ok (.iconst 0, 1) := by decide +kernel
theorem dL_law_230 : decode cL_law 230 = .ok (.ireturn, 1) := by decide +kernel
theorem dL_law_231 : decode cL_law 231 = .ok (.aload_n 1, 1) := by decide +kernel
theorem dL_law_232 : decode cL_law 232 = .ok (.aload_n 0, 1) := by decide +kernel
theorem dL_law_233 : decode cL_law 233 = .ok (.iload_n 3, 1) := by decide +kernel
theorem dL_law_234 : decode cL_law 234 = .ok (.iconst 1, 1) := by decide +kernel
theorem dL_law_235 : decode cL_law 235 = .ok (.iadd, 1) := by decide +kernel
theorem dL_law_236 : decode cL_law 236 = .ok (.iaload, 1) := by decide +kernel
theorem dL_law_237 : decode cL_law 237 = .ok (.aload_n 0, 1) := by decide +kernel
theorem dL_law_238 : decode cL_law 238 = .ok (.iload_n 3, 1) := by decide +kernel
theorem dL_law_239 : decode cL_law 239 = .ok (.iconst 2, 1) := by decide +kernel
theorem dL_law_240 : decode cL_law 240 = .ok (.iadd, 1) := by decide +kernel
theorem dL_law_241 : decode cL_law 241 = .ok (.iaload, 1) := by decide +kernel
theorem dL_law_242 : decode cL_law 242 = .ok (.invokevirtual 18, 3) := by decide +kernel
theorem dL_law_245 : decode cL_law 245 = .ok (.aload_n 2, 1) := by decide +kernel
theorem dL_law_246 : decode cL_law 246 = .ok (.aload_n 0, 1) := by decide +kernel
theorem dL_law_247 : decode cL_law 247 = .ok (.iload_n 3, 1) := by decide +kernel
theorem dL_law_248 : decode cL_law 248 = .ok (.iconst 1, 1) := by decide +kernel
theorem dL_law_249 : decode cL_law 249 = .ok (.iadd, 1) := by decide +kernel
theorem dL_law_250 : decode cL_law 250 = .ok (.iaload, 1) := by decide +kernel
theorem dL_law_251 : decode cL_law 251 = .ok (.aload_n 0, 1) := by decide +kernel
theorem dL_law_252 : decode cL_law 252 = .ok (.iload_n 3, 1) := by decide +kernel
theorem dL_law_253 : decode cL_law 253 = .ok (.iconst 2, 1) := by decide +kernel
theorem dL_law_254 : decode cL_law 254 = .ok (.iadd, 1) := by decide +kernel
theorem dL_law_255 : decode cL_law 255 = .ok (.iaload, 1) := by decide +kernel
theorem dL_law_256 : decode cL_law 256 = .ok (.invokevirtual 22, 3) := by decide +kernel
theorem dL_law_259 : decode cL_law 259 = .ok (.if_icmp .eq 1150, 3) := by decide +kernel
theorem dL_law_262 : decode cL_law 262 = .ok (.iconst 0, 1) := by decide +kernel
theorem dL_law_263 : decode cL_law 263 = .ok (.ireturn, 1) := by decide +kernel
theorem dL_law_264 : decode cL_law 264 = .ok (.aload_n 1, 1) := by decide +kernel
theorem dL_law_265 : decode cL_law 265 = .ok (.aload_n 0, 1) := by decide +kernel
theorem dL_law_266 : decode cL_law 266 = .ok (.iload_n 3, 1) := by decide +kernel
theorem dL_law_267 : decode cL_law 267 = .ok (.iconst 1, 1) := by decide +kernel
theorem dL_law_268 : decode cL_law 268 = .ok (.iadd, 1) := by decide +kernel
theorem dL_law_269 : decode cL_law 269 = .ok (.iaload, 1) := by decide +kernel
theorem dL_law_270 : decode cL_law 270 = .ok (.aload_n 0, 1) := by decide +kernel
theorem dL_law_271 : decode cL_law 271 = .ok (.iload_n 3, 1) := by decide +kernel
theorem dL_law_272 : decode cL_law 272 = .ok (.iconst 2, 1) := by decide +kernel
theorem dL_law_273 : decode cL_law 273 = .ok (.iadd, 1) := by decide +kernel
theorem dL_law_274 : decode cL_law 274 = .ok (.iaload, 1) := by decide +kernel
theorem dL_law_275 : decode cL_law 275 = .ok (.aload_n 0, 1) := by decide +kernel
theorem dL_law_276 : decode cL_law 276 = .ok (.iload_n 3, 1) := by decide +kernel
theorem dL_law_277 : decode cL_law 277 = .ok (.iconst 3, 1) := by decide +kernel
theorem dL_law_278 : decode cL_law 278 = .ok (.iadd, 1) := by decide +kernel
theorem dL_law_279 : decode cL_law 279 = .ok (.iaload, 1) := by decide +kernel
theorem dL_law_280 : decode cL_law 280 = .ok (.aload_n 0, 1) := by decide +kernel
theorem dL_law_281 : decode cL_law 281 = .ok (.iload_n 3, 1) := by decide +kernel
theorem dL_law_282 : decode cL_law 282 = .ok (.iconst 4, 1) := by decide +kernel
theorem dL_law_283 : decode cL_law 283 = .ok (.iadd, 1) := by decide +kernel
theorem dL_law_284 : decode cL_law 284 = .ok (.iaload, 1) := by decide +kernel
theorem dL_law_285 : decode cL_law 285 = .ok (.invokevirtual 23, 3) := by decide +kernel
theorem dL_law_288 : decode cL_law 288 = .ok (.aload_n 2, 1) := by decide +kernel
theorem dL_law_289 : decode cL_law 289 = .ok (.aload_n 0, 1) := by decide +kernel
theorem dL_law_290 : decode cL_law 290 = .ok (.iload_n 3, 1) := by decide +kernel
theorem dL_law_291 : decode cL_law 291 = .ok (.iconst 1, 1) := by decide +kernel
theorem dL_law_292 : decode cL_law 292 = .ok (.iadd, 1) := by decide +kernel
theorem dL_law_293 : decode cL_law 293 = .ok (.iaload, 1) := by decide +kernel
theorem dL_law_294 : decode cL_law 294 = .ok (.aload_n 0, 1) := by decide +kernel
theorem dL_law_295 : decode cL_law 295 = .ok (.iload_n 3, 1) := by decide +kernel
theorem dL_law_296 : decode cL_law 296 = .ok (.iconst 2, 1) := by decide +kernel
theorem dL_law_297 : decode cL_law 297 = .ok (.iadd, 1) := by decide +kernel
theorem dL_law_298 : decode cL_law 298 = .ok (.iaload, 1) := by decide +kernel
theorem dL_law_299 : decode cL_law 299 = .ok (.aload_n 0, 1) := by decide +kernel
theorem dL_law_300 : decode cL_law 300 = .ok (.iload_n 3, 1) := by decide +kernel
theorem dL_law_301 : decode cL_law 301 = .ok (.iconst 3, 1) := by decide +kernel
theorem dL_law_302 : decode cL_law 302 = .ok (.iadd, 1) := by decide +kernel
theorem dL_law_303 : decode cL_law 303 = .ok (.iaload, 1) := by decide +kernel
theorem dL_law_304 : decode cL_law 304 = .ok (.aload_n 0, 1) := by decide +kernel
theorem dL_law_305 : decode cL_law 305 = .ok (.iload_n 3, 1) := by decide +kernel
theorem dL_law_306 : decode cL_law 306 = .ok (.iconst 4, 1) := by decide +kernel
theorem dL_law_307 : decode cL_law 307 = .ok (.iadd, 1) := by decide +kernel
theorem dL_law_308 : decode cL_law 308 = .ok (.iaload, 1) := by decide +kernel
theorem dL_law_309 : decode cL_law 309 = .ok (.invokevirtual 27, 3) := by decide +kernel
theorem dL_law_312 : decode cL_law 312 = .ok (.if_icmp .eq 1097, 3) := by decide +kernel
theorem dL_law_315 : decode cL_law 315 = .ok (.iconst 0, 1) := by decide +kernel
theorem dL_law_316 : decode cL_law 316 = .ok (.ireturn, 1) := by decide +kernel
theorem dL_law_317 : decode cL_law 317 = .ok (.aload_n 1, 1) := by decide +kernel
theorem dL_law_318 : decode cL_law 318 = .ok (.aload_n 0, 1) := by decide +kernel
theorem dL_law_319 : decode cL_law 319 = .ok (.iload_n 3, 1) := by decide +kernel
theorem dL_law_320 : decode cL_law 320 = .ok (.iconst 1, 1) := by decide +kernel
theorem dL_law_321 : decode cL_law 321 = .ok (.iadd, 1) := by decide +kernel
theorem dL_law_322 : decode cL_law 322 = .ok (.iaload, 1) := by decide +kernel
theorem dL_law_323 : decode cL_law 323 = .ok (.aload_n 0, 1) := by decide +kernel
theorem dL_law_324 : decode cL_law 324 = .ok (.iload_n 3, 1) := by decide +kernel
theorem dL_law_325 : decode cL_law 325 = .ok (.iconst 2, 1) := by decide +kernel
theorem dL_law_326 : decode cL_law 326 = .ok (.iadd, 1) := by decide +kernel
theorem dL_law_327 : decode cL_law 327 = .ok (.iaload, 1) := by decide +kernel
theorem dL_law_328 : decode cL_law 328 = .ok (.ifCond .eq 7, 3) := by decide +kernel
theorem dL_law_331 : decode cL_law 331 = .ok (.iconst 1, 1) := by decide +kernel
theorem dL_law_332 : decode cL_law 332 = .ok (.goto 4, 3) := by decide +kernel
theorem dL_law_335 : decode cL_law 335 = .ok (.iconst 0, 1) := by decide +kernel
theorem dL_law_336 : decode cL_law 336 = .ok (.invokevirtual 28, 3) := by decide +kernel
theorem dL_law_339 : decode cL_law 339 = .ok (.aload_n 2, 1) := by decide +kernel
theorem dL_law_340 : decode cL_law 340 = .ok (.aload_n 0, 1) := by decide +kernel
theorem dL_law_341 : decode cL_law 341 = .ok (.iload_n 3, 1) := by decide +kernel
theorem dL_law_342 : decode cL_law 342 = .ok (.iconst 1, 1) := by decide +kernel
theorem dL_law_343 : decode cL_law 343 = .ok (.iadd, 1) := by decide +kernel
theorem dL_law_344 : decode cL_law 344 = .ok (.iaload, 1) := by decide +kernel
theorem dL_law_345 : decode cL_law 345 = .ok (.aload_n 0, 1) := by decide +kernel
theorem dL_law_346 : decode cL_law 346 = .ok (.iload_n 3, 1) := by decide +kernel
theorem dL_law_347 : decode cL_law 347 = .ok (.iconst 2, 1) := by decide +kernel
theorem dL_law_348 : decode cL_law 348 = .ok (.iadd, 1) := by decide +kernel
theorem dL_law_349 : decode cL_law 349 = .ok (.iaload, 1) := by decide +kernel
theorem dL_law_350 : decode cL_law 350 = .ok (.ifCond .eq 7, 3) := by decide +kernel
theorem dL_law_353 : decode cL_law 353 = .ok (.iconst 1, 1) := by decide +kernel
theorem dL_law_354 : decode cL_law 354 = .ok (.goto 4, 3) := by decide +kernel
theorem dL_law_357 : decode cL_law 357 = .ok (.iconst 0, 1) := by decide +kernel
theorem dL_law_358 : decode cL_law 358 = .ok (.invokevirtual 32, 3) := by decide +kernel
theorem dL_law_361 : decode cL_law 361 = .ok (.if_icmp .eq 1048, 3) := by decide +kernel
theorem dL_law_364 : decode cL_law 364 = .ok (.iconst 0, 1) := by decide +kernel
theorem dL_law_365 : decode cL_law 365 = .ok (.ireturn, 1) := by decide +kernel
theorem dL_law_366 : decode cL_law 366 = .ok (.aload_n 1, 1) := by decide +kernel
theorem dL_law_367 : decode cL_law 367 = .ok (.aload_n 0, 1) := by decide +kernel
theorem dL_law_368 : decode cL_law 368 = .ok (.iload_n 3, 1) := by decide +kernel
theorem dL_law_369 : decode cL_law 369 = .ok (.iconst 1, 1) := by decide +kernel
theorem dL_law_370 : decode cL_law 370 = .ok (.iadd, 1) := by decide +kernel
theorem dL_law_371 : decode cL_law 371 = .ok (.iaload, 1) := by decide +kernel
theorem dL_law_372 : decode cL_law 372 = .ok (.invokevirtual 33, 3) := by decide +kernel
theorem dL_law_375 : decode cL_law 375 = .ok (.aload_n 2, 1) := by decide +kernel
theorem dL_law_376 : decode cL_law 376 = .ok (.aload_n 0, 1) := by decide +kernel
theorem dL_law_377 : decode cL_law 377 = .ok (.iload_n 3, 1) := by decide +kernel
theorem dL_law_378 : decode cL_law 378 = .ok (.iconst 1, 1) := by decide +kernel
theorem dL_law_379 : decode cL_law 379 = .ok (.iadd, 1) := by decide +kernel
theorem dL_law_380 : decode cL_law 380 = .ok (.iaload, 1) := by decide +kernel
theorem dL_law_381 : decode cL_law 381 = .ok (.invokevirtual 37, 3) := by decide +kernel
theorem dL_law_384 : decode cL_law 384 = .ok (.if_icmp .eq 1025, 3) := by decide +kernel
theorem dL_law_387 : decode cL_law 387 = .ok (.iconst 0, 1) := by decide +kernel
theorem dL_law_388 : decode cL_law 388 = .ok (.ireturn, 1) := by decide +kernel
theorem dL_law_389 : decode cL_law 389 = .ok (.aload_n 1, 1) := by decide +kernel
theorem dL_law_390 : decode cL_law 390 = .ok (.aload_n 0, 1) := by decide +kernel
theorem dL_law_391 : decode cL_law 391 = .ok (.iload_n 3, 1) := by decide +kernel
theorem dL_law_392 : decode cL_law 392 = .ok (.iconst 1, 1) := by decide +kernel
theorem dL_law_393 : decode cL_law 393 = .ok (.iadd, 1) := by decide +kernel
theorem dL_law_394 : decode cL_law 394 = .ok (.iaload, 1) := by decide +kernel
theorem dL_law_395 : decode cL_law 395 = .ok (.aload_n 0, 1) := by decide +kernel
theorem dL_law_396 : decode cL_law 396 = .ok (.iload_n 3, 1) := by decide +kernel
theorem dL_law_397 : decode cL_law 397 = .ok (.iconst 2, 1) := by decide +kernel
theorem dL_law_398 : decode cL_law 398 = .ok (.iadd, 1) := by decide +kernel
theorem dL_law_399 : decode cL_law 399 = .ok (.iaload, 1) := by decide +kernel
theorem dL_law_400 : decode cL_law 400 = .ok (.aload_n 0, 1) := by decide +kernel
theorem dL_law_401 : decode cL_law 401 = .ok (.iload_n 3, 1) := by decide +kernel
theorem dL_law_402 : decode cL_law 402 = .ok (.iconst 3, 1) := by decide +kernel
theorem dL_law_403 : decode cL_law 403 = .ok (.iadd, 1) := by decide +kernel
theorem dL_law_404 : decode cL_law 404 = .ok (.iaload, 1) := by decide +kernel
theorem dL_law_405 : decode cL_law 405 = .ok (.invokevirtual 38, 3) := by decide +kernel
theorem dL_law_408 : decode cL_law 408 = .ok (.aload_n 2, 1) := by decide +kernel
theorem dL_law_409 : decode cL_law 409 = .ok (.aload_n 0, 1) := by decide +kernel
theorem dL_law_410 : decode cL_law 410 = .ok (.iload_n 3, 1) := by decide +kernel
theorem dL_law_411 : decode cL_law 411 = .ok (.iconst 1, 1) := by decide +kernel
theorem dL_law_412 : decode cL_law 412 = .ok (.iadd, 1) := by decide +kernel
theorem dL_law_413 : decode cL_law 413 = .ok (.iaload, 1) := by decide +kernel
theorem dL_law_414 : decode cL_law 414 = .ok (.aload_n 0, 1) := by decide +kernel
theorem dL_law_415 : decode cL_law 415 = .ok (.iload_n 3, 1) := by decide +kernel
theorem dL_law_416 : decode cL_law 416 = .ok (.iconst 2, 1) := by decide +kernel
theorem dL_law_417 : decode cL_law 417 = .ok (.iadd, 1) := by decide +kernel
theorem dL_law_418 : decode cL_law 418 = .ok (.iaload, 1) := by decide +kernel
theorem dL_law_419 : decode cL_law 419 = .ok (.aload_n 0, 1) := by decide +kernel
theorem dL_law_420 : decode cL_law 420 = .ok (.iload_n 3, 1) := by decide +kernel
theorem dL_law_421 : decode cL_law 421 = .ok (.iconst 3, 1) := by decide +kernel
theorem dL_law_422 : decode cL_law 422 = .ok (.iadd, 1) := by decide +kernel
theorem dL_law_423 : decode cL_law 423 = .ok (.iaload, 1) := by decide +kernel
theorem dL_law_424 : decode cL_law 424 = .ok (.invokevirtual 41, 3) := by decide +kernel
theorem dL_law_427 : decode cL_law 427 = .ok (.if_icmp .eq 982, 3) := by decide +kernel
theorem dL_law_430 : decode cL_law 430 = .ok (.iconst 0, 1) := by decide +kernel
theorem dL_law_431 : decode cL_law 431 = .ok (.ireturn, 1) := by decide +kernel
theorem dL_law_432 : decode cL_law 432 = .ok (.aload_n 1, 1) := by decide +kernel
theorem dL_law_433 : decode cL_law 433 = .ok (.aload_n 0, 1) := by decide +kernel
theorem dL_law_434 : decode cL_law 434 = .ok (.iload_n 3, 1) := by decide +kernel
theorem dL_law_435 : decode cL_law 435 = .ok (.iconst 1, 1) := by decide +kernel
theorem dL_law_436 : decode cL_law 436 = .ok (.iadd, 1) := by decide +kernel
theorem dL_law_437 : decode cL_law 437 = .ok (.iaload, 1) := by decide +kernel
theorem dL_law_438 : decode cL_law 438 = .ok (.aload_n 0, 1) := by decide +kernel
theorem dL_law_439 : decode cL_law 439 = .ok (.iload_n 3, 1) := by decide +kernel
theorem dL_law_440 : decode cL_law 440 = .ok (.iconst 2, 1) := by decide +kernel
theorem dL_law_441 : decode cL_law 441 = .ok (.iadd, 1) := by decide +kernel
theorem dL_law_442 : decode cL_law 442 = .ok (.iaload, 1) := by decide +kernel
theorem dL_law_443 : decode cL_law 443 = .ok (.invokevirtual 42, 3) := by decide +kernel
theorem dL_law_446 : decode cL_law 446 = .ok (.aload_n 2, 1) := by decide +kernel
theorem dL_law_447 : decode cL_law 447 = .ok (.aload_n 0, 1) := by decide +kernel
theorem dL_law_448 : decode cL_law 448 = .ok (.iload_n 3, 1) := by decide +kernel
theorem dL_law_449 : decode cL_law 449 = .ok (.iconst 1, 1) := by decide +kernel
theorem dL_law_450 : decode cL_law 450 = .ok (.iadd, 1) := by decide +kernel
theorem dL_law_451 : decode cL_law 451 = .ok (.iaload, 1) := by decide +kernel
theorem dL_law_452 : decode cL_law 452 = .ok (.aload_n 0, 1) := by decide +kernel
theorem dL_law_453 : decode cL_law 453 = .ok (.iload_n 3, 1) := by decide +kernel
theorem dL_law_454 : decode cL_law 454 = .ok (.iconst 2, 1) := by decide +kernel
theorem dL_law_455 : decode cL_law 455 = .ok (.iadd, 1) := by decide +kernel
theorem dL_law_456 : decode cL_law 456 = .ok (.iaload, 1) := by decide +kernel
theorem dL_law_457 : decode cL_law 457 = .ok (.invokevirtual 45, 3) := by decide +kernel
theorem dL_law_460 : decode cL_law 460 = .ok (.if_icmp .eq 949, 3) := by decide +kernel
theorem dL_law_463 : decode cL_law 463 = .ok (.iconst 0, 1) := by decide +kernel
theorem dL_law_464 : decode cL_law 464 = .ok (.ireturn, 1) := by decide +kernel
theorem dL_law_465 : decode cL_law 465 = .ok (.aload_n 1, 1) := by decide +kernel
theorem dL_law_466 : decode cL_law 466 = .ok (.aload_n 0, 1) := by decide +kernel
theorem dL_law_467 : decode cL_law 467 = .ok (.iload_n 3, 1) := by decide +kernel
theorem dL_law_468 : decode cL_law 468 = .ok (.iconst 1, 1) := by decide +kernel
theorem dL_law_469 : decode cL_law 469 = .ok (.iadd, 1) := by decide +kernel
theorem dL_law_470 : decode cL_law 470 = .ok (.iaload, 1) := by decide +kernel
theorem dL_law_471 : decode cL_law 471 = .ok (.invokevirtual 46, 3) := by decide +kernel
theorem dL_law_474 : decode cL_law 474 = .ok (.aload_n 2, 1) := by decide +kernel
theorem dL_law_475 : decode cL_law 475 = .ok (.aload_n 0, 1) := by decide +kernel
theorem dL_law_476 : decode cL_law 476 = .ok (.iload_n 3, 1) := by decide +kernel
theorem dL_law_477 : decode cL_law 477 = .ok (.iconst 1, 1) := by decide +kernel
theorem dL_law_478 : decode cL_law 478 = .ok (.iadd, 1) := by decide +kernel
theorem dL_law_479 : decode cL_law 479 = .ok (.iaload, 1) := by decide +kernel
theorem dL_law_480 : decode cL_law 480 = .ok (.invokevirtual 49, 3) := by decide +kernel
theorem dL_law_483 : decode cL_law 483 = .ok (.if_icmp .eq 926, 3) := by decide +kernel
theorem dL_law_486 : decode cL_law 486 = .ok (.iconst 0, 1) := by decide +kernel
theorem dL_law_487 : decode cL_law 487 = .ok (.ireturn, 1) := by decide +kernel
theorem dL_law_488 : decode cL_law 488 = .ok (.aload_n 1, 1) := by decide +kernel
theorem dL_law_489 : decode cL_law 489 = .ok (.aload_n 0, 1) := by decide +kernel
theorem dL_law_490 : decode cL_law 490 = .ok (.iload_n 3, 1) := by decide +kernel
theorem dL_law_491 : decode cL_law 491 = .ok (.iconst 1, 1) := by decide +kernel
theorem dL_law_492 : decode cL_law 492 = .ok (.iadd, 1) := by decide +kernel
theorem dL_law_493 : decode cL_law 493 = .ok (.iaload, 1) := by decide +kernel
theorem dL_law_494 : decode cL_law 494 = .ok (.i2l, 1) := by decide +kernel
theorem dL_law_495 : decode cL_law 495 = .ok (.bipush 32, 2) := by decide +kernel
theorem dL_law_497 : decode cL_law 497 = .ok (.lshl, 1) := by decide +kernel
theorem dL_law_498 : decode cL_law 498 = .ok (.aload_n 0, 1) := by decide +kernel
theorem dL_law_499 : decode cL_law 499 = .ok (.iload_n 3, 1) := by decide +kernel
theorem dL_law_500 : decode cL_law 500 = .ok (.iconst 2, 1) := by decide +kernel
theorem dL_law_501 : decode cL_law 501 = .ok (.iadd, 1) := by decide +kernel
theorem dL_law_502 : decode cL_law 502 = .ok (.iaload, 1) := by decide +kernel
theorem dL_law_503 : decode cL_law 503 = .ok (.i2l, 1) := by decide +kernel
theorem dL_law_504 : decode cL_law 504 = .ok (.ldc2_w 50, 3) := by decide +kernel
theorem dL_law_507 : decode cL_law 507 = .ok (.land, 1) := by decide +kernel
theorem dL_law_508 : decode cL_law 508 = .ok (.lor, 1) := by decide +kernel
theorem dL_law_509 : decode cL_law 509 = .ok (.aload_n 0, 1) := by decide +kernel
theorem dL_law_510 : decode cL_law 510 = .ok (.iload_n 3, 1) := by decide +kernel
theorem dL_law_511 : decode cL_law 511 = .ok (.iconst 3, 1) := by decide +kernel
theorem dL_law_512 : decode cL_law 512 = .ok (.iadd, 1) := by decide +kernel
theorem dL_law_513 : decode cL_law 513 = .ok (.iaload, 1) := by decide +kernel
theorem dL_law_514 : decode cL_law 514 = .ok (.invokevirtual 52, 3) := by decide +kernel
theorem dL_law_517 : decode cL_law 517 = .ok (.aload_n 2, 1) := by decide +kernel
theorem dL_law_518 : decode cL_law 518 = .ok (.aload_n 0, 1) := by decide +kernel
theorem dL_law_519 : decode cL_law 519 = .ok (.iload_n 3, 1) := by decide +kernel
theorem dL_law_520 : decode cL_law 520 = .ok (.iconst 1, 1) := by decide +kernel
theorem dL_law_521 : decode cL_law 521 = .ok (.iadd, 1) := by decide +kernel
theorem dL_law_522 : decode cL_law 522 = .ok (.iaload, 1) := by decide +kernel
theorem dL_law_523 : decode cL_law 523 = .ok (.i2l, 1) := by decide +kernel
theorem dL_law_524 : decode cL_law 524 = .ok (.bipush 32, 2) := by decide +kernel
theorem dL_law_526 : decode cL_law 526 = .ok (.lshl, 1) := by decide +kernel
theorem dL_law_527 : decode cL_law 527 = .ok (.aload_n 0, 1) := by decide +kernel
theorem dL_law_528 : decode cL_law 528 = .ok (.iload_n 3, 1) := by decide +kernel
theorem dL_law_529 : decode cL_law 529 = .ok (.iconst 2, 1) := by decide +kernel
theorem dL_law_530 : decode cL_law 530 = .ok (.iadd, 1) := by decide +kernel
theorem dL_law_531 : decode cL_law 531 = .ok (.iaload, 1) := by decide +kernel
theorem dL_law_532 : decode cL_law 532 = .ok (.i2l, 1) := by decide +kernel
theorem dL_law_533 : decode cL_law 533 = .ok (.ldc2_w 50, 3) := by decide +kernel
theorem dL_law_536 : decode cL_law 536 = .ok (.land, 1) := by decide +kernel
theorem dL_law_537 : decode cL_law 537 = .ok (.lor, 1) := by decide +kernel
theorem dL_law_538 : decode cL_law 538 = .ok (.aload_n 0, 1) := by decide +kernel
theorem dL_law_539 : decode cL_law 539 = .ok (.iload_n 3, 1) := by decide +kernel
theorem dL_law_540 : decode cL_law 540 = .ok (.iconst 3, 1) := by decide +kernel
theorem dL_law_541 : decode cL_law 541 = .ok (.iadd, 1) := by decide +kernel
theorem dL_law_542 : decode cL_law 542 = .ok (.iaload, 1) := by decide +kernel
theorem dL_law_543 : decode cL_law 543 = .ok (.invokevirtual 56, 3) := by decide +kernel
theorem dL_law_546 : decode cL_law 546 = .ok (.if_icmp .eq 863, 3) := by decide +kernel
theorem dL_law_549 : decode cL_law 549 = .ok (.iconst 0, 1) := by decide +kernel
theorem dL_law_550 : decode cL_law 550 = .ok (.ireturn, 1) := by decide +kernel
theorem dL_law_551 : decode cL_law 551 = .ok (.aload_n 1, 1) := by decide +kernel
theorem dL_law_552 : decode cL_law 552 = .ok (.aload_n 0, 1) := by decide +kernel
theorem dL_law_553 : decode cL_law 553 = .ok (.iload_n 3, 1) := by decide +kernel
theorem dL_law_554 : decode cL_law 554 = .ok (.iconst 1, 1) := by decide +kernel
theorem dL_law_555 : decode cL_law 555 = .ok (.iadd, 1) := by decide +kernel
theorem dL_law_556 : decode cL_law 556 = .ok (.iaload, 1) := by decide +kernel
theorem dL_law_557 : decode cL_law 557 = .ok (.invokevirtual 57, 3) := by decide +kernel
theorem dL_law_560 : decode cL_law 560 = .ok (.aload_n 2, 1) := by decide +kernel
theorem dL_law_561 : decode cL_law 561 = .ok (.aload_n 0, 1) := by decide +kernel
theorem dL_law_562 : decode cL_law 562 = .ok (.iload_n 3, 1) := by decide +kernel
theorem dL_law_563 : decode cL_law 563 = .ok (.iconst 1, 1) := by decide +kernel
theorem dL_law_564 : decode cL_law 564 = .ok (.iadd, 1) := by decide +kernel
theorem dL_law_565 : decode cL_law 565 = .ok (.iaload, 1) := by decide +kernel
theorem dL_law_566 : decode cL_law 566 = .ok (.invokevirtual 60, 3) := by decide +kernel
theorem dL_law_569 : decode cL_law 569 = .ok (.if_icmp .eq 840, 3) := by decide +kernel
theorem dL_law_572 : decode cL_law 572 = .ok (.iconst 0, 1) := by decide +kernel
theorem dL_law_573 : decode cL_law 573 = .ok (.ireturn, 1) := by decide +kernel
theorem dL_law_574 : decode cL_law 574 = .ok (.aload_n 1, 1) := by decide +kernel
theorem dL_law_575 : decode cL_law 575 = .ok (.aload_n 0, 1) := by decide +kernel
theorem dL_law_576 : decode cL_law 576 = .ok (.iload_n 3, 1) := by decide +kernel
theorem dL_law_577 : decode cL_law 577 = .ok (.iconst 1, 1) := by decide +kernel
theorem dL_law_578 : decode cL_law 578 = .ok (.iadd, 1) := by decide +kernel
theorem dL_law_579 : decode cL_law 579 = .ok (.iaload, 1) := by decide +kernel
theorem dL_law_580 : decode cL_law 580 = .ok (.aload_n 0, 1) := by decide +kernel
theorem dL_law_581 : decode cL_law 581 = .ok (.iload_n 3, 1) := by decide +kernel
theorem dL_law_582 : decode cL_law 582 = .ok (.iconst 2, 1) := by decide +kernel
theorem dL_law_583 : decode cL_law 583 = .ok (.iadd, 1) := by decide +kernel
theorem dL_law_584 : decode cL_law 584 = .ok (.iaload, 1) := by decide +kernel
theorem dL_law_585 : decode cL_law 585 = .ok (.aload_n 0, 1) := by decide +kernel
theorem dL_law_586 : decode cL_law 586 = .ok (.iload_n 3, 1) := by decide +kernel
theorem dL_law_587 : decode cL_law 587 = .ok (.iconst 3, 1) := by decide +kernel
theorem dL_law_588 : decode cL_law 588 = .ok (.iadd, 1) := by decide +kernel
theorem dL_law_589 : decode cL_law 589 = .ok (.iaload, 1) := by decide +kernel
theorem dL_law_590 : decode cL_law 590 = .ok (.invokevirtual 61, 3) := by decide +kernel
theorem dL_law_593 : decode cL_law 593 = .ok (.aload_n 2, 1) := by decide +kernel
theorem dL_law_594 : decode cL_law 594 = .ok (.aload_n 0, 1) := by decide +kernel
theorem dL_law_595 : decode cL_law 595 = .ok (.iload_n 3, 1) := by decide +kernel
theorem dL_law_596 : decode cL_law 596 = .ok (.iconst 1, 1) := by decide +kernel
theorem dL_law_597 : decode cL_law 597 = .ok (.iadd, 1) := by decide +kernel
theorem dL_law_598 : decode cL_law 598 = .ok (.iaload, 1) := by decide +kernel
theorem dL_law_599 : decode cL_law 599 = .ok (.aload_n 0, 1) := by decide +kernel
theorem dL_law_600 : decode cL_law 600 = .ok (.iload_n 3, 1) := by decide +kernel
theorem dL_law_601 : decode cL_law 601 = .ok (.iconst 2, 1) := by decide +kernel
theorem dL_law_602 : decode cL_law 602 = .ok (.iadd, 1) := by decide +kernel
theorem dL_law_603 : decode cL_law 603 = .ok (.iaload, 1) := by decide +kernel
theorem dL_law_604 : decode cL_law 604 = .ok (.aload_n 0, 1) := by decide +kernel
theorem dL_law_605 : decode cL_law 605 = .ok (.iload_n 3, 1) := by decide +kernel
theorem dL_law_606 : decode cL_law 606 = .ok (.iconst 3, 1) := by decide +kernel
theorem dL_law_607 : decode cL_law 607 = .ok (.iadd, 1) := by decide +kernel
theorem dL_law_608 : decode cL_law 608 = .ok (.iaload, 1) := by decide +kernel
theorem dL_law_609 : decode cL_law 609 = .ok (.invokevirtual 64, 3) := by decide +kernel
theorem dL_law_612 : decode cL_law 612 = .ok (.if_icmp .eq 797, 3) := by decide +kernel
theorem dL_law_615 : decode cL_law 615 = .ok (.iconst 0, 1) := by decide +kernel
theorem dL_law_616 : decode cL_law 616 = .ok (.ireturn, 1) := by decide +kernel
theorem dL_law_617 : decode cL_law 617 = .ok (.aload_n 1, 1) := by decide +kernel
theorem dL_law_618 : decode cL_law 618 = .ok (.aload_n 0, 1) := by decide +kernel
theorem dL_law_619 : decode cL_law 619 = .ok (.iload_n 3, 1) := by decide +kernel
theorem dL_law_620 : decode cL_law 620 = .ok (.iconst 1, 1) := by decide +kernel
theorem dL_law_621 : decode cL_law 621 = .ok (.iadd, 1) := by decide +kernel
theorem dL_law_622 : decode cL_law 622 = .ok (.iaload, 1) := by decide +kernel
theorem dL_law_623 : decode cL_law 623 = .ok (.aload_n 0, 1) := by decide +kernel
theorem dL_law_624 : decode cL_law 624 = .ok (.iload_n 3, 1) := by decide +kernel
theorem dL_law_625 : decode cL_law 625 = .ok (.iconst 2, 1) := by decide +kernel
theorem dL_law_626 : decode cL_law 626 = .ok (.iadd, 1) := by decide +kernel
theorem dL_law_627 : decode cL_law 627 = .ok (.iaload, 1) := by decide +kernel
theorem dL_law_628 : decode cL_law 628 = .ok (.aload_n 0, 1) := by decide +kernel
theorem dL_law_629 : decode cL_law 629 = .ok (.iload_n 3, 1) := by decide +kernel
theorem dL_law_630 : decode cL_law 630 = .ok (.iconst 3, 1) := by decide +kernel
theorem dL_law_631 : decode cL_law 631 = .ok (.iadd, 1) := by decide +kernel
theorem dL_law_632 : decode cL_law 632 = .ok (.iaload, 1) := by decide +kernel
theorem dL_law_633 : decode cL_law 633 = .ok (.invokevirtual 65, 3) := by decide +kernel
theorem dL_law_636 : decode cL_law 636 = .ok (.aload_n 2, 1) := by decide +kernel
theorem dL_law_637 : decode cL_law 637 = .ok (.aload_n 0, 1) := by decide +kernel
theorem dL_law_638 : decode cL_law 638 = .ok (.iload_n 3, 1) := by decide +kernel
theorem dL_law_639 : decode cL_law 639 = .ok (.iconst 1, 1) := by decide +kernel
theorem dL_law_640 : decode cL_law 640 = .ok (.iadd, 1) := by decide +kernel
theorem dL_law_641 : decode cL_law 641 = .ok (.iaload, 1) := by decide +kernel
theorem dL_law_642 : decode cL_law 642 = .ok (.aload_n 0, 1) := by decide +kernel
theorem dL_law_643 : decode cL_law 643 = .ok (.iload_n 3, 1) := by decide +kernel
theorem dL_law_644 : decode cL_law 644 = .ok (.iconst 2, 1) := by decide +kernel
theorem dL_law_645 : decode cL_law 645 = .ok (.iadd, 1) := by decide +kernel
theorem dL_law_646 : decode cL_law 646 = .ok (.iaload, 1) := by decide +kernel
theorem dL_law_647 : decode cL_law 647 = .ok (.aload_n 0, 1) := by decide +kernel
theorem dL_law_648 : decode cL_law 648 = .ok (.iload_n 3, 1) := by decide +kernel
theorem dL_law_649 : decode cL_law 649 = .ok (.iconst 3, 1) := by decide +kernel
theorem dL_law_650 : decode cL_law 650 = .ok (.iadd, 1) := by decide +kernel
theorem dL_law_651 : decode cL_law 651 = .ok (.iaload, 1) := by decide +kernel
theorem dL_law_652 : decode cL_law 652 = .ok (.invokevirtual 68, 3) := by decide +kernel
theorem dL_law_655 : decode cL_law 655 = .ok (.if_icmp .eq 754, 3) := by decide +kernel
theorem dL_law_658 : decode cL_law 658 = .ok (.iconst 0, 1) := by decide +kernel
theorem dL_law_659 : decode cL_law 659 = .ok (.ireturn, 1) := by decide +kernel
theorem dL_law_660 : decode cL_law 660 = .ok (.aload_n 1, 1) := by decide +kernel
theorem dL_law_661 : decode cL_law 661 = .ok (.aload_n 0, 1) := by decide +kernel
theorem dL_law_662 : decode cL_law 662 = .ok (.iload_n 3, 1) := by decide +kernel
theorem dL_law_663 : decode cL_law 663 = .ok (.iconst 1, 1) := by decide +kernel
theorem dL_law_664 : decode cL_law 664 = .ok (.iadd, 1) := by decide +kernel
theorem dL_law_665 : decode cL_law 665 = .ok (.iaload, 1) := by decide +kernel
theorem dL_law_666 : decode cL_law 666 = .ok (.aload_n 0, 1) := by decide +kernel
theorem dL_law_667 : decode cL_law 667 = .ok (.iload_n 3, 1) := by decide +kernel
theorem dL_law_668 : decode cL_law 668 = .ok (.iconst 2, 1) := by decide +kernel
theorem dL_law_669 : decode cL_law 669 = .ok (.iadd, 1) := by decide +kernel
theorem dL_law_670 : decode cL_law 670 = .ok (.iaload, 1) := by decide +kernel
theorem dL_law_671 : decode cL_law 671 = .ok (.aload_n 0, 1) := by decide +kernel
theorem dL_law_672 : decode cL_law 672 = .ok (.iload_n 3, 1) := by decide +kernel
theorem dL_law_673 : decode cL_law 673 = .ok (.iconst 3, 1) := by decide +kernel
theorem dL_law_674 : decode cL_law 674 = .ok (.iadd, 1) := by decide +kernel
theorem dL_law_675 : decode cL_law 675 = .ok (.iaload, 1) := by decide +kernel
theorem dL_law_676 : decode cL_law 676 = .ok (.aload_n 0, 1) := by decide +kernel
theorem dL_law_677 : decode cL_law 677 = .ok (.iload_n 3, 1) := by decide +kernel
theorem dL_law_678 : decode cL_law 678 = .ok (.iconst 4, 1) := by decide +kernel
theorem dL_law_679 : decode cL_law 679 = .ok (.iadd, 1) := by decide +kernel
theorem dL_law_680 : decode cL_law 680 = .ok (.iaload, 1) := by decide +kernel
theorem dL_law_681 : decode cL_law 681 = .ok (.aload_n 0, 1) := by decide +kernel
theorem dL_law_682 : decode cL_law 682 = .ok (.iload_n 3, 1) := by decide +kernel
theorem dL_law_683 : decode cL_law 683 = .ok (.iconst 5, 1) := by decide +kernel
theorem dL_law_684 : decode cL_law 684 = .ok (.iadd, 1) := by decide +kernel
theorem dL_law_685 : decode cL_law 685 = .ok (.iaload, 1) := by decide +kernel
theorem dL_law_686 : decode cL_law 686 = .ok (.invokevirtual 69, 3) := by decide +kernel
theorem dL_law_689 : decode cL_law 689 = .ok (.aload_n 2, 1) := by decide +kernel
theorem dL_law_690 : decode cL_law 690 = .ok (.aload_n 0, 1) := by decide +kernel
theorem dL_law_691 : decode cL_law 691 = .ok (.iload_n 3, 1) := by decide +kernel
theorem dL_law_692 : decode cL_law 692 = .ok (.iconst 1, 1) := by decide +kernel
theorem dL_law_693 : decode cL_law 693 = .ok (.iadd, 1) := by decide +kernel
theorem dL_law_694 : decode cL_law 694 = .ok (.iaload, 1) := by decide +kernel
theorem dL_law_695 : decode cL_law 695 = .ok (.aload_n 0, 1) := by decide +kernel
theorem dL_law_696 : decode cL_law 696 = .ok (.iload_n 3, 1) := by decide +kernel
theorem dL_law_697 : decode cL_law 697 = .ok (.iconst 2, 1) := by decide +kernel
theorem dL_law_698 : decode cL_law 698 = .ok (.iadd, 1) := by decide +kernel
theorem dL_law_699 : decode cL_law 699 = .ok (.iaload, 1) := by decide +kernel
theorem dL_law_700 : decode cL_law 700 = .ok (.aload_n 0, 1) := by decide +kernel
theorem dL_law_701 : decode cL_law 701 = .ok (.iload_n 3, 1) := by decide +kernel
theorem dL_law_702 : decode cL_law 702 = .ok (.iconst 3, 1) := by decide +kernel
theorem dL_law_703 : decode cL_law 703 = .ok (.iadd, 1) := by decide +kernel
theorem dL_law_704 : decode cL_law 704 = .ok (.iaload, 1) := by decide +kernel
theorem dL_law_705 : decode cL_law 705 = .ok (.aload_n 0, 1) := by decide +kernel
theorem dL_law_706 : decode cL_law 706 = .ok (.iload_n 3, 1) := by decide +kernel
theorem dL_law_707 : decode cL_law 707 = .ok (.iconst 4, 1) := by decide +kernel
theorem dL_law_708 : decode cL_law 708 = .ok (.iadd, 1) := by decide +kernel
theorem dL_law_709 : decode cL_law 709 = .ok (.iaload, 1) := by decide +kernel
theorem dL_law_710 : decode cL_law 710 = .ok (.aload_n 0, 1) := by decide +kernel
theorem dL_law_711 : decode cL_law 711 = .ok (.iload_n 3, 1) := by decide +kernel
theorem dL_law_712 : decode cL_law 712 = .ok (.iconst 5, 1) := by decide +kernel
theorem dL_law_713 : decode cL_law 713 = .ok (.iadd, 1) := by decide +kernel
theorem dL_law_714 : decode cL_law 714 = .ok (.iaload, 1) := by decide +kernel
theorem dL_law_715 : decode cL_law 715 = .ok (.invokevirtual 73, 3) := by decide +kernel
theorem dL_law_718 : decode cL_law 718 = .ok (.if_icmp .eq 691, 3) := by decide +kernel
theorem dL_law_721 : decode cL_law 721 = .ok (.iconst 0, 1) := by decide +kernel
theorem dL_law_722 : decode cL_law 722 = .ok (.ireturn, 1) := by decide +kernel
theorem dL_law_723 : decode cL_law 723 = .ok (.aload_n 1, 1) := by decide +kernel
theorem dL_law_724 : decode cL_law 724 = .ok (.aload_n 0, 1) := by decide +kernel
theorem dL_law_725 : decode cL_law 725 = .ok (.iload_n 3, 1) := by decide +kernel
theorem dL_law_726 : decode cL_law 726 = .ok (.iconst 1, 1) := by decide +kernel
theorem dL_law_727 : decode cL_law 727 = .ok (.iadd, 1) := by decide +kernel
theorem dL_law_728 : decode cL_law 728 = .ok (.iaload, 1) := by decide +kernel
theorem dL_law_729 : decode cL_law 729 = .ok (.aload_n 0, 1) := by decide +kernel
theorem dL_law_730 : decode cL_law 730 = .ok (.iload_n 3, 1) := by decide +kernel
theorem dL_law_731 : decode cL_law 731 = .ok (.iconst 2, 1) := by decide +kernel
theorem dL_law_732 : decode cL_law 732 = .ok (.iadd, 1) := by decide +kernel
theorem dL_law_733 : decode cL_law 733 = .ok (.iaload, 1) := by decide +kernel
theorem dL_law_734 : decode cL_law 734 = .ok (.invokevirtual 74, 3) := by decide +kernel
theorem dL_law_737 : decode cL_law 737 = .ok (.aload_n 2, 1) := by decide +kernel
theorem dL_law_738 : decode cL_law 738 = .ok (.aload_n 0, 1) := by decide +kernel
theorem dL_law_739 : decode cL_law 739 = .ok (.iload_n 3, 1) := by decide +kernel
theorem dL_law_740 : decode cL_law 740 = .ok (.iconst 1, 1) := by decide +kernel
theorem dL_law_741 : decode cL_law 741 = .ok (.iadd, 1) := by decide +kernel
theorem dL_law_742 : decode cL_law 742 = .ok (.iaload, 1) := by decide +kernel
theorem dL_law_743 : decode cL_law 743 = .ok (.aload_n 0, 1) := by decide +kernel
theorem dL_law_744 : decode cL_law 744 = .ok (.iload_n 3, 1) := by decide +kernel
theorem dL_law_745 : decode cL_law 745 = .ok (.iconst 2, 1) := by decide +kernel
theorem dL_law_746 : decode cL_law 746 = .ok (.iadd, 1) := by decide +kernel
theorem dL_law_747 : decode cL_law 747 = .ok (.iaload, 1) := by decide +kernel
theorem dL_law_748 : decode cL_law 748 = .ok (.invokevirtual 77, 3) := by decide +kernel
theorem dL_law_751 : decode cL_law 751 = .ok (.if_icmp .eq 658, 3) := by decide +kernel
theorem dL_law_754 : decode cL_law 754 = .ok (.iconst 0, 1) := by decide +kernel
theorem dL_law_755 : decode cL_law 755 = .ok (.ireturn, 1) := by decide +kernel
theorem dL_law_756 : decode cL_law 756 = .ok (.aload_n 1, 1) := by decide +kernel
theorem dL_law_757 : decode cL_law 757 = .ok (.aload_n 0, 1) := by decide +kernel
theorem dL_law_758 : decode cL_law 758 = .ok (.iload_n 3, 1) := by decide +kernel
theorem dL_law_759 : decode cL_law 759 = .ok (.iconst 1, 1) := by decide +kernel
theorem dL_law_760 : decode cL_law 760 = .ok (.iadd, 1) := by decide +kernel
theorem dL_law_761 : decode cL_law 761 = .ok (.iaload, 1) := by decide +kernel
theorem dL_law_762 : decode cL_law 762 = .ok (.aload_n 0, 1) := by decide +kernel
theorem dL_law_763 : decode cL_law 763 = .ok (.iload_n 3, 1) := by decide +kernel
theorem dL_law_764 : decode cL_law 764 = .ok (.iconst 2, 1) := by decide +kernel
theorem dL_law_765 : decode cL_law 765 = .ok (.iadd, 1) := by decide +kernel
theorem dL_law_766 : decode cL_law 766 = .ok (.iaload, 1) := by decide +kernel
theorem dL_law_767 : decode cL_law 767 = .ok (.invokevirtual 78, 3) := by decide +kernel
theorem dL_law_770 : decode cL_law 770 = .ok (.aload_n 2, 1) := by decide +kernel
theorem dL_law_771 : decode cL_law 771 = .ok (.aload_n 0, 1) := by decide +kernel
theorem dL_law_772 : decode cL_law 772 = .ok (.iload_n 3, 1) := by decide +kernel
theorem dL_law_773 : decode cL_law 773 = .ok (.iconst 1, 1) := by decide +kernel
theorem dL_law_774 : decode cL_law 774 = .ok (.iadd, 1) := by decide +kernel
theorem dL_law_775 : decode cL_law 775 = .ok (.iaload, 1) := by decide +kernel
theorem dL_law_776 : decode cL_law 776 = .ok (.aload_n 0, 1) := by decide +kernel
theorem dL_law_777 : decode cL_law 777 = .ok (.iload_n 3, 1) := by decide +kernel
theorem dL_law_778 : decode cL_law 778 = .ok (.iconst 2, 1) := by decide +kernel
theorem dL_law_779 : decode cL_law 779 = .ok (.iadd, 1) := by decide +kernel
theorem dL_law_780 : decode cL_law 780 = .ok (.iaload, 1) := by decide +kernel
theorem dL_law_781 : decode cL_law 781 = .ok (.invokevirtual 81, 3) := by decide +kernel
theorem dL_law_784 : decode cL_law 784 = .ok (.if_icmp .eq 625, 3) := by decide +kernel
theorem dL_law_787 : decode cL_law 787 = .ok (.iconst 0, 1) := by decide +kernel
theorem dL_law_788 : decode cL_law 788 = .ok (.ireturn, 1) := by decide +kernel
theorem dL_law_789 : decode cL_law 789 = .ok (.aload_n 1, 1) := by decide +kernel
theorem dL_law_790 : decode cL_law 790 = .ok (.aload_n 0, 1) := by decide +kernel
theorem dL_law_791 : decode cL_law 791 = .ok (.iload_n 3, 1) := by decide +kernel
theorem dL_law_792 : decode cL_law 792 = .ok (.iconst 1, 1) := by decide +kernel
theorem dL_law_793 : decode cL_law 793 = .ok (.iadd, 1) := by decide +kernel
theorem dL_law_794 : decode cL_law 794 = .ok (.iaload, 1) := by decide +kernel
theorem dL_law_795 : decode cL_law 795 = .ok (.aload_n 0, 1) := by decide +kernel
theorem dL_law_796 : decode cL_law 796 = .ok (.iload_n 3, 1) := by decide +kernel
theorem dL_law_797 : decode cL_law 797 = .ok (.iconst 2, 1) := by decide +kernel
theorem dL_law_798 : decode cL_law 798 = .ok (.iadd, 1) := by decide +kernel
theorem dL_law_799 : decode cL_law 799 = .ok (.iaload, 1) := by decide +kernel
theorem dL_law_800 : decode cL_law 800 = .ok (.invokevirtual 82, 3) := by decide +kernel
theorem dL_law_803 : decode cL_law 803 = .ok (.aload_n 2, 1) := by decide +kernel
theorem dL_law_804 : decode cL_law 804 = .ok (.aload_n 0, 1) := by decide +kernel
theorem dL_law_805 : decode cL_law 805 = .ok (.iload_n 3, 1) := by decide +kernel
theorem dL_law_806 : decode cL_law 806 = .ok (.iconst 1, 1) := by decide +kernel
theorem dL_law_807 : decode cL_law 807 = .ok (.iadd, 1) := by decide +kernel
theorem dL_law_808 : decode cL_law 808 = .ok (.iaload, 1) := by decide +kernel
theorem dL_law_809 : decode cL_law 809 = .ok (.aload_n 0, 1) := by decide +kernel
theorem dL_law_810 : decode cL_law 810 = .ok (.iload_n 3, 1) := by decide +kernel
theorem dL_law_811 : decode cL_law 811 = .ok (.iconst 2, 1) := by decide +kernel
theorem dL_law_812 : decode cL_law 812 = .ok (.iadd, 1) := by decide +kernel
theorem dL_law_813 : decode cL_law 813 = .ok (.iaload, 1) := by decide +kernel
theorem dL_law_814 : decode cL_law 814 = .ok (.invokevirtual 85, 3) := by decide +kernel
theorem dL_law_817 : decode cL_law 817 = .ok (.if_icmp .eq 592, 3) := by decide +kernel
theorem dL_law_820 : decode cL_law 820 = .ok (.iconst 0, 1) := by decide +kernel
theorem dL_law_821 : decode cL_law 821 = .ok (.ireturn, 1) := by decide +kernel
theorem dL_law_822 : decode cL_law 822 = .ok (.aload_n 1, 1) := by decide +kernel
theorem dL_law_823 : decode cL_law 823 = .ok (.aload_n 0, 1) := by decide +kernel
theorem dL_law_824 : decode cL_law 824 = .ok (.iload_n 3, 1) := by decide +kernel
theorem dL_law_825 : decode cL_law 825 = .ok (.iconst 1, 1) := by decide +kernel
theorem dL_law_826 : decode cL_law 826 = .ok (.iadd, 1) := by decide +kernel
theorem dL_law_827 : decode cL_law 827 = .ok (.iaload, 1) := by decide +kernel
theorem dL_law_828 : decode cL_law 828 = .ok (.aload_n 0, 1) := by decide +kernel
theorem dL_law_829 : decode cL_law 829 = .ok (.iload_n 3, 1) := by decide +kernel
theorem dL_law_830 : decode cL_law 830 = .ok (.iconst 2, 1) := by decide +kernel
theorem dL_law_831 : decode cL_law 831 = .ok (.iadd, 1) := by decide +kernel
theorem dL_law_832 : decode cL_law 832 = .ok (.iaload, 1) := by decide +kernel
theorem dL_law_833 : decode cL_law 833 = .ok (.aload_n 0, 1) := by decide +kernel
theorem dL_law_834 : decode cL_law 834 = .ok (.iload_n 3, 1) := by decide +kernel
theorem dL_law_835 : decode cL_law 835 = .ok (.iconst 3, 1) := by decide +kernel
theorem dL_law_836 : decode cL_law 836 = .ok (.iadd, 1) := by decide +kernel
theorem dL_law_837 : decode cL_law 837 = .ok (.iaload, 1) := by decide +kernel
theorem dL_law_838 : decode cL_law 838 = .ok (.aload_n 0, 1) := by decide +kernel
theorem dL_law_839 : decode cL_law 839 = .ok (.iload_n 3, 1) := by decide +kernel
theorem dL_law_840 : decode cL_law 840 = .ok (.iconst 4, 1) := by decide +kernel
theorem dL_law_841 : decode cL_law 841 = .ok (.iadd, 1) := by decide +kernel
theorem dL_law_842 : decode cL_law 842 = .ok (.iaload, 1) := by decide +kernel
theorem dL_law_843 : decode cL_law 843 = .ok (.invokevirtual 86, 3) := by decide +kernel
theorem dL_law_846 : decode cL_law 846 = .ok (.aload_n 2, 1) := by decide +kernel
theorem dL_law_847 : decode cL_law 847 = .ok (.aload_n 0, 1) := by decide +kernel
theorem dL_law_848 : decode cL_law 848 = .ok (.iload_n 3, 1) := by decide +kernel
theorem dL_law_849 : decode cL_law 849 = .ok (.iconst 1, 1) := by decide +kernel
theorem dL_law_850 : decode cL_law 850 = .ok (.iadd, 1) := by decide +kernel
theorem dL_law_851 : decode cL_law 851 = .ok (.iaload, 1) := by decide +kernel
theorem dL_law_852 : decode cL_law 852 = .ok (.aload_n 0, 1) := by decide +kernel
theorem dL_law_853 : decode cL_law 853 = .ok (.iload_n 3, 1) := by decide +kernel
theorem dL_law_854 : decode cL_law 854 = .ok (.iconst 2, 1) := by decide +kernel
theorem dL_law_855 : decode cL_law 855 = .ok (.iadd, 1) := by decide +kernel
theorem dL_law_856 : decode cL_law 856 = .ok (.iaload, 1) := by decide +kernel
theorem dL_law_857 : decode cL_law 857 = .ok (.aload_n 0, 1) := by decide +kernel
theorem dL_law_858 : decode cL_law 858 = .ok (.iload_n 3, 1) := by decide +kernel
theorem dL_law_859 : decode cL_law 859 = .ok (.iconst 3, 1) := by decide +kernel
theorem dL_law_860 : decode cL_law 860 = .ok (.iadd, 1) := by decide +kernel
theorem dL_law_861 : decode cL_law 861 = .ok (.iaload, 1) := by decide +kernel
theorem dL_law_862 : decode cL_law 862 = .ok (.aload_n 0, 1) := by decide +kernel
theorem dL_law_863 : decode cL_law 863 = .ok (.iload_n 3, 1) := by decide +kernel
theorem dL_law_864 : decode cL_law 864 = .ok (.iconst 4, 1) := by decide +kernel
theorem dL_law_865 : decode cL_law 865 = .ok (.iadd, 1) := by decide +kernel
theorem dL_law_866 : decode cL_law 866 = .ok (.iaload, 1) := by decide +kernel
theorem dL_law_867 : decode cL_law 867 = .ok (.invokevirtual 89, 3) := by decide +kernel
theorem dL_law_870 : decode cL_law 870 = .ok (.if_icmp .eq 539, 3) := by decide +kernel
theorem dL_law_873 : decode cL_law 873 = .ok (.iconst 0, 1) := by decide +kernel
theorem dL_law_874 : decode cL_law 874 = .ok (.ireturn, 1) := by decide +kernel
theorem dL_law_875 : decode cL_law 875 = .ok (.aload_n 1, 1) := by decide +kernel
theorem dL_law_876 : decode cL_law 876 = .ok (.aload_n 0, 1) := by decide +kernel
theorem dL_law_877 : decode cL_law 877 = .ok (.iload_n 3, 1) := by decide +kernel
theorem dL_law_878 : decode cL_law 878 = .ok (.iconst 1, 1) := by decide +kernel
theorem dL_law_879 : decode cL_law 879 = .ok (.iadd, 1) := by decide +kernel
theorem dL_law_880 : decode cL_law 880 = .ok (.iaload, 1) := by decide +kernel
theorem dL_law_881 : decode cL_law 881 = .ok (.aload_n 0, 1) := by decide +kernel
theorem dL_law_882 : decode cL_law 882 = .ok (.iload_n 3, 1) := by decide +kernel
theorem dL_law_883 : decode cL_law 883 = .ok (.iconst 2, 1) := by decide +kernel
theorem dL_law_884 : decode cL_law 884 = .ok (.iadd, 1) := by decide +kernel
theorem dL_law_885 : decode cL_law 885 = .ok (.iaload, 1) := by decide +kernel
theorem dL_law_886 : decode cL_law 886 = .ok (.aload_n 0, 1) := by decide +kernel
theorem dL_law_887 : decode cL_law 887 = .ok (.iload_n 3, 1) := by decide +kernel
theorem dL_law_888 : decode cL_law 888 = .ok (.iconst 3, 1) := by decide +kernel
theorem dL_law_889 : decode cL_law 889 = .ok (.iadd, 1) := by decide +kernel
theorem dL_law_890 : decode cL_law 890 = .ok (.iaload, 1) := by decide +kernel
theorem dL_law_891 : decode cL_law 891 = .ok (.invokevirtual 90, 3) := by decide +kernel
theorem dL_law_894 : decode cL_law 894 = .ok (.aload_n 2, 1) := by decide +kernel
theorem dL_law_895 : decode cL_law 895 = .ok (.aload_n 0, 1) := by decide +kernel
theorem dL_law_896 : decode cL_law 896 = .ok (.iload_n 3, 1) := by decide +kernel
theorem dL_law_897 : decode cL_law 897 = .ok (.iconst 1, 1) := by decide +kernel
theorem dL_law_898 : decode cL_law 898 = .ok (.iadd, 1) := by decide +kernel
theorem dL_law_899 : decode cL_law 899 = .ok (.iaload, 1) := by decide +kernel
theorem dL_law_900 : decode cL_law 900 = .ok (.aload_n 0, 1) := by decide +kernel
theorem dL_law_901 : decode cL_law 901 = .ok (.iload_n 3, 1) := by decide +kernel
theorem dL_law_902 : decode cL_law 902 = .ok (.iconst 2, 1) := by decide +kernel
theorem dL_law_903 : decode cL_law 903 = .ok (.iadd, 1) := by decide +kernel
theorem dL_law_904 : decode cL_law 904 = .ok (.iaload, 1) := by decide +kernel
theorem dL_law_905 : decode cL_law 905 = .ok (.aload_n 0, 1) := by decide +kernel
theorem dL_law_906 : decode cL_law 906 = .ok (.iload_n 3, 1) := by decide +kernel
theorem dL_law_907 : decode cL_law 907 = .ok (.iconst 3, 1) := by decide +kernel
theorem dL_law_908 : decode cL_law 908 = .ok (.iadd, 1) := by decide +kernel
theorem dL_law_909 : decode cL_law 909 = .ok (.iaload, 1) := by decide +kernel
theorem dL_law_910 : decode cL_law 910 = .ok (.invokevirtual 93, 3) := by decide +kernel
theorem dL_law_913 : decode cL_law 913 = .ok (.if_icmp .eq 496, 3) := by decide +kernel
theorem dL_law_916 : decode cL_law 916 = .ok (.iconst 0, 1) := by decide +kernel
theorem dL_law_917 : decode cL_law 917 = .ok (.ireturn, 1) := by decide +kernel
theorem dL_law_918 : decode cL_law 918 = .ok (.aload_n 1, 1) := by decide +kernel
theorem dL_law_919 : decode cL_law 919 = .ok (.aload_n 0, 1) := by decide +kernel
theorem dL_law_920 : decode cL_law 920 = .ok (.iload_n 3, 1) := by decide +kernel
theorem dL_law_921 : decode cL_law 921 = .ok (.iconst 1, 1) := by decide +kernel
theorem dL_law_922 : decode cL_law 922 = .ok (.iadd, 1) := by decide +kernel
theorem dL_law_923 : decode cL_law 923 = .ok (.iaload, 1) := by decide +kernel
theorem dL_law_924 : decode cL_law 924 = .ok (.aload_n 0, 1) := by decide +kernel
theorem dL_law_925 : decode cL_law 925 = .ok (.iload_n 3, 1) := by decide +kernel
theorem dL_law_926 : decode cL_law 926 = .ok (.iconst 2, 1) := by decide +kernel
theorem dL_law_927 : decode cL_law 927 = .ok (.iadd, 1) := by decide +kernel
theorem dL_law_928 : decode cL_law 928 = .ok (.iaload, 1) := by decide +kernel
theorem dL_law_929 : decode cL_law 929 = .ok (.invokevirtual 94, 3) := by decide +kernel
theorem dL_law_932 : decode cL_law 932 = .ok (.aload_n 2, 1) := by decide +kernel
theorem dL_law_933 : decode cL_law 933 = .ok (.aload_n 0, 1) := by decide +kernel
theorem dL_law_934 : decode cL_law 934 = .ok (.iload_n 3, 1) := by decide +kernel
theorem dL_law_935 : decode cL_law 935 = .ok (.iconst 1, 1) := by decide +kernel
theorem dL_law_936 : decode cL_law 936 = .ok (.iadd, 1) := by decide +kernel
theorem dL_law_937 : decode cL_law 937 = .ok (.iaload, 1) := by decide +kernel
theorem dL_law_938 : decode cL_law 938 = .ok (.aload_n 0, 1) := by decide +kernel
theorem dL_law_939 : decode cL_law 939 = .ok (.iload_n 3, 1) := by decide +kernel
theorem dL_law_940 : decode cL_law 940 = .ok (.iconst 2, 1) := by decide +kernel
theorem dL_law_941 : decode cL_law 941 = .ok (.iadd, 1) := by decide +kernel
theorem dL_law_942 : decode cL_law 942 = .ok (.iaload, 1) := by decide +kernel
theorem dL_law_943 : decode cL_law 943 = .ok (.invokevirtual 97, 3) := by decide +kernel
theorem dL_law_946 : decode cL_law 946 = .ok (.if_icmp .eq 463, 3) := by decide +kernel
theorem dL_law_949 : decode cL_law 949 = .ok (.iconst 0, 1) := by decide +kernel
theorem dL_law_950 : decode cL_law 950 = .ok (.ireturn, 1) := by decide +kernel
theorem dL_law_951 : decode cL_law 951 = .ok (.aload_n 1, 1) := by decide +kernel
theorem dL_law_952 : decode cL_law 952 = .ok (.aload_n 0, 1) := by decide +kernel
theorem dL_law_953 : decode cL_law 953 = .ok (.iload_n 3, 1) := by decide +kernel
theorem dL_law_954 : decode cL_law 954 = .ok (.iconst 1, 1) := by decide +kernel
theorem dL_law_955 : decode cL_law 955 = .ok (.iadd, 1) := by decide +kernel
theorem dL_law_956 : decode cL_law 956 = .ok (.iaload, 1) := by decide +kernel
theorem dL_law_957 : decode cL_law 957 = .ok (.aload_n 0, 1) := by decide +kernel
theorem dL_law_958 : decode cL_law 958 = .ok (.iload_n 3, 1) := by decide +kernel
theorem dL_law_959 : decode cL_law 959 = .ok (.iconst 2, 1) := by decide +kernel
theorem dL_law_960 : decode cL_law 960 = .ok (.iadd, 1) := by decide +kernel
theorem dL_law_961 : decode cL_law 961 = .ok (.iaload, 1) := by decide +kernel
theorem dL_law_962 : decode cL_law 962 = .ok (.invokevirtual 98, 3) := by decide +kernel
theorem dL_law_965 : decode cL_law 965 = .ok (.aload_n 2, 1) := by decide +kernel
theorem dL_law_966 : decode cL_law 966 = .ok (.aload_n 0, 1) := by decide +kernel
theorem dL_law_967 : decode cL_law 967 = .ok (.iload_n 3, 1) := by decide +kernel
theorem dL_law_968 : decode cL_law 968 = .ok (.iconst 1, 1) := by decide +kernel
theorem dL_law_969 : decode cL_law 969 = .ok (.iadd, 1) := by decide +kernel
theorem dL_law_970 : decode cL_law 970 = .ok (.iaload, 1) := by decide +kernel
theorem dL_law_971 : decode cL_law 971 = .ok (.aload_n 0, 1) := by decide +kernel
theorem dL_law_972 : decode cL_law 972 = .ok (.iload_n 3, 1) := by decide +kernel
theorem dL_law_973 : decode cL_law 973 = .ok (.iconst 2, 1) := by decide +kernel
theorem dL_law_974 : decode cL_law 974 = .ok (.iadd, 1) := by decide +kernel
theorem dL_law_975 : decode cL_law 975 = .ok (.iaload, 1) := by decide +kernel
theorem dL_law_976 : decode cL_law 976 = .ok (.invokevirtual 101, 3) := by decide +kernel
theorem dL_law_979 : decode cL_law 979 = .ok (.if_icmp .eq 430, 3) := by decide +kernel
theorem dL_law_982 : decode cL_law 982 = .ok (.iconst 0, 1) := by decide +kernel
theorem dL_law_983 : decode cL_law 983 = .ok (.ireturn, 1) := by decide +kernel
theorem dL_law_984 : decode cL_law 984 = .ok (.aload_n 1, 1) := by decide +kernel
theorem dL_law_985 : decode cL_law 985 = .ok (.aload_n 0, 1) := by decide +kernel
theorem dL_law_986 : decode cL_law 986 = .ok (.iload_n 3, 1) := by decide +kernel
theorem dL_law_987 : decode cL_law 987 = .ok (.iconst 1, 1) := by decide +kernel
theorem dL_law_988 : decode cL_law 988 = .ok (.iadd, 1) := by decide +kernel
theorem dL_law_989 : decode cL_law 989 = .ok (.iaload, 1) := by decide +kernel
theorem dL_law_990 : decode cL_law 990 = .ok (.invokevirtual 102, 3) := by decide +kernel
theorem dL_law_993 : decode cL_law 993 = .ok (.aload_n 2, 1) := by decide +kernel
theorem dL_law_994 : decode cL_law 994 = .ok (.aload_n 0, 1) := by decide +kernel
theorem dL_law_995 : decode cL_law 995 = .ok (.iload_n 3, 1) := by decide +kernel
theorem dL_law_996 : decode cL_law 996 = .ok (.iconst 1, 1) := by decide +kernel
theorem dL_law_997 : decode cL_law 997 = .ok (.iadd, 1) := by decide +kernel
theorem dL_law_998 : decode cL_law 998 = .ok (.iaload, 1) := by decide +kernel
theorem dL_law_999 : decode cL_law 999 = .ok (.invokevirtual 105, 3) := by decide +kernel
theorem dL_law_1002 : decode cL_law 1002 = .ok (.if_icmp .eq 407, 3) := by decide +kernel
theorem dL_law_1005 : decode cL_law 1005 = .ok (.iconst 0, 1) := by decide +kernel
theorem dL_law_1006 : decode cL_law 1006 = .ok (.ireturn, 1) := by decide +kernel
theorem dL_law_1007 : decode cL_law 1007 = .ok (.aload_n 1, 1) := by decide +kernel
theorem dL_law_1008 : decode cL_law 1008 = .ok (.aload_n 0, 1) := by decide +kernel
theorem dL_law_1009 : decode cL_law 1009 = .ok (.iload_n 3, 1) := by decide +kernel
theorem dL_law_1010 : decode cL_law 1010 = .ok (.iconst 1, 1) := by decide +kernel
theorem dL_law_1011 : decode cL_law 1011 = .ok (.iadd, 1) := by decide +kernel
theorem dL_law_1012 : decode cL_law 1012 = .ok (.iaload, 1) := by decide +kernel
theorem dL_law_1013 : decode cL_law 1013 = .ok (.aload_n 0, 1) := by decide +kernel
theorem dL_law_1014 : decode cL_law 1014 = .ok (.iload_n 3, 1) := by decide +kernel
theorem dL_law_1015 : decode cL_law 1015 = .ok (.iconst 2, 1) := by decide +kernel
theorem dL_law_1016 : decode cL_law 1016 = .ok (.iadd, 1) := by decide +kernel
theorem dL_law_1017 : decode cL_law 1017 = .ok (.iaload, 1) := by decide +kernel
theorem dL_law_1018 : decode cL_law 1018 = .ok (.invokevirtual 106, 3) := by decide +kernel
theorem dL_law_1021 : decode cL_law 1021 = .ok (.aload_n 2, 1) := by decide +kernel
theorem dL_law_1022 : decode cL_law 1022 = .ok (.aload_n 0, 1) := by decide +kernel
theorem dL_law_1023 : decode cL_law 1023 = .ok (.iload_n 3, 1) := by decide +kernel
theorem dL_law_1024 : decode cL_law 1024 = .ok (.iconst 1, 1) := by decide +kernel
theorem dL_law_1025 : decode cL_law 1025 = .ok (.iadd, 1) := by decide +kernel
theorem dL_law_1026 : decode cL_law 1026 = .ok (.iaload, 1) := by decide +kernel
theorem dL_law_1027 : decode cL_law 1027 = .ok (.aload_n 0, 1) := by decide +kernel
theorem dL_law_1028 : decode cL_law 1028 = .ok (.iload_n 3, 1) := by decide +kernel
theorem dL_law_1029 : decode cL_law 1029 = .ok (.iconst 2, 1) := by decide +kernel
theorem dL_law_1030 : decode cL_law 1030 = .ok (.iadd, 1) := by decide +kernel
theorem dL_law_1031 : decode cL_law 1031 = .ok (.iaload, 1) := by decide +kernel
theorem dL_law_1032 : decode cL_law 1032 = .ok (.invokevirtual 109, 3) := by decide +kernel
theorem dL_law_1035 : decode cL_law 1035 = .ok (.if_icmp .eq 374, 3) := by decide +kernel
theorem dL_law_1038 : decode cL_law 1038 = .ok (.iconst 0, 1) := by decide +kernel
theorem dL_law_1039 : decode cL_law 1039 = .ok (.ireturn, 1) := by decide +kernel
theorem dL_law_1040 : decode cL_law 1040 = .ok (.aload_n 1, 1) := by decide +kernel
theorem dL_law_1041 : decode cL_law 1041 = .ok (.aload_n 0, 1) := by decide +kernel
theorem dL_law_1042 : decode cL_law 1042 = .ok (.iload_n 3, 1) := by decide +kernel
theorem dL_law_1043 : decode cL_law 1043 = .ok (.iconst 1, 1) := by decide +kernel
theorem dL_law_1044 : decode cL_law 1044 = .ok (.iadd, 1) := by decide +kernel
theorem dL_law_1045 : decode cL_law 1045 = .ok (.iaload, 1) := by decide +kernel
theorem dL_law_1046 : decode cL_law 1046 = .ok (.aload_n 0, 1) := by decide +kernel
theorem dL_law_1047 : decode cL_law 1047 = .ok (.iload_n 3, 1) := by decide +kernel
theorem dL_law_1048 : decode cL_law 1048 = .ok (.iconst 2, 1) := by decide +kernel
theorem dL_law_1049 : decode cL_law 1049 = .ok (.iadd, 1) := by decide +kernel
theorem dL_law_1050 : decode cL_law 1050 = .ok (.iaload, 1) := by decide +kernel
theorem dL_law_1051 : decode cL_law 1051 = .ok (.aload_n 0, 1) := by decide +kernel
theorem dL_law_1052 : decode cL_law 1052 = .ok (.iload_n 3, 1) := by decide +kernel
theorem dL_law_1053 : decode cL_law 1053 = .ok (.iconst 3, 1) := by decide +kernel
theorem dL_law_1054 : decode cL_law 1054 = .ok (.iadd, 1) := by decide +kernel
theorem dL_law_1055 : decode cL_law 1055 = .ok (.iaload, 1) := by decide +kernel
theorem dL_law_1056 : decode cL_law 1056 = .ok (.aload_n 0, 1) := by decide +kernel
theorem dL_law_1057 : decode cL_law 1057 = .ok (.iload_n 3, 1) := by decide +kernel
theorem dL_law_1058 : decode cL_law 1058 = .ok (.iconst 4, 1) := by decide +kernel
theorem dL_law_1059 : decode cL_law 1059 = .ok (.iadd, 1) := by decide +kernel
theorem dL_law_1060 : decode cL_law 1060 = .ok (.iaload, 1) := by decide +kernel
theorem dL_law_1061 : decode cL_law 1061 = .ok (.invokevirtual 110, 3) := by decide +kernel
theorem dL_law_1064 : decode cL_law 1064 = .ok (.aload_n 2, 1) := by decide +kernel
theorem dL_law_1065 : decode cL_law 1065 = .ok (.aload_n 0, 1) := by decide +kernel
theorem dL_law_1066 : decode cL_law 1066 = .ok (.iload_n 3, 1) := by decide +kernel
theorem dL_law_1067 : decode cL_law 1067 = .ok (.iconst 1, 1) := by decide +kernel
theorem dL_law_1068 : decode cL_law 1068 = .ok (.iadd, 1) := by decide +kernel
theorem dL_law_1069 : decode cL_law 1069 = .ok (.iaload, 1) := by decide +kernel
theorem dL_law_1070 : decode cL_law 1070 = .ok (.aload_n 0, 1) := by decide +kernel
theorem dL_law_1071 : decode cL_law 1071 = .ok (.iload_n 3, 1) := by decide +kernel
theorem dL_law_1072 : decode cL_law 1072 = .ok (.iconst 2, 1) := by decide +kernel
theorem dL_law_1073 : decode cL_law 1073 = .ok (.iadd, 1) := by decide +kernel
theorem dL_law_1074 : decode cL_law 1074 = .ok (.iaload, 1) := by decide +kernel
theorem dL_law_1075 : decode cL_law 1075 = .ok (.aload_n 0, 1) := by decide +kernel
theorem dL_law_1076 : decode cL_law 1076 = .ok (.iload_n 3, 1) := by decide +kernel
theorem dL_law_1077 : decode cL_law 1077 = .ok (.iconst 3, 1) := by decide +kernel
theorem dL_law_1078 : decode cL_law 1078 = .ok (.iadd, 1) := by decide +kernel
theorem dL_law_1079 : decode cL_law 1079 = .ok (.iaload, 1) := by decide +kernel
theorem dL_law_1080 : decode cL_law 1080 = .ok (.aload_n 0, 1) := by decide +kernel
theorem dL_law_1081 : decode cL_law 1081 = .ok (.iload_n 3, 1) := by decide +kernel
theorem dL_law_1082 : decode cL_law 1082 = .ok (.iconst 4, 1) := by decide +kernel
theorem dL_law_1083 : decode cL_law 1083 = .ok (.iadd, 1) := by decide +kernel
theorem dL_law_1084 : decode cL_law 1084 = .ok (.iaload, 1) := by decide +kernel
theorem dL_law_1085 : decode cL_law 1085 = .ok (.invokevirtual 113, 3) := by decide +kernel
theorem dL_law_1088 : decode cL_law 1088 = .ok (.if_icmp .eq 321, 3) := by decide +kernel
theorem dL_law_1091 : decode cL_law 1091 = .ok (.iconst 0, 1) := by decide +kernel
theorem dL_law_1092 : decode cL_law 1092 = .ok (.ireturn, 1) := by decide +kernel
theorem dL_law_1093 : decode cL_law 1093 = .ok (.aload_n 1, 1) := by decide +kernel
theorem dL_law_1094 : decode cL_law 1094 = .ok (.aload_n 0, 1) := by decide +kernel
theorem dL_law_1095 : decode cL_law 1095 = .ok (.iload_n 3, 1) := by decide +kernel
theorem dL_law_1096 : decode cL_law 1096 = .ok (.iconst 1, 1) := by decide +kernel
theorem dL_law_1097 : decode cL_law 1097 = .ok (.iadd, 1) := by decide +kernel
theorem dL_law_1098 : decode cL_law 1098 = .ok (.iaload, 1) := by decide +kernel
theorem dL_law_1099 : decode cL_law 1099 = .ok (.invokevirtual 114, 3) := by decide +kernel
theorem dL_law_1102 : decode cL_law 1102 = .ok (.aload_n 2, 1) := by decide +kernel
theorem dL_law_1103 : decode cL_law 1103 = .ok (.aload_n 0, 1) := by decide +kernel
theorem dL_law_1104 : decode cL_law 1104 = .ok (.iload_n 3, 1) := by decide +kernel
theorem dL_law_1105 : decode cL_law 1105 = .ok (.iconst 1, 1) := by decide +kernel
theorem dL_law_1106 : decode cL_law 1106 = .ok (.iadd, 1) := by decide +kernel
theorem dL_law_1107 : decode cL_law 1107 = .ok (.iaload, 1) := by decide +kernel
theorem dL_law_1108 : decode cL_law 1108 = .ok (.invokevirtual 117, 3) := by decide +kernel
theorem dL_law_1111 : decode cL_law 1111 = .ok (.if_icmp .eq 298, 3) := by decide +kernel
theorem dL_law_1114 : decode cL_law 1114 = .ok (.iconst 0, 1) := by decide +kernel
theorem dL_law_1115 : decode cL_law 1115 = .ok (.ireturn, 1) := by decide +kernel
theorem dL_law_1116 : decode cL_law 1116 = .ok (.aload_n 1, 1) := by decide +kernel
theorem dL_law_1117 : decode cL_law 1117 = .ok (.aload_n 0, 1) := by decide +kernel
theorem dL_law_1118 : decode cL_law 1118 = .ok (.iload_n 3, 1) := by decide +kernel
theorem dL_law_1119 : decode cL_law 1119 = .ok (.iconst 1, 1) := by decide +kernel
theorem dL_law_1120 : decode cL_law 1120 = .ok (.iadd, 1) := by decide +kernel
theorem dL_law_1121 : decode cL_law 1121 = .ok (.iaload, 1) := by decide +kernel
theorem dL_law_1122 : decode cL_law 1122 = .ok (.aload_n 0, 1) := by decide +kernel
theorem dL_law_1123 : decode cL_law 1123 = .ok (.iload_n 3, 1) := by decide +kernel
theorem dL_law_1124 : decode cL_law 1124 = .ok (.iconst 2, 1) := by decide +kernel
theorem dL_law_1125 : decode cL_law 1125 = .ok (.iadd, 1) := by decide +kernel
theorem dL_law_1126 : decode cL_law 1126 = .ok (.iaload, 1) := by decide +kernel
theorem dL_law_1127 : decode cL_law 1127 = .ok (.invokevirtual 118, 3) := by decide +kernel
theorem dL_law_1130 : decode cL_law 1130 = .ok (.aload_n 2, 1) := by decide +kernel
theorem dL_law_1131 : decode cL_law 1131 = .ok (.aload_n 0, 1) := by decide +kernel
theorem dL_law_1132 : decode cL_law 1132 = .ok (.iload_n 3, 1) := by decide +kernel
theorem dL_law_1133 : decode cL_law 1133 = .ok (.iconst 1, 1) := by decide +kernel
theorem dL_law_1134 : decode cL_law 1134 = .ok (.iadd, 1) := by decide +kernel
theorem dL_law_1135 : decode cL_law 1135 = .ok (.iaload, 1) := by decide +kernel
theorem dL_law_1136 : decode cL_law 1136 = .ok (.aload_n 0, 1) := by decide +kernel
theorem dL_law_1137 : decode cL_law 1137 = .ok (.iload_n 3, 1) := by decide +kernel
theorem dL_law_1138 : decode cL_law 1138 = .ok (.iconst 2, 1) := by decide +kernel
theorem dL_law_1139 : decode cL_law 1139 = .ok (.iadd, 1) := by decide +kernel
theorem dL_law_1140 : decode cL_law 1140 = .ok (.iaload, 1) := by decide +kernel
theorem dL_law_1141 : decode cL_law 1141 = .ok (.invokevirtual 121, 3) := by decide +kernel
theorem dL_law_1144 : decode cL_law 1144 = .ok (.if_icmp .eq 265, 3) := by decide +kernel
theorem dL_law_1147 : decode cL_law 1147 = .ok (.iconst 0, 1) := by decide +kernel
theorem dL_law_1148 : decode cL_law 1148 = .ok (.ireturn, 1) := by decide +kernel
theorem dL_law_1149 : decode cL_law 1149 = .ok (.aload_n 1, 1) := by decide +kernel
theorem dL_law_1150 : decode cL_law 1150 = .ok (.aload_n 0, 1) := by decide +kernel
theorem dL_law_1151 : decode cL_law 1151 = .ok (.iload_n 3, 1) := by decide +kernel
theorem dL_law_1152 : decode cL_law 1152 = .ok (.iconst 1, 1) := by decide +kernel
theorem dL_law_1153 : decode cL_law 1153 = .ok (.iadd, 1) := by decide +kernel
theorem dL_law_1154 : decode cL_law 1154 = .ok (.iaload, 1) := by decide +kernel
theorem dL_law_1155 : decode cL_law 1155 = .ok (.aload_n 0, 1) := by decide +kernel
theorem dL_law_1156 : decode cL_law 1156 = .ok (.iload_n 3, 1) := by decide +kernel
theorem dL_law_1157 : decode cL_law 1157 = .ok (.iconst 2, 1) := by decide +kernel
theorem dL_law_1158 : decode cL_law 1158 = .ok (.iadd, 1) := by decide +kernel
theorem dL_law_1159 : decode cL_law 1159 = .ok (.iaload, 1) := by decide +kernel
theorem dL_law_1160 : decode cL_law 1160 = .ok (.invokevirtual 122, 3) := by decide +kernel
theorem dL_law_1163 : decode cL_law 1163 = .ok (.aload_n 2, 1) := by decide +kernel
theorem dL_law_1164 : decode cL_law 1164 = .ok (.aload_n 0, 1) := by decide +kernel
theorem dL_law_1165 : decode cL_law 1165 = .ok (.iload_n 3, 1) := by decide +kernel
theorem dL_law_1166 : decode cL_law 1166 = .ok (.iconst 1, 1) := by decide +kernel
theorem dL_law_1167 : decode cL_law 1167 = .ok (.iadd, 1) := by decide +kernel
theorem dL_law_1168 : decode cL_law 1168 = .ok (.iaload, 1) := by decide +kernel
theorem dL_law_1169 : decode cL_law 1169 = .ok (.aload_n 0, 1) := by decide +kernel
theorem dL_law_1170 : decode cL_law 1170 = .ok (.iload_n 3, 1) := by decide +kernel
theorem dL_law_1171 : decode cL_law 1171 = .ok (.iconst 2, 1) := by decide +kernel
theorem dL_law_1172 : decode cL_law 1172 = .ok (.iadd, 1) := by decide +kernel
theorem dL_law_1173 : decode cL_law 1173 = .ok (.iaload, 1) := by decide +kernel
theorem dL_law_1174 : decode cL_law 1174 = .ok (.invokevirtual 125, 3) := by decide +kernel
theorem dL_law_1177 : decode cL_law 1177 = .ok (.if_icmp .eq 232, 3) := by decide +kernel
theorem dL_law_1180 : decode cL_law 1180 = .ok (.iconst 0, 1) := by decide +kernel
theorem dL_law_1181 : decode cL_law 1181 = .ok (.ireturn, 1) := by decide +kernel
theorem dL_law_1182 : decode cL_law 1182 = .ok (.aload_n 1, 1) := by decide +kernel
theorem dL_law_1183 : decode cL_law 1183 = .ok (.aload_n 0, 1) := by decide +kernel
theorem dL_law_1184 : decode cL_law 1184 = .ok (.iload_n 3, 1) := by decide +kernel
theorem dL_law_1185 : decode cL_law 1185 = .ok (.iconst 1, 1) := by decide +kernel
theorem dL_law_1186 : decode cL_law 1186 = .ok (.iadd, 1) := by decide +kernel
theorem dL_law_1187 : decode cL_law 1187 = .ok (.iaload, 1) := by decide +kernel
theorem dL_law_1188 : decode cL_law 1188 = .ok (.aload_n 0, 1) := by decide +kernel
theorem dL_law_1189 : decode cL_law 1189 = .ok (.iload_n 3, 1) := by decide +kernel
theorem dL_law_1190 : decode cL_law 1190 = .ok (.iconst 2, 1) := by decide +kernel
theorem dL_law_1191 : decode cL_law 1191 = .ok (.iadd, 1) := by decide +kernel
theorem dL_law_1192 : decode cL_law 1192 = .ok (.iaload, 1) := by decide +kernel
theorem dL_law_1193 : decode cL_law 1193 = .ok (.invokevirtual 126, 3) := by decide +kernel
theorem dL_law_1196 : decode cL_law 1196 = .ok (.aload_n 2, 1) := by decide +kernel
theorem dL_law_1197 : decode cL_law 1197 = .ok (.aload_n 0, 1) := by decide +kernel
theorem dL_law_1198 : decode cL_law 1198 = .ok (.iload_n 3, 1) := by decide +kernel
theorem dL_law_1199 : decode cL_law 1199 = .ok (.iconst 1, 1) := by decide +kernel
theorem dL_law_1200 : decode cL_law 1200 = .ok (.iadd, 1) := by decide +kernel
theorem dL_law_1201 : decode cL_law 1201 = .ok (.iaload, 1) := by decide +kernel
theorem dL_law_1202 : decode cL_law 1202 = .ok (.aload_n 0, 1) := by decide +kernel
theorem dL_law_1203 : decode cL_law 1203 = .ok (.iload_n 3, 1) := by decide +kernel
theorem dL_law_1204 : decode cL_law 1204 = .ok (.iconst 2, 1) := by decide +kernel
theorem dL_law_1205 : decode cL_law 1205 = .ok (.iadd, 1) := by decide +kernel
theorem dL_law_1206 : decode cL_law 1206 = .ok (.iaload, 1) := by decide +kernel
theorem dL_law_1207 : decode cL_law 1207 = .ok (.invokevirtual 129, 3) := by decide +kernel
theorem dL_law_1210 : decode cL_law 1210 = .ok (.if_icmp .eq 199, 3) := by decide +kernel
theorem dL_law_1213 : decode cL_law 1213 = .ok (.iconst 0, 1) := by decide +kernel
theorem dL_law_1214 : decode cL_law 1214 = .ok (.ireturn, 1) := by decide +kernel
theorem dL_law_1215 : decode cL_law 1215 = .ok (.aload_n 1, 1) := by decide +kernel
theorem dL_law_1216 : decode cL_law 1216 = .ok (.aload_n 0, 1) := by decide +kernel
theorem dL_law_1217 : decode cL_law 1217 = .ok (.iload_n 3, 1) := by decide +kernel
theorem dL_law_1218 : decode cL_law 1218 = .ok (.iconst 1, 1) := by decide +kernel
theorem dL_law_1219 : decode cL_law 1219 = .ok (.iadd, 1) := by decide +kernel
theorem dL_law_1220 : decode cL_law 1220 = .ok (.iaload, 1) := by decide +kernel
theorem dL_law_1221 : decode cL_law 1221 = .ok (.aload_n 0, 1) := by decide +kernel
theorem dL_law_1222 : decode cL_law 1222 = .ok (.iload_n 3, 1) := by decide +kernel
theorem dL_law_1223 : decode cL_law 1223 = .ok (.iconst 2, 1) := by decide +kernel
theorem dL_law_1224 : decode cL_law 1224 = .ok (.iadd, 1) := by decide +kernel
theorem dL_law_1225 : decode cL_law 1225 = .ok (.iaload, 1) := by decide +kernel
theorem dL_law_1226 : decode cL_law 1226 = .ok (.invokevirtual 130, 3) := by decide +kernel
theorem dL_law_1229 : decode cL_law 1229 = .ok (.aload_n 2, 1) := by decide +kernel
theorem dL_law_1230 : decode cL_law 1230 = .ok (.aload_n 0, 1) := by decide +kernel
theorem dL_law_1231 : decode cL_law 1231 = .ok (.iload_n 3, 1) := by decide +kernel
theorem dL_law_1232 : decode cL_law 1232 = .ok (.iconst 1, 1) := by decide +kernel
theorem dL_law_1233 : decode cL_law 1233 = .ok (.iadd, 1) := by decide +kernel
theorem dL_law_1234 : decode cL_law 1234 = .ok (.iaload, 1) := by decide +kernel
theorem dL_law_1235 : decode cL_law 1235 = .ok (.aload_n 0, 1) := by decide +kernel
theorem dL_law_1236 : decode cL_law 1236 = .ok (.iload_n 3, 1) := by decide +kernel
theorem dL_law_1237 : decode cL_law 1237 = .ok (.iconst 2, 1) := by decide +kernel
theorem dL_law_1238 : decode cL_law 1238 = .ok (.iadd, 1) := by decide +kernel
theorem dL_law_1239 : decode cL_law 1239 = .ok (.iaload, 1) := by decide +kernel
theorem dL_law_1240 : decode cL_law 1240 = .ok (.invokevirtual 133, 3) := by decide +kernel
theorem dL_law_1243 : decode cL_law 1243 = .ok (.if_icmp .eq 166, 3) := by decide +kernel
theorem dL_law_1246 : decode cL_law 1246 = .ok (.iconst 0, 1) := by decide +kernel
theorem dL_law_1247 : decode cL_law 1247 = .ok (.ireturn, 1) := by decide +kernel
theorem dL_law_1248 : decode cL_law 1248 = .ok (.aload_n 1, 1) := by decide +kernel
theorem dL_law_1249 : decode cL_law 1249 = .ok (.aload_n 0, 1) := by decide +kernel
theorem dL_law_1250 : decode cL_law 1250 = .ok (.iload_n 3, 1) := by decide +kernel
theorem dL_law_1251 : decode cL_law 1251 = .ok (.iconst 1, 1) := by decide +kernel
theorem dL_law_1252 : decode cL_law 1252 = .ok (.iadd, 1) := by decide +kernel
theorem dL_law_1253 : decode cL_law 1253 = .ok (.iaload, 1) := by decide +kernel
theorem dL_law_1254 : decode cL_law 1254 = .ok (.aload_n 0, 1) := by decide +kernel
theorem dL_law_1255 : decode cL_law 1255 = .ok (.iload_n 3, 1) := by decide +kernel
theorem dL_law_1256 : decode cL_law 1256 = .ok (.iconst 2, 1) := by decide +kernel
theorem dL_law_1257 : decode cL_law 1257 = .ok (.iadd, 1) := by decide +kernel
theorem dL_law_1258 : decode cL_law 1258 = .ok (.iaload, 1) := by decide +kernel
theorem dL_law_1259 : decode cL_law 1259 = .ok (.invokevirtual 134, 3) := by decide +kernel
theorem dL_law_1262 : decode cL_law 1262 = .ok (.aload_n 2, 1) := by decide +kernel
theorem dL_law_1263 : decode cL_law 1263 = .ok (.aload_n 0, 1) := by decide +kernel
theorem dL_law_1264 : decode cL_law 1264 = .ok (.iload_n 3, 1) := by decide +kernel
theorem dL_law_1265 : decode cL_law 1265 = .ok (.iconst 1, 1) := by decide +kernel
theorem dL_law_1266 : decode cL_law 1266 = .ok (.iadd, 1) := by decide +kernel
theorem dL_law_1267 : decode cL_law 1267 = .ok (.iaload, 1) := by decide +kernel
theorem dL_law_1268 : decode cL_law 1268 = .ok (.aload_n 0, 1) := by decide +kernel
theorem dL_law_1269 : decode cL_law 1269 = .ok (.iload_n 3, 1) := by decide +kernel
theorem dL_law_1270 : decode cL_law 1270 = .ok (.iconst 2, 1) := by decide +kernel
theorem dL_law_1271 : decode cL_law 1271 = .ok (.iadd, 1) := by decide +kernel
theorem dL_law_1272 : decode cL_law 1272 = .ok (.iaload, 1) := by decide +kernel
theorem dL_law_1273 : decode cL_law 1273 = .ok (.invokevirtual 137, 3) := by decide +kernel
theorem dL_law_1276 : decode cL_law 1276 = .ok (.if_icmp .eq 133, 3) := by decide +kernel
theorem dL_law_1279 : decode cL_law 1279 = .ok (.iconst 0, 1) := by decide +kernel
theorem dL_law_1280 : decode cL_law 1280 = .ok (.ireturn, 1) := by decide +kernel
theorem dL_law_1281 : decode cL_law 1281 = .ok (.aload_n 1, 1) := by decide +kernel
theorem dL_law_1282 : decode cL_law 1282 = .ok (.aload_n 0, 1) := by decide +kernel
theorem dL_law_1283 : decode cL_law 1283 = .ok (.iload_n 3, 1) := by decide +kernel
theorem dL_law_1284 : decode cL_law 1284 = .ok (.iconst 1, 1) := by decide +kernel
theorem dL_law_1285 : decode cL_law 1285 = .ok (.iadd, 1) := by decide +kernel
theorem dL_law_1286 : decode cL_law 1286 = .ok (.iaload, 1) := by decide +kernel
theorem dL_law_1287 : decode cL_law 1287 = .ok (.invokevirtual 138, 3) := by decide +kernel
theorem dL_law_1290 : decode cL_law 1290 = .ok (.aload_n 2, 1) := by decide +kernel
theorem dL_law_1291 : decode cL_law 1291 = .ok (.aload_n 0, 1) := by decide +kernel
theorem dL_law_1292 : decode cL_law 1292 = .ok (.iload_n 3, 1) := by decide +kernel
theorem dL_law_1293 : decode cL_law 1293 = .ok (.iconst 1, 1) := by decide +kernel
theorem dL_law_1294 : decode cL_law 1294 = .ok (.iadd, 1) := by decide +kernel
theorem dL_law_1295 : decode cL_law 1295 = .ok (.iaload, 1) := by decide +kernel
theorem dL_law_1296 : decode cL_law 1296 = .ok (.invokevirtual 141, 3) := by decide +kernel
theorem dL_law_1299 : decode cL_law 1299 = .ok (.if_icmp .eq 110, 3) := by decide +kernel
theorem dL_law_1302 : decode cL_law 1302 = .ok (.iconst 0, 1) := by decide +kernel
theorem dL_law_1303 : decode cL_law 1303 = .ok (.ireturn, 1) := by decide +kernel
theorem dL_law_1304 : decode cL_law 1304 = .ok (.aload_n 1, 1) := by decide +kernel
theorem dL_law_1305 : decode cL_law 1305 = .ok (.aload_n 0, 1) := by decide +kernel
theorem dL_law_1306 : decode cL_law 1306 = .ok (.iload_n 3, 1) := by decide +kernel
theorem dL_law_1307 : decode cL_law 1307 = .ok (.iconst 1, 1) := by decide +kernel
theorem dL_law_1308 : decode cL_law 1308 = .ok (.iadd, 1) := by decide +kernel
theorem dL_law_1309 : decode cL_law 1309 = .ok (.iaload, 1) := by decide +kernel
theorem dL_law_1310 : decode cL_law 1310 = .ok (.invokevirtual 142, 3) := by decide +kernel
theorem dL_law_1313 : decode cL_law 1313 = .ok (.aload_n 2, 1) := by decide +kernel
theorem dL_law_1314 : decode cL_law 1314 = .ok (.aload_n 0, 1) := by decide +kernel
theorem dL_law_1315 : decode cL_law 1315 = .ok (.iload_n 3, 1) := by decide +kernel
theorem dL_law_1316 : decode cL_law 1316 = .ok (.iconst 1, 1) := by decide +kernel
theorem dL_law_1317 : decode cL_law 1317 = .ok (.iadd, 1) := by decide +kernel
theorem dL_law_1318 : decode cL_law 1318 = .ok (.iaload, 1) := by decide +kernel
theorem dL_law_1319 : decode cL_law 1319 = .ok (.invokevirtual 145, 3) := by decide +kernel
theorem dL_law_1322 : decode cL_law 1322 = .ok (.if_icmp .eq 87, 3) := by decide +kernel
theorem dL_law_1325 : decode cL_law 1325 = .ok (.iconst 0, 1) := by decide +kernel
theorem dL_law_1326 : decode cL_law 1326 = .ok (.ireturn, 1) := by decide +kernel
theorem dL_law_1327 : decode cL_law 1327 = .ok (.aload_n 1, 1) := by decide +kernel
theorem dL_law_1328 : decode cL_law 1328 = .ok (.aload_n 0, 1) := by decide +kernel
theorem dL_law_1329 : decode cL_law 1329 = .ok (.iload_n 3, 1) := by decide +kernel
theorem dL_law_1330 : decode cL_law 1330 = .ok (.iconst 1, 1) := by decide +kernel
theorem dL_law_1331 : decode cL_law 1331 = .ok (.iadd, 1) := by decide +kernel
theorem dL_law_1332 : decode cL_law 1332 = .ok (.iaload, 1) := by decide +kernel
theorem dL_law_1333 : decode cL_law 1333 = .ok (.aload_n 0, 1) := by decide +kernel
theorem dL_law_1334 : decode cL_law 1334 = .ok (.iload_n 3, 1) := by decide +kernel
theorem dL_law_1335 : decode cL_law 1335 = .ok (.iconst 2, 1) := by decide +kernel
theorem dL_law_1336 : decode cL_law 1336 = .ok (.iadd, 1) := by decide +kernel
theorem dL_law_1337 : decode cL_law 1337 = .ok (.iaload, 1) := by decide +kernel
theorem dL_law_1338 : decode cL_law 1338 = .ok (.invokevirtual 146, 3) := by decide +kernel
theorem dL_law_1341 : decode cL_law 1341 = .ok (.aload_n 2, 1) := by decide +kernel
theorem dL_law_1342 : decode cL_law 1342 = .ok (.aload_n 0, 1) := by decide +kernel
theorem dL_law_1343 : decode cL_law 1343 = .ok (.iload_n 3, 1) := by decide +kernel
theorem dL_law_1344 : decode cL_law 1344 = .ok (.iconst 1, 1) := by decide +kernel
theorem dL_law_1345 : decode cL_law 1345 = .ok (.iadd, 1) := by decide +kernel
theorem dL_law_1346 : decode cL_law 1346 = .ok (.iaload, 1) := by decide +kernel
theorem dL_law_1347 : decode cL_law 1347 = .ok (.aload_n 0, 1) := by decide +kernel
theorem dL_law_1348 : decode cL_law 1348 = .ok (.iload_n 3, 1) := by decide +kernel
theorem dL_law_1349 : decode cL_law 1349 = .ok (.iconst 2, 1) := by decide +kernel
theorem dL_law_1350 : decode cL_law 1350 = .ok (.iadd, 1) := by decide +kernel
theorem dL_law_1351 : decode cL_law 1351 = .ok (.iaload, 1) := by decide +kernel
theorem dL_law_1352 : decode cL_law 1352 = .ok (.invokevirtual 149, 3) := by decide +kernel
theorem dL_law_1355 : decode cL_law 1355 = .ok (.if_icmp .eq 54, 3) := by decide +kernel
theorem dL_law_1358 : decode cL_law 1358 = .ok (.iconst 0, 1) := by decide +kernel
theorem dL_law_1359 : decode cL_law 1359 = .ok (.ireturn, 1) := by decide +kernel
theorem dL_law_1360 : decode cL_law 1360 = .ok (.aload_n 1, 1) := by decide +kernel
theorem dL_law_1361 : decode cL_law 1361 = .ok (.invokevirtual 150, 3) := by decide +kernel
theorem dL_law_1364 : decode cL_law 1364 = .ok (.aload_n 2, 1) := by decide +kernel
theorem dL_law_1365 : decode cL_law 1365 = .ok (.invokevirtual 154, 3) := by decide +kernel
theorem dL_law_1368 : decode cL_law 1368 = .ok (.if_icmp .eq 41, 3) := by decide +kernel
theorem dL_law_1371 : decode cL_law 1371 = .ok (.iconst 0, 1) := by decide +kernel
theorem dL_law_1372 : decode cL_law 1372 = .ok (.ireturn, 1) := by decide +kernel
theorem dL_law_1373 : decode cL_law 1373 = .ok (.aload_n 1, 1) := by decide +kernel
theorem dL_law_1374 : decode cL_law 1374 = .ok (.invokevirtual 155, 3) := by decide +kernel
theorem dL_law_1377 : decode cL_law 1377 = .ok (.aload_n 2, 1) := by decide +kernel
theorem dL_law_1378 : decode cL_law 1378 = .ok (.invokevirtual 158, 3) := by decide +kernel
theorem dL_law_1381 : decode cL_law 1381 = .ok (.if_icmp .eq 28, 3) := by decide +kernel
theorem dL_law_1384 : decode cL_law 1384 = .ok (.iconst 0, 1) := by decide +kernel
theorem dL_law_1385 : decode cL_law 1385 = .ok (.ireturn, 1) := by decide +kernel
theorem dL_law_1386 : decode cL_law 1386 = .ok (.aload_n 1, 1) := by decide +kernel
theorem dL_law_1387 : decode cL_law 1387 = .ok (.aload_n 0, 1) := by decide +kernel
theorem dL_law_1388 : decode cL_law 1388 = .ok (.iload_n 3, 1) := by decide +kernel
theorem dL_law_1389 : decode cL_law 1389 = .ok (.iconst 1, 1) := by decide +kernel
theorem dL_law_1390 : decode cL_law 1390 = .ok (.iadd, 1) := by decide +kernel
theorem dL_law_1391 : decode cL_law 1391 = .ok (.iaload, 1) := by decide +kernel
theorem dL_law_1392 : decode cL_law 1392 = .ok (.invokevirtual 159, 3) := by decide +kernel
theorem dL_law_1395 : decode cL_law 1395 = .ok (.aload_n 2, 1) := by decide +kernel
theorem dL_law_1396 : decode cL_law 1396 = .ok (.aload_n 0, 1) := by decide +kernel
theorem dL_law_1397 : decode cL_law 1397 = .ok (.iload_n 3, 1) := by decide +kernel
theorem dL_law_1398 : decode cL_law 1398 = .ok (.iconst 1, 1) := by decide +kernel
theorem dL_law_1399 : decode cL_law 1399 = .ok (.iadd, 1) := by decide +kernel
theorem dL_law_1400 : decode cL_law 1400 = .ok (.iaload, 1) := by decide +kernel
theorem dL_law_1401 : decode cL_law 1401 = .ok (.invokevirtual 162, 3) := by decide +kernel
theorem dL_law_1404 : decode cL_law 1404 = .ok (.if_icmp .eq 5, 3) := by decide +kernel
theorem dL_law_1407 : decode cL_law 1407 = .ok (.iconst 0, 1) := by decide +kernel
theorem dL_law_1408 : decode cL_law 1408 = .ok (.ireturn, 1) := by decide +kernel
theorem dL_law_1409 : decode cL_law 1409 = .ok (.iinc 3 6, 3) := by decide +kernel
theorem dL_law_1412 : decode cL_law 1412 = .ok (.goto (-1394), 3) := by decide +kernel
theorem dL_law_1415 : decode cL_law 1415 = .ok (.iconst 1, 1) := by decide +kernel
theorem dL_law_1416 : decode cL_law 1416 = .ok (.ireturn, 1) := by decide +kernel
