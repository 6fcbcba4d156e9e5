theorem dX11_row_18 : decode cX11_row 18 = .ok (.ireturn, 1) := by decide +kernel
theorem dX11_row_19 : decode cX11_row 19 = .ok (.iload_n 1, 1) := by decide +kernel
theorem dX11_row_20 : decode cX11_row 20 = .ok (.invokestatic 140, 3) := by decide +kernel
theorem dX11_row_23 : decode cX11_row 23 = .ok (.ifCond .ne 6, 3) := by decide +kernel
theorem dX11_row_26 : decode cX11_row 26 = .ok (.bipush (-2), 2) := by decide +kernel
theorem dX11_row_28 : decode cX11_row 28 = .ok (.ireturn, 1) := by decide +kernel
theorem dX11_row_29 : decode cX11_row 29 = .ok (.aload_n 0, 1) := by decide +kernel
theorem dX11_row_30 : decode cX11_row 30 = .ok (.getfield 40, 3) := by decide +kernel
theorem dX11_row_33 : decode cX11_row 33 = .ok (.aload_n 0, 1) := by decide +kernel
theorem dX11_row_34 : decode cX11_row 34 = .ok (.getfield 10, 3) := by decide +kernel
theorem dX11_row_37 : decode cX11_row 37 = .ok (.getfield 143, 3) := by decide +kernel
theorem dX11_row_40 : decode cX11_row 40 = .ok (.aload_n 0, 1) := by decide +kernel
theorem dX11_row_41 : decode cX11_row 41 = .ok (.getfield 10, 3) := by decide +kernel
theorem dX11_row_44 : decode cX11_row 44 = .ok (.getfield 165, 3) := by decide +kernel
theorem dX11_row_47 : decode cX11_row 47 = .ok (.iload_n 1, 1) := by decide +kernel
theorem dX11_row_48 : decode cX11_row 48 = .ok (.invokevirtual 190, 3) := by decide +kernel
theorem dX11_row_51 : decode cX11_row 51 = .ok (.aload_n 0, 1) := by decide +kernel
theorem dX11_row_52 : decode cX11_row 52 = .ok (.getfield 40, 3) := by decide +kernel
theorem dX11_row_55 : decode cX11_row 55 = .ok (.getfield 209, 3) := by decide +kernel
theorem dX11_row_58 : decode cX11_row 58 = .ok (.iload_n 2, 1) := by decide +kernel
theorem dX11_row_59 : decode cX11_row 59 = .ok (.iaload, 1) := by decide +kernel
theorem dX11_row_60 : decode cX11_row 60 = .ok (.ireturn, 1) := by decide +kernel
theorem dX11_sell_0 : decode cX11_sell 0 = .ok (.aload_n 0, 1) := by decide +kernel
theorem dX11_sell_1 : decode cX11_sell 1 = .ok (.iload_n 1, 1) := by decide +kernel
theorem dX11_sell_2 : decode cX11_sell 2 = .ok (.invokevirtual 183, 3) := by decide +kernel
theorem dX11_sell_5 : decode cX11_sell 5 = .ok (.ifCond .eq 21, 3) := by decide +kernel
theorem dX11_sell_8 : decode cX11_sell 8 = .ok (.iload_n 2, 1) := by decide +kernel
theorem dX11_sell_9 : decode cX11_sell 9 = .ok (.bipush 10, 2) := by decide +kernel
theorem dX11_sell_11 : decode cX11_sell 11 = .ok (.invokestatic 64, 3) := by decide +kernel
theorem dX11_sell_14 : decode cX11_sell 14 = .ok (.ifCond .eq 12, 3) := by decide +kernel
theorem dX11_sell_17 : decode cX11_sell 17 = .ok (.iload_n 3, 1) := by decide +kernel
theorem dX11_sell_18 : decode cX11_sell 18 = .ok (.bipush 10, 2) := by decide +kernel
theorem dX11_sell_20 : decode cX11_sell 20 = .ok (.invokestatic 64, 3) := by decide +kernel
theorem dX11_sell_23 : decode cX11_sell 23 = .ok (.ifCond .ne 5, 3) := by decide +kernel
theorem dX11_sell_26 : decode cX11_sell 26 = .ok (.iconst (-1), 1) := by decide +kernel
theorem dX11_sell_27 : decode cX11_sell 27 = .ok (.ireturn, 1) := by decide +kernel
theorem dX11_sell_28 : decode cX11_sell 28 = .ok (.iload 4, 2) := by decide +kernel
theorem dX11_sell_30 : decode cX11_sell 30 = .ok (.ifCond .lt 20, 3) := by decide +kernel
theorem dX11_sell_33 : decode cX11_sell 33 = .ok (.iload 4, 2) := by decide +kernel
theorem dX11_sell_35 : decode cX11_sell 35 = .ok (.aload_n 0, 1) := by decide +kernel
theorem dX11_sell_36 : decode cX11_sell 36 = .ok (.getfield 10, 3) := by decide +kernel
theorem dX11_sell_39 : decode cX11_sell 39 = .ok (.getfield 89, 3) := by decide +kernel
theorem dX11_sell_42 : decode cX11_sell 42 = .ok (.if_icmp .gt 8, 3) := by decide +kernel
theorem dX11_sell_45 : decode cX11_sell 45 = .ok (.iload_n 2, 1) := by decide +kernel
theorem dX11_sell_46 : decode cX11_sell 46 = .ok (.iload_n 3, 1) := by decide +kernel
theorem dX11_sell_47 : decode cX11_sell 47 = .ok (.if_icmp .ne 6, 3) := by decide +kernel
theorem dX11_sell_50 : decode cX11_sell 50 = .ok (.bipush (-2), 2) := by decide +kernel
theorem dX11_sell_52 : decode cX11_sell 52 = .ok (.ireturn, 1) := by decide +kernel
theorem dX11_sell_53 : decode cX11_sell 53 = .ok (.aload_n 0, 1) := by decide +kernel
theorem dX11_sell_54 : decode cX11_sell 54 = .ok (.getfield 10, 3) := by decide +kernel
theorem dX11_sell_57 : decode cX11_sell 57 = .ok (.getfield 165, 3) := by decide +kernel
theorem dX11_sell_60 : decode cX11_sell 60 = .ok (.getfield 212, 3) := by decide +kernel
theorem dX11_sell_63 : decode cX11_sell 63 = .ok (.bipush 30, 2) := by decide +kernel
theorem dX11_sell_65 : decode cX11_sell 65 = .ok (.if_icmp .lt 6, 3) := by decide +kernel
theorem dX11_sell_68 : decode cX11_sell 68 = .ok (.bipush (-4), 2) := by decide +kernel
theorem dX11_sell_70 : decode cX11_sell 70 = .ok (.ireturn, 1) := by decide +kernel
theorem dX11_sell_71 : decode cX11_sell 71 = .ok (.aload_n 0, 1) := by decide +kernel
theorem dX11_sell_72 : decode cX11_sell 72 = .ok (.getfield 10, 3) := by decide +kernel
theorem dX11_sell_75 : decode cX11_sell 75 = .ok (.getfield 165, 3) := by decide +kernel
theorem dX11_sell_78 : decode cX11_sell 78 = .ok (.iload_n 1, 1) := by decide +kernel
theorem dX11_sell_79 : decode cX11_sell 79 = .ok (.iload_n 2, 1) := by decide +kernel
theorem dX11_sell_80 : decode cX11_sell 80 = .ok (.iload_n 3, 1) := by decide +kernel
theorem dX11_sell_81 : decode cX11_sell 81 = .ok (.iload 4, 2) := by decide +kernel
theorem dX11_sell_83 : decode cX11_sell 83 = .ok (.invokevirtual 215, 3) := by decide +kernel
theorem dX11_sell_86 : decode cX11_sell 86 = .ok (.ireturn, 1) := by decide +kernel
theorem dX11_whose_0 : decode cX11_whose 0 = .ok (.aload_n 0, 1) := by decide +kernel
theorem dX11_whose_1 : decode cX11_whose 1 = .ok (.iload_n 1, 1) := by decide +kernel
theorem dX11_whose_2 : decode cX11_whose 2 = .ok (.invokevirtual 183, 3) := by decide +kernel
theorem dX11_whose_5 : decode cX11_whose 5 = .ok (.ifCond .eq 22, 3) := by decide +kernel
theorem dX11_whose_8 : decode cX11_whose 8 = .ok (.iload_n 3, 1) := by decide +kernel
theorem dX11_whose_9 : decode cX11_whose 9 = .ok (.iconst (-1), 1) := by decide +kernel
theorem dX11_whose_10 : decode cX11_whose 10 = .ok (.if_icmp .lt 17, 3) := by decide +kernel
theorem dX11_whose_13 : decode cX11_whose 13 = .ok (.iload_n 3, 1) := by decide +kernel
theorem dX11_whose_14 : decode cX11_whose 14 = .ok (.aload_n 0, 1) := by decide +kernel
theorem dX11_whose_15 : decode cX11_whose 15 = .ok (.getfield 10, 3) := by decide +kernel
theorem dX11_whose_18 : decode cX11_whose 18 = .ok (.getfield 165, 3) := by decide +kernel
theorem dX11_whose_21 : decode cX11_whose 21 = .ok (.getfield 212, 3) := by decide +kernel
theorem dX11_whose_24 : decode cX11_whose 24 = .ok (.if_icmp .le 5, 3) := by decide +kernel
theorem dX11_whose_27 : decode cX11_whose 27 = .ok (.iconst (-1), 1) := by decide +kernel
theorem dX11_whose_28 : decode cX11_whose 28 = .ok (.ireturn, 1) := by decide +kernel
theorem dX11_whose_29 : decode cX11_whose 29 = .ok (.iload_n 2, 1) := by decide +kernel
theorem dX11_whose_30 : decode cX11_whose 30 = .ok (.invokestatic 140, 3) := by decide +kernel
theorem dX11_whose_33 : decode cX11_whose 33 = .ok (.ifCond .ne 6, 3) := by decide +kernel
theorem dX11_whose_36 : decode cX11_whose 36 = .ok (.bipush (-2), 2) := by decide +kernel
theorem dX11_whose_38 : decode cX11_whose 38 = .ok (.ireturn, 1) := by decide +kernel
theorem dX11_whose_39 : decode cX11_whose 39 = .ok (.aload_n 0, 1) := by decide +kernel
theorem dX11_whose_40 : decode cX11_whose 40 = .ok (.getfield 10, 3) := by decide +kernel
theorem dX11_whose_43 : decode cX11_whose 43 = .ok (.getfield 165, 3) := by decide +kernel
theorem dX11_whose_46 : decode cX11_whose 46 = .ok (.iload_n 1, 1) := by decide +kernel
theorem dX11_whose_47 : decode cX11_whose 47 = .ok (.iload_n 2, 1) := by decide +kernel
theorem dX11_whose_48 : decode cX11_whose 48 = .ok (.iload_n 3, 1) := by decide +kernel
theorem dX11_whose_49 : decode cX11_whose 49 = .ok (.ifCond .ge 16, 3) := by decide +kernel
theorem dX11_whose_52 : decode cX11_whose 52 = .ok (.aload_n 0, 1) := by decide +kernel
theorem dX11_whose_53 : decode cX11_whose 53 = .ok (.getfield 10, 3) := by decide +kernel
theorem dX11_whose_56 : decode cX11_whose 56 = .ok (.getfield 165, 3) := by decide +kernel
theorem dX11_whose_59 : decode cX11_whose 59 = .ok (.getfield 212, 3) := by decide +kernel
theorem dX11_whose_62 : decode cX11_whose 62 = .ok (.goto 4, 3) := by decide +kernel
theorem dX11_whose_65 : decode cX11_whose 65 = .ok (.iload_n 3, 1) := by decide +kernel
theorem dX11_whose_66 : decode cX11_whose 66 = .ok (.invokevirtual 218, 3) := by decide +kernel
theorem dX11_whose_69 : decode cX11_whose 69 = .ok (.ireturn, 1) := by decide +kernel
theorem dX11_used_0 : decode cX11_used 0 = .ok (.aload_n 0, 1) := by decide +kernel
theorem dX11_used_1 : decode cX11_used 1 = .ok (.iload_n 1, 1) := by decide +kernel
theorem dX11_used_2 : decode cX11_used 2 = .ok (.invokevirtual 183, 3) := by decide +kernel
theorem dX11_used_5 : decode cX11_used 5 = .ok (.ifCond .ne 5, 3) := by decide +kernel
theorem dX11_used_8 : decode cX11_used 8 = .ok (.iconst (-1), 1) := by decide +kernel
theorem dX11_used_9 : decode cX11_used 9 = .ok (.ireturn, 1) := by decide +kernel
theorem dX11_used_10 : decode cX11_used 10 = .ok (.iload_n 2, 1) := by decide +kernel
theorem dX11_used_11 : decode cX11_used 11 = .ok (.aload_n 0, 1) := by decide +kernel
theorem dX11_used_12 : decode cX11_used 12 = .ok (.getfield 10, 3) := by decide +kernel
theorem dX11_used_15 : decode cX11_used 15 = .ok (.getfield 165, 3) := by decide +kernel
theorem dX11_used_18 : decode cX11_used 18 = .ok (.getfield 221, 3) := by decide +kernel
theorem dX11_used_21 : decode cX11_used 21 = .ok (.iload_n 1, 1) := by decide +kernel
theorem dX11_used_22 : decode cX11_used 22 = .ok (.iaload, 1) := by decide +kernel
theorem dX11_used_23 : decode cX11_used 23 = .ok (.if_icmp .lt 14, 3) := by decide +kernel
theorem dX11_used_26 : decode cX11_used 26 = .ok (.iload_n 2, 1) := by decide +kernel
theorem dX11_used_27 : decode cX11_used 27 = .ok (.aload_n 0, 1) := by decide +kernel
theorem dX11_used_28 : decode cX11_used 28 = .ok (.getfield 10, 3) := by decide +kernel
theorem dX11_used_31 : decode cX11_used 31 = .ok (.getfield 89, 3) := by decide +kernel
theorem dX11_used_34 : decode cX11_used 34 = .ok (.if_icmp .le 6, 3) := by decide +kernel
theorem dX11_used_37 : decode cX11_used 37 = .ok (.bipush (-2), 2) := by decide +kernel
theorem dX11_used_39 : decode cX11_used 39 = .ok (.ireturn, 1) := by decide +kernel
theorem dX11_used_40 : decode cX11_used 40 = .ok (.aload_n 0, 1) := by decide +kernel
theorem dX11_used_41 : decode cX11_used 41 = .ok (.getfield 10, 3) := by decide +kernel
theorem dX11_used_44 : decode cX11_used 44 = .ok (.getfield 165, 3) := by decide +kernel
theorem dX11_used_47 : decode cX11_used 47 = .ok (.iload_n 1, 1) := by decide +kernel
theorem dX11_used_48 : decode cX11_used 48 = .ok (.iload_n 2, 1) := by decide +kernel
theorem dX11_used_49 : decode cX11_used 49 = .ok (.invokevirtual 224, 3) := by decide +kernel
theorem dX11_used_52 : decode cX11_used 52 = .ok (.ifCond .eq 6, 3) := by decide +kernel
theorem dX11_used_55 : decode cX11_used 55 = .ok (.bipush (-3), 2) := by decide +kernel
theorem dX11_used_57 : decode cX11_used 57 = .ok (.ireturn, 1) := by decide +kernel
theorem dX11_used_58 : decode cX11_used 58 = .ok (.aload_n 0, 1) := by decide +kernel
theorem dX11_used_59 : decode cX11_used 59 = .ok (.getfield 10, 3) := by decide +kernel
theorem dX11_used_62 : decode cX11_used 62 = .ok (.getfield 165, 3) := by decide +kernel
theorem dX11_used_65 : decode cX11_used 65 = .ok (.getfield 227, 3) := by decide +kernel
theorem dX11_used_68 : decode cX11_used 68 = .ok (.iload_n 1, 1) := by decide +kernel
theorem dX11_used_69 : decode cX11_used 69 = .ok (.iaload, 1) := by decide +kernel
theorem dX11_used_70 : decode cX11_used 70 = .ok (.bipush 20, 2) := by decide +kernel
theorem dX11_used_72 : decode cX11_used 72 = .ok (.if_icmp .lt 6, 3) := by decide +kernel
theorem dX11_used_75 : decode cX11_used 75 = .ok (.bipush (-4), 2) := by decide +kernel
theorem dX11_used_77 : decode cX11_used 77 = .ok (.ireturn, 1) := by decide +kernel
theorem dX11_used_78 : decode cX11_used 78 = .ok (.aload_n 0, 1) := by decide +kernel
theorem dX11_used_79 : decode cX11_used 79 = .ok (.getfield 10, 3) := by decide +kernel
theorem dX11_used_82 : decode cX11_used 82 = .ok (.getfield 165, 3) := by decide +kernel
theorem dX11_used_85 : decode cX11_used 85 = .ok (.iload_n 1, 1) := by decide +kernel
theorem dX11_used_86 : decode cX11_used 86 = .ok (.iload_n 2, 1) := by decide +kernel
theorem dX11_used_87 : decode cX11_used 87 = .ok (.invokevirtual 230, 3) := by decide +kernel
theorem dX11_used_90 : decode cX11_used 90 = .ok (.ireturn, 1) := by decide +kernel
theorem dX11_lapsed_0 : decode cX11_lapsed 0 = .ok (.aload_n 0, 1) := by decide +kernel
theorem dX11_lapsed_1 : decode cX11_lapsed 1 = .ok (.iload_n 1, 1) := by decide +kernel
theorem dX11_lapsed_2 : decode cX11_lapsed 2 = .ok (.invokevirtual 183, 3) := by decide +kernel
theorem dX11_lapsed_5 : decode cX11_lapsed 5 = .ok (.ifCond .ne 5, 3) := by decide +kernel
theorem dX11_lapsed_8 : decode cX11_lapsed 8 = .ok (.iconst (-1), 1) := by decide +kernel
theorem dX11_lapsed_9 : decode cX11_lapsed 9 = .ok (.ireturn, 1) := by decide +kernel
theorem dX11_lapsed_10 : decode cX11_lapsed 10 = .ok (.iload_n 2, 1) := by decide +kernel
theorem dX11_lapsed_11 : decode cX11_lapsed 11 = .ok (.invokestatic 140, 3) := by decide +kernel
theorem dX11_lapsed_14 : decode cX11_lapsed 14 = .ok (.ifCond .ne 6, 3) := by decide +kernel
theorem dX11_lapsed_17 : decode cX11_lapsed 17 = .ok (.bipush (-2), 2) := by decide +kernel
theorem dX11_lapsed_19 : decode cX11_lapsed 19 = .ok (.ireturn, 1) := by decide +kernel
theorem dX11_lapsed_20 : decode cX11_lapsed 20 = .ok (.iload_n 2, 1) := by decide +kernel
theorem dX11_lapsed_21 : decode cX11_lapsed 21 = .ok (.aload_n 0, 1) := by decide +kernel
theorem dX11_lapsed_22 : decode cX11_lapsed 22 = .ok (.getfield 10, 3) := by decide +kernel
theorem dX11_lapsed_25 : decode cX11_lapsed 25 = .ok (.getfield 165, 3) := by decide +kernel
theorem dX11_lapsed_28 : decode cX11_lapsed 28 = .ok (.iload_n 1, 1) := by decide +kernel
theorem dX11_lapsed_29 : decode cX11_lapsed 29 = .ok (.iload_n 2, 1) := by decide +kernel
theorem dX11_lapsed_30 : decode cX11_lapsed 30 = .ok (.invokevirtual 233, 3) := by decide +kernel
theorem dX11_lapsed_33 : decode cX11_lapsed 33 = .ok (.isub, 1) := by decide +kernel
theorem dX11_lapsed_34 : decode cX11_lapsed 34 = .ok (.istore_n 3, 1) := by decide +kernel
theorem dX11_lapsed_35 : decode cX11_lapsed 35 = .ok (.iload_n 3, 1) := by decide +kernel
theorem dX11_lapsed_36 : decode cX11_lapsed 36 = .ok (.aload_n 0, 1) := by decide +kernel
theorem dX11_lapsed_37 : decode cX11_lapsed 37 = .ok (.getfield 10, 3) := by decide +kernel
theorem dX11_lapsed_40 : decode cX11_lapsed 40 = .ok (.iconst 3, 1) := by decide +kernel
theorem dX11_lapsed_41 : decode cX11_lapsed 41 = .ok (.iload_n 2, 1) := by decide +kernel
theorem dX11_lapsed_42 : decode cX11_lapsed 42 = .ok (.invokevirtual 236, 3) := by decide +kernel
theorem dX11_lapsed_45 : decode cX11_lapsed 45 = .ok (.if_icmp .le 7, 3) := by decide +kernel
theorem dX11_lapsed_48 : decode cX11_lapsed 48 = .ok (.iconst 1, 1) := by decide +kernel
theorem dX11_lapsed_49 : decode cX11_lapsed 49 = .ok (.goto 4, 3) := by decide +kernel
theorem dX11_lapsed_52 : decode cX11_lapsed 52 = .ok (.iconst 0, 1) := by decide +kernel
theorem dX11_lapsed_53 : decode cX11_lapsed 53 = .ok (.ireturn, 1) := by decide +kernel
theorem dX11_mix_0 : decode cX11_mix 0 = .ok (.iload_n 1, 1) := by decide +kernel
theorem dX11_mix_1 : decode cX11_mix 1 = .ok (.aload_n 0, 1) := by decide +kernel
theorem dX11_mix_2 : decode cX11_mix 2 = .ok (.getfield 10, 3) := by decide +kernel
theorem dX11_mix_5 : decode cX11_mix 5 = .ok (.getfield 89, 3) := by decide +kernel
theorem dX11_mix_8 : decode cX11_mix 8 = .ok (.invokestatic 64, 3) := by decide +kernel
theorem dX11_mix_11 : decode cX11_mix 11 = .ok (.ifCond .ne 5, 3) := by decide +kernel
theorem dX11_mix_14 : decode cX11_mix 14 = .ok (.iconst (-1), 1) := by decide +kernel
theorem dX11_mix_15 : decode cX11_mix 15 = .ok (.ireturn, 1) := by decide +kernel
theorem dX11_mix_16 : decode cX11_mix 16 = .ok (.aload_n 0, 1) := by decide +kernel
theorem dX11_mix_17 : decode cX11_mix 17 = .ok (.getfield 40, 3) := by decide +kernel
theorem dX11_mix_20 : decode cX11_mix 20 = .ok (.aload_n 0, 1) := by decide +kernel
theorem dX11_mix_21 : decode cX11_mix 21 = .ok (.getfield 10, 3) := by decide +kernel
theorem dX11_mix_24 : decode cX11_mix 24 = .ok (.getfield 143, 3) := by decide +kernel
theorem dX11_mix_27 : decode cX11_mix 27 = .ok (.aload_n 0, 1) := by decide +kernel
theorem dX11_mix_28 : decode cX11_mix 28 = .ok (.getfield 10, 3) := by decide +kernel
theorem dX11_mix_31 : decode cX11_mix 31 = .ok (.getfield 165, 3) := by decide +kernel
theorem dX11_mix_34 : decode cX11_mix 34 = .ok (.iload_n 1, 1) := by decide +kernel
theorem dX11_mix_35 : decode cX11_mix 35 = .ok (.invokevirtual 190, 3) := by decide +kernel
theorem dX11_mix_38 : decode cX11_mix 38 = .ok (.aload_n 0, 1) := by decide +kernel
theorem dX11_mix_39 : decode cX11_mix 39 = .ok (.iload_n 1, 1) := by decide +kernel
theorem dX11_mix_40 : decode cX11_mix 40 = .ok (.invokevirtual 239, 3) := by decide +kernel
theorem dX11_mix_43 : decode cX11_mix 43 = .ok (.ireturn, 1) := by decide +kernel
theorem dX11_want_0 : decode cX11_want 0 = .ok (.aload_n 0, 1) := by decide +kernel
theorem dX11_want_1 : decode cX11_want 1 = .ok (.iload_n 2, 1) := by decide +kernel
theorem dX11_want_2 : decode cX11_want 2 = .ok (.invokevirtual 183, 3) := by decide +kernel
theorem dX11_want_5 : decode cX11_want 5 = .ok (.ifCond .ne 5, 3) := by decide +kernel
theorem dX11_want_8 : decode cX11_want 8 = .ok (.iconst (-1), 1) := by decide +kernel
theorem dX11_want_9 : decode cX11_want 9 = .ok (.ireturn, 1) := by decide +kernel
theorem dX11_want_10 : decode cX11_want 10 = .ok (.iload_n 1, 1) := by decide +kernel
theorem dX11_want_11 : decode cX11_want 11 = .ok (.ifCond .lt 10, 3) := by decide +kernel
theorem dX11_want_14 : decode cX11_want 14 = .ok (.iload_n 1, 1) := by decide +kernel
theorem dX11_want_15 : decode cX11_want 15 = .ok (.sipush 999, 3) := by decide +kernel
theorem dX11_want_18 : decode cX11_want 18 = .ok (.if_icmp .le 6, 3) := by decide +kernel
theorem dX11_want_21 : decode cX11_want 21 = .ok (.bipush (-2), 2) := by decide +kernel
theorem dX11_want_23 : decode cX11_want 23 = .ok (.ireturn, 1) := by decide +kernel
theorem dX11_want_24 : decode cX11_want 24 = .ok (.aload_n 0, 1) := by decide +kernel
theorem dX11_want_25 : decode cX11_want 25 = .ok (.getfield 40, 3) := by decide +kernel
theorem dX11_want_28 : decode cX11_want 28 = .ok (.aload_n 0, 1) := by decide +kernel
theorem dX11_want_29 : decode cX11_want 29 = .ok (.getfield 10, 3) := by decide +kernel
theorem dX11_want_32 : decode cX11_want 32 = .ok (.getfield 143, 3) := by decide +kernel
theorem dX11_want_35 : decode cX11_want 35 = .ok (.aload_n 0, 1) := by decide +kernel
theorem dX11_want_36 : decode cX11_want 36 = .ok (.getfield 10, 3) := by decide +kernel
theorem dX11_want_39 : decode cX11_want 39 = .ok (.getfield 165, 3) := by decide +kernel
theorem dX11_want_42 : decode cX11_want 42 = .ok (.aload_n 0, 1) := by decide +kernel
theorem dX11_want_43 : decode cX11_want 43 = .ok (.getfield 10, 3) := by decide +kernel
theorem dX11_want_46 : decode cX11_want 46 = .ok (.getfield 89, 3) := by decide +kernel
theorem dX11_want_49 : decode cX11_want 49 = .ok (.invokevirtual 190, 3) := by decide +kernel
theorem dX11_want_52 : decode cX11_want 52 = .ok (.aload_n 0, 1) := by decide +kernel
theorem dX11_want_53 : decode cX11_want 53 = .ok (.getfield 10, 3) := by decide +kernel
theorem dX11_want_56 : decode cX11_want 56 = .ok (.iconst 5, 1) := by decide +kernel
theorem dX11_want_57 : decode cX11_want 57 = .ok (.aload_n 0, 1) := by decide +kernel
theorem dX11_want_58 : decode cX11_want 58 = .ok (.getfield 10, 3) := by decide +kernel
theorem dX11_want_61 : decode cX11_want 61 = .ok (.getfield 89, 3) := by decide +kernel
theorem dX11_want_64 : decode cX11_want 64 = .ok (.invokevirtual 236, 3) := by decide +kernel
theorem dX11_want_67 : decode cX11_want 67 = .ok (.lookupswitch 41 #[(0, 25), (1, 33)], 25) := by decide +kernel
theorem dX11_want_92 : decode cX11_want 92 = .ok (.aload_n 0, 1) := by decide +kernel
theorem dX11_want_93 : decode cX11_want 93 = .ok (.iload_n 1, 1) := by decide +kernel
theorem dX11_want_94 : decode cX11_want 94 = .ok (.invokevirtual 242, 3) := by decide +kernel
theorem dX11_want_97 : decode cX11_want 97 = .ok (.goto 16, 3) := by decide +kernel
theorem dX11_want_100 : decode cX11_want 100 = .ok (.aload_n 0, 1) := by decide +kernel
theorem dX11_want_101 : decode cX11_want 101 = .ok (.iload_n 1, 1) := by decide +kernel
theorem dX11_want_102 : decode cX11_want 102 = .ok (.invokevirtual 246, 3) := by decide +kernel
theorem dX11_want_105 : decode cX11_want 105 = .ok (.goto 8, 3) := by decide +kernel
theorem dX11_want_108 : decode cX11_want 108 = .ok (.aload_n 0, 1) := by decide +kernel
theorem dX11_want_109 : decode cX11_want 109 = .ok (.iload_n 1, 1) := by decide +kernel
theorem dX11_want_110 : decode cX11_want 110 = .ok (.invokevirtual 249, 3) := by decide +kernel
theorem dX11_want_113 : decode cX11_want 113 = .ok (.aload_n 0, 1) := by decide +kernel
theorem dX11_want_114 : decode cX11_want 114 = .ok (.getfield 58, 3) := by decide +kernel
theorem dX11_want_117 : decode cX11_want 117 = .ok (.iload_n 2, 1) := by decide +kernel
theorem dX11_want_118 : decode cX11_want 118 = .ok (.iaload, 1) := by decide +kernel
theorem dX11_want_119 : decode cX11_want 119 = .ok (.ireturn, 1) := by decide +kernel
theorem dX11_look_0 : decode cX11_look 0 = .ok (.aload_n 0, 1) := by decide +kernel
theorem dX11_look_1 : decode cX11_look 1 = .ok (.iload_n 1, 1) := by decide +kernel
theorem dX11_look_2 : decode cX11_look 2 = .ok (.invokevirtual 96, 3) := by decide +kernel
theorem dX11_look_5 : decode cX11_look 5 = .ok (.ifCond .ne 5, 3) := by decide +kernel
theorem dX11_look_8 : decode cX11_look 8 = .ok (.iconst (-1), 1) := by decide +kernel
theorem dX11_look_9 : decode cX11_look 9 = .ok (.ireturn, 1) := by decide +kernel
theorem dX11_look_10 : decode cX11_look 10 = .ok (.iload_n 2, 1) := by decide +kernel
theorem dX11_look_11 : decode cX11_look 11 = .ok (.invokestatic 140, 3) := by decide +kernel
theorem dX11_look_14 : decode cX11_look 14 = .ok (.ifCond .eq 27, 3) := by decide +kernel
theorem dX11_look_17 : decode cX11_look 17 = .ok (.iload_n 3, 1) := by decide +kernel
theorem dX11_look_18 : decode cX11_look 18 = .ok (.ifCond .lt 23, 3) := by decide +kernel
theorem dX11_look_21 : decode cX11_look 21 = .ok (.iload_n 3, 1) := by decide +kernel
theorem dX11_look_22 : decode cX11_look 22 = .ok (.sipush 9999, 3) := by decide +kernel
theorem dX11_look_25 : decode cX11_look 25 = .ok (.if_icmp .gt 16, 3) := by decide +kernel
theorem dX11_look_28 : decode cX11_look 28 = .ok (.iload 4, 2) := by decide +kernel
theorem dX11_look_30 : decode cX11_look 30 = .ok (.ifCond .lt 11, 3) := by decide +kernel
theorem dX11_look_33 : decode cX11_look 33 = .ok (.iload 4, 2) := by decide +kernel
theorem dX11_look_35 : decode cX11_look 35 = .ok (.sipush 2000, 3) := by decide +kernel
theorem dX11_look_38 : decode cX11_look 38 = .ok (.if_icmp .le 6, 3) := by decide +kernel
theorem dX11_look_41 : decode cX11_look 41 = .ok (.bipush (-2), 2) := by decide +kernel
theorem dX11_look_43 : decode cX11_look 43 = .ok (.ireturn, 1) := by decide +kernel
theorem dX11_look_44 : decode cX11_look 44 = .ok (.aload_n 0, 1) := by decide +kernel
theorem dX11_look_45 : decode cX11_look 45 = .ok (.getfield 10, 3) := by decide +kernel
theorem dX11_look_48 : decode cX11_look 48 = .ok (.getfield 252, 3) := by decide +kernel
theorem dX11_look_51 : decode cX11_look 51 = .ok (.getfield 256, 3) := by decide +kernel
theorem dX11_look_54 : decode cX11_look 54 = .ok (.bipush 60, 2) := by decide +kernel
theorem dX11_look_56 : decode cX11_look 56 = .ok (.if_icmp .lt 6, 3) := by decide +kernel
theorem dX11_look_59 : decode cX11_look 59 = .ok (.bipush (-4), 2) := by decide +kernel
theorem dX11_look_61 : decode cX11_look 61 = .ok (.ireturn, 1) := by decide +kernel
theorem dX11_look_62 : decode cX11_look 62 = .ok (.aload_n 0, 1) := by decide +kernel
theorem dX11_look_63 : decode cX11_look 63 = .ok (.getfield 10, 3) := by decide +kernel
theorem dX11_look_66 : decode cX11_look 66 = .ok (.getfield 252, 3) := by decide +kernel
theorem dX11_look_69 : decode cX11_look 69 = .ok (.iload_n 1, 1) := by decide +kernel
theorem dX11_look_70 : decode cX11_look 70 = .ok (.iload_n 2, 1) := by decide +kernel
theorem dX11_look_71 : decode cX11_look 71 = .ok (.iload_n 3, 1) := by decide +kernel
theorem dX11_look_72 : decode cX11_look 72 = .ok (.iload 4, 2) := by decide +kernel
theorem dX11_look_74 : decode cX11_look 74 = .ok (.invokevirtual 261, 3) := by decide +kernel
theorem dX11_look_77 : decode cX11_look 77 = .ok (.ireturn, 1) := by decide +kernel
theorem dX11_off_0 : decode cX11_off 0 = .ok (.aload_n 0, 1) := by decide +kernel
theorem dX11_off_1 : decode cX11_off 1 = .ok (.iload_n 1, 1) := by decide +kernel
theorem dX11_off_2 : decode cX11_off 2 = .ok (.invokevirtual 96, 3) := by decide +kernel
theorem dX11_off_5 : decode cX11_off 5 = .ok (.ifCond .ne 5, 3) := by decide +kernel
theorem dX11_off_8 : decode cX11_off 8 = .ok (.iconst (-1), 1) := by decide +kernel
theorem dX11_off_9 : decode cX11_off 9 = .ok (.ireturn, 1) := by decide +kernel
theorem dX11_off_10 : decode cX11_off 10 = .ok (.iconst 0, 1) := by decide +kernel
theorem dX11_off_11 : decode cX11_off 11 = .ok (.istore_n 2, 1) := by decide +kernel
theorem dX11_off_12 : decode cX11_off 12 = .ok (.iconst 0, 1) := by decide +kernel
theorem dX11_off_13 : decode cX11_off 13 = .ok (.istore_n 3, 1) := by decide +kernel
theorem dX11_off_14 : decode cX11_off 14 = .ok (.iload_n 3, 1) := by decide +kernel
theorem dX11_off_15 : decode cX11_off 15 = .ok (.aload_n 0, 1) := by decide +kernel
theorem dX11_off_16 : decode cX11_off 16 = .ok (.getfield 10, 3) := by decide +kernel
theorem dX11_off_19 : decode cX11_off 19 = .ok (.getfield 252, 3) := by decide +kernel
theorem dX11_off_22 : decode cX11_off 22 = .ok (.getfield 256, 3) := by decide +kernel
theorem dX11_off_25 : decode cX11_off 25 = .ok (.if_icmp .ge 36, 3) := by decide +kernel
theorem dX11_off_28 : decode cX11_off 28 = .ok (.aload_n 0, 1) := by decide +kernel
theorem dX11_off_29 : decode cX11_off 29 = .ok (.getfield 10, 3) := by decide +kernel
theorem dX11_off_32 : decode cX11_off 32 = .ok (.getfield 252, 3) := by decide +kernel
theorem dX11_off_35 : decode cX11_off 35 = .ok (.getfield 264, 3) := by decide +kernel
theorem dX11_off_38 : decode cX11_off 38 = .ok (.iload_n 3, 1) := by decide +kernel
theorem dX11_off_39 : decode cX11_off 39 = .ok (.iaload, 1) := by decide +kernel
theorem dX11_off_40 : decode cX11_off 40 = .ok (.iload_n 1, 1) := by decide +kernel
theorem dX11_off_41 : decode cX11_off 41 = .ok (.if_icmp .ne 14, 3) := by decide +kernel
theorem dX11_off_44 : decode cX11_off 44 = .ok (.aload_n 0, 1) := by decide +kernel
theorem dX11_off_45 : decode cX11_off 45 = .ok (.iload_n 3, 1) := by decide +kernel
theorem dX11_off_46 : decode cX11_off 46 = .ok (.invokevirtual 267, 3) := by decide +kernel
theorem dX11_off_49 : decode cX11_off 49 = .ok (.ifCond .eq 6, 3) := by decide +kernel
theorem dX11_off_52 : decode cX11_off 52 = .ok (.iinc 2 1, 3) := by decide +kernel
theorem dX11_off_55 : decode cX11_off 55 = .ok (.iinc 3 1, 3) := by decide +kernel
theorem dX11_off_58 : decode cX11_off 58 = .ok (.goto (-44), 3) := by decide +kernel
theorem dX11_off_61 : decode cX11_off 61 = .ok (.iload_n 2, 1) := by decide +kernel
theorem dX11_off_62 : decode cX11_off 62 = .ok (.ireturn, 1) := by decide +kernel
theorem dX11_drop_0 : decode cX11_drop 0 = .ok (.aload_n 0, 1) := by decide +kernel
theorem dX11_drop_1 : decode cX11_drop 1 = .ok (.iload_n 1, 1) := by decide +kernel
theorem dX11_drop_2 : decode cX11_drop 2 = .ok (.invokevirtual 96, 3) := by decide +kernel
theorem dX11_drop_5 : decode cX11_drop 5 = .ok (.ifCond .ne 5, 3) := by decide +kernel
theorem dX11_drop_8 : decode cX11_drop 8 = .ok (.iconst (-1), 1) := by decide +kernel
theorem dX11_drop_9 : decode cX11_drop 9 = .ok (.ireturn, 1) := by decide +kernel
theorem dX11_drop_10 : decode cX11_drop 10 = .ok (.iload_n 2, 1) := by decide +kernel
theorem dX11_drop_11 : decode cX11_drop 11 = .ok (.ifCond .lt 10, 3) := by decide +kernel
theorem dX11_drop_14 : decode cX11_drop 14 = .ok (.iload_n 2, 1) := by decide +kernel
theorem dX11_drop_15 : decode cX11_drop 15 = .ok (.sipush 999, 3) := by decide +kernel
theorem dX11_drop_18 : decode cX11_drop 18 = .ok (.if_icmp .le 6, 3) := by decide +kernel
theorem dX11_drop_21 : decode cX11_drop 21 = .ok (.bipush (-2), 2) := by decide +kernel
theorem dX11_drop_23 : decode cX11_drop 23 = .ok (.ireturn, 1) := by decide +kernel
theorem dX11_drop_24 : decode cX11_drop 24 = .ok (.aload_n 0, 1) := by decide +kernel
theorem dX11_drop_25 : decode cX11_drop 25 = .ok (.getfield 10, 3) := by decide +kernel
theorem dX11_drop_28 : decode cX11_drop 28 = .ok (.getfield 252, 3) := by decide +kernel
theorem dX11_drop_31 : decode cX11_drop 31 = .ok (.iload_n 1, 1) := by decide +kernel
theorem dX11_drop_32 : decode cX11_drop 32 = .ok (.invokevirtual 270, 3) := by decide +kernel
theorem dX11_drop_35 : decode cX11_drop 35 = .ok (.ifCond .ne 20, 3) := by decide +kernel
theorem dX11_drop_38 : decode cX11_drop 38 = .ok (.aload_n 0, 1) := by decide +kernel
theorem dX11_drop_39 : decode cX11_drop 39 = .ok (.getfield 10, 3) := by decide +kernel
theorem dX11_drop_42 : decode cX11_drop 42 = .ok (.getfield 252, 3) := by decide +kernel
theorem dX11_drop_45 : decode cX11_drop 45 = .ok (.invokevirtual 273, 3) := by decide +kernel
theorem dX11_drop_48 : decode cX11_drop 48 = .ok (.iconst 4, 1) := by decide +kernel
theorem dX11_drop_49 : decode cX11_drop 49 = .ok (.if_icmp .lt 6, 3) := by decide +kernel
theorem dX11_drop_52 : decode cX11_drop 52 = .ok (.bipush (-4), 2) := by decide +kernel
theorem dX11_drop_54 : decode cX11_drop 54 = .ok (.ireturn, 1) := by decide +kernel
theorem dX11_drop_55 : decode cX11_drop 55 = .ok (.aload_n 0, 1) := by decide +kernel
theorem dX11_drop_56 : decode cX11_drop 56 = .ok (.getfield 10, 3) := by decide +kernel
theorem dX11_drop_59 : decode cX11_drop 59 = .ok (.getfield 252, 3) := by decide +kernel
theorem dX11_drop_62 : decode cX11_drop 62 = .ok (.iload_n 1, 1) := by decide +kernel
theorem dX11_drop_63 : decode cX11_drop 63 = .ok (.iload_n 2, 1) := by decide +kernel
theorem dX11_drop_64 : decode cX11_drop 64 = .ok (.invokevirtual 276, 3) := by decide +kernel
theorem dX11_drop_67 : decode cX11_drop 67 = .ok (.ireturn, 1) := by decide +kernel
theorem dX11_cause_0 : decode cX11_cause 0 = .ok (.iload_n 2, 1) := by decide +kernel
theorem dX11_cause_1 : decode cX11_cause 1 = .ok (.iconst 2, 1) := by decide +kernel
theorem dX11_cause_2 : decode cX11_cause 2 = .ok (.invokestatic 64, 3) := by decide +kernel
theorem dX11_cause_5 : decode cX11_cause 5 = .ok (.ifCond .ne 5, 3) := by decide +kernel
theorem dX11_cause_8 : decode cX11_cause 8 = .ok (.iconst (-1), 1) := by decide +kernel
theorem dX11_cause_9 : decode cX11_cause 9 = .ok (.ireturn, 1) := by decide +kernel
theorem dX11_cause_10 : decode cX11_cause 10 = .ok (.iload_n 1, 1) := by decide +kernel
theorem dX11_cause_11 : decode cX11_cause 11 = .ok (.ifCond .lt 9, 3) := by decide +kernel
theorem dX11_cause_14 : decode cX11_cause 14 = .ok (.iload_n 1, 1) := by decide +kernel
theorem dX11_cause_15 : decode cX11_cause 15 = .ok (.bipush 99, 2) := by decide +kernel
theorem dX11_cause_17 : decode cX11_cause 17 = .ok (.if_icmp .le 6, 3) := by decide +kernel
theorem dX11_cause_20 : decode cX11_cause 20 = .ok (.bipush (-2), 2) := by decide +kernel
theorem dX11_cause_22 : decode cX11_cause 22 = .ok (.ireturn, 1) := by decide +kernel
theorem dX11_cause_23 : decode cX11_cause 23 = .ok (.aload_n 0, 1) := by decide +kernel
theorem dX11_cause_24 : decode cX11_cause 24 = .ok (.getfield 54, 3) := by decide +kernel
theorem dX11_cause_27 : decode cX11_cause 27 = .ok (.aload_n 0, 1) := by decide +kernel
theorem dX11_cause_28 : decode cX11_cause 28 = .ok (.getfield 10, 3) := by decide +kernel
theorem dX11_cause_31 : decode cX11_cause 31 = .ok (.getfield 71, 3) := by decide +kernel
theorem dX11_cause_34 : decode cX11_cause 34 = .ok (.aload_n 0, 1) := by decide +kernel
theorem dX11_cause_35 : decode cX11_cause 35 = .ok (.getfield 61, 3) := by decide +kernel
theorem dX11_cause_38 : decode cX11_cause 38 = .ok (.invokevirtual 279, 3) := by decide +kernel
theorem dX11_cause_41 : decode cX11_cause 41 = .ok (.iload_n 1, 1) := by decide +kernel
theorem dX11_cause_42 : decode cX11_cause 42 = .ok (.invokevirtual 283, 3) := by decide +kernel
theorem dX11_cause_45 : decode cX11_cause 45 = .ok (.iconst 0, 1) := by decide +kernel
theorem dX11_cause_46 : decode cX11_cause 46 = .ok (.istore_n 3, 1) := by decide +kernel
theorem dX11_cause_47 : decode cX11_cause 47 = .ok (.iload_n 3, 1) := by decide +kernel
theorem dX11_cause_48 : decode cX11_cause 48 = .ok (.aload_n 0, 1) := by decide +kernel
theorem dX11_cause_49 : decode cX11_cause 49 = .ok (.getfield 10, 3) := by decide +kernel
theorem dX11_cause_52 : decode cX11_cause 52 = .ok (.getfield 71, 3) := by decide +kernel
theorem dX11_cause_55 : decode cX11_cause 55 = .ok (.getfield 85, 3) := by decide +kernel
theorem dX11_cause_58 : decode cX11_cause 58 = .ok (.if_icmp .ge 28, 3) := by decide +kernel
theorem dX11_cause_61 : decode cX11_cause 61 = .ok (.aload_n 0, 1) := by decide +kernel
theorem dX11_cause_62 : decode cX11_cause 62 = .ok (.getfield 10, 3) := by decide +kernel
theorem dX11_cause_65 : decode cX11_cause 65 = .ok (.getfield 252, 3) := by decide +kernel
theorem dX11_cause_68 : decode cX11_cause 68 = .ok (.iload_n 3, 1) := by decide +kernel
theorem dX11_cause_69 : decode cX11_cause 69 = .ok (.invokevirtual 270, 3) := by decide +kernel
theorem dX11_cause_72 : decode cX11_cause 72 = .ok (.ifCond .eq 8, 3) := by decide +kernel
theorem dX11_cause_75 : decode cX11_cause 75 = .ok (.aload_n 0, 1) := by decide +kernel
theorem dX11_cause_76 : decode cX11_cause 76 = .ok (.iload_n 3, 1) := by decide +kernel
theorem dX11_cause_77 : decode cX11_cause 77 = .ok (.invokevirtual 287, 3) := by decide +kernel
theorem dX11_cause_80 : decode cX11_cause 80 = .ok (.iinc 3 1, 3) := by decide +kernel
theorem dX11_cause_83 : decode cX11_cause 83 = .ok (.goto (-36), 3) := by decide +kernel
theorem dX11_cause_86 : decode cX11_cause 86 = .ok (.aload_n 0, 1) := by decide +kernel
theorem dX11_cause_87 : decode cX11_cause 87 = .ok (.getfield 54, 3) := by decide +kernel
theorem dX11_cause_90 : decode cX11_cause 90 = .ok (.iload_n 2, 1) := by decide +kernel
theorem dX11_cause_91 : decode cX11_cause 91 = .ok (.invokevirtual 290, 3) := by decide +kernel
theorem dX11_cause_94 : decode cX11_cause 94 = .ok (.ireturn, 1) := by decide +kernel
theorem dX11_tire_0 : decode cX11_tire 0 = .ok (.aload_n 0, 1) := by decide +kernel
theorem dX11_tire_1 : decode cX11_tire 1 = .ok (.iload_n 1, 1) := by decide +kernel
theorem dX11_tire_2 : decode cX11_tire 2 = .ok (.invokevirtual 96, 3) := by decide +kernel
theorem dX11_tire_5 : decode cX11_tire 5 = .ok (.ifCond .ne 5, 3) := by decide +kernel
theorem dX11_tire_8 : decode cX11_tire 8 = .ok (.iconst (-1), 1) := by decide +kernel
theorem dX11_tire_9 : decode cX11_tire 9 = .ok (.ireturn, 1) := by decide +kernel
theorem dX11_tire_10 : decode cX11_tire 10 = .ok (.iload_n 2, 1) := by decide +kernel
theorem dX11_tire_11 : decode cX11_tire 11 = .ok (.iconst 1, 1) := by decide +kernel
theorem dX11_tire_12 : decode cX11_tire 12 = .ok (.if_icmp .lt 10, 3) := by decide +kernel
theorem dX11_tire_15 : decode cX11_tire 15 = .ok (.iload_n 2, 1) := by decide +kernel
theorem dX11_tire_16 : decode cX11_tire 16 = .ok (.sipush 9999, 3) := by decide +kernel
theorem dX11_tire_19 : decode cX11_tire 19 = .ok (.if_icmp .le 6, 3) := by decide +kernel
theorem dX11_tire_22 : decode cX11_tire 22 = .ok (.bipush (-2), 2) := by decide +kernel
theorem dX11_tire_24 : decode cX11_tire 24 = .ok (.ireturn, 1) := by decide +kernel
theorem dX11_tire_25 : decode cX11_tire 25 = .ok (.aload_n 0, 1) := by decide +kernel
theorem dX11_tire_26 : decode cX11_tire 26 = .ok (.getfield 26, 3) := by decide +kernel
theorem dX11_tire_29 : decode cX11_tire 29 = .ok (.aload_n 0, 1) := by decide +kernel
theorem dX11_tire_30 : decode cX11_tire 30 = .ok (.getfield 10, 3) := by decide +kernel
theorem dX11_tire_33 : decode cX11_tire 33 = .ok (.getfield 71, 3) := by decide +kernel
theorem dX11_tire_36 : decode cX11_tire 36 = .ok (.invokevirtual 293, 3) := by decide +kernel
theorem dX11_tire_39 : decode cX11_tire 39 = .ok (.iconst 0, 1) := by decide +kernel
theorem dX11_tire_40 : decode cX11_tire 40 = .ok (.istore_n 3, 1) := by decide +kernel
theorem dX11_tire_41 : decode cX11_tire 41 = .ok (.iload_n 3, 1) := by decide +kernel
theorem dX11_tire_42 : decode cX11_tire 42 = .ok (.bipush 60, 2) := by decide +kernel
theorem dX11_tire_44 : decode cX11_tire 44 = .ok (.if_icmp .ge 58, 3) := by decide +kernel
theorem dX11_tire_47 : decode cX11_tire 47 = .ok (.aload_n 0, 1) := by decide +kernel
theorem dX11_tire_48 : decode cX11_tire 48 = .ok (.getfield 10, 3) := by decide +kernel
theorem dX11_tire_51 : decode cX11_tire 51 = .ok (.getfield 89, 3) := by decide +kernel
theorem dX11_tire_54 : decode cX11_tire 54 = .ok (.iload_n 3, 1) := by decide +kernel
theorem dX11_tire_55 : decode cX11_tire 55 = .ok (.iadd, 1) := by decide +kernel
theorem dX11_tire_56 : decode cX11_tire 56 = .ok (.sipush 400, 3) := by decide +kernel
theorem dX11_tire_59 : decode cX11_tire 59 = .ok (.if_icmp .ge 43, 3) := by decide +kernel
theorem dX11_tire_62 : decode cX11_tire 62 = .ok (.aload_n 0, 1) := by decide +kernel
theorem dX11_tire_63 : decode cX11_tire 63 = .ok (.getfield 26, 3) := by decide +kernel
theorem dX11_tire_66 : decode cX11_tire 66 = .ok (.invokevirtual 102, 3) := by decide +kernel
theorem dX11_tire_69 : decode cX11_tire 69 = .ok (.aload_n 0, 1) := by decide +kernel
theorem dX11_tire_70 : decode cX11_tire 70 = .ok (.getfield 26, 3) := by decide +kernel
theorem dX11_tire_73 : decode cX11_tire 73 = .ok (.getfield 105, 3) := by decide +kernel
theorem dX11_tire_76 : decode cX11_tire 76 = .ok (.iload_n 1, 1) := by decide +kernel
theorem dX11_tire_77 : decode cX11_tire 77 = .ok (.iconst 4, 1) := by decide +kernel
theorem dX11_tire_78 : decode cX11_tire 78 = .ok (.imul, 1) := by decide +kernel
theorem dX11_tire_79 : decode cX11_tire 79 = .ok (.iconst 2, 1) := by decide +kernel
theorem dX11_tire_80 : decode cX11_tire 80 = .ok (.iadd, 1) := by decide +kernel
theorem dX11_tire_81 : decode cX11_tire 81 = .ok (.iaload, 1) := by decide +kernel
theorem dX11_tire_82 : decode cX11_tire 82 = .ok (.iload_n 2, 1) := by decide +kernel
theorem dX11_tire_83 : decode cX11_tire 83 = .ok (.if_icmp .ge 13, 3) := by decide +kernel
theorem dX11_tire_86 : decode cX11_tire 86 = .ok (.aload_n 0, 1) := by decide +kernel
theorem dX11_tire_87 : decode cX11_tire 87 = .ok (.getfield 10, 3) := by decide +kernel
theorem dX11_tire_90 : decode cX11_tire 90 = .ok (.getfield 89, 3) := by decide +kernel
theorem dX11_tire_93 : decode cX11_tire 93 = .ok (.iload_n 3, 1) := by decide +kernel
theorem dX11_tire_94 : decode cX11_tire 94 = .ok (.iadd, 1) := by decide +kernel
theorem dX11_tire_95 : decode cX11_tire 95 = .ok (.ireturn, 1) := by decide +kernel
theorem dX11_tire_96 : decode cX11_tire 96 = .ok (.iinc 3 1, 3) := by decide +kernel
theorem dX11_tire_99 : decode cX11_tire 99 = .ok (.goto (-58), 3) := by decide +kernel
theorem dX11_tire_102 : decode cX11_tire 102 = .ok (.bipush (-5), 2) := by decide +kernel
theorem dX11_tire_104 : decode cX11_tire 104 = .ok (.ireturn, 1) := by decide +kernel
theorem dX11_shake_0 : decode cX11_shake 0 = .ok (.iload_n 1, 1) := by decide +kernel
theorem dX11_shake_1 : decode cX11_shake 1 = .ok (.bipush 30, 2) := by decide +kernel
theorem dX11_shake_3 : decode cX11_shake 3 = .ok (.invokestatic 64, 3) := by decide +kernel
theorem dX11_shake_6 : decode cX11_shake 6 = .ok (.ifCond .ne 5, 3) := by decide +kernel
theorem dX11_shake_9 : decode cX11_shake 9 = .ok (.iconst (-1), 1) := by decide +kernel
theorem dX11_shake_10 : decode cX11_shake 10 = .ok (.ireturn, 1) := by decide +kernel
theorem dX11_shake_11 : decode cX11_shake 11 = .ok (.iload_n 2, 1) := by decide +kernel
theorem dX11_shake_12 : decode cX11_shake 12 = .ok (.sipush (-999), 3) := by decide +kernel
theorem dX11_shake_15 : decode cX11_shake 15 = .ok (.if_icmp .lt 10, 3) := by decide +kernel
theorem dX11_shake_18 : decode cX11_shake 18 = .ok (.iload_n 2, 1) := by decide +kernel
theorem dX11_shake_19 : decode cX11_shake 19 = .ok (.sipush 999, 3) := by decide +kernel
theorem dX11_shake_22 : decode cX11_shake 22 = .ok (.if_icmp .le 6, 3) := by decide +kernel
theorem dX11_shake_25 : decode cX11_shake 25 = .ok (.bipush (-2), 2) := by decide +kernel
theorem dX11_shake_27 : decode cX11_shake 27 = .ok (.ireturn, 1) := by decide +kernel
theorem dX11_shake_28 : decode cX11_shake 28 = .ok (.aload_n 0, 1) := by decide +kernel
theorem dX11_shake_29 : decode cX11_shake 29 = .ok (.getfield 10, 3) := by decide +kernel
theorem dX11_shake_32 : decode cX11_shake 32 = .ok (.getfield 252, 3) := by decide +kernel
theorem dX11_shake_35 : decode cX11_shake 35 = .ok (.iload_n 1, 1) := by decide +kernel
theorem dX11_shake_36 : decode cX11_shake 36 = .ok (.invokevirtual 297, 3) := by decide +kernel
theorem dX11_shake_39 : decode cX11_shake 39 = .ok (.ifCond .ne 21, 3) := by decide +kernel
theorem dX11_shake_42 : decode cX11_shake 42 = .ok (.aload_n 0, 1) := by decide +kernel
theorem dX11_shake_43 : decode cX11_shake 43 = .ok (.getfield 10, 3) := by decide +kernel
theorem dX11_shake_46 : decode cX11_shake 46 = .ok (.getfield 252, 3) := by decide +kernel
theorem dX11_shake_49 : decode cX11_shake 49 = .ok (.invokevirtual 300, 3) := by decide +kernel
theorem dX11_shake_52 : decode cX11_shake 52 = .ok (.bipush 6, 2) := by decide +kernel
theorem dX11_shake_54 : decode cX11_shake 54 = .ok (.if_icmp .lt 6, 3) := by decide +kernel
theorem dX11_shake_57 : decode cX11_shake 57 = .ok (.bipush (-4), 2) := by decide +kernel
theorem dX11_shake_59 : decode cX11_shake 59 = .ok (.ireturn, 1) := by decide +kernel
theorem dX11_shake_60 : decode cX11_shake 60 = .ok (.aload_n 0, 1) := by decide +kernel
theorem dX11_shake_61 : decode cX11_shake 61 = .ok (.getfield 10, 3) := by decide +kernel
theorem dX11_shake_64 : decode cX11_shake 64 = .ok (.getfield 252, 3) := by decide +kernel
theorem dX11_shake_67 : decode cX11_shake 67 = .ok (.iload_n 1, 1) := by decide +kernel
theorem dX11_shake_68 : decode cX11_shake 68 = .ok (.iload_n 2, 1) := by decide +kernel
theorem dX11_shake_69 : decode cX11_shake 69 = .ok (.invokevirtual 303, 3) := by decide +kernel
theorem dX11_shake_72 : decode cX11_shake 72 = .ok (.ireturn, 1) := by decide +kernel
theorem dX11_push_0 : decode cX11_push 0 = .ok (.iload_n 1, 1) := by decide +kernel
theorem dX11_push_1 : decode cX11_push 1 = .ok (.bipush 30, 2) := by decide +kernel
theorem dX11_push_3 : decode cX11_push 3 = .ok (.invokestatic 64, 3) := by decide +kernel
theorem dX11_push_6 : decode cX11_push 6 = .ok (.ifCond .ne 5, 3) := by decide +kernel
theorem dX11_push_9 : decode cX11_push 9 = .ok (.iconst (-1), 1) := by decide +kernel
theorem dX11_push_10 : decode cX11_push 10 = .ok (.ireturn, 1) := by decide +kernel
theorem dX11_push_11 : decode cX11_push 11 = .ok (.iload_n 2, 1) := by decide +kernel
theorem dX11_push_12 : decode cX11_push 12 = .ok (.bipush (-99), 2) := by decide +kernel
theorem dX11_push_14 : decode cX11_push 14 = .ok (.if_icmp .lt 9, 3) := by decide +kernel
theorem dX11_push_17 : decode cX11_push 17 = .ok (.iload_n 2, 1) := by decide +kernel
theorem dX11_push_18 : decode cX11_push 18 = .ok (.bipush 99, 2) := by decide +kernel
theorem dX11_push_20 : decode cX11_push 20 = .ok (.if_icmp .le 6, 3) := by decide +kernel
theorem dX11_push_23 : decode cX11_push 23 = .ok (.bipush (-2), 2) := by decide +kernel
theorem dX11_push_25 : decode cX11_push 25 = .ok (.ireturn, 1) := by decide +kernel
theorem dX11_push_26 : decode cX11_push 26 = .ok (.aload_n 0, 1) := by decide +kernel
theorem dX11_push_27 : decode cX11_push 27 = .ok (.getfield 10, 3) := by decide +kernel
theorem dX11_push_30 : decode cX11_push 30 = .ok (.getfield 252, 3) := by decide +kernel
theorem dX11_push_33 : decode cX11_push 33 = .ok (.getfield 306, 3) := by decide +kernel
theorem dX11_push_36 : decode cX11_push 36 = .ok (.bipush 6, 2) := by decide +kernel
theorem dX11_push_38 : decode cX11_push 38 = .ok (.if_icmp .lt 6, 3) := by decide +kernel
theorem dX11_push_41 : decode cX11_push 41 = .ok (.bipush (-4), 2) := by decide +kernel
theorem dX11_push_43 : decode cX11_push 43 = .ok (.ireturn, 1) := by decide +kernel
theorem dX11_push_44 : decode cX11_push 44 = .ok (.aload_n 0, 1) := by decide +kernel
theorem dX11_push_45 : decode cX11_push 45 = .ok (.getfield 10, 3) := by decide +kernel
theorem dX11_push_48 : decode cX11_push 48 = .ok (.getfield 252, 3) := by decide +kernel
theorem dX11_push_51 : decode cX11_push 51 = .ok (.iload_n 1, 1) := by decide +kernel
theorem dX11_push_52 : decode cX11_push 52 = .ok (.iload_n 2, 1) := by decide +kernel
theorem dX11_push_53 : decode cX11_push 53 = .ok (.invokevirtual 309, 3) := by decide +kernel
theorem dX11_push_56 : decode cX11_push 56 = .ok (.ireturn, 1) := by decide +kernel
theorem dX11_shift_0 : decode cX11_shift 0 = .ok (.iload_n 1, 1) := by decide +kernel
theorem dX11_shift_1 : decode cX11_shift 1 = .ok (.iconst 2, 1) := by decide +kernel
theorem dX11_shift_2 : decode cX11_shift 2 = .ok (.invokestatic 64, 3) := by decide +kernel
theorem dX11_shift_5 : decode cX11_shift 5 = .ok (.ifCond .ne 5, 3) := by decide +kernel
theorem dX11_shift_8 : decode cX11_shift 8 = .ok (.iconst (-1), 1) := by decide +kernel
theorem dX11_shift_9 : decode cX11_shift 9 = .ok (.ireturn, 1) := by decide +kernel
theorem dX11_shift_10 : decode cX11_shift 10 = .ok (.aload_n 0, 1) := by decide +kernel
theorem dX11_shift_11 : decode cX11_shift 11 = .ok (.getfield 54, 3) := by decide +kernel
theorem dX11_shift_14 : decode cX11_shift 14 = .ok (.aload_n 0, 1) := by decide +kernel
theorem dX11_shift_15 : decode cX11_shift 15 = .ok (.getfield 10, 3) := by decide +kernel
theorem dX11_shift_18 : decode cX11_shift 18 = .ok (.getfield 252, 3) := by decide +kernel
theorem dX11_shift_21 : decode cX11_shift 21 = .ok (.getfield 306, 3) := by decide +kernel
theorem dX11_shift_24 : decode cX11_shift 24 = .ok (.iconst 0, 1) := by decide +kernel
theorem dX11_shift_25 : decode cX11_shift 25 = .ok (.invokevirtual 283, 3) := by decide +kernel
theorem dX11_shift_28 : decode cX11_shift 28 = .ok (.iconst 0, 1) := by decide +kernel
theorem dX11_shift_29 : decode cX11_shift 29 = .ok (.istore_n 2, 1) := by decide +kernel
theorem dX11_shift_30 : decode cX11_shift 30 = .ok (.iload_n 2, 1) := by decide +kernel
theorem dX11_shift_31 : decode cX11_shift 31 = .ok (.bipush 30, 2) := by decide +kernel
theorem dX11_shift_33 : decode cX11_shift 33 = .ok (.if_icmp .ge 28, 3) := by decide +kernel
theorem dX11_shift_36 : decode cX11_shift 36 = .ok (.aload_n 0, 1) := by decide +kernel
theorem dX11_shift_37 : decode cX11_shift 37 = .ok (.getfield 10, 3) := by decide +kernel
theorem dX11_shift_40 : decode cX11_shift 40 = .ok (.getfield 252, 3) := by decide +kernel
theorem dX11_shift_43 : decode cX11_shift 43 = .ok (.iload_n 2, 1) := by decide +kernel
theorem dX11_shift_44 : decode cX11_shift 44 = .ok (.invokevirtual 297, 3) := by decide +kernel
theorem dX11_shift_47 : decode cX11_shift 47 = .ok (.ifCond .eq 8, 3) := by decide +kernel
theorem dX11_shift_50 : decode cX11_shift 50 = .ok (.aload_n 0, 1) := by decide +kernel
theorem dX11_shift_51 : decode cX11_shift 51 = .ok (.iload_n 2, 1) := by decide +kernel
theorem dX11_shift_52 : decode cX11_shift 52 = .ok (.invokevirtual 312, 3) := by decide +kernel
theorem dX11_shift_55 : decode cX11_shift 55 = .ok (.iinc 2 1, 3) := by decide +kernel
theorem dX11_shift_58 : decode cX11_shift 58 = .ok (.goto (-28), 3) := by decide +kernel
theorem dX11_shift_61 : decode cX11_shift 61 = .ok (.aload_n 0, 1) := by decide +kernel
theorem dX11_shift_62 : decode cX11_shift 62 = .ok (.getfield 54, 3) := by decide +kernel
theorem dX11_shift_65 : decode cX11_shift 65 = .ok (.iload_n 1, 1) := by decide +kernel
theorem dX11_shift_66 : decode cX11_shift 66 = .ok (.invokevirtual 290, 3) := by decide +kernel
theorem dX11_shift_69 : decode cX11_shift 69 = .ok (.ireturn, 1) := by decide +kernel
theorem dX11_place_0 : decode cX11_place 0 = .ok (.iload_n 1, 1) := by decide +kernel
theorem dX11_place_1 : decode cX11_place 1 = .ok (.iconst 1, 1) := by decide +kernel
theorem dX11_place_2 : decode cX11_place 2 = .ok (.if_icmp .lt 10, 3) := by decide +kernel
theorem dX11_place_5 : decode cX11_place 5 = .ok (.iload_n 1, 1) := by decide +kernel
theorem dX11_place_6 : decode cX11_place 6 = .ok (.sipush 500, 3) := by decide +kernel
theorem dX11_place_9 : decode cX11_place 9 = .ok (.if_icmp .le 6, 3) := by decide +kernel
theorem dX11_place_12 : decode cX11_place 12 = .ok (.bipush (-2), 2) := by decide +kernel
theorem dX11_place_14 : decode cX11_place 14 = .ok (.ireturn, 1) := by decide +kernel
theorem dX11_place_15 : decode cX11_place 15 = .ok (.aload_n 0, 1) := by decide +kernel
theorem dX11_place_16 : decode cX11_place 16 = .ok (.getfield 10, 3) := by decide +kernel
theorem dX11_place_19 : decode cX11_place 19 = .ok (.getfield 71, 3) := by decide +kernel
theorem dX11_place_22 : decode cX11_place 22 = .ok (.getfield 85, 3) := by decide +kernel
theorem dX11_place_25 : decode cX11_place 25 = .ok (.bipush 12, 2) := by decide +kernel
theorem dX11_place_27 : decode cX11_place 27 = .ok (.if_icmp .ge 18, 3) := by decide +kernel
theorem dX11_place_30 : decode cX11_place 30 = .ok (.aload_n 0, 1) := by decide +kernel
theorem dX11_place_31 : decode cX11_place 31 = .ok (.getfield 10, 3) := by decide +kernel
theorem dX11_place_34 : decode cX11_place 34 = .ok (.getfield 89, 3) := by decide +kernel
theorem dX11_place_37 : decode cX11_place 37 = .ok (.iconst 5, 1) := by decide +kernel
theorem dX11_place_38 : decode cX11_place 38 = .ok (.iadd, 1) := by decide +kernel
theorem dX11_place_39 : decode cX11_place 39 = .ok (.sipush 400, 3) := by decide +kernel
theorem dX11_place_42 : decode cX11_place 42 = .ok (.if_icmp .le 6, 3) := by decide +kernel
theorem dX11_place_45 : decode cX11_place 45 = .ok (.bipush (-3), 2) := by decide +kernel
theorem dX11_place_47 : decode cX11_place 47 = .ok (.ireturn, 1) := by decide +kernel
theorem dX11_place_48 : decode cX11_place 48 = .ok (.bipush (-5), 2) := by decide +kernel
theorem dX11_place_50 : decode cX11_place 50 = .ok (.istore_n 2, 1) := by decide +kernel
theorem dX11_place_51 : decode cX11_place 51 = .ok (.iconst (-1), 1) := by decide +kernel
theorem dX11_place_52 : decode cX11_place 52 = .ok (.istore_n 3, 1) := by decide +kernel
theorem dX11_place_53 : decode cX11_place 53 = .ok (.iconst 0, 1) := by decide +kernel
theorem dX11_place_54 : decode cX11_place 54 = .ok (.istore 4, 2) := by decide +kernel
theorem dX11_place_56 : decode cX11_place 56 = .ok (.iload 4, 2) := by decide +kernel
theorem dX11_place_58 : decode cX11_place 58 = .ok (.bipush 30, 2) := by decide +kernel
theorem dX11_place_60 : decode cX11_place 60 = .ok (.if_icmp .ge 62, 3) := by decide +kernel
theorem dX11_place_63 : decode cX11_place 63 = .ok (.aload_n 0, 1) := by decide +kernel
theorem dX11_place_64 : decode cX11_place 64 = .ok (.getfield 10, 3) := by decide +kernel
theorem dX11_place_67 : decode cX11_place 67 = .ok (.getfield 71, 3) := by decide +kernel
theorem dX11_place_70 : decode cX11_place 70 = .ok (.iload 4, 2) := by decide +kernel
theorem dX11_place_72 : decode cX11_place 72 = .ok (.invokevirtual 77, 3) := by decide +kernel
theorem dX11_place_75 : decode cX11_place 75 = .ok (.ifCond .ne 41, 3) := by decide +kernel
theorem dX11_place_78 : decode cX11_place 78 = .ok (.aload_n 0, 1) := by decide +kernel
theorem dX11_place_79 : decode cX11_place 79 = .ok (.getfield 10, 3) := by decide +kernel
theorem dX11_place_82 : decode cX11_place 82 = .ok (.iconst 1, 1) := by decide +kernel
theorem dX11_place_83 : decode cX11_place 83 = .ok (.iload 4, 2) := by decide +kernel
theorem dX11_place_85 : decode cX11_place 85 = .ok (.iconst 1, 1) := by decide +kernel
theorem dX11_place_86 : decode cX11_place 86 = .ok (.invokevirtual 81, 3) := by decide +kernel
theorem dX11_place_89 : decode cX11_place 89 = .ok (.ifCond .ne 6, 3) := by decide +kernel
theorem dX11_place_92 : decode cX11_place 92 = .ok (.goto 24, 3) := by decide +kernel
theorem dX11_place_95 : decode cX11_place 95 = .ok (.aload_n 0, 1) := by decide +kernel
theorem dX11_place_96 : decode cX11_place 96 = .ok (.iload 4, 2) := by decide +kernel
theorem dX11_place_98 : decode cX11_place 98 = .ok (.iload_n 1, 1) := by decide +kernel
theorem dX11_place_99 : decode cX11_place 99 = .ok (.invokevirtual 315, 3) := by decide +kernel
theorem dX11_place_102 : decode cX11_place 102 = .ok (.istore 5, 2) := by decide +kernel
theorem dX11_place_104 : decode cX11_place 104 = .ok (.iload 5, 2) := by decide +kernel
theorem dX11_place_106 : decode cX11_place 106 = .ok (.iload_n 3, 1) := by decide +kernel
theorem dX11_place_107 : decode cX11_place 107 = .ok (.if_icmp .le 9, 3) := by decide +kernel
theorem dX11_place_110 : decode cX11_place 110 = .ok (.iload 5, 2) := by decide +kernel
theorem dX11_place_112 : decode cX11_place 112 = .ok (.istore_n 3, 1) := by decide +kernel
theorem dX11_place_113 : decode cX11_place 113 = .ok (.iload 4, 2) := by decide +kernel
theorem dX11_place_115 : decode cX11_place 115 = .ok (.istore_n 2, 1) := by decide +kernel
theorem dX11_place_116 : decode cX11_place 116 = .ok (.iinc 4 1, 3) := by decide +kernel
theorem dX11_place_119 : decode cX11_place 119 = .ok (.goto (-63), 3) := by decide +kernel
theorem dX11_place_122 : decode cX11_place 122 = .ok (.iload_n 2, 1) := by decide +kernel
theorem dX11_place_123 : decode cX11_place 123 = .ok (.ireturn, 1) := by decide +kernel
theorem dX11_tried_0 : decode cX11_tried 0 = .ok (.iload_n 1, 1) := by decide +kernel
theorem dX11_tried_1 : decode cX11_tried 1 = .ok (.iconst 2, 1) := by decide +kernel
theorem dX11_tried_2 : decode cX11_tried 2 = .ok (.invokestatic 64, 3) := by decide +kernel
theorem dX11_tried_5 : decode cX11_tried 5 = .ok (.ifCond .eq 22, 3) := by decide +kernel
theorem dX11_tried_8 : decode cX11_tried 8 = .ok (.iload_n 1, 1) := by decide +kernel
theorem dX11_tried_9 : decode cX11_tried 9 = .ok (.iconst 1, 1) := by decide +kernel
theorem dX11_tried_10 : decode cX11_tried 10 = .ok (.if_icmp .ne 19, 3) := by decide +kernel
theorem dX11_tried_13 : decode cX11_tried 13 = .ok (.iload_n 2, 1) := by decide +kernel
theorem dX11_tried_14 : decode cX11_tried 14 = .ok (.aload_n 0, 1) := by decide +kernel
theorem dX11_tried_15 : decode cX11_tried 15 = .ok (.getfield 10, 3) := by decide +kernel
theorem dX11_tried_18 : decode cX11_tried 18 = .ok (.getfield 89, 3) := by decide +kernel
theorem dX11_tried_21 : decode cX11_tried 21 = .ok (.invokestatic 64, 3) := by decide +kernel
theorem dX11_tried_24 : decode cX11_tried 24 = .ok (.ifCond .ne 5, 3) := by decide +kernel
theorem dX11_tried_27 : decode cX11_tried 27 = .ok (.iconst (-1), 1) := by decide +kernel
theorem dX11_tried_28 : decode cX11_tried 28 = .ok (.ireturn, 1) := by decide +kernel
theorem dX11_tried_29 : decode cX11_tried 29 = .ok (.aload_n 0, 1) := by decide +kernel
theorem dX11_tried_30 : decode cX11_tried 30 = .ok (.getfield 33, 3) := by decide +kernel
theorem dX11_tried_33 : decode cX11_tried 33 = .ok (.aload_n 0, 1) := by decide +kernel
theorem dX11_tried_34 : decode cX11_tried 34 = .ok (.getfield 10, 3) := by decide +kernel
theorem dX11_tried_37 : decode cX11_tried 37 = .ok (.getfield 127, 3) := by decide +kernel
theorem dX11_tried_40 : decode cX11_tried 40 = .ok (.aload_n 0, 1) := by decide +kernel
theorem dX11_tried_41 : decode cX11_tried 41 = .ok (.getfield 10, 3) := by decide +kernel
theorem dX11_tried_44 : decode cX11_tried 44 = .ok (.getfield 143, 3) := by decide +kernel
theorem dX11_tried_47 : decode cX11_tried 47 = .ok (.invokevirtual 150, 3) := by decide +kernel
theorem dX11_tried_50 : decode cX11_tried 50 = .ok (.aload_n 0, 1) := by decide +kernel
theorem dX11_tried_51 : decode cX11_tried 51 = .ok (.getfield 10, 3) := by decide +kernel
theorem dX11_tried_54 : decode cX11_tried 54 = .ok (.getfield 89, 3) := by decide +kernel
theorem dX11_tried_57 : decode cX11_tried 57 = .ok (.invokevirtual 154, 3) := by decide +kernel
theorem dX11_tried_60 : decode cX11_tried 60 = .ok (.istore_n 3, 1) := by decide +kernel
theorem dX11_tried_61 : decode cX11_tried 61 = .ok (.iload_n 3, 1) := by decide +kernel
theorem dX11_tried_62 : decode cX11_tried 62 = .ok (.ifCond .lt 8, 3) := by decide +kernel
theorem dX11_tried_65 : decode cX11_tried 65 = .ok (.bipush (-10), 2) := by decide +kernel
theorem dX11_tried_67 : decode cX11_tried 67 = .ok (.iload_n 3, 1) := by decide +kernel
theorem dX11_tried_68 : decode cX11_tried 68 = .ok (.isub, 1) := by decide +kernel
theorem dX11_tried_69 : decode cX11_tried 69 = .ok (.ireturn, 1) := by decide +kernel
theorem dX11_tried_70 : decode cX11_tried 70 = .ok (.aload_n 0, 1) := by decide +kernel
theorem dX11_tried_71 : decode cX11_tried 71 = .ok (.getfield 10, 3) := by decide +kernel
theorem dX11_tried_74 : decode cX11_tried 74 = .ok (.getfield 143, 3) := by decide +kernel
theorem dX11_tried_77 : decode cX11_tried 77 = .ok (.invokevirtual 158, 3) := by decide +kernel
theorem dX11_tried_80 : decode cX11_tried 80 = .ok (.pop, 1) := by decide +kernel
theorem dX11_tried_81 : decode cX11_tried 81 = .ok (.aload_n 0, 1) := by decide +kernel
theorem dX11_tried_82 : decode cX11_tried 82 = .ok (.getfield 40, 3) := by decide +kernel
theorem dX11_tried_85 : decode cX11_tried 85 = .ok (.aload_n 0, 1) := by decide +kernel
theorem dX11_tried_86 : decode cX11_tried 86 = .ok (.getfield 10, 3) := by decide +kernel
theorem dX11_tried_89 : decode cX11_tried 89 = .ok (.getfield 143, 3) := by decide +kernel
theorem dX11_tried_92 : decode cX11_tried 92 = .ok (.aload_n 0, 1) := by decide +kernel
theorem dX11_tried_93 : decode cX11_tried 93 = .ok (.getfield 10, 3) := by decide +kernel
theorem dX11_tried_96 : decode cX11_tried 96 = .ok (.getfield 165, 3) := by decide +kernel
theorem dX11_tried_99 : decode cX11_tried 99 = .ok (.aload_n 0, 1) := by decide +kernel
theorem dX11_tried_100 : decode cX11_tried 100 = .ok (.getfield 10, 3) := by decide +kernel
theorem dX11_tried_103 : decode cX11_tried 103 = .ok (.getfield 89, 3) := by decide +kernel
theorem dX11_tried_106 : decode cX11_tried 106 = .ok (.invokevirtual 190, 3) := by decide +kernel
theorem dX11_tried_109 : decode cX11_tried 109 = .ok (.aload_n 0, 1) := by decide +kernel
theorem dX11_tried_110 : decode cX11_tried 110 = .ok (.getfield 10, 3) := by decide +kernel
theorem dX11_tried_113 : decode cX11_tried 113 = .ok (.getfield 143, 3) := by decide +kernel
theorem dX11_tried_116 : decode cX11_tried 116 = .ok (.invokevirtual 318, 3) := by decide +kernel
theorem dX11_tried_119 : decode cX11_tried 119 = .ok (.iload_n 1, 1) := by decide +kernel
theorem dX11_tried_120 : decode cX11_tried 120 = .ok (.ifCond .ne 27, 3) := by decide +kernel
theorem dX11_tried_123 : decode cX11_tried 123 = .ok (.aload_n 0, 1) := by decide +kernel
theorem dX11_tried_124 : decode cX11_tried 124 = .ok (.getfield 40, 3) := by decide +kernel
theorem dX11_tried_127 : decode cX11_tried 127 = .ok (.getfield 321, 3) := by decide +kernel
theorem dX11_tried_130 : decode cX11_tried 130 = .ok (.ifCond .le 15, 3) := by decide +kernel
theorem dX11_tried_133 : decode cX11_tried 133 = .ok (.aload_n 0, 1) := by decide +kernel
theorem dX11_tried_134 : decode cX11_tried 134 = .ok (.getfield 40, 3) := by decide +kernel
theorem dX11_tried_137 : decode cX11_tried 137 = .ok (.getfield 209, 3) := by decide +kernel
theorem dX11_tried_140 : decode cX11_tried 140 = .ok (.iconst 0, 1) := by decide +kernel
theorem dX11_tried_141 : decode cX11_tried 141 = .ok (.iaload, 1) := by decide +kernel
theorem dX11_tried_142 : decode cX11_tried 142 = .ok (.goto 4, 3) := by decide +kernel
theorem dX11_tried_145 : decode cX11_tried 145 = .ok (.iconst (-1), 1) := by decide +kernel
theorem dX11_tried_146 : decode cX11_tried 146 = .ok (.ireturn, 1) := by decide +kernel
theorem dX11_tried_147 : decode cX11_tried 147 = .ok (.aload_n 0, 1) := by decide +kernel
theorem dX11_tried_148 : decode cX11_tried 148 = .ok (.iload_n 2, 1) := by decide +kernel
theorem dX11_tried_149 : decode cX11_tried 149 = .ok (.invokevirtual 239, 3) := by decide +kernel
theorem dX11_tried_152 : decode cX11_tried 152 = .ok (.invokestatic 322, 3) := by decide +kernel
theorem dX11_tried_155 : decode cX11_tried 155 = .ok (.ireturn, 1) := by decide +kernel
theorem dX11_image_0 : decode cX11_image 0 = .ok (.aload_n 0, 1) := by decide +kernel
theorem dX11_image_1 : decode cX11_image 1 = .ok (.getfield 16, 3) := by decide +kernel
theorem dX11_image_4 : decode cX11_image 4 = .ok (.aload_n 0, 1) := by decide +kernel
theorem dX11_image_5 : decode cX11_image 5 = .ok (.getfield 10, 3) := by decide +kernel
theorem dX11_image_8 : decode cX11_image 8 = .ok (.invokevirtual 327, 3) := by decide +kernel
theorem dX11_image_11 : decode cX11_image 11 = .ok (.aload_n 0, 1) := by decide +kernel
theorem dX11_image_12 : decode cX11_image 12 = .ok (.iconst 1, 1) := by decide +kernel
theorem dX11_image_13 : decode cX11_image 13 = .ok (.putfield 330, 3) := by decide +kernel
theorem dX11_image_16 : decode cX11_image 16 = .ok (.aload_n 0, 1) := by decide +kernel
theorem dX11_image_17 : decode cX11_image 17 = .ok (.getfield 10, 3) := by decide +kernel
theorem dX11_image_20 : decode cX11_image 20 = .ok (.getfield 89, 3) := by decide +kernel
theorem dX11_image_23 : decode cX11_image 23 = .ok (.ireturn, 1) := by decide +kernel
theorem dX11_undo_0 : decode cX11_undo 0 = .ok (.aload_n 0, 1) := by decide +kernel
theorem dX11_undo_1 : decode cX11_undo 1 = .ok (.getfield 330, 3) := by decide +kernel
theorem dX11_undo_4 : decode cX11_undo 4 = .ok (.ifCond .ne 6, 3) := by decide +kernel
theorem dX11_undo_7 : decode cX11_undo 7 = .ok (.bipush (-3), 2) := by decide +kernel
theorem dX11_undo_9 : decode cX11_undo 9 = .ok (.ireturn, 1) := by decide +kernel
theorem dX11_undo_10 : decode cX11_undo 10 = .ok (.aload_n 0, 1) := by decide +kernel
theorem dX11_undo_11 : decode cX11_undo 11 = .ok (.getfield 10, 3) := by decide +kernel
theorem dX11_undo_14 : decode cX11_undo 14 = .ok (.aload_n 0, 1) := by decide +kernel
theorem dX11_undo_15 : decode cX11_undo 15 = .ok (.getfield 16, 3) := by decide +kernel
theorem dX11_undo_18 : decode cX11_undo 18 = .ok (.invokevirtual 327, 3) := by decide +kernel
theorem dX11_undo_21 : decode cX11_undo 21 = .ok (.aload_n 0, 1) := by decide +kernel
theorem dX11_undo_22 : decode cX11_undo 22 = .ok (.getfield 10, 3) := by decide +kernel
theorem dX11_undo_25 : decode cX11_undo 25 = .ok (.getfield 89, 3) := by decide +kernel
theorem dX11_undo_28 : decode cX11_undo 28 = .ok (.ireturn, 1) := by decide +kernel
theorem dX11_count_0 : decode cX11_count 0 = .ok (.iload_n 1, 1) := by decide +kernel
theorem dX11_count_1 : decode cX11_count 1 = .ok (.tableswitch 147 0 8 #[51, 62, 73, 84, 95, 106, 114, 125, 136], 51) := by decide +kernel
theorem dX11_count_52 : decode cX11_count 52 = .ok (.aload_n 0, 1) := by decide +kernel
theorem dX11_count_53 : decode cX11_count 53 = .ok (.getfield 10, 3) := by decide +kernel
theorem dX11_count_56 : decode cX11_count 56 = .ok (.getfield 71, 3) := by decide +kernel
theorem dX11_count_59 : decode cX11_count 59 = .ok (.getfield 85, 3) := by decide +kernel
theorem dX11_count_62 : decode cX11_count 62 = .ok (.ireturn, 1) := by decide +kernel
theorem dX11_count_63 : decode cX11_count 63 = .ok (.aload_n 0, 1) := by decide +kernel
theorem dX11_count_64 : decode cX11_count 64 = .ok (.getfield 10, 3) := by decide +kernel
theorem dX11_count_67 : decode cX11_count 67 = .ok (.getfield 143, 3) := by decide +kernel
theorem dX11_count_70 : decode cX11_count 70 = .ok (.getfield 147, 3) := by decide +kernel
theorem dX11_count_73 : decode cX11_count 73 = .ok (.ireturn, 1) := by decide +kernel
theorem dX11_count_74 : decode cX11_count 74 = .ok (.aload_n 0, 1) := by decide +kernel
theorem dX11_count_75 : decode cX11_count 75 = .ok (.getfield 10, 3) := by decide +kernel
theorem dX11_count_78 : decode cX11_count 78 = .ok (.getfield 165, 3) := by decide +kernel
theorem dX11_count_81 : decode cX11_count 81 = .ok (.getfield 177, 3) := by decide +kernel
theorem dX11_count_84 : decode cX11_count 84 = .ok (.ireturn, 1) := by decide +kernel
theorem dX11_count_85 : decode cX11_count 85 = .ok (.aload_n 0, 1) := by decide +kernel
theorem dX11_count_86 : decode cX11_count 86 = .ok (.getfield 10, 3) := by decide +kernel
theorem dX11_count_89 : decode cX11_count 89 = .ok (.getfield 165, 3) := by decide +kernel
theorem dX11_count_92 : decode cX11_count 92 = .ok (.getfield 212, 3) := by decide +kernel
theorem dX11_count_95 : decode cX11_count 95 = .ok (.ireturn, 1) := by decide +kernel
theorem dX11_count_96 : decode cX11_count 96 = .ok (.aload_n 0, 1) := by decide +kernel
theorem dX11_count_97 : decode cX11_count 97 = .ok (.getfield 10, 3) := by decide +kernel
theorem dX11_count_100 : decode cX11_count 100 = .ok (.getfield 252, 3) := by decide +kernel
theorem dX11_count_103 : decode cX11_count 103 = .ok (.getfield 256, 3) := by decide +kernel
theorem dX11_count_106 : decode cX11_count 106 = .ok (.ireturn, 1) := by decide +kernel
theorem dX11_count_107 : decode cX11_count 107 = .ok (.aload_n 0, 1) := by decide +kernel
theorem dX11_count_108 : decode cX11_count 108 = .ok (.getfield 10, 3) := by decide +kernel
theorem dX11_count_111 : decode cX11_count 111 = .ok (.getfield 89, 3) := by decide +kernel
theorem dX11_count_114 : decode cX11_count 114 = .ok (.ireturn, 1) := by decide +kernel
theorem dX11_count_115 : decode cX11_count 115 = .ok (.aload_n 0, 1) := by decide +kernel
theorem dX11_count_116 : decode cX11_count 116 = .ok (.getfield 10, 3) := by decide +kernel
theorem dX11_count_119 : decode cX11_count 119 = .ok (.getfield 127, 3) := by decide +kernel
theorem dX11_count_122 : decode cX11_count 122 = .ok (.getfield 131, 3) := by decide +kernel
theorem dX11_count_125 : decode cX11_count 125 = .ok (.ireturn, 1) := by decide +kernel
theorem dX11_count_126 : decode cX11_count 126 = .ok (.aload_n 0, 1) := by decide +kernel
theorem dX11_count_127 : decode cX11_count 127 = .ok (.getfield 10, 3) := by decide +kernel
theorem dX11_count_130 : decode cX11_count 130 = .ok (.getfield 252, 3) := by decide +kernel
theorem dX11_count_133 : decode cX11_count 133 = .ok (.getfield 306, 3) := by decide +kernel
theorem dX11_count_136 : decode cX11_count 136 = .ok (.ireturn, 1) := by decide +kernel
theorem dX11_count_137 : decode cX11_count 137 = .ok (.aload_n 0, 1) := by decide +kernel
theorem dX11_count_138 : decode cX11_count 138 = .ok (.getfield 10, 3) := by decide +kernel
theorem dX11_count_141 : decode cX11_count 141 = .ok (.getfield 71, 3) := by decide +kernel
theorem dX11_count_144 : decode cX11_count 144 = .ok (.invokevirtual 334, 3) := by decide +kernel
theorem dX11_count_147 : decode cX11_count 147 = .ok (.ireturn, 1) := by decide +kernel
theorem dX11_count_148 : decode cX11_count 148 = .ok (.iconst (-1), 1) := by decide +kernel
theorem dX11_count_149 : decode cX11_count 149 = .ok (.ireturn, 1) := by decide +kernel
theorem dX11_within_0 : decode cX11_within 0 = .ok (.iload_n 0, 1) := by decide +kernel
theorem dX11_within_1 : decode cX11_within 1 = .ok (.ifCond .lt 12, 3) := by decide +kernel
theorem dX11_within_4 : decode cX11_within 4 = .ok (.iload_n 0, 1) := by decide +kernel
theorem dX11_within_5 : decode cX11_within 5 = .ok (.iload_n 1, 1) := by decide +kernel
theorem dX11_within_6 : decode cX11_within 6 = .ok (.if_icmp .ge 7, 3) := by decide +kernel
theorem dX11_within_9 : decode cX11_within 9 = .ok (.iconst 1, 1) := by decide +kernel
theorem dX11_within_10 : decode cX11_within 10 = .ok (.goto 4, 3) := by decide +kernel
theorem dX11_within_13 : decode cX11_within 13 = .ok (.iconst 0, 1) := by decide +kernel
theorem dX11_within_14 : decode cX11_within 14 = .ok (.ireturn, 1) := by decide +kernel
theorem dX11_isDay_0 : decode cX11_isDay 0 = .ok (.iload_n 0, 1) := by decide +kernel
theorem dX11_isDay_1 : decode cX11_isDay 1 = .ok (.ifCond .lt 14, 3) := by decide +kernel
theorem dX11_isDay_4 : decode cX11_isDay 4 = .ok (.iload_n 0, 1) := by decide +kernel
theorem dX11_isDay_5 : decode cX11_isDay 5 = .ok (.sipush 400, 3) := by decide +kernel
theorem dX11_isDay_8 : decode cX11_isDay 8 = .ok (.if_icmp .gt 7, 3) := by decide +kernel
theorem dX11_isDay_11 : decode cX11_isDay 11 = .ok (.iconst 1, 1) := by decide +kernel
theorem dX11_isDay_12 : decode cX11_isDay 12 = .ok (.goto 4, 3) := by decide +kernel
theorem dX11_isDay_15 : decode cX11_isDay 15 = .ok (.iconst 0, 1) := by decide +kernel
theorem dX11_isDay_16 : decode cX11_isDay 16 = .ok (.ireturn, 1) := by decide +kernel
theorem dX11_distance_0 : decode cX11_distance 0 = .ok (.iload_n 0, 1) := by decide +kernel
theorem dX11_distance_1 : decode cX11_distance 1 = .ok (.bipush 6, 2) := by decide +kernel
theorem dX11_distance_3 : decode cX11_distance 3 = .ok (.irem, 1) := by decide +kernel
theorem dX11_distance_4 : decode cX11_distance 4 = .ok (.iload_n 1, 1) := by decide +kernel
theorem dX11_distance_5 : decode cX11_distance 5 = .ok (.bipush 6, 2) := by decide +kernel
theorem dX11_distance_7 : decode cX11_distance 7 = .ok (.irem, 1) := by decide +kernel
theorem dX11_distance_8 : decode cX11_distance 8 = .ok (.isub, 1) := by decide +kernel
theorem dX11_distance_9 : decode cX11_distance 9 = .ok (.invokestatic 337, 3) := by decide +kernel
theorem dX11_distance_12 : decode cX11_distance 12 = .ok (.iload_n 0, 1) := by decide +kernel
theorem dX11_distance_13 : decode cX11_distance 13 = .ok (.bipush 6, 2) := by decide +kernel
theorem dX11_distance_15 : decode cX11_distance 15 = .ok (.idiv, 1) := by decide +kernel
theorem dX11_distance_16 : decode cX11_distance 16 = .ok (.iload_n 1, 1) := by decide +kernel
theorem dX11_distance_17 : decode cX11_distance 17 = .ok (.bipush 6, 2) := by decide +kernel
theorem dX11_distance_19 : decode cX11_distance 19 = .ok (.idiv, 1) := by decide +kernel
theorem dX11_distance_20 : decode cX11_distance 20 = .ok (.isub, 1) := by decide +kernel
theorem dX11_distance_21 : decode cX11_distance 21 = .ok (.invokestatic 337, 3) := by decide +kernel
theorem dX11_distance_24 : decode cX11_distance 24 = .ok (.iadd, 1) := by decide +kernel
theorem dX11_distance_25 : decode cX11_distance 25 = .ok (.ireturn, 1) := by decide +kernel
theorem dX11_isKindOf_0 : decode cX11_isKindOf 0 = .ok (.iload_n 0, 1) := by decide +kernel
theorem dX11_isKindOf_1 : decode cX11_isKindOf 1 = .ok (.istore_n 2, 1) := by decide +kernel
theorem dX11_isKindOf_2 : decode cX11_isKindOf 2 = .ok (.iconst 0, 1) := by decide +kernel
theorem dX11_isKindOf_3 : decode cX11_isKindOf 3 = .ok (.istore_n 3, 1) := by decide +kernel
theorem dX11_isKindOf_4 : decode cX11_isKindOf 4 = .ok (.iload_n 3, 1) := by decide +kernel
theorem dX11_isKindOf_5 : decode cX11_isKindOf 5 = .ok (.bipush 6, 2) := by decide +kernel
theorem dX11_isKindOf_7 : decode cX11_isKindOf 7 = .ok (.if_icmp .ge 31, 3) := by decide +kernel
theorem dX11_isKindOf_10 : decode cX11_isKindOf 10 = .ok (.iload_n 2, 1) := by decide +kernel
theorem dX11_isKindOf_11 : decode cX11_isKindOf 11 = .ok (.bipush 6, 2) := by decide +kernel
theorem dX11_isKindOf_13 : decode cX11_isKindOf 13 = .ok (.invokestatic 64, 3) := by decide +kernel
theorem dX11_isKindOf_16 : decode cX11_isKindOf 16 = .ok (.ifCond .eq 22, 3) := by decide +kernel
theorem dX11_isKindOf_19 : decode cX11_isKindOf 19 = .ok (.iload_n 2, 1) := by decide +kernel
theorem dX11_isKindOf_20 : decode cX11_isKindOf 20 = .ok (.iload_n 1, 1) := by decide +kernel
theorem dX11_isKindOf_21 : decode cX11_isKindOf 21 = .ok (.if_icmp .ne 5, 3) := by decide +kernel
theorem dX11_isKindOf_24 : decode cX11_isKindOf 24 = .ok (.iconst 1, 1) := by decide +kernel
theorem dX11_isKindOf_25 : decode cX11_isKindOf 25 = .ok (.ireturn, 1) := by decide +kernel
theorem dX11_isKindOf_26 : decode cX11_isKindOf 26 = .ok (.getstatic 342, 3) := by decide +kernel
theorem dX11_isKindOf_29 : decode cX11_isKindOf 29 = .ok (.iload_n 2, 1) := by decide +kernel
theorem dX11_isKindOf_30 : decode cX11_isKindOf 30 = .ok (.iaload, 1) := by decide +kernel
theorem dX11_isKindOf_31 : decode cX11_isKindOf 31 = .ok (.istore_n 2, 1) := by decide +kernel
theorem dX11_isKindOf_32 : decode cX11_isKindOf 32 = .ok (.iinc 3 1, 3) := by decide +kernel
theorem dX11_isKindOf_35 : decode cX11_isKindOf 35 = .ok (.goto (-31), 3) := by decide +kernel
theorem dX11_isKindOf_38 : decode cX11_isKindOf 38 = .ok (.iconst 0, 1) := by decide +kernel
theorem dX11_isKindOf_39 : decode cX11_isKindOf 39 = .ok (.ireturn, 1) := by decide +kernel
theorem dX11_isTap_0 : decode cX11_isTap 0 = .ok (.iload_n 1, 1) := by decide +kernel
theorem dX11_isTap_1 : decode cX11_isTap 1 = .ok (.aload_n 0, 1) := by decide +kernel
theorem dX11_isTap_2 : decode cX11_isTap 2 = .ok (.getfield 10, 3) := by decide +kernel
theorem dX11_isTap_5 : decode cX11_isTap 5 = .ok (.getfield 71, 3) := by decide +kernel
theorem dX11_isTap_8 : decode cX11_isTap 8 = .ok (.getfield 85, 3) := by decide +kernel
theorem dX11_isTap_11 : decode cX11_isTap 11 = .ok (.invokestatic 64, 3) := by decide +kernel
theorem dX11_isTap_14 : decode cX11_isTap 14 = .ok (.ireturn, 1) := by decide +kernel
theorem dX11_isTaker_0 : decode cX11_isTaker 0 = .ok (.iload_n 1, 1) := by decide +kernel
theorem dX11_isTaker_1 : decode cX11_isTaker 1 = .ok (.aload_n 0, 1) := by decide +kernel
theorem dX11_isTaker_2 : decode cX11_isTaker 2 = .ok (.getfield 10, 3) := by decide +kernel
theorem dX11_isTaker_5 : decode cX11_isTaker 5 = .ok (.getfield 165, 3) := by decide +kernel
theorem dX11_isTaker_8 : decode cX11_isTaker 8 = .ok (.getfield 177, 3) := by decide +kernel
theorem dX11_isTaker_11 : decode cX11_isTaker 11 = .ok (.invokestatic 64, 3) := by decide +kernel
theorem dX11_isTaker_14 : decode cX11_isTaker 14 = .ok (.ireturn, 1) := by decide +kernel
theorem dX11_isRuled_0 : decode cX11_isRuled 0 = .ok (.iload_n 1, 1) := by decide +kernel
theorem dX11_isRuled_1 : decode cX11_isRuled 1 = .ok (.bipush 6, 2) := by decide +kernel
theorem dX11_isRuled_3 : decode cX11_isRuled 3 = .ok (.invokestatic 64, 3) := by decide +kernel
theorem dX11_isRuled_6 : decode cX11_isRuled 6 = .ok (.ifCond .eq 19, 3) := by decide +kernel
theorem dX11_isRuled_9 : decode cX11_isRuled 9 = .ok (.iload_n 1, 1) := by decide +kernel
theorem dX11_isRuled_10 : decode cX11_isRuled 10 = .ok (.ifCond .ne 11, 3) := by decide +kernel
theorem dX11_isRuled_13 : decode cX11_isRuled 13 = .ok (.aload_n 0, 1) := by decide +kernel
theorem dX11_isRuled_14 : decode cX11_isRuled 14 = .ok (.iload_n 2, 1) := by decide +kernel
theorem dX11_isRuled_15 : decode cX11_isRuled 15 = .ok (.invokevirtual 183, 3) := by decide +kernel
theorem dX11_isRuled_18 : decode cX11_isRuled 18 = .ok (.ifCond .eq 7, 3) := by decide +kernel
theorem dX11_isRuled_21 : decode cX11_isRuled 21 = .ok (.iconst 1, 1) := by decide +kernel
theorem dX11_isRuled_22 : decode cX11_isRuled 22 = .ok (.goto 4, 3) := by decide +kernel
theorem dX11_isRuled_25 : decode cX11_isRuled 25 = .ok (.iconst 0, 1) := by decide +kernel
theorem dX11_isRuled_26 : decode cX11_isRuled 26 = .ok (.ireturn, 1) := by decide +kernel
theorem dX11_wentBy_0 : decode cX11_wentBy 0 = .ok (.iload_n 2, 1) := by decide +kernel
theorem dX11_wentBy_1 : decode cX11_wentBy 1 = .ok (.aload_n 0, 1) := by decide +kernel
theorem dX11_wentBy_2 : decode cX11_wentBy 2 = .ok (.getfield 10, 3) := by decide +kernel
theorem dX11_wentBy_5 : decode cX11_wentBy 5 = .ok (.getfield 71, 3) := by decide +kernel
theorem dX11_wentBy_8 : decode cX11_wentBy 8 = .ok (.getfield 345, 3) := by decide +kernel
theorem dX11_wentBy_11 : decode cX11_wentBy 11 = .ok (.iload_n 1, 1) := by decide +kernel
theorem dX11_wentBy_12 : decode cX11_wentBy 12 = .ok (.iaload, 1) := by decide +kernel
theorem dX11_wentBy_13 : decode cX11_wentBy 13 = .ok (.if_icmp .lt 18, 3) := by decide +kernel
theorem dX11_wentBy_16 : decode cX11_wentBy 16 = .ok (.iload_n 2, 1) := by decide +kernel
theorem dX11_wentBy_17 : decode cX11_wentBy 17 = .ok (.aload_n 0, 1) := by decide +kernel
theorem dX11_wentBy_18 : decode cX11_wentBy 18 = .ok (.getfield 10, 3) := by decide +kernel
theorem dX11_wentBy_21 : decode cX11_wentBy 21 = .ok (.getfield 89, 3) := by decide +kernel
theorem dX11_wentBy_24 : decode cX11_wentBy 24 = .ok (.if_icmp .ge 7, 3) := by decide +kernel
theorem dX11_wentBy_27 : decode cX11_wentBy 27 = .ok (.iconst 1, 1) := by decide +kernel
theorem dX11_wentBy_28 : decode cX11_wentBy 28 = .ok (.goto 4, 3) := by decide +kernel
theorem dX11_wentBy_31 : decode cX11_wentBy 31 = .ok (.iconst 0, 1) := by decide +kernel
theorem dX11_wentBy_32 : decode cX11_wentBy 32 = .ok (.ireturn, 1) := by decide +kernel
theorem dX11_pastFlow_0 : decode cX11_pastFlow 0 = .ok (.aload_n 0, 1) := by decide +kernel
theorem dX11_pastFlow_1 : decode cX11_pastFlow 1 = .ok (.getfield 19, 3) := by decide +kernel
theorem dX11_pastFlow_4 : decode cX11_pastFlow 4 = .ok (.iload_n 2, 1) := by decide +kernel
theorem dX11_pastFlow_5 : decode cX11_pastFlow 5 = .ok (.bipush 12, 2) := by decide +kernel
theorem dX11_pastFlow_7 : decode cX11_pastFlow 7 = .ok (.imul, 1) := by decide +kernel
theorem dX11_pastFlow_8 : decode cX11_pastFlow 8 = .ok (.iload_n 1, 1) := by decide +kernel
theorem dX11_pastFlow_9 : decode cX11_pastFlow 9 = .ok (.iadd, 1) := by decide +kernel
theorem dX11_pastFlow_10 : decode cX11_pastFlow 10 = .ok (.iconst 4, 1) := by decide +kernel
theorem dX11_pastFlow_11 : decode cX11_pastFlow 11 = .ok (.imul, 1) := by decide +kernel
theorem dX11_pastFlow_12 : decode cX11_pastFlow 12 = .ok (.iload_n 3, 1) := by decide +kernel
theorem dX11_pastFlow_13 : decode cX11_pastFlow 13 = .ok (.iadd, 1) := by decide +kernel
theorem dX11_pastFlow_14 : decode cX11_pastFlow 14 = .ok (.iaload, 1) := by decide +kernel
theorem dX11_pastFlow_15 : decode cX11_pastFlow 15 = .ok (.ireturn, 1) := by decide +kernel
theorem dX11_servedOf_0 : decode cX11_servedOf 0 = .ok (.iconst 0, 1) := by decide +kernel
theorem dX11_servedOf_1 : decode cX11_servedOf 1 = .ok (.istore_n 2, 1) := by decide +kernel
theorem dX11_servedOf_2 : decode cX11_servedOf 2 = .ok (.iload_n 2, 1) := by decide +kernel
theorem dX11_servedOf_3 : decode cX11_servedOf 3 = .ok (.iconst 4, 1) := by decide +kernel
theorem dX11_servedOf_4 : decode cX11_servedOf 4 = .ok (.if_icmp .ge 61, 3) := by decide +kernel
theorem dX11_servedOf_7 : decode cX11_servedOf 7 = .ok (.aload_n 0, 1) := by decide +kernel
theorem dX11_servedOf_8 : decode cX11_servedOf 8 = .ok (.iload_n 2, 1) := by decide +kernel
theorem dX11_servedOf_9 : decode cX11_servedOf 9 = .ok (.invokevirtual 96, 3) := by decide +kernel
theorem dX11_servedOf_12 : decode cX11_servedOf 12 = .ok (.ifCond .eq 37, 3) := by decide +kernel
theorem dX11_servedOf_15 : decode cX11_servedOf 15 = .ok (.aload_n 0, 1) := by decide +kernel
theorem dX11_servedOf_16 : decode cX11_servedOf 16 = .ok (.iload_n 2, 1) := by decide +kernel
theorem dX11_servedOf_17 : decode cX11_servedOf 17 = .ok (.iload_n 1, 1) := by decide +kernel
theorem dX11_servedOf_18 : decode cX11_servedOf 18 = .ok (.invokevirtual 114, 3) := by decide +kernel
theorem dX11_servedOf_21 : decode cX11_servedOf 21 = .ok (.ifCond .eq 28, 3) := by decide +kernel
theorem dX11_servedOf_24 : decode cX11_servedOf 24 = .ok (.aload_n 0, 1) := by decide +kernel
theorem dX11_servedOf_25 : decode cX11_servedOf 25 = .ok (.getfield 47, 3) := by decide +kernel
theorem dX11_servedOf_28 : decode cX11_servedOf 28 = .ok (.iload_n 2, 1) := by decide +kernel
theorem dX11_servedOf_29 : decode cX11_servedOf 29 = .ok (.aload_n 0, 1) := by decide +kernel
theorem dX11_servedOf_30 : decode cX11_servedOf 30 = .ok (.iload_n 2, 1) := by decide +kernel
theorem dX11_servedOf_31 : decode cX11_servedOf 31 = .ok (.iload_n 1, 1) := by decide +kernel
theorem dX11_servedOf_32 : decode cX11_servedOf 32 = .ok (.iconst 2, 1) := by decide +kernel
theorem dX11_servedOf_33 : decode cX11_servedOf 33 = .ok (.invokevirtual 117, 3) := by decide +kernel
theorem dX11_servedOf_36 : decode cX11_servedOf 36 = .ok (.aload_n 0, 1) := by decide +kernel
theorem dX11_servedOf_37 : decode cX11_servedOf 37 = .ok (.iload_n 2, 1) := by decide +kernel
theorem dX11_servedOf_38 : decode cX11_servedOf 38 = .ok (.iload_n 1, 1) := by decide +kernel
theorem dX11_servedOf_39 : decode cX11_servedOf 39 = .ok (.iconst 3, 1) := by decide +kernel
theorem dX11_servedOf_40 : decode cX11_servedOf 40 = .ok (.invokevirtual 117, 3) := by decide +kernel
theorem dX11_servedOf_43 : decode cX11_servedOf 43 = .ok (.invokevirtual 348, 3) := by decide +kernel
theorem dX11_servedOf_46 : decode cX11_servedOf 46 = .ok (.goto 13, 3) := by decide +kernel
theorem dX11_servedOf_49 : decode cX11_servedOf 49 = .ok (.aload_n 0, 1) := by decide +kernel
theorem dX11_servedOf_50 : decode cX11_servedOf 50 = .ok (.getfield 47, 3) := by decide +kernel
theorem dX11_servedOf_53 : decode cX11_servedOf 53 = .ok (.iload_n 2, 1) := by decide +kernel
theorem dX11_servedOf_54 : decode cX11_servedOf 54 = .ok (.iconst 0, 1) := by decide +kernel
theorem dX11_servedOf_55 : decode cX11_servedOf 55 = .ok (.iconst 0, 1) := by decide +kernel
theorem dX11_servedOf_56 : decode cX11_servedOf 56 = .ok (.invokevirtual 348, 3) := by decide +kernel
theorem dX11_servedOf_59 : decode cX11_servedOf 59 = .ok (.iinc 2 1, 3) := by decide +kernel
theorem dX11_servedOf_62 : decode cX11_servedOf 62 = .ok (.goto (-60), 3) := by decide +kernel
theorem dX11_servedOf_65 : decode cX11_servedOf 65 = .ok (.aload_n 0, 1) := by decide +kernel
theorem dX11_servedOf_66 : decode cX11_servedOf 66 = .ok (.getfield 47, 3) := by decide +kernel
theorem dX11_servedOf_69 : decode cX11_servedOf 69 = .ok (.aload_n 0, 1) := by decide +kernel
theorem dX11_servedOf_70 : decode cX11_servedOf 70 = .ok (.getfield 40, 3) := by decide +kernel
theorem dX11_servedOf_73 : decode cX11_servedOf 73 = .ok (.aload_n 0, 1) := by decide +kernel
theorem dX11_servedOf_74 : decode cX11_servedOf 74 = .ok (.getfield 10, 3) := by decide +kernel
theorem dX11_servedOf_77 : decode cX11_servedOf 77 = .ok (.getfield 165, 3) := by decide +kernel
theorem dX11_servedOf_80 : decode cX11_servedOf 80 = .ok (.invokevirtual 352, 3) := by decide +kernel
theorem dX11_servedOf_83 : decode cX11_servedOf 83 = .ok (.ireturn, 1) := by decide +kernel
theorem dX11_partByRank_0 : decode cX11_partByRank 0 = .ok (.iload_n 1, 1) := by decide +kernel
theorem dX11_partByRank_1 : decode cX11_partByRank 1 = .ok (.istore_n 2, 1) := by decide +kernel
theorem dX11_partByRank_2 : decode cX11_partByRank 2 = .ok (.iconst 0, 1) := by decide +kernel
theorem dX11_partByRank_3 : decode cX11_partByRank 3 = .ok (.istore_n 3, 1) := by decide +kernel
theorem dX11_partByRank_4 : decode cX11_partByRank 4 = .ok (.iload_n 3, 1) := by decide +kernel
theorem dX11_partByRank_5 : decode cX11_partByRank 5 = .ok (.aload_n 0, 1) := by decide +kernel
theorem dX11_partByRank_6 : decode cX11_partByRank 6 = .ok (.getfield 40, 3) := by decide +kernel
theorem dX11_partByRank_9 : decode cX11_partByRank 9 = .ok (.getfield 321, 3) := by decide +kernel
theorem dX11_partByRank_12 : decode cX11_partByRank 12 = .ok (.if_icmp .ge 54, 3) := by decide +kernel
theorem dX11_partByRank_15 : decode cX11_partByRank 15 = .ok (.aload_n 0, 1) := by decide +kernel
theorem dX11_partByRank_16 : decode cX11_partByRank 16 = .ok (.getfield 40, 3) := by decide +kernel
theorem dX11_partByRank_19 : decode cX11_partByRank 19 = .ok (.getfield 209, 3) := by decide +kernel
theorem dX11_partByRank_22 : decode cX11_partByRank 22 = .ok (.iload_n 3, 1) := by decide +kernel
theorem dX11_partByRank_23 : decode cX11_partByRank 23 = .ok (.iaload, 1) := by decide +kernel
theorem dX11_partByRank_24 : decode cX11_partByRank 24 = .ok (.istore 4, 2) := by decide +kernel
theorem dX11_partByRank_26 : decode cX11_partByRank 26 = .ok (.aload_n 0, 1) := by decide +kernel
theorem dX11_partByRank_27 : decode cX11_partByRank 27 = .ok (.getfield 58, 3) := by decide +kernel
theorem dX11_partByRank_30 : decode cX11_partByRank 30 = .ok (.iload 4, 2) := by decide +kernel
theorem dX11_partByRank_32 : decode cX11_partByRank 32 = .ok (.iload_n 2, 1) := by decide +kernel
theorem dX11_partByRank_33 : decode cX11_partByRank 33 = .ok (.aload_n 0, 1) := by decide +kernel
theorem dX11_partByRank_34 : decode cX11_partByRank 34 = .ok (.getfield 10, 3) := by decide +kernel
theorem dX11_partByRank_37 : decode cX11_partByRank 37 = .ok (.getfield 165, 3) := by decide +kernel
theorem dX11_partByRank_40 : decode cX11_partByRank 40 = .ok (.getfield 206, 3) := by decide +kernel
theorem dX11_partByRank_43 : decode cX11_partByRank 43 = .ok (.iload 4, 2) := by decide +kernel
theorem dX11_partByRank_45 : decode cX11_partByRank 45 = .ok (.iaload, 1) := by decide +kernel
theorem dX11_partByRank_46 : decode cX11_partByRank 46 = .ok (.invokestatic 356, 3) := by decide +kernel
theorem dX11_partByRank_49 : decode cX11_partByRank 49 = .ok (.iastore, 1) := by decide +kernel
theorem dX11_partByRank_50 : decode cX11_partByRank 50 = .ok (.iload_n 2, 1) := by decide +kernel
theorem dX11_partByRank_51 : decode cX11_partByRank 51 = .ok (.aload_n 0, 1) := by decide +kernel
theorem dX11_partByRank_52 : decode cX11_partByRank 52 = .ok (.getfield 58, 3) := by decide +kernel
theorem dX11_partByRank_55 : decode cX11_partByRank 55 = .ok (.iload 4, 2) := by decide +kernel
theorem dX11_partByRank_57 : decode cX11_partByRank 57 = .ok (.iaload, 1) := by decide +kernel
theorem dX11_partByRank_58 : decode cX11_partByRank 58 = .ok (.isub, 1) := by decide +kernel
theorem dX11_partByRank_59 : decode cX11_partByRank 59 = .ok (.istore_n 2, 1) := by decide +kernel
theorem dX11_partByRank_60 : decode cX11_partByRank 60 = .ok (.iinc 3 1, 3) := by decide +kernel
theorem dX11_partByRank_63 : decode cX11_partByRank 63 = .ok (.goto (-59), 3) := by decide +kernel
theorem dX11_partByRank_66 : decode cX11_partByRank 66 = .ok (.return_, 1) := by decide +kernel
theorem dX11_partByGallons_0 : decode cX11_partByGallons 0 = .ok (.iconst 0, 1) := by decide +kernel
theorem dX11_partByGallons_1 : decode cX11_partByGallons 1 = .ok (.istore_n 2, 1) := by decide +kernel
theorem dX11_partByGallons_2 : decode cX11_partByGallons 2 = .ok (.iconst 0, 1) := by decide +kernel
theorem dX11_partByGallons_3 : decode cX11_partByGallons 3 = .ok (.istore_n 3, 1) := by decide +kernel
theorem dX11_partByGallons_4 : decode cX11_partByGallons 4 = .ok (.iload_n 3, 1) := by decide +kernel
theorem dX11_partByGallons_5 : decode cX11_partByGallons 5 = .ok (.aload_n 0, 1) := by decide +kernel
theorem dX11_partByGallons_6 : decode cX11_partByGallons 6 = .ok (.getfield 40, 3) := by decide +kernel
theorem dX11_partByGallons_9 : decode cX11_partByGallons 9 = .ok (.getfield 321, 3) := by decide +kernel
theorem dX11_partByGallons_12 : decode cX11_partByGallons 12 = .ok (.if_icmp .ge 24, 3) := by decide +kernel
theorem dX11_partByGallons_15 : decode cX11_partByGallons 15 = .ok (.iload_n 2, 1) := by decide +kernel
theorem dX11_partByGallons_16 : decode cX11_partByGallons 16 = .ok (.aload_n 0, 1) := by decide +kernel
theorem dX11_partByGallons_17 : decode cX11_partByGallons 17 = .ok (.getfield 10, 3) := by decide +kernel
theorem dX11_partByGallons_20 : decode cX11_partByGallons 20 = .ok (.getfield 165, 3) := by decide +kernel
theorem dX11_partByGallons_23 : decode cX11_partByGallons 23 = .ok (.getfield 206, 3) := by decide +kernel
theorem dX11_partByGallons_26 : decode cX11_partByGallons 26 = .ok (.iload_n 3, 1) := by decide +kernel
theorem dX11_partByGallons_27 : decode cX11_partByGallons 27 = .ok (.iaload, 1) := by decide +kernel
theorem dX11_partByGallons_28 : decode cX11_partByGallons 28 = .ok (.iadd, 1) := by decide +kernel
theorem dX11_partByGallons_29 : decode cX11_partByGallons 29 = .ok (.istore_n 2, 1) := by decide +kernel
theorem dX11_partByGallons_30 : decode cX11_partByGallons 30 = .ok (.iinc 3 1, 3) := by decide +kernel
theorem dX11_partByGallons_33 : decode cX11_partByGallons 33 = .ok (.goto (-29), 3) := by decide +kernel
theorem dX11_partByGallons_36 : decode cX11_partByGallons 36 = .ok (.iload_n 1, 1) := by decide +kernel
theorem dX11_partByGallons_37 : decode cX11_partByGallons 37 = .ok (.istore_n 3, 1) := by decide +kernel
theorem dX11_partByGallons_38 : decode cX11_partByGallons 38 = .ok (.iconst 0, 1) := by decide +kernel
theorem dX11_partByGallons_39 : decode cX11_partByGallons 39 = .ok (.istore 4, 2) := by decide +kernel
theorem dX11_partByGallons_41 : decode cX11_partByGallons 41 = .ok (.iload 4, 2) := by decide +kernel
theorem dX11_partByGallons_43 : decode cX11_partByGallons 43 = .ok (.aload_n 0, 1) := by decide +kernel
theorem dX11_partByGallons_44 : decode cX11_partByGallons 44 = .ok (.getfield 40, 3) := by decide +kernel
theorem dX11_partByGallons_47 : decode cX11_partByGallons 47 = .ok (.getfield 321, 3) := by decide +kernel
theorem dX11_partByGallons_50 : decode cX11_partByGallons 50 = .ok (.if_icmp .ge 47, 3) := by decide +kernel
theorem dX11_partByGallons_53 : decode cX11_partByGallons 53 = .ok (.iload_n 2, 1) := by decide +kernel
theorem dX11_partByGallons_54 : decode cX11_partByGallons 54 = .ok (.ifCond .le 43, 3) := by decide +kernel
theorem dX11_partByGallons_57 : decode cX11_partByGallons 57 = .ok (.aload_n 0, 1) := by decide +kernel
theorem dX11_partByGallons_58 : decode cX11_partByGallons 58 = .ok (.getfield 58, 3) := by decide +kernel
theorem dX11_partByGallons_61 : decode cX11_partByGallons 61 = .ok (.iload 4, 2) := by decide +kernel
theorem dX11_partByGallons_63 : decode cX11_partByGallons 63 = .ok (.iload_n 1, 1) := by decide +kernel
theorem dX11_partByGallons_64 : decode cX11_partByGallons 64 = .ok (.aload_n 0, 1) := by decide +kernel
theorem dX11_partByGallons_65 : decode cX11_partByGallons 65 = .ok (.getfield 10, 3) := by decide +kernel
theorem dX11_partByGallons_68 : decode cX11_partByGallons 68 = .ok (.getfield 165, 3) := by decide +kernel
theorem dX11_partByGallons_71 : decode cX11_partByGallons 71 = .ok (.getfield 206, 3) := by decide +kernel
theorem dX11_partByGallons_74 : decode cX11_partByGallons 74 = .ok (.iload 4, 2) := by decide +kernel
theorem dX11_partByGallons_76 : decode cX11_partByGallons 76 = .ok (.iaload, 1) := by decide +kernel
theorem dX11_partByGallons_77 : decode cX11_partByGallons 77 = .ok (.imul, 1) := by decide +kernel
theorem dX11_partByGallons_78 : decode cX11_partByGallons 78 = .ok (.iload_n 2, 1) := by decide +kernel
theorem dX11_partByGallons_79 : decode cX11_partByGallons 79 = .ok (.idiv, 1) := by decide +kernel
theorem dX11_partByGallons_80 : decode cX11_partByGallons 80 = .ok (.iastore, 1) := by decide +kernel
theorem dX11_partByGallons_81 : decode cX11_partByGallons 81 = .ok (.iload_n 3, 1) := by decide +kernel
theorem dX11_partByGallons_82 : decode cX11_partByGallons 82 = .ok (.aload_n 0, 1) := by decide +kernel
theorem dX11_partByGallons_83 : decode cX11_partByGallons 83 = .ok (.getfield 58, 3) := by decide +kernel
theorem dX11_partByGallons_86 : decode cX11_partByGallons 86 = .ok (.iload 4, 2) := by decide +kernel
theorem dX11_partByGallons_88 : decode cX11_partByGallons 88 = .ok (.iaload, 1) := by decide +kernel
theorem dX11_partByGallons_89 : decode cX11_partByGallons 89 = .ok (.isub, 1) := by decide +kernel
theorem dX11_partByGallons_90 : decode cX11_partByGallons 90 = .ok (.istore_n 3, 1) := by decide +kernel
theorem dX11_partByGallons_91 : decode cX11_partByGallons 91 = .ok (.iinc 4 1, 3) := by decide +kernel
theorem dX11_partByGallons_94 : decode cX11_partByGallons 94 = .ok (.goto (-53), 3) := by decide +kernel
theorem dX11_partByGallons_97 : decode cX11_partByGallons 97 = .ok (.iconst 0, 1) := by decide +kernel
theorem dX11_partByGallons_98 : decode cX11_partByGallons 98 = .ok (.istore 4, 2) := by decide +kernel
theorem dX11_partByGallons_100 : decode cX11_partByGallons 100 = .ok (.iload 4, 2) := by decide +kernel
theorem dX11_partByGallons_102 : decode cX11_partByGallons 102 = .ok (.aload_n 0, 1) := by decide +kernel
theorem dX11_partByGallons_103 : decode cX11_partByGallons 103 = .ok (.getfield 40, 3) := by decide +kernel
theorem dX11_partByGallons_106 : decode cX11_partByGallons 106 = .ok (.getfield 321, 3) := by decide +kernel
theorem dX11_partByGallons_109 : decode cX11_partByGallons 109 = .ok (.if_icmp .ge 34, 3) := by decide +kernel
theorem dX11_partByGallons_112 : decode cX11_partByGallons 112 = .ok (.iload 4, 2) := by decide +kernel
theorem dX11_partByGallons_114 : decode cX11_partByGallons 114 = .ok (.iload_n 3, 1) := by decide +kernel
theorem dX11_partByGallons_115 : decode cX11_partByGallons 115 = .ok (.if_icmp .ge 28, 3) := by decide +kernel
theorem dX11_partByGallons_118 : decode cX11_partByGallons 118 = .ok (.aload_n 0, 1) := by decide +kernel
theorem dX11_partByGallons_119 : decode cX11_partByGallons 119 = .ok (.getfield 58, 3) := by decide +kernel
theorem dX11_partByGallons_122 : decode cX11_partByGallons 122 = .ok (.aload_n 0, 1) := by decide +kernel
theorem dX11_partByGallons_123 : decode cX11_partByGallons 123 = .ok (.getfield 40, 3) := by decide +kernel
theorem dX11_partByGallons_126 : decode cX11_partByGallons 126 = .ok (.getfield 209, 3) := by decide +kernel
theorem dX11_partByGallons_129 : decode cX11_partByGallons 129 = .ok (.iload 4, 2) := by decide +kernel
theorem dX11_partByGallons_131 : decode cX11_partByGallons 131 = .ok (.iaload, 1) := by decide +kernel
theorem dX11_partByGallons_132 : decode cX11_partByGallons 132 = .ok (.dup2, 1) := by decide +kernel
theorem dX11_partByGallons_133 : decode cX11_partByGallons 133 = .ok (.iaload, 1) := by decide +kernel
theorem dX11_partByGallons_134 : decode cX11_partByGallons 134 = .ok (.iconst 1, 1) := by decide +kernel
theorem dX11_partByGallons_135 : decode cX11_partByGallons 135 = .ok (.iadd, 1) := by decide +kernel
theorem dX11_partByGallons_136 : decode cX11_partByGallons 136 = .ok (.iastore, 1) := by decide +kernel
theorem dX11_partByGallons_137 : decode cX11_partByGallons 137 = .ok (.iinc 4 1, 3) := by decide +kernel
theorem dX11_partByGallons_140 : decode cX11_partByGallons 140 = .ok (.goto (-40), 3) := by decide +kernel
theorem dX11_partByGallons_143 : decode cX11_partByGallons 143 = .ok (.return_, 1) := by decide +kernel
theorem dX11_partAlike_0 : decode cX11_partAlike 0 = .ok (.iconst 0, 1) := by decide +kernel
theorem dX11_partAlike_1 : decode cX11_partAlike 1 = .ok (.istore_n 2, 1) := by decide +kernel
theorem dX11_partAlike_2 : decode cX11_partAlike 2 = .ok (.iload_n 2, 1) := by decide +kernel
theorem dX11_partAlike_3 : decode cX11_partAlike 3 = .ok (.aload_n 0, 1) := by decide +kernel
theorem dX11_partAlike_4 : decode cX11_partAlike 4 = .ok (.getfield 40, 3) := by decide +kernel
theorem dX11_partAlike_7 : decode cX11_partAlike 7 = .ok (.getfield 321, 3) := by decide +kernel
theorem dX11_partAlike_10 : decode cX11_partAlike 10 = .ok (.if_icmp .ge 16, 3) := by decide +kernel
theorem dX11_partAlike_13 : decode cX11_partAlike 13 = .ok (.aload_n 0, 1) := by decide +kernel
theorem dX11_partAlike_14 : decode cX11_partAlike 14 = .ok (.getfield 58, 3) := by decide +kernel
theorem dX11_partAlike_17 : decode cX11_partAlike 17 = .ok (.iload_n 2, 1) := by decide +kernel
theorem dX11_partAlike_18 : decode cX11_partAlike 18 = .ok (.iconst 0, 1) := by decide +kernel
theorem dX11_partAlike_19 : decode cX11_partAlike 19 = .ok (.iastore, 1) := by decide +kernel
theorem dX11_partAlike_20 : decode cX11_partAlike 20 = .ok (.iinc 2 1, 3) := by decide +kernel
theorem dX11_partAlike_23 : decode cX11_partAlike 23 = .ok (.goto (-21), 3) := by decide +kernel
theorem dX11_partAlike_26 : decode cX11_partAlike 26 = .ok (.iload_n 1, 1) := by decide +kernel
theorem dX11_partAlike_27 : decode cX11_partAlike 27 = .ok (.istore_n 2, 1) := by decide +kernel
theorem dX11_partAlike_28 : decode cX11_partAlike 28 = .ok (.iconst 1, 1) := by decide +kernel
theorem dX11_partAlike_29 : decode cX11_partAlike 29 = .ok (.istore_n 3, 1) := by decide +kernel
theorem dX11_partAlike_30 : decode cX11_partAlike 30 = .ok (.iload_n 3, 1) := by decide +kernel
theorem dX11_partAlike_31 : decode cX11_partAlike 31 = .ok (.iconst 4, 1) := by decide +kernel
theorem dX11_partAlike_32 : decode cX11_partAlike 32 = .ok (.if_icmp .gt 77, 3) := by decide +kernel
theorem dX11_partAlike_35 : decode cX11_partAlike 35 = .ok (.iconst 0, 1) := by decide +kernel
theorem dX11_partAlike_36 : decode cX11_partAlike 36 = .ok (.istore 4, 2) := by decide +kernel
theorem dX11_partAlike_38 : decode cX11_partAlike 38 = .ok (.iload 4, 2) := by decide +kernel
theorem dX11_partAlike_40 : decode cX11_partAlike 40 = .ok (.aload_n 0, 1) := by decide +kernel
theorem dX11_partAlike_41 : decode cX11_partAlike 41 = .ok (.getfield 40, 3) := by decide +kernel
theorem dX11_partAlike_44 : decode cX11_partAlike 44 = .ok (.getfield 321, 3) := by decide +kernel
theorem dX11_partAlike_47 : decode cX11_partAlike 47 = .ok (.if_icmp .ge 56, 3) := by decide +kernel
theorem dX11_partAlike_50 : decode cX11_partAlike 50 = .ok (.iload_n 2, 1) := by decide +kernel
theorem dX11_partAlike_51 : decode cX11_partAlike 51 = .ok (.ifCond .le 52, 3) := by decide +kernel
theorem dX11_partAlike_54 : decode cX11_partAlike 54 = .ok (.aload_n 0, 1) := by decide +kernel
theorem dX11_partAlike_55 : decode cX11_partAlike 55 = .ok (.getfield 40, 3) := by decide +kernel
theorem dX11_partAlike_58 : decode cX11_partAlike 58 = .ok (.getfield 209, 3) := by decide +kernel
theorem dX11_partAlike_61 : decode cX11_partAlike 61 = .ok (.iload 4, 2) := by decide +kernel
theorem dX11_partAlike_63 : decode cX11_partAlike 63 = .ok (.iaload, 1) := by decide +kernel
theorem dX11_partAlike_64 : decode cX11_partAlike 64 = .ok (.istore 5, 2) := by decide +kernel
theorem dX11_partAlike_66 : decode cX11_partAlike 66 = .ok (.aload_n 0, 1) := by decide +kernel
theorem dX11_partAlike_67 : decode cX11_partAlike 67 = .ok (.getfield 10, 3) := by decide +kernel
theorem dX11_partAlike_70 : decode cX11_partAlike 70 = .ok (.getfield 165, 3) := by decide +kernel
theorem dX11_partAlike_73 : decode cX11_partAlike 73 = .ok (.getfield 206, 3) := by decide +kernel
theorem dX11_partAlike_76 : decode cX11_partAlike 76 = .ok (.iload 5, 2) := by decide +kernel
theorem dX11_partAlike_78 : decode cX11_partAlike 78 = .ok (.iaload, 1) := by decide +kernel
theorem dX11_partAlike_79 : decode cX11_partAlike 79 = .ok (.iload_n 3, 1) := by decide +kernel
theorem dX11_partAlike_80 : decode cX11_partAlike 80 = .ok (.if_icmp .lt 17, 3) := by decide +kernel
theorem dX11_partAlike_83 : decode cX11_partAlike 83 = .ok (.aload_n 0, 1) := by decide +kernel
theorem dX11_partAlike_84 : decode cX11_partAlike 84 = .ok (.getfield 58, 3) := by decide +kernel
theorem dX11_partAlike_87 : decode cX11_partAlike 87 = .ok (.iload 5, 2) := by decide +kernel
theorem dX11_partAlike_89 : decode cX11_partAlike 89 = .ok (.dup2, 1) := by decide +kernel
theorem dX11_partAlike_90 : decode cX11_partAlike 90 = .ok (.iaload, 1) := by decide +kernel
theorem dX11_partAlike_91 : decode cX11_partAlike 91 = .ok (.iconst 1, 1) := by decide +kernel
theorem dX11_partAlike_92 : decode cX11_partAlike 92 = .ok (.iadd, 1) := by decide +kernel
theorem dX11_partAlike_93 : decode cX11_partAlike 93 = .ok (.iastore, 1) := by decide +kernel
theorem dX11_partAlike_94 : decode cX11_partAlike 94 = .ok (.iinc 2 (-1), 3) := by decide +kernel
theorem dX11_partAlike_97 : decode cX11_partAlike 97 = .ok (.iinc 4 1, 3) := by decide +kernel
theorem dX11_partAlike_100 : decode cX11_partAlike 100 = .ok (.goto (-62), 3) := by decide +kernel
theorem dX11_partAlike_103 : decode cX11_partAlike 103 = .ok (.iinc 3 1, 3) := by decide +kernel
theorem dX11_partAlike_106 : decode cX11_partAlike 106 = .ok (.goto (-76), 3) := by decide +kernel
theorem dX11_partAlike_109 : decode cX11_partAlike 109 = .ok (.return_, 1) := by decide +kernel
theorem dX11_isOff_0 : decode cX11_isOff 0 = .ok (.aload_n 0, 1) := by decide +kernel
theorem dX11_isOff_1 : decode cX11_isOff 1 = .ok (.getfield 10, 3) := by decide +kernel
theorem dX11_isOff_4 : decode cX11_isOff 4 = .ok (.getfield 252, 3) := by decide +kernel
theorem dX11_isOff_7 : decode cX11_isOff 7 = .ok (.getfield 264, 3) := by decide +kernel
theorem dX11_isOff_10 : decode cX11_isOff 10 = .ok (.iload_n 1, 1) := by decide +kernel
theorem dX11_isOff_11 : decode cX11_isOff 11 = .ok (.iaload, 1) := by decide +kernel
theorem dX11_isOff_12 : decode cX11_isOff 12 = .ok (.istore_n 2, 1) := by decide +kernel
theorem dX11_isOff_13 : decode cX11_isOff 13 = .ok (.aload_n 0, 1) := by decide +kernel
theorem dX11_isOff_14 : decode cX11_isOff 14 = .ok (.getfield 10, 3) := by decide +kernel
theorem dX11_isOff_17 : decode cX11_isOff 17 = .ok (.getfield 252, 3) := by decide +kernel
theorem dX11_isOff_20 : decode cX11_isOff 20 = .ok (.getfield 359, 3) := by decide +kernel
theorem dX11_isOff_23 : decode cX11_isOff 23 = .ok (.iload_n 1, 1) := by decide +kernel
theorem dX11_isOff_24 : decode cX11_isOff 24 = .ok (.iaload, 1) := by decide +kernel
theorem dX11_isOff_25 : decode cX11_isOff 25 = .ok (.istore_n 3, 1) := by decide +kernel
theorem dX11_isOff_26 : decode cX11_isOff 26 = .ok (.aload_n 0, 1) := by decide +kernel
theorem dX11_isOff_27 : decode cX11_isOff 27 = .ok (.iload_n 2, 1) := by decide +kernel
theorem dX11_isOff_28 : decode cX11_isOff 28 = .ok (.invokevirtual 96, 3) := by decide +kernel
theorem dX11_isOff_31 : decode cX11_isOff 31 = .ok (.ifCond .eq 12, 3) := by decide +kernel
theorem dX11_isOff_34 : decode cX11_isOff 34 = .ok (.aload_n 0, 1) := by decide +kernel
theorem dX11_isOff_35 : decode cX11_isOff 35 = .ok (.iload_n 2, 1) := by decide +kernel
theorem dX11_isOff_36 : decode cX11_isOff 36 = .ok (.iload_n 3, 1) := by decide +kernel
theorem dX11_isOff_37 : decode cX11_isOff 37 = .ok (.invokevirtual 114, 3) := by decide +kernel
theorem dX11_isOff_40 : decode cX11_isOff 40 = .ok (.ifCond .ne 5, 3) := by decide +kernel
theorem dX11_isOff_43 : decode cX11_isOff 43 = .ok (.iconst 0, 1) := by decide +kernel
theorem dX11_isOff_44 : decode cX11_isOff 44 = .ok (.ireturn, 1) := by decide +kernel
theorem dX11_isOff_45 : decode cX11_isOff 45 = .ok (.aload_n 0, 1) := by decide +kernel
theorem dX11_isOff_46 : decode cX11_isOff 46 = .ok (.getfield 10, 3) := by decide +kernel
theorem dX11_isOff_49 : decode cX11_isOff 49 = .ok (.iconst 4, 1) := by decide +kernel
theorem dX11_isOff_50 : decode cX11_isOff 50 = .ok (.iload_n 3, 1) := by decide +kernel
theorem dX11_isOff_51 : decode cX11_isOff 51 = .ok (.invokevirtual 236, 3) := by decide +kernel
theorem dX11_isOff_54 : decode cX11_isOff 54 = .ok (.istore 4, 2) := by decide +kernel
theorem dX11_isOff_56 : decode cX11_isOff 56 = .ok (.aload_n 0, 1) := by decide +kernel
theorem dX11_isOff_57 : decode cX11_isOff 57 = .ok (.getfield 10, 3) := by decide +kernel
theorem dX11_isOff_60 : decode cX11_isOff 60 = .ok (.getfield 252, 3) := by decide +kernel
theorem dX11_isOff_63 : decode cX11_isOff 63 = .ok (.getfield 362, 3) := by decide +kernel
theorem dX11_isOff_66 : decode cX11_isOff 66 = .ok (.iload_n 1, 1) := by decide +kernel
theorem dX11_isOff_67 : decode cX11_isOff 67 = .ok (.iaload, 1) := by decide +kernel
theorem dX11_isOff_68 : decode cX11_isOff 68 = .ok (.aload_n 0, 1) := by decide +kernel
theorem dX11_isOff_69 : decode cX11_isOff 69 = .ok (.iload_n 2, 1) := by decide +kernel
theorem dX11_isOff_70 : decode cX11_isOff 70 = .ok (.iload_n 3, 1) := by decide +kernel
theorem dX11_isOff_71 : decode cX11_isOff 71 = .ok (.iconst 0, 1) := by decide +kernel
theorem dX11_isOff_72 : decode cX11_isOff 72 = .ok (.invokevirtual 117, 3) := by decide +kernel
theorem dX11_isOff_75 : decode cX11_isOff 75 = .ok (.isub, 1) := by decide +kernel
theorem dX11_isOff_76 : decode cX11_isOff 76 = .ok (.invokestatic 337, 3) := by decide +kernel
theorem dX11_isOff_79 : decode cX11_isOff 79 = .ok (.iload 4, 2) := by decide +kernel
theorem dX11_isOff_81 : decode cX11_isOff 81 = .ok (.if_icmp .gt 31, 3) := by decide +kernel
theorem dX11_isOff_84 : decode cX11_isOff 84 = .ok (.aload_n 0, 1) := by decide +kernel
theorem dX11_isOff_85 : decode cX11_isOff 85 = .ok (.getfield 10, 3) := by decide +kernel
theorem dX11_isOff_88 : decode cX11_isOff 88 = .ok (.getfield 252, 3) := by decide +kernel
theorem dX11_isOff_91 : decode cX11_isOff 91 = .ok (.getfield 365, 3) := by decide +kernel
theorem dX11_isOff_94 : decode cX11_isOff 94 = .ok (.iload_n 1, 1) := by decide +kernel
theorem dX11_isOff_95 : decode cX11_isOff 95 = .ok (.iaload, 1) := by decide +kernel
theorem dX11_isOff_96 : decode cX11_isOff 96 = .ok (.aload_n 0, 1) := by decide +kernel
theorem dX11_isOff_97 : decode cX11_isOff 97 = .ok (.iload_n 2, 1) := by decide +kernel
theorem dX11_isOff_98 : decode cX11_isOff 98 = .ok (.iload_n 3, 1) := by decide +kernel
theorem dX11_isOff_99 : decode cX11_isOff 99 = .ok (.iconst 1, 1) := by decide +kernel
theorem dX11_isOff_100 : decode cX11_isOff 100 = .ok (.invokevirtual 117, 3) := by decide +kernel
theorem dX11_isOff_103 : decode cX11_isOff 103 = .ok (.isub, 1) := by decide +kernel
theorem dX11_isOff_104 : decode cX11_isOff 104 = .ok (.invokestatic 337, 3) := by decide +kernel
theorem dX11_isOff_107 : decode cX11_isOff 107 = .ok (.iload 4, 2) := by decide +kernel
theorem dX11_isOff_109 : decode cX11_isOff 109 = .ok (.if_icmp .le 7, 3) := by decide +kernel
theorem dX11_isOff_112 : decode cX11_isOff 112 = .ok (.iconst 1, 1) := by decide +kernel
theorem dX11_isOff_113 : decode cX11_isOff 113 = .ok (.goto 4, 3) := by decide +kernel
theorem dX11_isOff_116 : decode cX11_isOff 116 = .ok (.iconst 0, 1) := by decide +kernel
theorem dX11_isOff_117 : decode cX11_isOff 117 = .ok (.ireturn, 1) := by decide +kernel
theorem dX11_addDrop_0 : decode cX11_addDrop 0 = .ok (.aload_n 0, 1) := by decide +kernel
theorem dX11_addDrop_1 : decode cX11_addDrop 1 = .ok (.getfield 54, 3) := by decide +kernel
theorem dX11_addDrop_4 : decode cX11_addDrop 4 = .ok (.aload_n 0, 1) := by decide +kernel
theorem dX11_addDrop_5 : decode cX11_addDrop 5 = .ok (.getfield 10, 3) := by decide +kernel
theorem dX11_addDrop_8 : decode cX11_addDrop 8 = .ok (.getfield 252, 3) := by decide +kernel
theorem dX11_addDrop_11 : decode cX11_addDrop 11 = .ok (.getfield 368, 3) := by decide +kernel
theorem dX11_addDrop_14 : decode cX11_addDrop 14 = .ok (.iload_n 1, 1) := by decide +kernel
theorem dX11_addDrop_15 : decode cX11_addDrop 15 = .ok (.iaload, 1) := by decide +kernel
theorem dX11_addDrop_16 : decode cX11_addDrop 16 = .ok (.invokevirtual 371, 3) := by decide +kernel
theorem dX11_addDrop_19 : decode cX11_addDrop 19 = .ok (.iconst 0, 1) := by decide +kernel
theorem dX11_addDrop_20 : decode cX11_addDrop 20 = .ok (.istore_n 2, 1) := by decide +kernel
theorem dX11_addDrop_21 : decode cX11_addDrop 21 = .ok (.iload_n 2, 1) := by decide +kernel
theorem dX11_addDrop_22 : decode cX11_addDrop 22 = .ok (.aload_n 0, 1) := by decide +kernel
theorem dX11_addDrop_23 : decode cX11_addDrop 23 = .ok (.getfield 54, 3) := by decide +kernel
theorem dX11_addDrop_26 : decode cX11_addDrop 26 = .ok (.getfield 374, 3) := by decide +kernel
theorem dX11_addDrop_29 : decode cX11_addDrop 29 = .ok (.if_icmp .ge 79, 3) := by decide +kernel
theorem dX11_addDrop_32 : decode cX11_addDrop 32 = .ok (.aload_n 0, 1) := by decide +kernel
theorem dX11_addDrop_33 : decode cX11_addDrop 33 = .ok (.getfield 61, 3) := by decide +kernel
theorem dX11_addDrop_36 : decode cX11_addDrop 36 = .ok (.iload_n 2, 1) := by decide +kernel
theorem dX11_addDrop_37 : decode cX11_addDrop 37 = .ok (.iaload, 1) := by decide +kernel
theorem dX11_addDrop_38 : decode cX11_addDrop 38 = .ok (.istore_n 3, 1) := by decide +kernel
theorem dX11_addDrop_39 : decode cX11_addDrop 39 = .ok (.aload_n 0, 1) := by decide +kernel
theorem dX11_addDrop_40 : decode cX11_addDrop 40 = .ok (.getfield 10, 3) := by decide +kernel
theorem dX11_addDrop_43 : decode cX11_addDrop 43 = .ok (.getfield 71, 3) := by decide +kernel
theorem dX11_addDrop_46 : decode cX11_addDrop 46 = .ok (.getfield 377, 3) := by decide +kernel
theorem dX11_addDrop_49 : decode cX11_addDrop 49 = .ok (.iload_n 1, 1) := by decide +kernel
theorem dX11_addDrop_50 : decode cX11_addDrop 50 = .ok (.iaload, 1) := by decide +kernel
theorem dX11_addDrop_51 : decode cX11_addDrop 51 = .ok (.aload_n 0, 1) := by decide +kernel
theorem dX11_addDrop_52 : decode cX11_addDrop 52 = .ok (.getfield 10, 3) := by decide +kernel
theorem dX11_addDrop_55 : decode cX11_addDrop 55 = .ok (.getfield 71, 3) := by decide +kernel
theorem dX11_addDrop_58 : decode cX11_addDrop 58 = .ok (.getfield 377, 3) := by decide +kernel
theorem dX11_addDrop_61 : decode cX11_addDrop 61 = .ok (.iload_n 3, 1) := by decide +kernel
theorem dX11_addDrop_62 : decode cX11_addDrop 62 = .ok (.iaload, 1) := by decide +kernel
theorem dX11_addDrop_63 : decode cX11_addDrop 63 = .ok (.invokestatic 380, 3) := by decide +kernel
theorem dX11_addDrop_66 : decode cX11_addDrop 66 = .ok (.iconst 1, 1) := by decide +kernel
theorem dX11_addDrop_67 : decode cX11_addDrop 67 = .ok (.iadd, 1) := by decide +kernel
theorem dX11_addDrop_68 : decode cX11_addDrop 68 = .ok (.istore 4, 2) := by decide +kernel
theorem dX11_addDrop_70 : decode cX11_addDrop 70 = .ok (.aload_n 0, 1) := by decide +kernel
theorem dX11_addDrop_71 : decode cX11_addDrop 71 = .ok (.getfield 54, 3) := by decide +kernel
theorem dX11_addDrop_74 : decode cX11_addDrop 74 = .ok (.iload_n 2, 1) := by decide +kernel
theorem dX11_addDrop_75 : decode cX11_addDrop 75 = .ok (.iload_n 3, 1) := by decide +kernel
theorem dX11_addDrop_76 : decode cX11_addDrop 76 = .ok (.iload_n 1, 1) := by decide +kernel
theorem dX11_addDrop_77 : decode cX11_addDrop 77 = .ok (.if_icmp .ne 7, 3) := by decide +kernel
theorem dX11_addDrop_80 : decode cX11_addDrop 80 = .ok (.iconst 0, 1) := by decide +kernel
theorem dX11_addDrop_81 : decode cX11_addDrop 81 = .ok (.goto 18, 3) := by decide +kernel
theorem dX11_addDrop_84 : decode cX11_addDrop 84 = .ok (.aload_n 0, 1) := by decide +kernel
theorem dX11_addDrop_85 : decode cX11_addDrop 85 = .ok (.getfield 10, 3) := by decide +kernel
theorem dX11_addDrop_88 : decode cX11_addDrop 88 = .ok (.getfield 71, 3) := by decide +kernel
theorem dX11_addDrop_91 : decode cX11_addDrop 91 = .ok (.getfield 383, 3) := by decide +kernel
theorem dX11_addDrop_94 : decode cX11_addDrop 94 = .ok (.iload_n 3, 1) := by decide +kernel
theorem dX11_addDrop_95 : decode cX11_addDrop 95 = .ok (.iaload, 1) := by decide +kernel
theorem dX11_addDrop_96 : decode cX11_addDrop 96 = .ok (.iload 4, 2) := by decide +kernel
theorem dX11_addDrop_98 : decode cX11_addDrop 98 = .ok (.idiv, 1) := by decide +kernel
theorem dX11_addDrop_99 : decode cX11_addDrop 99 = .ok (.invokevirtual 386, 3) := by decide +kernel
theorem dX11_addDrop_102 : decode cX11_addDrop 102 = .ok (.iinc 2 1, 3) := by decide +kernel
theorem dX11_addDrop_105 : decode cX11_addDrop 105 = .ok (.goto (-84), 3) := by decide +kernel
theorem dX11_addDrop_108 : decode cX11_addDrop 108 = .ok (.return_, 1) := by decide +kernel
theorem dX11_addChange_0 : decode cX11_addChange 0 = .ok (.aload_n 0, 1) := by decide +kernel
theorem dX11_addChange_1 : decode cX11_addChange 1 = .ok (.getfield 54, 3) := by decide +kernel
theorem dX11_addChange_4 : decode cX11_addChange 4 = .ok (.aload_n 0, 1) := by decide +kernel
theorem dX11_addChange_5 : decode cX11_addChange 5 = .ok (.getfield 10, 3) := by decide +kernel
theorem dX11_addChange_8 : decode cX11_addChange 8 = .ok (.getfield 252, 3) := by decide +kernel
theorem dX11_addChange_11 : decode cX11_addChange 11 = .ok (.getfield 389, 3) := by decide +kernel
theorem dX11_addChange_14 : decode cX11_addChange 14 = .ok (.iload_n 1, 1) := by decide +kernel
theorem dX11_addChange_15 : decode cX11_addChange 15 = .ok (.iaload, 1) := by decide +kernel
theorem dX11_addChange_16 : decode cX11_addChange 16 = .ok (.invokevirtual 371, 3) := by decide +kernel
theorem dX11_addChange_19 : decode cX11_addChange 19 = .ok (.iconst 0, 1) := by decide +kernel
theorem dX11_addChange_20 : decode cX11_addChange 20 = .ok (.istore_n 2, 1) := by decide +kernel
theorem dX11_addChange_21 : decode cX11_addChange 21 = .ok (.iload_n 2, 1) := by decide +kernel
theorem dX11_addChange_22 : decode cX11_addChange 22 = .ok (.aload_n 0, 1) := by decide +kernel
theorem dX11_addChange_23 : decode cX11_addChange 23 = .ok (.getfield 54, 3) := by decide +kernel
theorem dX11_addChange_26 : decode cX11_addChange 26 = .ok (.getfield 374, 3) := by decide +kernel
theorem dX11_addChange_29 : decode cX11_addChange 29 = .ok (.if_icmp .ge 71, 3) := by decide +kernel
theorem dX11_addChange_32 : decode cX11_addChange 32 = .ok (.iload_n 1, 1) := by decide +kernel
theorem dX11_addChange_33 : decode cX11_addChange 33 = .ok (.aload_n 0, 1) := by decide +kernel
theorem dX11_addChange_34 : decode cX11_addChange 34 = .ok (.getfield 10, 3) := by decide +kernel
theorem dX11_addChange_37 : decode cX11_addChange 37 = .ok (.getfield 252, 3) := by decide +kernel
theorem dX11_addChange_40 : decode cX11_addChange 40 = .ok (.getfield 392, 3) := by decide +kernel
theorem dX11_addChange_43 : decode cX11_addChange 43 = .ok (.iload_n 2, 1) := by decide +kernel
theorem dX11_addChange_44 : decode cX11_addChange 44 = .ok (.iaload, 1) := by decide +kernel
theorem dX11_addChange_45 : decode cX11_addChange 45 = .ok (.invokestatic 380, 3) := by decide +kernel
theorem dX11_addChange_48 : decode cX11_addChange 48 = .ok (.istore_n 3, 1) := by decide +kernel
theorem dX11_addChange_49 : decode cX11_addChange 49 = .ok (.aload_n 0, 1) := by decide +kernel
theorem dX11_addChange_50 : decode cX11_addChange 50 = .ok (.getfield 10, 3) := by decide +kernel
theorem dX11_addChange_53 : decode cX11_addChange 53 = .ok (.getfield 252, 3) := by decide +kernel
theorem dX11_addChange_56 : decode cX11_addChange 56 = .ok (.getfield 395, 3) := by decide +kernel
theorem dX11_addChange_59 : decode cX11_addChange 59 = .ok (.iload_n 2, 1) := by decide +kernel
theorem dX11_addChange_60 : decode cX11_addChange 60 = .ok (.iaload, 1) := by decide +kernel
theorem dX11_addChange_61 : decode cX11_addChange 61 = .ok (.istore 4, 2) := by decide +kernel
theorem dX11_addChange_63 : decode cX11_addChange 63 = .ok (.aload_n 0, 1) := by decide +kernel
theorem dX11_addChange_64 : decode cX11_addChange 64 = .ok (.getfield 54, 3) := by decide +kernel
theorem dX11_addChange_67 : decode cX11_addChange 67 = .ok (.iload_n 2, 1) := by decide +kernel
theorem dX11_addChange_68 : decode cX11_addChange 68 = .ok (.iload_n 3, 1) := by decide +kernel
theorem dX11_addChange_69 : decode cX11_addChange 69 = .ok (.iconst 1, 1) := by decide +kernel
theorem dX11_addChange_70 : decode cX11_addChange 70 = .ok (.if_icmp .gt 8, 3) := by decide +kernel
theorem dX11_addChange_73 : decode cX11_addChange 73 = .ok (.iload 4, 2) := by decide +kernel
theorem dX11_addChange_75 : decode cX11_addChange 75 = .ok (.goto 16, 3) := by decide +kernel
theorem dX11_addChange_78 : decode cX11_addChange 78 = .ok (.iload_n 3, 1) := by decide +kernel
theorem dX11_addChange_79 : decode cX11_addChange 79 = .ok (.iconst 2, 1) := by decide +kernel
theorem dX11_addChange_80 : decode cX11_addChange 80 = .ok (.if_icmp .ne 10, 3) := by decide +kernel
theorem dX11_addChange_83 : decode cX11_addChange 83 = .ok (.iload 4, 2) := by decide +kernel
theorem dX11_addChange_85 : decode cX11_addChange 85 = .ok (.iconst 2, 1) := by decide +kernel
theorem dX11_addChange_86 : decode cX11_addChange 86 = .ok (.idiv, 1) := by decide +kernel
theorem dX11_addChange_87 : decode cX11_addChange 87 = .ok (.goto 4, 3) := by decide +kernel
theorem dX11_addChange_90 : decode cX11_addChange 90 = .ok (.iconst 0, 1) := by decide +kernel
theorem dX11_addChange_91 : decode cX11_addChange 91 = .ok (.invokevirtual 386, 3) := by decide +kernel
theorem dX11_addChange_94 : decode cX11_addChange 94 = .ok (.iinc 2 1, 3) := by decide +kernel
theorem dX11_addChange_97 : decode cX11_addChange 97 = .ok (.goto (-76), 3) := by decide +kernel
theorem dX11_addChange_100 : decode cX11_addChange 100 = .ok (.return_, 1) := by decide +kernel
theorem dX11_othersGive_0 : decode cX11_othersGive 0 = .ok (.aload_n 0, 1) := by decide +kernel
theorem dX11_othersGive_1 : decode cX11_othersGive 1 = .ok (.getfield 26, 3) := by decide +kernel
theorem dX11_othersGive_4 : decode cX11_othersGive 4 = .ok (.aload_n 0, 1) := by decide +kernel
theorem dX11_othersGive_5 : decode cX11_othersGive 5 = .ok (.getfield 10, 3) := by decide +kernel
theorem dX11_othersGive_8 : decode cX11_othersGive 8 = .ok (.getfield 71, 3) := by decide +kernel
theorem dX11_othersGive_11 : decode cX11_othersGive 11 = .ok (.invokevirtual 293, 3) := by decide +kernel
theorem dX11_othersGive_14 : decode cX11_othersGive 14 = .ok (.aload_n 0, 1) := by decide +kernel
theorem dX11_othersGive_15 : decode cX11_othersGive 15 = .ok (.getfield 26, 3) := by decide +kernel
theorem dX11_othersGive_18 : decode cX11_othersGive 18 = .ok (.iconst 1, 1) := by decide +kernel
theorem dX11_othersGive_19 : decode cX11_othersGive 19 = .ok (.iload_n 1, 1) := by decide +kernel
theorem dX11_othersGive_20 : decode cX11_othersGive 20 = .ok (.iload_n 2, 1) := by decide +kernel
theorem dX11_othersGive_21 : decode cX11_othersGive 21 = .ok (.aload_n 0, 1) := by decide +kernel
theorem dX11_othersGive_22 : decode cX11_othersGive 22 = .ok (.getfield 10, 3) := by decide +kernel
theorem dX11_othersGive_25 : decode cX11_othersGive 25 = .ok (.getfield 89, 3) := by decide +kernel
theorem dX11_othersGive_28 : decode cX11_othersGive 28 = .ok (.invokevirtual 92, 3) := by decide +kernel
theorem dX11_othersGive_31 : decode cX11_othersGive 31 = .ok (.istore_n 3, 1) := by decide +kernel
theorem dX11_othersGive_32 : decode cX11_othersGive 32 = .ok (.iconst 0, 1) := by decide +kernel
theorem dX11_othersGive_33 : decode cX11_othersGive 33 = .ok (.istore 4, 2) := by decide +kernel
theorem dX11_othersGive_35 : decode cX11_othersGive 35 = .ok (.iconst 0, 1) := by decide +kernel
theorem dX11_othersGive_36 : decode cX11_othersGive 36 = .ok (.istore 5, 2) := by decide +kernel
theorem dX11_othersGive_38 : decode cX11_othersGive 38 = .ok (.iload 5, 2) := by decide +kernel
theorem dX11_othersGive_40 : decode cX11_othersGive 40 = .ok (.iconst 5, 1) := by decide +kernel
theorem dX11_othersGive_41 : decode cX11_othersGive 41 = .ok (.if_icmp .ge 50, 3) := by decide +kernel
theorem dX11_othersGive_44 : decode cX11_othersGive 44 = .ok (.aload_n 0, 1) := by decide +kernel
theorem dX11_othersGive_45 : decode cX11_othersGive 45 = .ok (.getfield 26, 3) := by decide +kernel
theorem dX11_othersGive_48 : decode cX11_othersGive 48 = .ok (.invokevirtual 102, 3) := by decide +kernel
theorem dX11_othersGive_51 : decode cX11_othersGive 51 = .ok (.iconst 0, 1) := by decide +kernel
theorem dX11_othersGive_52 : decode cX11_othersGive 52 = .ok (.istore 6, 2) := by decide +kernel
theorem dX11_othersGive_54 : decode cX11_othersGive 54 = .ok (.iload 6, 2) := by decide +kernel
theorem dX11_othersGive_56 : decode cX11_othersGive 56 = .ok (.iload_n 3, 1) := by decide +kernel
theorem dX11_othersGive_57 : decode cX11_othersGive 57 = .ok (.if_icmp .ge 28, 3) := by decide +kernel
theorem dX11_othersGive_60 : decode cX11_othersGive 60 = .ok (.iload 4, 2) := by decide +kernel
theorem dX11_othersGive_62 : decode cX11_othersGive 62 = .ok (.aload_n 0, 1) := by decide +kernel
theorem dX11_othersGive_63 : decode cX11_othersGive 63 = .ok (.getfield 26, 3) := by decide +kernel
theorem dX11_othersGive_66 : decode cX11_othersGive 66 = .ok (.getfield 105, 3) := by decide +kernel
theorem dX11_othersGive_69 : decode cX11_othersGive 69 = .ok (.iload 6, 2) := by decide +kernel
theorem dX11_othersGive_71 : decode cX11_othersGive 71 = .ok (.iconst 4, 1) := by decide +kernel
theorem dX11_othersGive_72 : decode cX11_othersGive 72 = .ok (.imul, 1) := by decide +kernel
theorem dX11_othersGive_73 : decode cX11_othersGive 73 = .ok (.iconst 0, 1) := by decide +kernel
theorem dX11_othersGive_74 : decode cX11_othersGive 74 = .ok (.iadd, 1) := by decide +kernel
theorem dX11_othersGive_75 : decode cX11_othersGive 75 = .ok (.iaload, 1) := by decide +kernel
theorem dX11_othersGive_76 : decode cX11_othersGive 76 = .ok (.iadd, 1) := by decide +kernel
theorem dX11_othersGive_77 : decode cX11_othersGive 77 = .ok (.istore 4, 2) := by decide +kernel
theorem dX11_othersGive_79 : decode cX11_othersGive 79 = .ok (.iinc 6 1, 3) := by decide +kernel
theorem dX11_othersGive_82 : decode cX11_othersGive 82 = .ok (.goto (-28), 3) := by decide +kernel
theorem dX11_othersGive_85 : decode cX11_othersGive 85 = .ok (.iinc 5 1, 3) := by decide +kernel
theorem dX11_othersGive_88 : decode cX11_othersGive 88 = .ok (.goto (-50), 3) := by decide +kernel
theorem dX11_othersGive_91 : decode cX11_othersGive 91 = .ok (.iload 4, 2) := by decide +kernel
theorem dX11_othersGive_93 : decode cX11_othersGive 93 = .ok (.ireturn, 1) := by decide +kernel
theorem dX12_init_0 : decode cX12_init 0 = .ok (.aload_n 0, 1) := by decide +kernel
theorem dX12_init_1 : decode cX12_init 1 = .ok (.invokespecial 1, 3) := by decide +kernel
theorem dX12_init_4 : decode cX12_init 4 = .ok (.aload_n 0, 1) := by decide +kernel
theorem dX12_init_5 : decode cX12_init 5 = .ok (.sipush 21948, 3) := by decide +kernel
theorem dX12_init_8 : decode cX12_init 8 = .ok (.newarray .int, 2) := by decide +kernel
theorem dX12_init_10 : decode cX12_init 10 = .ok (.putfield 7, 3) := by decide +kernel
theorem dX12_init_13 : decode cX12_init 13 = .ok (.aload_n 0, 1) := by decide +kernel
theorem dX12_init_14 : decode cX12_init 14 = .ok (.sipush 21948, 3) := by decide +kernel
theorem dX12_init_17 : decode cX12_init 17 = .ok (.newarray .int, 2) := by decide +kernel
theorem dX12_init_19 : decode cX12_init 19 = .ok (.putfield 13, 3) := by decide +kernel
theorem dX12_init_22 : decode cX12_init 22 = .ok (.aload_n 0, 1) := by decide +kernel
theorem dX12_init_23 : decode cX12_init 23 = .ok (.bipush 12, 2) := by decide +kernel
theorem dX12_init_25 : decode cX12_init 25 = .ok (.newarray .int, 2) := by decide +kernel
theorem dX12_init_27 : decode cX12_init 27 = .ok (.putfield 16, 3) := by decide +kernel
theorem dX12_init_30 : decode cX12_init 30 = .ok (.aload_n 0, 1) := by decide +kernel
theorem dX12_init_31 : decode cX12_init 31 = .ok (.bipush 12, 2) := by decide +kernel
theorem dX12_init_33 : decode cX12_init 33 = .ok (.newarray .int, 2) := by decide +kernel
theorem dX12_init_35 : decode cX12_init 35 = .ok (.putfield 19, 3) := by decide +kernel
theorem dX12_init_38 : decode cX12_init 38 = .ok (.aload_n 0, 1) := by decide +kernel
theorem dX12_init_39 : decode cX12_init 39 = .ok (.bipush 12, 2) := by decide +kernel
theorem dX12_init_41 : decode cX12_init 41 = .ok (.newarray .int, 2) := by decide +kernel
theorem dX12_init_43 : decode cX12_init 43 = .ok (.putfield 22, 3) := by decide +kernel
theorem dX12_init_46 : decode cX12_init 46 = .ok (.aload_n 0, 1) := by decide +kernel
theorem dX12_init_47 : decode cX12_init 47 = .ok (.bipush 12, 2) := by decide +kernel
theorem dX12_init_49 : decode cX12_init 49 = .ok (.newarray .int, 2) := by decide +kernel
theorem dX12_init_51 : decode cX12_init 51 = .ok (.putfield 25, 3) := by decide +kernel
theorem dX12_init_54 : decode cX12_init 54 = .ok (.aload_n 0, 1) := by decide +kernel
theorem dX12_init_55 : decode cX12_init 55 = .ok (.bipush 30, 2) := by decide +kernel
theorem dX12_init_57 : decode cX12_init 57 = .ok (.newarray .int, 2) := by decide +kernel
theorem dX12_init_59 : decode cX12_init 59 = .ok (.putfield 28, 3) := by decide +kernel
theorem dX12_init_62 : decode cX12_init 62 = .ok (.aload_n 0, 1) := by decide +kernel
theorem dX12_init_63 : decode cX12_init 63 = .ok (.bipush 30, 2) := by decide +kernel
theorem dX12_init_65 : decode cX12_init 65 = .ok (.newarray .int, 2) := by decide +kernel
theorem dX12_init_67 : decode cX12_init 67 = .ok (.putfield 31, 3) := by decide +kernel
theorem dX12_init_70 : decode cX12_init 70 = .ok (.aload_n 0, 1) := by decide +kernel
theorem dX12_init_71 : decode cX12_init 71 = .ok (.bipush 8, 2) := by decide +kernel
theorem dX12_init_73 : decode cX12_init 73 = .ok (.newarray .int, 2) := by decide +kernel
theorem dX12_init_75 : decode cX12_init 75 = .ok (.putfield 34, 3) := by decide +kernel
theorem dX12_init_78 : decode cX12_init 78 = .ok (.aload_n 0, 1) := by decide +kernel
theorem dX12_init_79 : decode cX12_init 79 = .ok (.bipush 8, 2) := by decide +kernel
theorem dX12_init_81 : decode cX12_init 81 = .ok (.newarray .int, 2) := by decide +kernel
theorem dX12_init_83 : decode cX12_init 83 = .ok (.putfield 37, 3) := by decide +kernel
theorem dX12_init_86 : decode cX12_init 86 = .ok (.aload_n 0, 1) := by decide +kernel
theorem dX12_init_87 : decode cX12_init 87 = .ok (.sipush 2401, 3) := by decide +kernel
theorem dX12_init_90 : decode cX12_init 90 = .ok (.newarray .boolean, 2) := by decide +kernel
theorem dX12_init_92 : decode cX12_init 92 = .ok (.putfield 40, 3) := by decide +kernel
theorem dX12_init_95 : decode cX12_init 95 = .ok (.aload_n 0, 1) := by decide +kernel
theorem dX12_init_96 : decode cX12_init 96 = .ok (.sipush 2401, 3) := by decide +kernel
theorem dX12_init_99 : decode cX12_init 99 = .ok (.newarray .boolean, 2) := by decide +kernel
theorem dX12_init_101 : decode cX12_init 101 = .ok (.putfield 44, 3) := by decide +kernel
theorem dX12_init_104 : decode cX12_init 104 = .ok (.aload_n 0, 1) := by decide +kernel
theorem dX12_init_105 : decode cX12_init 105 = .ok (.iconst 4, 1) := by decide +kernel
theorem dX12_init_106 : decode cX12_init 106 = .ok (.newarray .int, 2) := by decide +kernel
theorem dX12_init_108 : decode cX12_init 108 = .ok (.putfield 47, 3) := by decide +kernel
theorem dX12_init_111 : decode cX12_init 111 = .ok (.aload_n 0, 1) := by decide +kernel
theorem dX12_init_112 : decode cX12_init 112 = .ok (.iconst 4, 1) := by decide +kernel
theorem dX12_init_113 : decode cX12_init 113 = .ok (.newarray .int, 2) := by decide +kernel
theorem dX12_init_115 : decode cX12_init 115 = .ok (.putfield 50, 3) := by decide +kernel
theorem dX12_init_118 : decode cX12_init 118 = .ok (.aload_n 0, 1) := by decide +kernel
theorem dX12_init_119 : decode cX12_init 119 = .ok (.bipush 8, 2) := by decide +kernel
theorem dX12_init_121 : decode cX12_init 121 = .ok (.newarray .int, 2) := by decide +kernel
theorem dX12_init_123 : decode cX12_init 123 = .ok (.putfield 53, 3) := by decide +kernel
theorem dX12_init_126 : decode cX12_init 126 = .ok (.aload_n 0, 1) := by decide +kernel
theorem dX12_init_127 : decode cX12_init 127 = .ok (.bipush 8, 2) := by decide +kernel
theorem dX12_init_129 : decode cX12_init 129 = .ok (.newarray .int, 2) := by decide +kernel
theorem dX12_init_131 : decode cX12_init 131 = .ok (.putfield 56, 3) := by decide +kernel
theorem dX12_init_134 : decode cX12_init 134 = .ok (.aload_n 0, 1) := by decide +kernel
theorem dX12_init_135 : decode cX12_init 135 = .ok (.bipush 60, 2) := by decide +kernel
theorem dX12_init_137 : decode cX12_init 137 = .ok (.newarray .int, 2) := by decide +kernel
theorem dX12_init_139 : decode cX12_init 139 = .ok (.putfield 59, 3) := by decide +kernel
theorem dX12_init_142 : decode cX12_init 142 = .ok (.aload_n 0, 1) := by decide +kernel
theorem dX12_init_143 : decode cX12_init 143 = .ok (.bipush 12, 2) := by decide +kernel
theorem dX12_init_145 : decode cX12_init 145 = .ok (.newarray .int, 2) := by decide +kernel
theorem dX12_init_147 : decode cX12_init 147 = .ok (.putfield 62, 3) := by decide +kernel
theorem dX12_init_150 : decode cX12_init 150 = .ok (.iconst 0, 1) := by decide +kernel
theorem dX12_init_151 : decode cX12_init 151 = .ok (.istore_n 1, 1) := by decide +kernel
theorem dX12_init_152 : decode cX12_init 152 = .ok (.iload_n 1, 1) := by decide +kernel
theorem dX12_init_153 : decode cX12_init 153 = .ok (.bipush 12, 2) := by decide +kernel
theorem dX12_init_155 : decode cX12_init 155 = .ok (.if_icmp .ge 20, 3) := by decide +kernel
theorem dX12_init_158 : decode cX12_init 158 = .ok (.aload_n 0, 1) := by decide +kernel
theorem dX12_init_159 : decode cX12_init 159 = .ok (.getfield 7, 3) := by decide +kernel
theorem dX12_init_162 : decode cX12_init 162 = .ok (.sipush 2570, 3) := by decide +kernel
theorem dX12_init_165 : decode cX12_init 165 = .ok (.iload_n 1, 1) := by decide +kernel
theorem dX12_init_166 : decode cX12_init 166 = .ok (.iadd, 1) := by decide +kernel
theorem dX12_init_167 : decode cX12_init 167 = .ok (.iconst (-1), 1) := by decide +kernel
theorem dX12_init_168 : decode cX12_init 168 = .ok (.iastore, 1) := by decide +kernel
theorem dX12_init_169 : decode cX12_init 169 = .ok (.iinc 1 1, 3) := by decide +kernel
theorem dX12_init_172 : decode cX12_init 172 = .ok (.goto (-20), 3) := by decide +kernel
theorem dX12_init_175 : decode cX12_init 175 = .ok (.return_, 1) := by decide +kernel
theorem dX12_in_0 : decode cX12_in 0 = .ok (.iload_n 0, 1) := by decide +kernel
theorem dX12_in_1 : decode cX12_in 1 = .ok (.iload_n 1, 1) := by decide +kernel
theorem dX12_in_2 : decode cX12_in 2 = .ok (.if_icmp .lt 12, 3) := by decide +kernel
theorem dX12_in_5 : decode cX12_in 5 = .ok (.iload_n 0, 1) := by decide +kernel
theorem dX12_in_6 : decode cX12_in 6 = .ok (.iload_n 2, 1) := by decide +kernel
theorem dX12_in_7 : decode cX12_in 7 = .ok (.if_icmp .gt 7, 3) := by decide +kernel
theorem dX12_in_10 : decode cX12_in 10 = .ok (.iconst 1, 1) := by decide +kernel
theorem dX12_in_11 : decode cX12_in 11 = .ok (.goto 4, 3) := by decide +kernel
theorem dX12_in_14 : decode cX12_in 14 = .ok (.iconst 0, 1) := by decide +kernel
theorem dX12_in_15 : decode cX12_in 15 = .ok (.ireturn, 1) := by decide +kernel
theorem dX12_isCell_0 : decode cX12_isCell 0 = .ok (.iload_n 0, 1) := by decide +kernel
theorem dX12_isCell_1 : decode cX12_isCell 1 = .ok (.iconst 0, 1) := by decide +kernel
theorem dX12_isCell_2 : decode cX12_isCell 2 = .ok (.bipush 29, 2) := by decide +kernel
theorem dX12_isCell_4 : decode cX12_isCell 4 = .ok (.invokestatic 69, 3) := by decide +kernel
theorem dX12_isCell_7 : decode cX12_isCell 7 = .ok (.ireturn, 1) := by decide +kernel
theorem dX12_isTap_0 : decode cX12_isTap 0 = .ok (.iload_n 1, 1) := by decide +kernel
theorem dX12_isTap_1 : decode cX12_isTap 1 = .ok (.iconst 0, 1) := by decide +kernel
theorem dX12_isTap_2 : decode cX12_isTap 2 = .ok (.aload_n 0, 1) := by decide +kernel
theorem dX12_isTap_3 : decode cX12_isTap 3 = .ok (.getfield 7, 3) := by decide +kernel
theorem dX12_isTap_6 : decode cX12_isTap 6 = .ok (.iconst 1, 1) := by decide +kernel
theorem dX12_isTap_7 : decode cX12_isTap 7 = .ok (.iaload, 1) := by decide +kernel
theorem dX12_isTap_8 : decode cX12_isTap 8 = .ok (.iconst 1, 1) := by decide +kernel
theorem dX12_isTap_9 : decode cX12_isTap 9 = .ok (.isub, 1) := by decide +kernel
theorem dX12_isTap_10 : decode cX12_isTap 10 = .ok (.invokestatic 69, 3) := by decide +kernel
theorem dX12_isTap_13 : decode cX12_isTap 13 = .ok (.ireturn, 1) := by decide +kernel
theorem dX12_isTaker_0 : decode cX12_isTaker 0 = .ok (.iload_n 1, 1) := by decide +kernel
theorem dX12_isTaker_1 : decode cX12_isTaker 1 = .ok (.iconst 0, 1) := by decide +kernel
theorem dX12_isTaker_2 : decode cX12_isTaker 2 = .ok (.aload_n 0, 1) := by decide +kernel
theorem dX12_isTaker_3 : decode cX12_isTaker 3 = .ok (.getfield 7, 3) := by decide +kernel
theorem dX12_isTaker_6 : decode cX12_isTaker 6 = .ok (.iconst 3, 1) := by decide +kernel
theorem dX12_isTaker_7 : decode cX12_isTaker 7 = .ok (.iaload, 1) := by decide +kernel
theorem dX12_isTaker_8 : decode cX12_isTaker 8 = .ok (.iconst 1, 1) := by decide +kernel
theorem dX12_isTaker_9 : decode cX12_isTaker 9 = .ok (.isub, 1) := by decide +kernel
theorem dX12_isTaker_10 : decode cX12_isTaker 10 = .ok (.invokestatic 69, 3) := by decide +kernel
theorem dX12_isTaker_13 : decode cX12_isTaker 13 = .ok (.ireturn, 1) := by decide +kernel
theorem dX12_isDay_0 : decode cX12_isDay 0 = .ok (.iload_n 0, 1) := by decide +kernel
theorem dX12_isDay_1 : decode cX12_isDay 1 = .ok (.iconst 0, 1) := by decide +kernel
theorem dX12_isDay_2 : decode cX12_isDay 2 = .ok (.sipush 400, 3) := by decide +kernel
theorem dX12_isDay_5 : decode cX12_isDay 5 = .ok (.invokestatic 69, 3) := by decide +kernel
theorem dX12_isDay_8 : decode cX12_isDay 8 = .ok (.ireturn, 1) := by decide +kernel
theorem dX12_isGone_0 : decode cX12_isGone 0 = .ok (.iload_n 1, 1) := by decide +kernel
theorem dX12_isGone_1 : decode cX12_isGone 1 = .ok (.iconst 0, 1) := by decide +kernel
theorem dX12_isGone_2 : decode cX12_isGone 2 = .ok (.aload_n 0, 1) := by decide +kernel
theorem dX12_isGone_3 : decode cX12_isGone 3 = .ok (.getfield 7, 3) := by decide +kernel
theorem dX12_isGone_6 : decode cX12_isGone 6 = .ok (.iconst 0, 1) := by decide +kernel
theorem dX12_isGone_7 : decode cX12_isGone 7 = .ok (.iaload, 1) := by decide +kernel
theorem dX12_isGone_8 : decode cX12_isGone 8 = .ok (.iconst 1, 1) := by decide +kernel
theorem dX12_isGone_9 : decode cX12_isGone 9 = .ok (.isub, 1) := by decide +kernel
theorem dX12_isGone_10 : decode cX12_isGone 10 = .ok (.invokestatic 69, 3) := by decide +kernel
theorem dX12_isGone_13 : decode cX12_isGone 13 = .ok (.ireturn, 1) := by decide +kernel
theorem dX12_size_0 : decode cX12_size 0 = .ok (.iload_n 0, 1) := by decide +kernel
theorem dX12_size_1 : decode cX12_size 1 = .ok (.ifCond .ge 8, 3) := by decide +kernel
theorem dX12_size_4 : decode cX12_size 4 = .ok (.iload_n 0, 1) := by decide +kernel
theorem dX12_size_5 : decode cX12_size 5 = .ok (.ineg, 1) := by decide +kernel
theorem dX12_size_6 : decode cX12_size 6 = .ok (.goto 4, 3) := by decide +kernel
theorem dX12_size_9 : decode cX12_size 9 = .ok (.iload_n 0, 1) := by decide +kernel
theorem dX12_size_10 : decode cX12_size 10 = .ok (.ireturn, 1) := by decide +kernel
theorem dX12_apart_0 : decode cX12_apart 0 = .ok (.iload_n 0, 1) := by decide +kernel
theorem dX12_apart_1 : decode cX12_apart 1 = .ok (.bipush 6, 2) := by decide +kernel
theorem dX12_apart_3 : decode cX12_apart 3 = .ok (.irem, 1) := by decide +kernel
theorem dX12_apart_4 : decode cX12_apart 4 = .ok (.iload_n 1, 1) := by decide +kernel
theorem dX12_apart_5 : decode cX12_apart 5 = .ok (.bipush 6, 2) := by decide +kernel
theorem dX12_apart_7 : decode cX12_apart 7 = .ok (.irem, 1) := by decide +kernel
theorem dX12_apart_8 : decode cX12_apart 8 = .ok (.isub, 1) := by decide +kernel
theorem dX12_apart_9 : decode cX12_apart 9 = .ok (.invokestatic 73, 3) := by decide +kernel
theorem dX12_apart_12 : decode cX12_apart 12 = .ok (.iload_n 0, 1) := by decide +kernel
theorem dX12_apart_13 : decode cX12_apart 13 = .ok (.bipush 6, 2) := by decide +kernel
theorem dX12_apart_15 : decode cX12_apart 15 = .ok (.idiv, 1) := by decide +kernel
theorem dX12_apart_16 : decode cX12_apart 16 = .ok (.iload_n 1, 1) := by decide +kernel
theorem dX12_apart_17 : decode cX12_apart 17 = .ok (.bipush 6, 2) := by decide +kernel
theorem dX12_apart_19 : decode cX12_apart 19 = .ok (.idiv, 1) := by decide +kernel
theorem dX12_apart_20 : decode cX12_apart 20 = .ok (.isub, 1) := by decide +kernel
theorem dX12_apart_21 : decode cX12_apart 21 = .ok (.invokestatic 73, 3) := by decide +kernel
theorem dX12_apart_24 : decode cX12_apart 24 = .ok (.iadd, 1) := by decide +kernel
theorem dX12_apart_25 : decode cX12_apart 25 = .ok (.ireturn, 1) := by decide +kernel
theorem dX12_under_0 : decode cX12_under 0 = .ok (.iload_n 1, 1) := by decide +kernel
theorem dX12_under_1 : decode cX12_under 1 = .ok (.invokestatic 77, 3) := by decide +kernel
theorem dX12_under_4 : decode cX12_under 4 = .ok (.ifCond .eq 12, 3) := by decide +kernel
theorem dX12_under_7 : decode cX12_under 7 = .ok (.iload_n 2, 1) := by decide +kernel
theorem dX12_under_8 : decode cX12_under 8 = .ok (.iconst 0, 1) := by decide +kernel
theorem dX12_under_9 : decode cX12_under 9 = .ok (.iconst 3, 1) := by decide +kernel
theorem dX12_under_10 : decode cX12_under 10 = .ok (.invokestatic 69, 3) := by decide +kernel
theorem dX12_under_13 : decode cX12_under 13 = .ok (.ifCond .ne 5, 3) := by decide +kernel
theorem dX12_under_16 : decode cX12_under 16 = .ok (.iconst (-1), 1) := by decide +kernel
theorem dX12_under_17 : decode cX12_under 17 = .ok (.ireturn, 1) := by decide +kernel
theorem dX12_under_18 : decode cX12_under 18 = .ok (.iload_n 3, 1) := by decide +kernel
theorem dX12_under_19 : decode cX12_under 19 = .ok (.iconst 0, 1) := by decide +kernel
theorem dX12_under_20 : decode cX12_under 20 = .ok (.iload_n 2, 1) := by decide +kernel
theorem dX12_under_21 : decode cX12_under 21 = .ok (.ifCond .ne 9, 3) := by decide +kernel
theorem dX12_under_24 : decode cX12_under 24 = .ok (.sipush 1500, 3) := by decide +kernel
theorem dX12_under_27 : decode cX12_under 27 = .ok (.goto 27, 3) := by decide +kernel
theorem dX12_under_30 : decode cX12_under 30 = .ok (.iload_n 2, 1) := by decide +kernel
theorem dX12_under_31 : decode cX12_under 31 = .ok (.iconst 1, 1) := by decide +kernel
theorem dX12_under_32 : decode cX12_under 32 = .ok (.if_icmp .ne 9, 3) := by decide +kernel
theorem dX12_under_35 : decode cX12_under 35 = .ok (.sipush 9999, 3) := by decide +kernel
theorem dX12_under_38 : decode cX12_under 38 = .ok (.goto 16, 3) := by decide +kernel
theorem dX12_under_41 : decode cX12_under 41 = .ok (.iload_n 2, 1) := by decide +kernel
theorem dX12_under_42 : decode cX12_under 42 = .ok (.iconst 2, 1) := by decide +kernel
theorem dX12_under_43 : decode cX12_under 43 = .ok (.if_icmp .ne 8, 3) := by decide +kernel
theorem dX12_under_46 : decode cX12_under 46 = .ok (.bipush 99, 2) := by decide +kernel
theorem dX12_under_48 : decode cX12_under 48 = .ok (.goto 6, 3) := by decide +kernel
theorem dX12_under_51 : decode cX12_under 51 = .ok (.sipush 999, 3) := by decide +kernel
theorem dX12_under_54 : decode cX12_under 54 = .ok (.invokestatic 69, 3) := by decide +kernel
theorem dX12_under_57 : decode cX12_under 57 = .ok (.ifCond .ne 6, 3) := by decide +kernel
theorem dX12_under_60 : decode cX12_under 60 = .ok (.bipush (-2), 2) := by decide +kernel
theorem dX12_under_62 : decode cX12_under 62 = .ok (.ireturn, 1) := by decide +kernel
theorem dX12_under_63 : decode cX12_under 63 = .ok (.aload_n 0, 1) := by decide +kernel
theorem dX12_under_64 : decode cX12_under 64 = .ok (.getfield 7, 3) := by decide +kernel
theorem dX12_under_67 : decode cX12_under 67 = .ok (.bipush 20, 2) := by decide +kernel
theorem dX12_under_69 : decode cX12_under 69 = .ok (.bipush 30, 2) := by decide +kernel
theorem dX12_under_71 : decode cX12_under 71 = .ok (.iload_n 2, 1) := by decide +kernel
theorem dX12_under_72 : decode cX12_under 72 = .ok (.imul, 1) := by decide +kernel
theorem dX12_under_73 : decode cX12_under 73 = .ok (.iadd, 1) := by decide +kernel
theorem dX12_under_74 : decode cX12_under 74 = .ok (.iload_n 1, 1) := by decide +kernel
theorem dX12_under_75 : decode cX12_under 75 = .ok (.iadd, 1) := by decide +kernel
theorem dX12_under_76 : decode cX12_under 76 = .ok (.iaload, 1) := by decide +kernel
theorem dX12_under_77 : decode cX12_under 77 = .ok (.istore 4, 2) := by decide +kernel
theorem dX12_under_79 : decode cX12_under 79 = .ok (.aload_n 0, 1) := by decide +kernel
theorem dX12_under_80 : decode cX12_under 80 = .ok (.getfield 7, 3) := by decide +kernel
theorem dX12_under_83 : decode cX12_under 83 = .ok (.bipush 20, 2) := by decide +kernel
theorem dX12_under_85 : decode cX12_under 85 = .ok (.bipush 30, 2) := by decide +kernel
theorem dX12_under_87 : decode cX12_under 87 = .ok (.iload_n 2, 1) := by decide +kernel
theorem dX12_under_88 : decode cX12_under 88 = .ok (.imul, 1) := by decide +kernel
theorem dX12_under_89 : decode cX12_under 89 = .ok (.iadd, 1) := by decide +kernel
theorem dX12_under_90 : decode cX12_under 90 = .ok (.iload_n 1, 1) := by decide +kernel
theorem dX12_under_91 : decode cX12_under 91 = .ok (.iadd, 1) := by decide +kernel
theorem dX12_under_92 : decode cX12_under 92 = .ok (.iload_n 3, 1) := by decide +kernel
theorem dX12_under_93 : decode cX12_under 93 = .ok (.iastore, 1) := by decide +kernel
theorem dX12_under_94 : decode cX12_under 94 = .ok (.iload 4, 2) := by decide +kernel
theorem dX12_under_96 : decode cX12_under 96 = .ok (.ireturn, 1) := by decide +kernel
theorem dX12_cell_0 : decode cX12_cell 0 = .ok (.iload_n 1, 1) := by decide +kernel
theorem dX12_cell_1 : decode cX12_cell 1 = .ok (.invokestatic 77, 3) := by decide +kernel
theorem dX12_cell_4 : decode cX12_cell 4 = .ok (.ifCond .eq 29, 3) := by decide +kernel
theorem dX12_cell_7 : decode cX12_cell 7 = .ok (.iload_n 2, 1) := by decide +kernel
theorem dX12_cell_8 : decode cX12_cell 8 = .ok (.iconst 0, 1) := by decide +kernel
theorem dX12_cell_9 : decode cX12_cell 9 = .ok (.iconst 3, 1) := by decide +kernel
theorem dX12_cell_10 : decode cX12_cell 10 = .ok (.invokestatic 69, 3) := by decide +kernel
theorem dX12_cell_13 : decode cX12_cell 13 = .ok (.ifCond .eq 20, 3) := by decide +kernel
theorem dX12_cell_16 : decode cX12_cell 16 = .ok (.aload_n 0, 1) := by decide +kernel
theorem dX12_cell_17 : decode cX12_cell 17 = .ok (.getfield 7, 3) := by decide +kernel
theorem dX12_cell_20 : decode cX12_cell 20 = .ok (.bipush 20, 2) := by decide +kernel
theorem dX12_cell_22 : decode cX12_cell 22 = .ok (.bipush 30, 2) := by decide +kernel
theorem dX12_cell_24 : decode cX12_cell 24 = .ok (.iload_n 2, 1) := by decide +kernel
theorem dX12_cell_25 : decode cX12_cell 25 = .ok (.imul, 1) := by decide +kernel
theorem dX12_cell_26 : decode cX12_cell 26 = .ok (.iadd, 1) := by decide +kernel
theorem dX12_cell_27 : decode cX12_cell 27 = .ok (.iload_n 1, 1) := by decide +kernel
theorem dX12_cell_28 : decode cX12_cell 28 = .ok (.iadd, 1) := by decide +kernel
theorem dX12_cell_29 : decode cX12_cell 29 = .ok (.iaload, 1) := by decide +kernel
theorem dX12_cell_30 : decode cX12_cell 30 = .ok (.goto 4, 3) := by decide +kernel
theorem dX12_cell_33 : decode cX12_cell 33 = .ok (.iconst (-1), 1) := by decide +kernel
theorem dX12_cell_34 : decode cX12_cell 34 = .ok (.ireturn, 1) := by decide +kernel
theorem dX12_mayBe_0 : decode cX12_mayBe 0 = .ok (.aload_n 0, 1) := by decide +kernel
theorem dX12_mayBe_1 : decode cX12_mayBe 1 = .ok (.iconst 1, 1) := by decide +kernel
theorem dX12_mayBe_2 : decode cX12_mayBe 2 = .ok (.aload_n 0, 1) := by decide +kernel
theorem dX12_mayBe_3 : decode cX12_mayBe 3 = .ok (.getfield 7, 3) := by decide +kernel
theorem dX12_mayBe_6 : decode cX12_mayBe 6 = .ok (.iconst 0, 1) := by decide +kernel
theorem dX12_mayBe_7 : decode cX12_mayBe 7 = .ok (.iaload, 1) := by decide +kernel
theorem dX12_mayBe_8 : decode cX12_mayBe 8 = .ok (.invokevirtual 81, 3) := by decide +kernel
theorem dX12_mayBe_11 : decode cX12_mayBe 11 = .ok (.istore 4, 2) := by decide +kernel
theorem dX12_mayBe_13 : decode cX12_mayBe 13 = .ok (.iload_n 3, 1) := by decide +kernel
theorem dX12_mayBe_14 : decode cX12_mayBe 14 = .ok (.iload_n 2, 1) := by decide +kernel
theorem dX12_mayBe_15 : decode cX12_mayBe 15 = .ok (.iconst 2, 1) := by decide +kernel
theorem dX12_mayBe_16 : decode cX12_mayBe 16 = .ok (.if_icmp .ne 10, 3) := by decide +kernel
theorem dX12_mayBe_19 : decode cX12_mayBe 19 = .ok (.iconst 2, 1) := by decide +kernel
theorem dX12_mayBe_20 : decode cX12_mayBe 20 = .ok (.iload 4, 2) := by decide +kernel
theorem dX12_mayBe_22 : decode cX12_mayBe 22 = .ok (.imul, 1) := by decide +kernel
theorem dX12_mayBe_23 : decode cX12_mayBe 23 = .ok (.goto 5, 3) := by decide +kernel
theorem dX12_mayBe_26 : decode cX12_mayBe 26 = .ok (.iload 4, 2) := by decide +kernel
theorem dX12_mayBe_28 : decode cX12_mayBe 28 = .ok (.if_icmp .gt 7, 3) := by decide +kernel
theorem dX12_mayBe_31 : decode cX12_mayBe 31 = .ok (.iconst 1, 1) := by decide +kernel
theorem dX12_mayBe_32 : decode cX12_mayBe 32 = .ok (.goto 4, 3) := by decide +kernel
theorem dX12_mayBe_35 : decode cX12_mayBe 35 = .ok (.iconst 0, 1) := by decide +kernel
theorem dX12_mayBe_36 : decode cX12_mayBe 36 = .ok (.istore 5, 2) := by decide +kernel
theorem dX12_mayBe_38 : decode cX12_mayBe 38 = .ok (.iconst 0, 1) := by decide +kernel
theorem dX12_mayBe_39 : decode cX12_mayBe 39 = .ok (.istore 6, 2) := by decide +kernel
theorem dX12_mayBe_41 : decode cX12_mayBe 41 = .ok (.iload 6, 2) := by decide +kernel
theorem dX12_mayBe_43 : decode cX12_mayBe 43 = .ok (.aload_n 0, 1) := by decide +kernel
theorem dX12_mayBe_44 : decode cX12_mayBe 44 = .ok (.getfield 7, 3) := by decide +kernel
theorem dX12_mayBe_47 : decode cX12_mayBe 47 = .ok (.iconst 1, 1) := by decide +kernel
theorem dX12_mayBe_48 : decode cX12_mayBe 48 = .ok (.iaload, 1) := by decide +kernel
theorem dX12_mayBe_49 : decode cX12_mayBe 49 = .ok (.if_icmp .ge 50, 3) := by decide +kernel
theorem dX12_mayBe_52 : decode cX12_mayBe 52 = .ok (.iload 5, 2) := by decide +kernel
theorem dX12_mayBe_54 : decode cX12_mayBe 54 = .ok (.ifCond .eq 36, 3) := by decide +kernel
theorem dX12_mayBe_57 : decode cX12_mayBe 57 = .ok (.aload_n 0, 1) := by decide +kernel
theorem dX12_mayBe_58 : decode cX12_mayBe 58 = .ok (.getfield 7, 3) := by decide +kernel
theorem dX12_mayBe_61 : decode cX12_mayBe 61 = .ok (.sipush 152, 3) := by decide +kernel
theorem dX12_mayBe_64 : decode cX12_mayBe 64 = .ok (.iload 6, 2) := by decide +kernel
theorem dX12_mayBe_66 : decode cX12_mayBe 66 = .ok (.iadd, 1) := by decide +kernel
theorem dX12_mayBe_67 : decode cX12_mayBe 67 = .ok (.iaload, 1) := by decide +kernel
theorem dX12_mayBe_68 : decode cX12_mayBe 68 = .ok (.iload_n 1, 1) := by decide +kernel
theorem dX12_mayBe_69 : decode cX12_mayBe 69 = .ok (.invokestatic 85, 3) := by decide +kernel
theorem dX12_mayBe_72 : decode cX12_mayBe 72 = .ok (.aload_n 0, 1) := by decide +kernel
theorem dX12_mayBe_73 : decode cX12_mayBe 73 = .ok (.iconst 2, 1) := by decide +kernel
theorem dX12_mayBe_74 : decode cX12_mayBe 74 = .ok (.aload_n 0, 1) := by decide +kernel
theorem dX12_mayBe_75 : decode cX12_mayBe 75 = .ok (.getfield 7, 3) := by decide +kernel
theorem dX12_mayBe_78 : decode cX12_mayBe 78 = .ok (.iconst 0, 1) := by decide +kernel
theorem dX12_mayBe_79 : decode cX12_mayBe 79 = .ok (.iaload, 1) := by decide +kernel
theorem dX12_mayBe_80 : decode cX12_mayBe 80 = .ok (.invokevirtual 81, 3) := by decide +kernel
theorem dX12_mayBe_83 : decode cX12_mayBe 83 = .ok (.if_icmp .lt 7, 3) := by decide +kernel
theorem dX12_mayBe_86 : decode cX12_mayBe 86 = .ok (.iconst 1, 1) := by decide +kernel
theorem dX12_mayBe_87 : decode cX12_mayBe 87 = .ok (.goto 4, 3) := by decide +kernel
theorem dX12_mayBe_90 : decode cX12_mayBe 90 = .ok (.iconst 0, 1) := by decide +kernel
theorem dX12_mayBe_91 : decode cX12_mayBe 91 = .ok (.istore 5, 2) := by decide +kernel
theorem dX12_mayBe_93 : decode cX12_mayBe 93 = .ok (.iinc 6 1, 3) := by decide +kernel
theorem dX12_mayBe_96 : decode cX12_mayBe 96 = .ok (.goto (-55), 3) := by decide +kernel
theorem dX12_mayBe_99 : decode cX12_mayBe 99 = .ok (.iload 5, 2) := by decide +kernel
theorem dX12_mayBe_101 : decode cX12_mayBe 101 = .ok (.ireturn, 1) := by decide +kernel
theorem dX12_hasTap_0 : decode cX12_hasTap 0 = .ok (.iconst 0, 1) := by decide +kernel
theorem dX12_hasTap_1 : decode cX12_hasTap 1 = .ok (.istore_n 2, 1) := by decide +kernel
theorem dX12_hasTap_2 : decode cX12_hasTap 2 = .ok (.iconst 0, 1) := by decide +kernel
theorem dX12_hasTap_3 : decode cX12_hasTap 3 = .ok (.istore_n 3, 1) := by decide +kernel
theorem dX12_hasTap_4 : decode cX12_hasTap 4 = .ok (.iload_n 3, 1) := by decide +kernel
theorem dX12_hasTap_5 : decode cX12_hasTap 5 = .ok (.aload_n 0, 1) := by decide +kernel
theorem dX12_hasTap_6 : decode cX12_hasTap 6 = .ok (.getfield 7, 3) := by decide +kernel
theorem dX12_hasTap_9 : decode cX12_hasTap 9 = .ok (.iconst 1, 1) := by decide +kernel
theorem dX12_hasTap_10 : decode cX12_hasTap 10 = .ok (.iaload, 1) := by decide +kernel
theorem dX12_hasTap_11 : decode cX12_hasTap 11 = .ok (.if_icmp .ge 33, 3) := by decide +kernel
theorem dX12_hasTap_14 : decode cX12_hasTap 14 = .ok (.iload_n 2, 1) := by decide +kernel
theorem dX12_hasTap_15 : decode cX12_hasTap 15 = .ok (.ifCond .ne 17, 3) := by decide +kernel
theorem dX12_hasTap_18 : decode cX12_hasTap 18 = .ok (.aload_n 0, 1) := by decide +kernel
theorem dX12_hasTap_19 : decode cX12_hasTap 19 = .ok (.getfield 7, 3) := by decide +kernel
theorem dX12_hasTap_22 : decode cX12_hasTap 22 = .ok (.sipush 152, 3) := by decide +kernel
theorem dX12_hasTap_25 : decode cX12_hasTap 25 = .ok (.iload_n 3, 1) := by decide +kernel
theorem dX12_hasTap_26 : decode cX12_hasTap 26 = .ok (.iadd, 1) := by decide +kernel
theorem dX12_hasTap_27 : decode cX12_hasTap 27 = .ok (.iaload, 1) := by decide +kernel
theorem dX12_hasTap_28 : decode cX12_hasTap 28 = .ok (.iload_n 1, 1) := by decide +kernel
theorem dX12_hasTap_29 : decode cX12_hasTap 29 = .ok (.if_icmp .ne 7, 3) := by decide +kernel
theorem dX12_hasTap_32 : decode cX12_hasTap 32 = .ok (.iconst 1, 1) := by decide +kernel
theorem dX12_hasTap_33 : decode cX12_hasTap 33 = .ok (.goto 4, 3) := by decide +kernel
theorem dX12_hasTap_36 : decode cX12_hasTap 36 = .ok (.iconst 0, 1) := by decide +kernel
theorem dX12_hasTap_37 : decode cX12_hasTap 37 = .ok (.istore_n 2, 1) := by decide +kernel
theorem dX12_hasTap_38 : decode cX12_hasTap 38 = .ok (.iinc 3 1, 3) := by decide +kernel
theorem dX12_hasTap_41 : decode cX12_hasTap 41 = .ok (.goto (-37), 3) := by decide +kernel
theorem dX12_hasTap_44 : decode cX12_hasTap 44 = .ok (.iload_n 2, 1) := by decide +kernel
theorem dX12_hasTap_45 : decode cX12_hasTap 45 = .ok (.ireturn, 1) := by decide +kernel
theorem dX12_tap_0 : decode cX12_tap 0 = .ok (.iload_n 1, 1) := by decide +kernel
theorem dX12_tap_1 : decode cX12_tap 1 = .ok (.iconst 0, 1) := by decide +kernel
theorem dX12_tap_2 : decode cX12_tap 2 = .ok (.iconst 2, 1) := by decide +kernel
theorem dX12_tap_3 : decode cX12_tap 3 = .ok (.invokestatic 69, 3) := by decide +kernel
theorem dX12_tap_6 : decode cX12_tap 6 = .ok (.ifCond .eq 10, 3) := by decide +kernel
theorem dX12_tap_9 : decode cX12_tap 9 = .ok (.iload_n 2, 1) := by decide +kernel
theorem dX12_tap_10 : decode cX12_tap 10 = .ok (.invokestatic 77, 3) := by decide +kernel
theorem dX12_tap_13 : decode cX12_tap 13 = .ok (.ifCond .ne 5, 3) := by decide +kernel
theorem dX12_tap_16 : decode cX12_tap 16 = .ok (.iconst (-1), 1) := by decide +kernel
theorem dX12_tap_17 : decode cX12_tap 17 = .ok (.ireturn, 1) := by decide +kernel
theorem dX12_tap_18 : decode cX12_tap 18 = .ok (.iload_n 1, 1) := by decide +kernel
theorem dX12_tap_19 : decode cX12_tap 19 = .ok (.ifCond .eq 28, 3) := by decide +kernel
theorem dX12_tap_22 : decode cX12_tap 22 = .ok (.iload_n 3, 1) := by decide +kernel
theorem dX12_tap_23 : decode cX12_tap 23 = .ok (.iconst 1, 1) := by decide +kernel
theorem dX12_tap_24 : decode cX12_tap 24 = .ok (.sipush 500, 3) := by decide +kernel
theorem dX12_tap_27 : decode cX12_tap 27 = .ok (.invokestatic 69, 3) := by decide +kernel
theorem dX12_tap_30 : decode cX12_tap 30 = .ok (.ifCond .eq 14, 3) := by decide +kernel
theorem dX12_tap_33 : decode cX12_tap 33 = .ok (.iload 4, 2) := by decide +kernel
theorem dX12_tap_35 : decode cX12_tap 35 = .ok (.iconst 0, 1) := by decide +kernel
theorem dX12_tap_36 : decode cX12_tap 36 = .ok (.bipush 99, 2) := by decide +kernel
theorem dX12_tap_38 : decode cX12_tap 38 = .ok (.invokestatic 69, 3) := by decide +kernel
theorem dX12_tap_41 : decode cX12_tap 41 = .ok (.ifCond .ne 6, 3) := by decide +kernel
theorem dX12_tap_44 : decode cX12_tap 44 = .ok (.bipush (-2), 2) := by decide +kernel
theorem dX12_tap_46 : decode cX12_tap 46 = .ok (.ireturn, 1) := by decide +kernel
theorem dX12_tap_47 : decode cX12_tap 47 = .ok (.aload_n 0, 1) := by decide +kernel
theorem dX12_tap_48 : decode cX12_tap 48 = .ok (.iload_n 2, 1) := by decide +kernel
theorem dX12_tap_49 : decode cX12_tap 49 = .ok (.invokevirtual 88, 3) := by decide +kernel
theorem dX12_tap_52 : decode cX12_tap 52 = .ok (.ifCond .ne 18, 3) := by decide +kernel
theorem dX12_tap_55 : decode cX12_tap 55 = .ok (.iload_n 1, 1) := by decide +kernel
theorem dX12_tap_56 : decode cX12_tap 56 = .ok (.ifCond .eq 17, 3) := by decide +kernel
theorem dX12_tap_59 : decode cX12_tap 59 = .ok (.aload_n 0, 1) := by decide +kernel
theorem dX12_tap_60 : decode cX12_tap 60 = .ok (.iload_n 2, 1) := by decide +kernel
theorem dX12_tap_61 : decode cX12_tap 61 = .ok (.iload_n 1, 1) := by decide +kernel
theorem dX12_tap_62 : decode cX12_tap 62 = .ok (.iload 4, 2) := by decide +kernel
theorem dX12_tap_64 : decode cX12_tap 64 = .ok (.invokevirtual 91, 3) := by decide +kernel
theorem dX12_tap_67 : decode cX12_tap 67 = .ok (.ifCond .ne 6, 3) := by decide +kernel
theorem dX12_tap_70 : decode cX12_tap 70 = .ok (.bipush (-3), 2) := by decide +kernel
theorem dX12_tap_72 : decode cX12_tap 72 = .ok (.ireturn, 1) := by decide +kernel
theorem dX12_tap_73 : decode cX12_tap 73 = .ok (.aload_n 0, 1) := by decide +kernel
theorem dX12_tap_74 : decode cX12_tap 74 = .ok (.getfield 7, 3) := by decide +kernel
theorem dX12_tap_77 : decode cX12_tap 77 = .ok (.iconst 1, 1) := by decide +kernel
theorem dX12_tap_78 : decode cX12_tap 78 = .ok (.iaload, 1) := by decide +kernel
theorem dX12_tap_79 : decode cX12_tap 79 = .ok (.bipush 12, 2) := by decide +kernel
theorem dX12_tap_81 : decode cX12_tap 81 = .ok (.if_icmp .ne 6, 3) := by decide +kernel
theorem dX12_tap_84 : decode cX12_tap 84 = .ok (.bipush (-4), 2) := by decide +kernel
theorem dX12_tap_86 : decode cX12_tap 86 = .ok (.ireturn, 1) := by decide +kernel
theorem dX12_tap_87 : decode cX12_tap 87 = .ok (.aload_n 0, 1) := by decide +kernel
theorem dX12_tap_88 : decode cX12_tap 88 = .ok (.getfield 7, 3) := by decide +kernel
theorem dX12_tap_91 : decode cX12_tap 91 = .ok (.iconst 1, 1) := by decide +kernel
theorem dX12_tap_92 : decode cX12_tap 92 = .ok (.iaload, 1) := by decide +kernel
theorem dX12_tap_93 : decode cX12_tap 93 = .ok (.istore 5, 2) := by decide +kernel
theorem dX12_tap_95 : decode cX12_tap 95 = .ok (.aload_n 0, 1) := by decide +kernel
theorem dX12_tap_96 : decode cX12_tap 96 = .ok (.getfield 7, 3) := by decide +kernel
theorem dX12_tap_99 : decode cX12_tap 99 = .ok (.sipush 140, 3) := by decide +kernel
theorem dX12_tap_102 : decode cX12_tap 102 = .ok (.iload 5, 2) := by decide +kernel
theorem dX12_tap_104 : decode cX12_tap 104 = .ok (.iadd, 1) := by decide +kernel
theorem dX12_tap_105 : decode cX12_tap 105 = .ok (.iload_n 1, 1) := by decide +kernel
theorem dX12_tap_106 : decode cX12_tap 106 = .ok (.iastore, 1) := by decide +kernel
theorem dX12_tap_107 : decode cX12_tap 107 = .ok (.aload_n 0, 1) := by decide +kernel
theorem dX12_tap_108 : decode cX12_tap 108 = .ok (.getfield 7, 3) := by decide +kernel
theorem dX12_tap_111 : decode cX12_tap 111 = .ok (.sipush 152, 3) := by decide +kernel
theorem dX12_tap_114 : decode cX12_tap 114 = .ok (.iload 5, 2) := by decide +kernel
theorem dX12_tap_116 : decode cX12_tap 116 = .ok (.iadd, 1) := by decide +kernel
theorem dX12_tap_117 : decode cX12_tap 117 = .ok (.iload_n 2, 1) := by decide +kernel
theorem dX12_tap_118 : decode cX12_tap 118 = .ok (.iastore, 1) := by decide +kernel
theorem dX12_tap_119 : decode cX12_tap 119 = .ok (.aload_n 0, 1) := by decide +kernel
theorem dX12_tap_120 : decode cX12_tap 120 = .ok (.getfield 7, 3) := by decide +kernel
theorem dX12_tap_123 : decode cX12_tap 123 = .ok (.sipush 164, 3) := by decide +kernel
theorem dX12_tap_126 : decode cX12_tap 126 = .ok (.iload 5, 2) := by decide +kernel
theorem dX12_tap_128 : decode cX12_tap 128 = .ok (.iadd, 1) := by decide +kernel
theorem dX12_tap_129 : decode cX12_tap 129 = .ok (.iload_n 3, 1) := by decide +kernel
theorem dX12_tap_130 : decode cX12_tap 130 = .ok (.iastore, 1) := by decide +kernel
theorem dX12_tap_131 : decode cX12_tap 131 = .ok (.aload_n 0, 1) := by decide +kernel
theorem dX12_tap_132 : decode cX12_tap 132 = .ok (.getfield 7, 3) := by decide +kernel
theorem dX12_tap_135 : decode cX12_tap 135 = .ok (.sipush 176, 3) := by decide +kernel
theorem dX12_tap_138 : decode cX12_tap 138 = .ok (.iload 5, 2) := by decide +kernel
theorem dX12_tap_140 : decode cX12_tap 140 = .ok (.iadd, 1) := by decide +kernel
theorem dX12_tap_141 : decode cX12_tap 141 = .ok (.iload 4, 2) := by decide +kernel
theorem dX12_tap_143 : decode cX12_tap 143 = .ok (.iastore, 1) := by decide +kernel
theorem dX12_tap_144 : decode cX12_tap 144 = .ok (.aload_n 0, 1) := by decide +kernel
theorem dX12_tap_145 : decode cX12_tap 145 = .ok (.getfield 7, 3) := by decide +kernel
theorem dX12_tap_148 : decode cX12_tap 148 = .ok (.sipush 188, 3) := by decide +kernel
theorem dX12_tap_151 : decode cX12_tap 151 = .ok (.iload 5, 2) := by decide +kernel
theorem dX12_tap_153 : decode cX12_tap 153 = .ok (.iadd, 1) := by decide +kernel
theorem dX12_tap_154 : decode cX12_tap 154 = .ok (.iconst 0, 1) := by decide +kernel
theorem dX12_tap_155 : decode cX12_tap 155 = .ok (.iastore, 1) := by decide +kernel
theorem dX12_tap_156 : decode cX12_tap 156 = .ok (.aload_n 0, 1) := by decide +kernel
theorem dX12_tap_157 : decode cX12_tap 157 = .ok (.getfield 7, 3) := by decide +kernel
theorem dX12_tap_160 : decode cX12_tap 160 = .ok (.sipush 200, 3) := by decide +kernel
theorem dX12_tap_163 : decode cX12_tap 163 = .ok (.iload 5, 2) := by decide +kernel
theorem dX12_tap_165 : decode cX12_tap 165 = .ok (.iadd, 1) := by decide +kernel
theorem dX12_tap_166 : decode cX12_tap 166 = .ok (.aload_n 0, 1) := by decide +kernel
theorem dX12_tap_167 : decode cX12_tap 167 = .ok (.getfield 7, 3) := by decide +kernel
theorem dX12_tap_170 : decode cX12_tap 170 = .ok (.iconst 0, 1) := by decide +kernel
theorem dX12_tap_171 : decode cX12_tap 171 = .ok (.iaload, 1) := by decide +kernel
theorem dX12_tap_172 : decode cX12_tap 172 = .ok (.iastore, 1) := by decide +kernel
theorem dX12_tap_173 : decode cX12_tap 173 = .ok (.aload_n 0, 1) := by decide +kernel
theorem dX12_tap_174 : decode cX12_tap 174 = .ok (.getfield 7, 3) := by decide +kernel
theorem dX12_tap_177 : decode cX12_tap 177 = .ok (.iconst 1, 1) := by decide +kernel
theorem dX12_tap_178 : decode cX12_tap 178 = .ok (.dup2, 1) := by decide +kernel
theorem dX12_tap_179 : decode cX12_tap 179 = .ok (.iaload, 1) := by decide +kernel
theorem dX12_tap_180 : decode cX12_tap 180 = .ok (.iconst 1, 1) := by decide +kernel
theorem dX12_tap_181 : decode cX12_tap 181 = .ok (.iadd, 1) := by decide +kernel
theorem dX12_tap_182 : decode cX12_tap 182 = .ok (.iastore, 1) := by decide +kernel
theorem dX12_tap_183 : decode cX12_tap 183 = .ok (.iload 5, 2) := by decide +kernel
theorem dX12_tap_185 : decode cX12_tap 185 = .ok (.ireturn, 1) := by decide +kernel
theorem dX12_shut_0 : decode cX12_shut 0 = .ok (.aload_n 0, 1) := by decide +kernel
theorem dX12_shut_1 : decode cX12_shut 1 = .ok (.iload_n 1, 1) := by decide +kernel
theorem dX12_shut_2 : decode cX12_shut 2 = .ok (.invokevirtual 94, 3) := by decide +kernel
theorem dX12_shut_5 : decode cX12_shut 5 = .ok (.ifCond .ne 5, 3) := by decide +kernel
theorem dX12_shut_8 : decode cX12_shut 8 = .ok (.iconst (-1), 1) := by decide +kernel
theorem dX12_shut_9 : decode cX12_shut 9 = .ok (.ireturn, 1) := by decide +kernel
theorem dX12_shut_10 : decode cX12_shut 10 = .ok (.aload_n 0, 1) := by decide +kernel
theorem dX12_shut_11 : decode cX12_shut 11 = .ok (.getfield 7, 3) := by decide +kernel
theorem dX12_shut_14 : decode cX12_shut 14 = .ok (.sipush 188, 3) := by decide +kernel
theorem dX12_shut_17 : decode cX12_shut 17 = .ok (.iload_n 1, 1) := by decide +kernel
theorem dX12_shut_18 : decode cX12_shut 18 = .ok (.iadd, 1) := by decide +kernel
theorem dX12_shut_19 : decode cX12_shut 19 = .ok (.iaload, 1) := by decide +kernel
theorem dX12_shut_20 : decode cX12_shut 20 = .ok (.istore_n 3, 1) := by decide +kernel
theorem dX12_shut_21 : decode cX12_shut 21 = .ok (.aload_n 0, 1) := by decide +kernel
theorem dX12_shut_22 : decode cX12_shut 22 = .ok (.getfield 7, 3) := by decide +kernel
theorem dX12_shut_25 : decode cX12_shut 25 = .ok (.sipush 188, 3) := by decide +kernel
theorem dX12_shut_28 : decode cX12_shut 28 = .ok (.iload_n 1, 1) := by decide +kernel
theorem dX12_shut_29 : decode cX12_shut 29 = .ok (.iadd, 1) := by decide +kernel
theorem dX12_shut_30 : decode cX12_shut 30 = .ok (.iload_n 2, 1) := by decide +kernel
theorem dX12_shut_31 : decode cX12_shut 31 = .ok (.ifCond .eq 7, 3) := by decide +kernel
theorem dX12_shut_34 : decode cX12_shut 34 = .ok (.iconst 1, 1) := by decide +kernel
theorem dX12_shut_35 : decode cX12_shut 35 = .ok (.goto 4, 3) := by decide +kernel
theorem dX12_shut_38 : decode cX12_shut 38 = .ok (.iconst 0, 1) := by decide +kernel
theorem dX12_shut_39 : decode cX12_shut 39 = .ok (.iastore, 1) := by decide +kernel
theorem dX12_shut_40 : decode cX12_shut 40 = .ok (.iload_n 3, 1) := by decide +kernel
theorem dX12_shut_41 : decode cX12_shut 41 = .ok (.ireturn, 1) := by decide +kernel
theorem dX12_gives_0 : decode cX12_gives 0 = .ok (.aload_n 0, 1) := by decide +kernel
theorem dX12_gives_1 : decode cX12_gives 1 = .ok (.getfield 7, 3) := by decide +kernel
theorem dX12_gives_4 : decode cX12_gives 4 = .ok (.sipush 152, 3) := by decide +kernel
theorem dX12_gives_7 : decode cX12_gives 7 = .ok (.iload_n 1, 1) := by decide +kernel
theorem dX12_gives_8 : decode cX12_gives 8 = .ok (.iadd, 1) := by decide +kernel
theorem dX12_gives_9 : decode cX12_gives 9 = .ok (.iaload, 1) := by decide +kernel
theorem dX12_gives_10 : decode cX12_gives 10 = .ok (.istore_n 2, 1) := by decide +kernel
theorem dX12_gives_11 : decode cX12_gives 11 = .ok (.aload_n 0, 1) := by decide +kernel
theorem dX12_gives_12 : decode cX12_gives 12 = .ok (.getfield 7, 3) := by decide +kernel
theorem dX12_gives_15 : decode cX12_gives 15 = .ok (.bipush 50, 2) := by decide +kernel
theorem dX12_gives_17 : decode cX12_gives 17 = .ok (.iload_n 2, 1) := by decide +kernel
theorem dX12_gives_18 : decode cX12_gives 18 = .ok (.iadd, 1) := by decide +kernel
theorem dX12_gives_19 : decode cX12_gives 19 = .ok (.iaload, 1) := by decide +kernel
theorem dX12_gives_20 : decode cX12_gives 20 = .ok (.istore_n 3, 1) := by decide +kernel
theorem dX12_gives_21 : decode cX12_gives 21 = .ok (.aload_n 0, 1) := by decide +kernel
theorem dX12_gives_22 : decode cX12_gives 22 = .ok (.getfield 7, 3) := by decide +kernel
theorem dX12_gives_25 : decode cX12_gives 25 = .ok (.sipush 164, 3) := by decide +kernel
theorem dX12_gives_28 : decode cX12_gives 28 = .ok (.iload_n 1, 1) := by decide +kernel
theorem dX12_gives_29 : decode cX12_gives 29 = .ok (.iadd, 1) := by decide +kernel
theorem dX12_gives_30 : decode cX12_gives 30 = .ok (.iaload, 1) := by decide +kernel
theorem dX12_gives_31 : decode cX12_gives 31 = .ok (.istore 4, 2) := by decide +kernel
theorem dX12_gives_33 : decode cX12_gives 33 = .ok (.aload_n 0, 1) := by decide +kernel
theorem dX12_gives_34 : decode cX12_gives 34 = .ok (.getfield 7, 3) := by decide +kernel
theorem dX12_gives_37 : decode cX12_gives 37 = .ok (.sipush 140, 3) := by decide +kernel
theorem dX12_gives_40 : decode cX12_gives 40 = .ok (.iload_n 1, 1) := by decide +kernel
theorem dX12_gives_41 : decode cX12_gives 41 = .ok (.iadd, 1) := by decide +kernel
theorem dX12_gives_42 : decode cX12_gives 42 = .ok (.iaload, 1) := by decide +kernel
theorem dX12_gives_43 : decode cX12_gives 43 = .ok (.ifCond .ne 10, 3) := by decide +kernel
theorem dX12_gives_46 : decode cX12_gives 46 = .ok (.iload_n 3, 1) := by decide +kernel
theorem dX12_gives_47 : decode cX12_gives 47 = .ok (.bipush 10, 2) := by decide +kernel
theorem dX12_gives_49 : decode cX12_gives 49 = .ok (.idiv, 1) := by decide +kernel
theorem dX12_gives_50 : decode cX12_gives 50 = .ok (.goto 29, 3) := by decide +kernel
theorem dX12_gives_53 : decode cX12_gives 53 = .ok (.aload_n 0, 1) := by decide +kernel
theorem dX12_gives_54 : decode cX12_gives 54 = .ok (.getfield 7, 3) := by decide +kernel
theorem dX12_gives_57 : decode cX12_gives 57 = .ok (.sipush 140, 3) := by decide +kernel
theorem dX12_gives_60 : decode cX12_gives 60 = .ok (.iload_n 1, 1) := by decide +kernel
theorem dX12_gives_61 : decode cX12_gives 61 = .ok (.iadd, 1) := by decide +kernel
theorem dX12_gives_62 : decode cX12_gives 62 = .ok (.iaload, 1) := by decide +kernel
theorem dX12_gives_63 : decode cX12_gives 63 = .ok (.iconst 1, 1) := by decide +kernel
theorem dX12_gives_64 : decode cX12_gives 64 = .ok (.if_icmp .ne 8, 3) := by decide +kernel
theorem dX12_gives_67 : decode cX12_gives 67 = .ok (.iload 4, 2) := by decide +kernel
theorem dX12_gives_69 : decode cX12_gives 69 = .ok (.goto 10, 3) := by decide +kernel
theorem dX12_gives_72 : decode cX12_gives 72 = .ok (.iload 4, 2) := by decide +kernel
theorem dX12_gives_74 : decode cX12_gives 74 = .ok (.iload 4, 2) := by decide +kernel
theorem dX12_gives_76 : decode cX12_gives 76 = .ok (.iconst 2, 1) := by decide +kernel
theorem dX12_gives_77 : decode cX12_gives 77 = .ok (.idiv, 1) := by decide +kernel
theorem dX12_gives_78 : decode cX12_gives 78 = .ok (.iadd, 1) := by decide +kernel
theorem dX12_gives_79 : decode cX12_gives 79 = .ok (.istore 5, 2) := by decide +kernel
theorem dX12_gives_81 : decode cX12_gives 81 = .ok (.aload_n 0, 1) := by decide +kernel
theorem dX12_gives_82 : decode cX12_gives 82 = .ok (.getfield 7, 3) := by decide +kernel
theorem dX12_gives_85 : decode cX12_gives 85 = .ok (.sipush 188, 3) := by decide +kernel
theorem dX12_gives_88 : decode cX12_gives 88 = .ok (.iload_n 1, 1) := by decide +kernel
theorem dX12_gives_89 : decode cX12_gives 89 = .ok (.iadd, 1) := by decide +kernel
theorem dX12_gives_90 : decode cX12_gives 90 = .ok (.iaload, 1) := by decide +kernel
theorem dX12_gives_91 : decode cX12_gives 91 = .ok (.iconst 1, 1) := by decide +kernel
theorem dX12_gives_92 : decode cX12_gives 92 = .ok (.if_icmp .ne 7, 3) := by decide +kernel
theorem dX12_gives_95 : decode cX12_gives 95 = .ok (.iconst 0, 1) := by decide +kernel
theorem dX12_gives_96 : decode cX12_gives 96 = .ok (.goto 15, 3) := by decide +kernel
theorem dX12_gives_99 : decode cX12_gives 99 = .ok (.iload 5, 2) := by decide +kernel
theorem dX12_gives_101 : decode cX12_gives 101 = .ok (.iload_n 3, 1) := by decide +kernel
theorem dX12_gives_102 : decode cX12_gives 102 = .ok (.if_icmp .le 7, 3) := by decide +kernel
theorem dX12_gives_105 : decode cX12_gives 105 = .ok (.iload_n 3, 1) := by decide +kernel
theorem dX12_gives_106 : decode cX12_gives 106 = .ok (.goto 5, 3) := by decide +kernel
theorem dX12_gives_109 : decode cX12_gives 109 = .ok (.iload 5, 2) := by decide +kernel
theorem dX12_gives_111 : decode cX12_gives 111 = .ok (.istore 5, 2) := by decide +kernel
theorem dX12_gives_113 : decode cX12_gives 113 = .ok (.aload_n 0, 1) := by decide +kernel
theorem dX12_gives_114 : decode cX12_gives 114 = .ok (.getfield 7, 3) := by decide +kernel
theorem dX12_gives_117 : decode cX12_gives 117 = .ok (.bipush 50, 2) := by decide +kernel
theorem dX12_gives_119 : decode cX12_gives 119 = .ok (.iload_n 2, 1) := by decide +kernel
theorem dX12_gives_120 : decode cX12_gives 120 = .ok (.iadd, 1) := by decide +kernel
theorem dX12_gives_121 : decode cX12_gives 121 = .ok (.dup2, 1) := by decide +kernel
theorem dX12_gives_122 : decode cX12_gives 122 = .ok (.iaload, 1) := by decide +kernel
theorem dX12_gives_123 : decode cX12_gives 123 = .ok (.iload 5, 2) := by decide +kernel
theorem dX12_gives_125 : decode cX12_gives 125 = .ok (.isub, 1) := by decide +kernel
theorem dX12_gives_126 : decode cX12_gives 126 = .ok (.iastore, 1) := by decide +kernel
theorem dX12_gives_127 : decode cX12_gives 127 = .ok (.aload_n 0, 1) := by decide +kernel
theorem dX12_gives_128 : decode cX12_gives 128 = .ok (.getfield 16, 3) := by decide +kernel
theorem dX12_gives_131 : decode cX12_gives 131 = .ok (.iload_n 1, 1) := by decide +kernel
theorem dX12_gives_132 : decode cX12_gives 132 = .ok (.iload 5, 2) := by decide +kernel
theorem dX12_gives_134 : decode cX12_gives 134 = .ok (.iastore, 1) := by decide +kernel
theorem dX12_gives_135 : decode cX12_gives 135 = .ok (.aload_n 0, 1) := by decide +kernel
theorem dX12_gives_136 : decode cX12_gives 136 = .ok (.getfield 19, 3) := by decide +kernel
theorem dX12_gives_139 : decode cX12_gives 139 = .ok (.iload_n 1, 1) := by decide +kernel
theorem dX12_gives_140 : decode cX12_gives 140 = .ok (.aload_n 0, 1) := by decide +kernel
theorem dX12_gives_141 : decode cX12_gives 141 = .ok (.getfield 7, 3) := by decide +kernel
theorem dX12_gives_144 : decode cX12_gives 144 = .ok (.bipush 20, 2) := by decide +kernel
theorem dX12_gives_146 : decode cX12_gives 146 = .ok (.iload_n 2, 1) := by decide +kernel
theorem dX12_gives_147 : decode cX12_gives 147 = .ok (.iadd, 1) := by decide +kernel
theorem dX12_gives_148 : decode cX12_gives 148 = .ok (.iaload, 1) := by decide +kernel
theorem dX12_gives_149 : decode cX12_gives 149 = .ok (.aload_n 0, 1) := by decide +kernel
theorem dX12_gives_150 : decode cX12_gives 150 = .ok (.getfield 7, 3) := by decide +kernel
theorem dX12_gives_153 : decode cX12_gives 153 = .ok (.sipush 140, 3) := by decide +kernel
theorem dX12_gives_156 : decode cX12_gives 156 = .ok (.iload_n 1, 1) := by decide +kernel
theorem dX12_gives_157 : decode cX12_gives 157 = .ok (.iadd, 1) := by decide +kernel
theorem dX12_gives_158 : decode cX12_gives 158 = .ok (.iaload, 1) := by decide +kernel
theorem dX12_gives_159 : decode cX12_gives 159 = .ok (.iconst 2, 1) := by decide +kernel
theorem dX12_gives_160 : decode cX12_gives 160 = .ok (.if_icmp .ne 8, 3) := by decide +kernel
theorem dX12_gives_163 : decode cX12_gives 163 = .ok (.bipush 50, 2) := by decide +kernel
theorem dX12_gives_165 : decode cX12_gives 165 = .ok (.goto 4, 3) := by decide +kernel
theorem dX12_gives_168 : decode cX12_gives 168 = .ok (.iconst 0, 1) := by decide +kernel
theorem dX12_gives_169 : decode cX12_gives 169 = .ok (.iadd, 1) := by decide +kernel
theorem dX12_gives_170 : decode cX12_gives 170 = .ok (.iastore, 1) := by decide +kernel
theorem dX12_gives_171 : decode cX12_gives 171 = .ok (.iload 5, 2) := by decide +kernel
theorem dX12_gives_173 : decode cX12_gives 173 = .ok (.aload_n 0, 1) := by decide +kernel
theorem dX12_gives_174 : decode cX12_gives 174 = .ok (.getfield 7, 3) := by decide +kernel
theorem dX12_gives_177 : decode cX12_gives 177 = .ok (.sipush 224, 3) := by decide +kernel
theorem dX12_gives_180 : decode cX12_gives 180 = .ok (.iload_n 1, 1) := by decide +kernel
theorem dX12_gives_181 : decode cX12_gives 181 = .ok (.iadd, 1) := by decide +kernel
theorem dX12_gives_182 : decode cX12_gives 182 = .ok (.iaload, 1) := by decide +kernel
theorem dX12_gives_183 : decode cX12_gives 183 = .ok (.bipush 10, 2) := by decide +kernel
theorem dX12_gives_185 : decode cX12_gives 185 = .ok (.idiv, 1) := by decide +kernel
theorem dX12_gives_186 : decode cX12_gives 186 = .ok (.isub, 1) := by decide +kernel
theorem dX12_gives_187 : decode cX12_gives 187 = .ok (.istore 6, 2) := by decide +kernel
theorem dX12_gives_189 : decode cX12_gives 189 = .ok (.aload_n 0, 1) := by decide +kernel
theorem dX12_gives_190 : decode cX12_gives 190 = .ok (.getfield 22, 3) := by decide +kernel
theorem dX12_gives_193 : decode cX12_gives 193 = .ok (.iload_n 1, 1) := by decide +kernel
theorem dX12_gives_194 : decode cX12_gives 194 = .ok (.iload 6, 2) := by decide +kernel
theorem dX12_gives_196 : decode cX12_gives 196 = .ok (.ifCond .ge 7, 3) := by decide +kernel
theorem dX12_gives_199 : decode cX12_gives 199 = .ok (.iconst 0, 1) := by decide +kernel
theorem dX12_gives_200 : decode cX12_gives 200 = .ok (.goto 5, 3) := by decide +kernel
theorem dX12_gives_203 : decode cX12_gives 203 = .ok (.iload 6, 2) := by decide +kernel
theorem dX12_gives_205 : decode cX12_gives 205 = .ok (.iastore, 1) := by decide +kernel
theorem dX12_gives_206 : decode cX12_gives 206 = .ok (.aload_n 0, 1) := by decide +kernel
theorem dX12_gives_207 : decode cX12_gives 207 = .ok (.getfield 19, 3) := by decide +kernel
theorem dX12_gives_210 : decode cX12_gives 210 = .ok (.iload_n 1, 1) := by decide +kernel
theorem dX12_gives_211 : decode cX12_gives 211 = .ok (.iaload, 1) := by decide +kernel
theorem dX12_gives_212 : decode cX12_gives 212 = .ok (.bipush 10, 2) := by decide +kernel
theorem dX12_gives_214 : decode cX12_gives 214 = .ok (.aload_n 0, 1) := by decide +kernel
theorem dX12_gives_215 : decode cX12_gives 215 = .ok (.getfield 7, 3) := by decide +kernel
theorem dX12_gives_218 : decode cX12_gives 218 = .ok (.sipush 212, 3) := by decide +kernel
theorem dX12_gives_221 : decode cX12_gives 221 = .ok (.iload_n 1, 1) := by decide +kernel
theorem dX12_gives_222 : decode cX12_gives 222 = .ok (.iadd, 1) := by decide +kernel
theorem dX12_gives_223 : decode cX12_gives 223 = .ok (.iaload, 1) := by decide +kernel
theorem dX12_gives_224 : decode cX12_gives 224 = .ok (.imul, 1) := by decide +kernel
theorem dX12_gives_225 : decode cX12_gives 225 = .ok (.iload 5, 2) := by decide +kernel
theorem dX12_gives_227 : decode cX12_gives 227 = .ok (.bipush 10, 2) := by decide +kernel
theorem dX12_gives_229 : decode cX12_gives 229 = .ok (.iadd, 1) := by decide +kernel
theorem dX12_gives_230 : decode cX12_gives 230 = .ok (.idiv, 1) := by decide +kernel
theorem dX12_gives_231 : decode cX12_gives 231 = .ok (.isub, 1) := by decide +kernel
theorem dX12_gives_232 : decode cX12_gives 232 = .ok (.istore 7, 2) := by decide +kernel
theorem dX12_gives_234 : decode cX12_gives 234 = .ok (.aload_n 0, 1) := by decide +kernel
theorem dX12_gives_235 : decode cX12_gives 235 = .ok (.getfield 25, 3) := by decide +kernel
theorem dX12_gives_238 : decode cX12_gives 238 = .ok (.iload_n 1, 1) := by decide +kernel
theorem dX12_gives_239 : decode cX12_gives 239 = .ok (.iload 7, 2) := by decide +kernel
theorem dX12_gives_241 : decode cX12_gives 241 = .ok (.ifCond .ge 7, 3) := by decide +kernel
theorem dX12_gives_244 : decode cX12_gives 244 = .ok (.iconst 0, 1) := by decide +kernel
theorem dX12_gives_245 : decode cX12_gives 245 = .ok (.goto 5, 3) := by decide +kernel
theorem dX12_gives_248 : decode cX12_gives 248 = .ok (.iload 7, 2) := by decide +kernel
theorem dX12_gives_250 : decode cX12_gives 250 = .ok (.iastore, 1) := by decide +kernel
theorem dX12_gives_251 : decode cX12_gives 251 = .ok (.aload_n 0, 1) := by decide +kernel
theorem dX12_gives_252 : decode cX12_gives 252 = .ok (.getfield 7, 3) := by decide +kernel
theorem dX12_gives_255 : decode cX12_gives 255 = .ok (.sipush 224, 3) := by decide +kernel
theorem dX12_gives_258 : decode cX12_gives 258 = .ok (.iload_n 1, 1) := by decide +kernel
theorem dX12_gives_259 : decode cX12_gives 259 = .ok (.iadd, 1) := by decide +kernel
theorem dX12_gives_260 : decode cX12_gives 260 = .ok (.dup2, 1) := by decide +kernel
theorem dX12_gives_261 : decode cX12_gives 261 = .ok (.iaload, 1) := by decide +kernel
theorem dX12_gives_262 : decode cX12_gives 262 = .ok (.iload 5, 2) := by decide +kernel
theorem dX12_gives_264 : decode cX12_gives 264 = .ok (.ifCond .le 35, 3) := by decide +kernel
theorem dX12_gives_267 : decode cX12_gives 267 = .ok (.aload_n 0, 1) := by decide +kernel
theorem dX12_gives_268 : decode cX12_gives 268 = .ok (.getfield 19, 3) := by decide +kernel
theorem dX12_gives_271 : decode cX12_gives 271 = .ok (.iload_n 1, 1) := by decide +kernel
theorem dX12_gives_272 : decode cX12_gives 272 = .ok (.iaload, 1) := by decide +kernel
theorem dX12_gives_273 : decode cX12_gives 273 = .ok (.sipush 500, 3) := by decide +kernel
theorem dX12_gives_276 : decode cX12_gives 276 = .ok (.if_icmp .lt 23, 3) := by decide +kernel
theorem dX12_gives_279 : decode cX12_gives 279 = .ok (.aload_n 0, 1) := by decide +kernel
theorem dX12_gives_280 : decode cX12_gives 280 = .ok (.getfield 19, 3) := by decide +kernel
theorem dX12_gives_283 : decode cX12_gives 283 = .ok (.iload_n 1, 1) := by decide +kernel
theorem dX12_gives_284 : decode cX12_gives 284 = .ok (.iaload, 1) := by decide +kernel
theorem dX12_gives_285 : decode cX12_gives 285 = .ok (.sipush 800, 3) := by decide +kernel
theorem dX12_gives_288 : decode cX12_gives 288 = .ok (.if_icmp .lt 7, 3) := by decide +kernel
theorem dX12_gives_291 : decode cX12_gives 291 = .ok (.iconst 2, 1) := by decide +kernel
theorem dX12_gives_292 : decode cX12_gives 292 = .ok (.goto 8, 3) := by decide +kernel
theorem dX12_gives_295 : decode cX12_gives 295 = .ok (.iconst 1, 1) := by decide +kernel
theorem dX12_gives_296 : decode cX12_gives 296 = .ok (.goto 4, 3) := by decide +kernel
theorem dX12_gives_299 : decode cX12_gives 299 = .ok (.iconst 0, 1) := by decide +kernel
theorem dX12_gives_300 : decode cX12_gives 300 = .ok (.iadd, 1) := by decide +kernel
theorem dX12_gives_301 : decode cX12_gives 301 = .ok (.iastore, 1) := by decide +kernel
theorem dX12_gives_302 : decode cX12_gives 302 = .ok (.return_, 1) := by decide +kernel
theorem dX12_flows_0 : decode cX12_flows 0 = .ok (.iconst 0, 1) := by decide +kernel
theorem dX12_flows_1 : decode cX12_flows 1 = .ok (.istore_n 1, 1) := by decide +kernel
theorem dX12_flows_2 : decode cX12_flows 2 = .ok (.iload_n 1, 1) := by decide +kernel
theorem dX12_flows_3 : decode cX12_flows 3 = .ok (.bipush 30, 2) := by decide +kernel
theorem dX12_flows_5 : decode cX12_flows 5 = .ok (.if_icmp .ge 95, 3) := by decide +kernel
theorem dX12_flows_8 : decode cX12_flows 8 = .ok (.aload_n 0, 1) := by decide +kernel
theorem dX12_flows_9 : decode cX12_flows 9 = .ok (.getfield 7, 3) := by decide +kernel
theorem dX12_flows_12 : decode cX12_flows 12 = .ok (.bipush 20, 2) := by decide +kernel
theorem dX12_flows_14 : decode cX12_flows 14 = .ok (.iload_n 1, 1) := by decide +kernel
theorem dX12_flows_15 : decode cX12_flows 15 = .ok (.iadd, 1) := by decide +kernel
theorem dX12_flows_16 : decode cX12_flows 16 = .ok (.iaload, 1) := by decide +kernel
theorem dX12_flows_17 : decode cX12_flows 17 = .ok (.aload_n 0, 1) := by decide +kernel
theorem dX12_flows_18 : decode cX12_flows 18 = .ok (.getfield 7, 3) := by decide +kernel
theorem dX12_flows_21 : decode cX12_flows 21 = .ok (.bipush 80, 2) := by decide +kernel
theorem dX12_flows_23 : decode cX12_flows 23 = .ok (.iload_n 1, 1) := by decide +kernel
theorem dX12_flows_24 : decode cX12_flows 24 = .ok (.iadd, 1) := by decide +kernel
theorem dX12_flows_25 : decode cX12_flows 25 = .ok (.iaload, 1) := by decide +kernel
theorem dX12_flows_26 : decode cX12_flows 26 = .ok (.iadd, 1) := by decide +kernel
theorem dX12_flows_27 : decode cX12_flows 27 = .ok (.istore_n 2, 1) := by decide +kernel
theorem dX12_flows_28 : decode cX12_flows 28 = .ok (.aload_n 0, 1) := by decide +kernel
theorem dX12_flows_29 : decode cX12_flows 29 = .ok (.getfield 7, 3) := by decide +kernel
theorem dX12_flows_32 : decode cX12_flows 32 = .ok (.bipush 50, 2) := by decide +kernel
theorem dX12_flows_34 : decode cX12_flows 34 = .ok (.iload_n 1, 1) := by decide +kernel
theorem dX12_flows_35 : decode cX12_flows 35 = .ok (.iadd, 1) := by decide +kernel
theorem dX12_flows_36 : decode cX12_flows 36 = .ok (.iaload, 1) := by decide +kernel
theorem dX12_flows_37 : decode cX12_flows 37 = .ok (.aload_n 0, 1) := by decide +kernel
theorem dX12_flows_38 : decode cX12_flows 38 = .ok (.getfield 7, 3) := by decide +kernel
theorem dX12_flows_41 : decode cX12_flows 41 = .ok (.bipush 110, 2) := by decide +kernel
theorem dX12_flows_43 : decode cX12_flows 43 = .ok (.iload_n 1, 1) := by decide +kernel
theorem dX12_flows_44 : decode cX12_flows 44 = .ok (.iadd, 1) := by decide +kernel
theorem dX12_flows_45 : decode cX12_flows 45 = .ok (.iaload, 1) := by decide +kernel
theorem dX12_flows_46 : decode cX12_flows 46 = .ok (.iadd, 1) := by decide +kernel
theorem dX12_flows_47 : decode cX12_flows 47 = .ok (.istore_n 3, 1) := by decide +kernel
theorem dX12_flows_48 : decode cX12_flows 48 = .ok (.aload_n 0, 1) := by decide +kernel
theorem dX12_flows_49 : decode cX12_flows 49 = .ok (.getfield 7, 3) := by decide +kernel
theorem dX12_flows_52 : decode cX12_flows 52 = .ok (.bipush 20, 2) := by decide +kernel
theorem dX12_flows_54 : decode cX12_flows 54 = .ok (.iload_n 1, 1) := by decide +kernel
theorem dX12_flows_55 : decode cX12_flows 55 = .ok (.iadd, 1) := by decide +kernel
theorem dX12_flows_56 : decode cX12_flows 56 = .ok (.iload_n 2, 1) := by decide +kernel
theorem dX12_flows_57 : decode cX12_flows 57 = .ok (.sipush 1500, 3) := by decide +kernel
theorem dX12_flows_60 : decode cX12_flows 60 = .ok (.if_icmp .le 9, 3) := by decide +kernel
theorem dX12_flows_63 : decode cX12_flows 63 = .ok (.sipush 1500, 3) := by decide +kernel
theorem dX12_flows_66 : decode cX12_flows 66 = .ok (.goto 4, 3) := by decide +kernel
theorem dX12_flows_69 : decode cX12_flows 69 = .ok (.iload_n 2, 1) := by decide +kernel
theorem dX12_flows_70 : decode cX12_flows 70 = .ok (.iastore, 1) := by decide +kernel
theorem dX12_flows_71 : decode cX12_flows 71 = .ok (.aload_n 0, 1) := by decide +kernel
theorem dX12_flows_72 : decode cX12_flows 72 = .ok (.getfield 7, 3) := by decide +kernel
theorem dX12_flows_75 : decode cX12_flows 75 = .ok (.bipush 50, 2) := by decide +kernel
theorem dX12_flows_77 : decode cX12_flows 77 = .ok (.iload_n 1, 1) := by decide +kernel
theorem dX12_flows_78 : decode cX12_flows 78 = .ok (.iadd, 1) := by decide +kernel
theorem dX12_flows_79 : decode cX12_flows 79 = .ok (.iload_n 3, 1) := by decide +kernel
theorem dX12_flows_80 : decode cX12_flows 80 = .ok (.sipush 9999, 3) := by decide +kernel
theorem dX12_flows_83 : decode cX12_flows 83 = .ok (.if_icmp .le 9, 3) := by decide +kernel
theorem dX12_flows_86 : decode cX12_flows 86 = .ok (.sipush 9999, 3) := by decide +kernel
theorem dX12_flows_89 : decode cX12_flows 89 = .ok (.goto 4, 3) := by decide +kernel
theorem dX12_flows_92 : decode cX12_flows 92 = .ok (.iload_n 3, 1) := by decide +kernel
theorem dX12_flows_93 : decode cX12_flows 93 = .ok (.iastore, 1) := by decide +kernel
theorem dX12_flows_94 : decode cX12_flows 94 = .ok (.iinc 1 1, 3) := by decide +kernel
theorem dX12_flows_97 : decode cX12_flows 97 = .ok (.goto (-95), 3) := by decide +kernel
theorem dX12_flows_100 : decode cX12_flows 100 = .ok (.iconst 0, 1) := by decide +kernel
theorem dX12_flows_101 : decode cX12_flows 101 = .ok (.istore_n 1, 1) := by decide +kernel
theorem dX12_flows_102 : decode cX12_flows 102 = .ok (.iload_n 1, 1) := by decide +kernel
theorem dX12_flows_103 : decode cX12_flows 103 = .ok (.aload_n 0, 1) := by decide +kernel
theorem dX12_flows_104 : decode cX12_flows 104 = .ok (.getfield 7, 3) := by decide +kernel
theorem dX12_flows_107 : decode cX12_flows 107 = .ok (.iconst 1, 1) := by decide +kernel
theorem dX12_flows_108 : decode cX12_flows 108 = .ok (.iaload, 1) := by decide +kernel
theorem dX12_flows_109 : decode cX12_flows 109 = .ok (.if_icmp .ge 14, 3) := by decide +kernel
theorem dX12_flows_112 : decode cX12_flows 112 = .ok (.aload_n 0, 1) := by decide +kernel
theorem dX12_flows_113 : decode cX12_flows 113 = .ok (.iload_n 1, 1) := by decide +kernel
theorem dX12_flows_114 : decode cX12_flows 114 = .ok (.invokevirtual 97, 3) := by decide +kernel
theorem dX12_flows_117 : decode cX12_flows 117 = .ok (.iinc 1 1, 3) := by decide +kernel
theorem dX12_flows_120 : decode cX12_flows 120 = .ok (.goto (-18), 3) := by decide +kernel
theorem dX12_flows_123 : decode cX12_flows 123 = .ok (.iconst 0, 1) := by decide +kernel
theorem dX12_flows_124 : decode cX12_flows 124 = .ok (.istore_n 1, 1) := by decide +kernel
theorem dX12_flows_125 : decode cX12_flows 125 = .ok (.iload_n 1, 1) := by decide +kernel
theorem dX12_flows_126 : decode cX12_flows 126 = .ok (.bipush 30, 2) := by decide +kernel
theorem dX12_flows_128 : decode cX12_flows 128 = .ok (.if_icmp .ge 39, 3) := by decide +kernel
theorem dX12_flows_131 : decode cX12_flows 131 = .ok (.aload_n 0, 1) := by decide +kernel
theorem dX12_flows_132 : decode cX12_flows 132 = .ok (.getfield 28, 3) := by decide +kernel
theorem dX12_flows_135 : decode cX12_flows 135 = .ok (.iload_n 1, 1) := by decide +kernel
theorem dX12_flows_136 : decode cX12_flows 136 = .ok (.aload_n 0, 1) := by decide +kernel
theorem dX12_flows_137 : decode cX12_flows 137 = .ok (.getfield 7, 3) := by decide +kernel
theorem dX12_flows_140 : decode cX12_flows 140 = .ok (.bipush 20, 2) := by decide +kernel
theorem dX12_flows_142 : decode cX12_flows 142 = .ok (.iload_n 1, 1) := by decide +kernel
theorem dX12_flows_143 : decode cX12_flows 143 = .ok (.iadd, 1) := by decide +kernel
theorem dX12_flows_144 : decode cX12_flows 144 = .ok (.iaload, 1) := by decide +kernel
theorem dX12_flows_145 : decode cX12_flows 145 = .ok (.iastore, 1) := by decide +kernel
theorem dX12_flows_146 : decode cX12_flows 146 = .ok (.aload_n 0, 1) := by decide +kernel
theorem dX12_flows_147 : decode cX12_flows 147 = .ok (.getfield 31, 3) := by decide +kernel
theorem dX12_flows_150 : decode cX12_flows 150 = .ok (.iload_n 1, 1) := by decide +kernel
theorem dX12_flows_151 : decode cX12_flows 151 = .ok (.aload_n 0, 1) := by decide +kernel
theorem dX12_flows_152 : decode cX12_flows 152 = .ok (.getfield 7, 3) := by decide +kernel
theorem dX12_flows_155 : decode cX12_flows 155 = .ok (.bipush 50, 2) := by decide +kernel
theorem dX12_flows_157 : decode cX12_flows 157 = .ok (.iload_n 1, 1) := by decide +kernel
theorem dX12_flows_158 : decode cX12_flows 158 = .ok (.iadd, 1) := by decide +kernel
theorem dX12_flows_159 : decode cX12_flows 159 = .ok (.iaload, 1) := by decide +kernel
theorem dX12_flows_160 : decode cX12_flows 160 = .ok (.iastore, 1) := by decide +kernel
theorem dX12_flows_161 : decode cX12_flows 161 = .ok (.iinc 1 1, 3) := by decide +kernel
theorem dX12_flows_164 : decode cX12_flows 164 = .ok (.goto (-39), 3) := by decide +kernel
theorem dX12_flows_167 : decode cX12_flows 167 = .ok (.iconst 0, 1) := by decide +kernel
theorem dX12_flows_168 : decode cX12_flows 168 = .ok (.istore_n 1, 1) := by decide +kernel
theorem dX12_flows_169 : decode cX12_flows 169 = .ok (.iload_n 1, 1) := by decide +kernel
theorem dX12_flows_170 : decode cX12_flows 170 = .ok (.bipush 30, 2) := by decide +kernel
theorem dX12_flows_172 : decode cX12_flows 172 = .ok (.if_icmp .ge 125, 3) := by decide +kernel
theorem dX12_flows_175 : decode cX12_flows 175 = .ok (.iconst 0, 1) := by decide +kernel
theorem dX12_flows_176 : decode cX12_flows 176 = .ok (.istore_n 2, 1) := by decide +kernel
theorem dX12_flows_177 : decode cX12_flows 177 = .ok (.iload_n 2, 1) := by decide +kernel
theorem dX12_flows_178 : decode cX12_flows 178 = .ok (.iconst 4, 1) := by decide +kernel
theorem dX12_flows_179 : decode cX12_flows 179 = .ok (.if_icmp .ge 112, 3) := by decide +kernel
theorem dX12_flows_182 : decode cX12_flows 182 = .ok (.iload_n 1, 1) := by decide +kernel
theorem dX12_flows_183 : decode cX12_flows 183 = .ok (.iload_n 2, 1) := by decide +kernel
theorem dX12_flows_184 : decode cX12_flows 184 = .ok (.ifCond .ne 7, 3) := by decide +kernel
theorem dX12_flows_187 : decode cX12_flows 187 = .ok (.iconst 1, 1) := by decide +kernel
theorem dX12_flows_188 : decode cX12_flows 188 = .ok (.goto 24, 3) := by decide +kernel
theorem dX12_flows_191 : decode cX12_flows 191 = .ok (.iload_n 2, 1) := by decide +kernel
theorem dX12_flows_192 : decode cX12_flows 192 = .ok (.iconst 1, 1) := by decide +kernel
theorem dX12_flows_193 : decode cX12_flows 193 = .ok (.if_icmp .ne 7, 3) := by decide +kernel
theorem dX12_flows_196 : decode cX12_flows 196 = .ok (.iconst (-1), 1) := by decide +kernel
theorem dX12_flows_197 : decode cX12_flows 197 = .ok (.goto 15, 3) := by decide +kernel
theorem dX12_flows_200 : decode cX12_flows 200 = .ok (.iload_n 2, 1) := by decide +kernel
theorem dX12_flows_201 : decode cX12_flows 201 = .ok (.iconst 2, 1) := by decide +kernel
theorem dX12_flows_202 : decode cX12_flows 202 = .ok (.if_icmp .ne 8, 3) := by decide +kernel
theorem dX12_flows_205 : decode cX12_flows 205 = .ok (.bipush 6, 2) := by decide +kernel
theorem dX12_flows_207 : decode cX12_flows 207 = .ok (.goto 5, 3) := by decide +kernel
theorem dX12_flows_210 : decode cX12_flows 210 = .ok (.bipush (-6), 2) := by decide +kernel
theorem dX12_flows_212 : decode cX12_flows 212 = .ok (.iadd, 1) := by decide +kernel
theorem dX12_flows_213 : decode cX12_flows 213 = .ok (.istore_n 3, 1) := by decide +kernel
theorem dX12_flows_214 : decode cX12_flows 214 = .ok (.iload_n 3, 1) := by decide +kernel
theorem dX12_flows_215 : decode cX12_flows 215 = .ok (.invokestatic 77, 3) := by decide +kernel
theorem dX12_flows_218 : decode cX12_flows 218 = .ok (.ifCond .eq 67, 3) := by decide +kernel
theorem dX12_flows_221 : decode cX12_flows 221 = .ok (.iload_n 1, 1) := by decide +kernel
theorem dX12_flows_222 : decode cX12_flows 222 = .ok (.iload_n 3, 1) := by decide +kernel
theorem dX12_flows_223 : decode cX12_flows 223 = .ok (.invokestatic 85, 3) := by decide +kernel
theorem dX12_flows_226 : decode cX12_flows 226 = .ok (.iconst 1, 1) := by decide +kernel
theorem dX12_flows_227 : decode cX12_flows 227 = .ok (.if_icmp .ne 58, 3) := by decide +kernel
theorem dX12_flows_230 : decode cX12_flows 230 = .ok (.aload_n 0, 1) := by decide +kernel
theorem dX12_flows_231 : decode cX12_flows 231 = .ok (.getfield 7, 3) := by decide +kernel
theorem dX12_flows_234 : decode cX12_flows 234 = .ok (.bipush 20, 2) := by decide +kernel
theorem dX12_flows_236 : decode cX12_flows 236 = .ok (.iload_n 1, 1) := by decide +kernel
theorem dX12_flows_237 : decode cX12_flows 237 = .ok (.iadd, 1) := by decide +kernel
theorem dX12_flows_238 : decode cX12_flows 238 = .ok (.dup2, 1) := by decide +kernel
theorem dX12_flows_239 : decode cX12_flows 239 = .ok (.iaload, 1) := by decide +kernel
theorem dX12_flows_240 : decode cX12_flows 240 = .ok (.aload_n 0, 1) := by decide +kernel
theorem dX12_flows_241 : decode cX12_flows 241 = .ok (.getfield 28, 3) := by decide +kernel
theorem dX12_flows_244 : decode cX12_flows 244 = .ok (.iload_n 3, 1) := by decide +kernel
theorem dX12_flows_245 : decode cX12_flows 245 = .ok (.iaload, 1) := by decide +kernel
theorem dX12_flows_246 : decode cX12_flows 246 = .ok (.aload_n 0, 1) := by decide +kernel
theorem dX12_flows_247 : decode cX12_flows 247 = .ok (.getfield 28, 3) := by decide +kernel
theorem dX12_flows_250 : decode cX12_flows 250 = .ok (.iload_n 1, 1) := by decide +kernel
theorem dX12_flows_251 : decode cX12_flows 251 = .ok (.iaload, 1) := by decide +kernel
theorem dX12_flows_252 : decode cX12_flows 252 = .ok (.isub, 1) := by decide +kernel
theorem dX12_flows_253 : decode cX12_flows 253 = .ok (.bipush 8, 2) := by decide +kernel
theorem dX12_flows_255 : decode cX12_flows 255 = .ok (.idiv, 1) := by decide +kernel
theorem dX12_flows_256 : decode cX12_flows 256 = .ok (.iadd, 1) := by decide +kernel
theorem dX12_flows_257 : decode cX12_flows 257 = .ok (.iastore, 1) := by decide +kernel
theorem dX12_flows_258 : decode cX12_flows 258 = .ok (.aload_n 0, 1) := by decide +kernel
theorem dX12_flows_259 : decode cX12_flows 259 = .ok (.getfield 7, 3) := by decide +kernel
theorem dX12_flows_262 : decode cX12_flows 262 = .ok (.bipush 50, 2) := by decide +kernel
theorem dX12_flows_264 : decode cX12_flows 264 = .ok (.iload_n 1, 1) := by decide +kernel
theorem dX12_flows_265 : decode cX12_flows 265 = .ok (.iadd, 1) := by decide +kernel
theorem dX12_flows_266 : decode cX12_flows 266 = .ok (.dup2, 1) := by decide +kernel
theorem dX12_flows_267 : decode cX12_flows 267 = .ok (.iaload, 1) := by decide +kernel
theorem dX12_flows_268 : decode cX12_flows 268 = .ok (.aload_n 0, 1) := by decide +kernel
theorem dX12_flows_269 : decode cX12_flows 269 = .ok (.getfield 31, 3) := by decide +kernel
theorem dX12_flows_272 : decode cX12_flows 272 = .ok (.iload_n 3, 1) := by decide +kernel
theorem dX12_flows_273 : decode cX12_flows 273 = .ok (.iaload, 1) := by decide +kernel
theorem dX12_flows_274 : decode cX12_flows 274 = .ok (.aload_n 0, 1) := by decide +kernel
theorem dX12_flows_275 : decode cX12_flows 275 = .ok (.getfield 31, 3) := by decide +kernel
theorem dX12_flows_278 : decode cX12_flows 278 = .ok (.iload_n 1, 1) := by decide +kernel
theorem dX12_flows_279 : decode cX12_flows 279 = .ok (.iaload, 1) := by decide +kernel
theorem dX12_flows_280 : decode cX12_flows 280 = .ok (.isub, 1) := by decide +kernel
theorem dX12_flows_281 : decode cX12_flows 281 = .ok (.iconst 4, 1) := by decide +kernel
theorem dX12_flows_282 : decode cX12_flows 282 = .ok (.idiv, 1) := by decide +kernel
theorem dX12_flows_283 : decode cX12_flows 283 = .ok (.iadd, 1) := by decide +kernel
theorem dX12_flows_284 : decode cX12_flows 284 = .ok (.iastore, 1) := by decide +kernel
theorem dX12_flows_285 : decode cX12_flows 285 = .ok (.iinc 2 1, 3) := by decide +kernel
theorem dX12_flows_288 : decode cX12_flows 288 = .ok (.goto (-111), 3) := by decide +kernel
theorem dX12_flows_291 : decode cX12_flows 291 = .ok (.iinc 1 1, 3) := by decide +kernel
theorem dX12_flows_294 : decode cX12_flows 294 = .ok (.goto (-125), 3) := by decide +kernel
theorem dX12_flows_297 : decode cX12_flows 297 = .ok (.return_, 1) := by decide +kernel
theorem dX12_goes_0 : decode cX12_goes 0 = .ok (.aload_n 0, 1) := by decide +kernel
theorem dX12_goes_1 : decode cX12_goes 1 = .ok (.invokevirtual 101, 3) := by decide +kernel
theorem dX12_goes_4 : decode cX12_goes 4 = .ok (.iconst 0, 1) := by decide +kernel
theorem dX12_goes_5 : decode cX12_goes 5 = .ok (.istore_n 1, 1) := by decide +kernel
theorem dX12_goes_6 : decode cX12_goes 6 = .ok (.iload_n 1, 1) := by decide +kernel
theorem dX12_goes_7 : decode cX12_goes 7 = .ok (.aload_n 0, 1) := by decide +kernel
theorem dX12_goes_8 : decode cX12_goes 8 = .ok (.getfield 7, 3) := by decide +kernel
theorem dX12_goes_11 : decode cX12_goes 11 = .ok (.iconst 1, 1) := by decide +kernel
theorem dX12_goes_12 : decode cX12_goes 12 = .ok (.iaload, 1) := by decide +kernel
theorem dX12_goes_13 : decode cX12_goes 13 = .ok (.if_icmp .ge 82, 3) := by decide +kernel
theorem dX12_goes_16 : decode cX12_goes 16 = .ok (.sipush 2700, 3) := by decide +kernel
theorem dX12_goes_19 : decode cX12_goes 19 = .ok (.sipush 1604, 3) := by decide +kernel
theorem dX12_goes_22 : decode cX12_goes 22 = .ok (.iload_n 1, 1) := by decide +kernel
theorem dX12_goes_23 : decode cX12_goes 23 = .ok (.imul, 1) := by decide +kernel
theorem dX12_goes_24 : decode cX12_goes 24 = .ok (.iadd, 1) := by decide +kernel
theorem dX12_goes_25 : decode cX12_goes 25 = .ok (.iconst 4, 1) := by decide +kernel
theorem dX12_goes_26 : decode cX12_goes 26 = .ok (.aload_n 0, 1) := by decide +kernel
theorem dX12_goes_27 : decode cX12_goes 27 = .ok (.getfield 7, 3) := by decide +kernel
theorem dX12_goes_30 : decode cX12_goes 30 = .ok (.iconst 0, 1) := by decide +kernel
theorem dX12_goes_31 : decode cX12_goes 31 = .ok (.iaload, 1) := by decide +kernel
theorem dX12_goes_32 : decode cX12_goes 32 = .ok (.imul, 1) := by decide +kernel
theorem dX12_goes_33 : decode cX12_goes 33 = .ok (.iadd, 1) := by decide +kernel
theorem dX12_goes_34 : decode cX12_goes 34 = .ok (.istore_n 2, 1) := by decide +kernel
theorem dX12_goes_35 : decode cX12_goes 35 = .ok (.aload_n 0, 1) := by decide +kernel
theorem dX12_goes_36 : decode cX12_goes 36 = .ok (.getfield 7, 3) := by decide +kernel
theorem dX12_goes_39 : decode cX12_goes 39 = .ok (.iload_n 2, 1) := by decide +kernel
theorem dX12_goes_40 : decode cX12_goes 40 = .ok (.aload_n 0, 1) := by decide +kernel
theorem dX12_goes_41 : decode cX12_goes 41 = .ok (.getfield 16, 3) := by decide +kernel
theorem dX12_goes_44 : decode cX12_goes 44 = .ok (.iload_n 1, 1) := by decide +kernel
theorem dX12_goes_45 : decode cX12_goes 45 = .ok (.iaload, 1) := by decide +kernel
theorem dX12_goes_46 : decode cX12_goes 46 = .ok (.iastore, 1) := by decide +kernel
theorem dX12_goes_47 : decode cX12_goes 47 = .ok (.aload_n 0, 1) := by decide +kernel
theorem dX12_goes_48 : decode cX12_goes 48 = .ok (.getfield 7, 3) := by decide +kernel
theorem dX12_goes_51 : decode cX12_goes 51 = .ok (.iload_n 2, 1) := by decide +kernel
theorem dX12_goes_52 : decode cX12_goes 52 = .ok (.iconst 1, 1) := by decide +kernel
theorem dX12_goes_53 : decode cX12_goes 53 = .ok (.iadd, 1) := by decide +kernel
theorem dX12_goes_54 : decode cX12_goes 54 = .ok (.aload_n 0, 1) := by decide +kernel
theorem dX12_goes_55 : decode cX12_goes 55 = .ok (.getfield 19, 3) := by decide +kernel
theorem dX12_goes_58 : decode cX12_goes 58 = .ok (.iload_n 1, 1) := by decide +kernel
theorem dX12_goes_59 : decode cX12_goes 59 = .ok (.iaload, 1) := by decide +kernel
theorem dX12_goes_60 : decode cX12_goes 60 = .ok (.iastore, 1) := by decide +kernel
theorem dX12_goes_61 : decode cX12_goes 61 = .ok (.aload_n 0, 1) := by decide +kernel
theorem dX12_goes_62 : decode cX12_goes 62 = .ok (.getfield 7, 3) := by decide +kernel
theorem dX12_goes_65 : decode cX12_goes 65 = .ok (.iload_n 2, 1) := by decide +kernel
theorem dX12_goes_66 : decode cX12_goes 66 = .ok (.iconst 2, 1) := by decide +kernel
theorem dX12_goes_67 : decode cX12_goes 67 = .ok (.iadd, 1) := by decide +kernel
theorem dX12_goes_68 : decode cX12_goes 68 = .ok (.aload_n 0, 1) := by decide +kernel
theorem dX12_goes_69 : decode cX12_goes 69 = .ok (.getfield 22, 3) := by decide +kernel
theorem dX12_goes_72 : decode cX12_goes 72 = .ok (.iload_n 1, 1) := by decide +kernel
theorem dX12_goes_73 : decode cX12_goes 73 = .ok (.iaload, 1) := by decide +kernel
theorem dX12_goes_74 : decode cX12_goes 74 = .ok (.iastore, 1) := by decide +kernel
theorem dX12_goes_75 : decode cX12_goes 75 = .ok (.aload_n 0, 1) := by decide +kernel
theorem dX12_goes_76 : decode cX12_goes 76 = .ok (.getfield 7, 3) := by decide +kernel
theorem dX12_goes_79 : decode cX12_goes 79 = .ok (.iload_n 2, 1) := by decide +kernel
theorem dX12_goes_80 : decode cX12_goes 80 = .ok (.iconst 3, 1) := by decide +kernel
theorem dX12_goes_81 : decode cX12_goes 81 = .ok (.iadd, 1) := by decide +kernel
theorem dX12_goes_82 : decode cX12_goes 82 = .ok (.aload_n 0, 1) := by decide +kernel
theorem dX12_goes_83 : decode cX12_goes 83 = .ok (.getfield 25, 3) := by decide +kernel
theorem dX12_goes_86 : decode cX12_goes 86 = .ok (.iload_n 1, 1) := by decide +kernel
theorem dX12_goes_87 : decode cX12_goes 87 = .ok (.iaload, 1) := by decide +kernel
theorem dX12_goes_88 : decode cX12_goes 88 = .ok (.iastore, 1) := by decide +kernel
theorem dX12_goes_89 : decode cX12_goes 89 = .ok (.iinc 1 1, 3) := by decide +kernel
theorem dX12_goes_92 : decode cX12_goes 92 = .ok (.goto (-86), 3) := by decide +kernel
theorem dX12_goes_95 : decode cX12_goes 95 = .ok (.aload_n 0, 1) := by decide +kernel
theorem dX12_goes_96 : decode cX12_goes 96 = .ok (.getfield 7, 3) := by decide +kernel
theorem dX12_goes_99 : decode cX12_goes 99 = .ok (.iconst 0, 1) := by decide +kernel
theorem dX12_goes_100 : decode cX12_goes 100 = .ok (.dup2, 1) := by decide +kernel
theorem dX12_goes_101 : decode cX12_goes 101 = .ok (.iaload, 1) := by decide +kernel
theorem dX12_goes_102 : decode cX12_goes 102 = .ok (.iconst 1, 1) := by decide +kernel
theorem dX12_goes_103 : decode cX12_goes 103 = .ok (.iadd, 1) := by decide +kernel
theorem dX12_goes_104 : decode cX12_goes 104 = .ok (.iastore, 1) := by decide +kernel
theorem dX12_goes_105 : decode cX12_goes 105 = .ok (.return_, 1) := by decide +kernel
theorem dX12_dawn_0 : decode cX12_dawn 0 = .ok (.iload_n 1, 1) := by decide +kernel
theorem dX12_dawn_1 : decode cX12_dawn 1 = .ok (.iconst 1, 1) := by decide +kernel
theorem dX12_dawn_2 : decode cX12_dawn 2 = .ok (.bipush 30, 2) := by decide +kernel
theorem dX12_dawn_4 : decode cX12_dawn 4 = .ok (.invokestatic 69, 3) := by decide +kernel
theorem dX12_dawn_7 : decode cX12_dawn 7 = .ok (.ifCond .eq 17, 3) := by decide +kernel
theorem dX12_dawn_10 : decode cX12_dawn 10 = .ok (.aload_n 0, 1) := by decide +kernel
theorem dX12_dawn_11 : decode cX12_dawn 11 = .ok (.getfield 7, 3) := by decide +kernel
theorem dX12_dawn_14 : decode cX12_dawn 14 = .ok (.iconst 0, 1) := by decide +kernel
theorem dX12_dawn_15 : decode cX12_dawn 15 = .ok (.iaload, 1) := by decide +kernel
theorem dX12_dawn_16 : decode cX12_dawn 16 = .ok (.iload_n 1, 1) := by decide +kernel
theorem dX12_dawn_17 : decode cX12_dawn 17 = .ok (.iadd, 1) := by decide +kernel
theorem dX12_dawn_18 : decode cX12_dawn 18 = .ok (.sipush 400, 3) := by decide +kernel
theorem dX12_dawn_21 : decode cX12_dawn 21 = .ok (.if_icmp .le 6, 3) := by decide +kernel
theorem dX12_dawn_24 : decode cX12_dawn 24 = .ok (.bipush (-2), 2) := by decide +kernel
theorem dX12_dawn_26 : decode cX12_dawn 26 = .ok (.ireturn, 1) := by decide +kernel
theorem dX12_dawn_27 : decode cX12_dawn 27 = .ok (.iconst 0, 1) := by decide +kernel
theorem dX12_dawn_28 : decode cX12_dawn 28 = .ok (.istore_n 2, 1) := by decide +kernel
theorem dX12_dawn_29 : decode cX12_dawn 29 = .ok (.iload_n 2, 1) := by decide +kernel
theorem dX12_dawn_30 : decode cX12_dawn 30 = .ok (.iload_n 1, 1) := by decide +kernel
theorem dX12_dawn_31 : decode cX12_dawn 31 = .ok (.if_icmp .ge 13, 3) := by decide +kernel
theorem dX12_dawn_34 : decode cX12_dawn 34 = .ok (.aload_n 0, 1) := by decide +kernel
theorem dX12_dawn_35 : decode cX12_dawn 35 = .ok (.invokevirtual 104, 3) := by decide +kernel
theorem dX12_dawn_38 : decode cX12_dawn 38 = .ok (.iinc 2 1, 3) := by decide +kernel
theorem dX12_dawn_41 : decode cX12_dawn 41 = .ok (.goto (-12), 3) := by decide +kernel
theorem dX12_dawn_44 : decode cX12_dawn 44 = .ok (.aload_n 0, 1) := by decide +kernel
theorem dX12_dawn_45 : decode cX12_dawn 45 = .ok (.getfield 7, 3) := by decide +kernel
theorem dX12_dawn_48 : decode cX12_dawn 48 = .ok (.iconst 0, 1) := by decide +kernel
theorem dX12_dawn_49 : decode cX12_dawn 49 = .ok (.iaload, 1) := by decide +kernel
theorem dX12_dawn_50 : decode cX12_dawn 50 = .ok (.ireturn, 1) := by decide +kernel
theorem dX12_flowOf_0 : decode cX12_flowOf 0 = .ok (.aload_n 0, 1) := by decide +kernel
theorem dX12_flowOf_1 : decode cX12_flowOf 1 = .ok (.getfield 7, 3) := by decide +kernel
theorem dX12_flowOf_4 : decode cX12_flowOf 4 = .ok (.sipush 2700, 3) := by decide +kernel
theorem dX12_flowOf_7 : decode cX12_flowOf 7 = .ok (.sipush 1604, 3) := by decide +kernel
theorem dX12_flowOf_10 : decode cX12_flowOf 10 = .ok (.iload_n 1, 1) := by decide +kernel
theorem dX12_flowOf_11 : decode cX12_flowOf 11 = .ok (.imul, 1) := by decide +kernel
theorem dX12_flowOf_12 : decode cX12_flowOf 12 = .ok (.iadd, 1) := by decide +kernel
theorem dX12_flowOf_13 : decode cX12_flowOf 13 = .ok (.iconst 4, 1) := by decide +kernel
theorem dX12_flowOf_14 : decode cX12_flowOf 14 = .ok (.iload_n 2, 1) := by decide +kernel
theorem dX12_flowOf_15 : decode cX12_flowOf 15 = .ok (.imul, 1) := by decide +kernel
theorem dX12_flowOf_16 : decode cX12_flowOf 16 = .ok (.iadd, 1) := by decide +kernel
theorem dX12_flowOf_17 : decode cX12_flowOf 17 = .ok (.iload_n 3, 1) := by decide +kernel
theorem dX12_flowOf_18 : decode cX12_flowOf 18 = .ok (.iadd, 1) := by decide +kernel
theorem dX12_flowOf_19 : decode cX12_flowOf 19 = .ok (.iaload, 1) := by decide +kernel
theorem dX12_flowOf_20 : decode cX12_flowOf 20 = .ok (.ireturn, 1) := by decide +kernel
theorem dX12_flow_0 : decode cX12_flow 0 = .ok (.aload_n 0, 1) := by decide +kernel
theorem dX12_flow_1 : decode cX12_flow 1 = .ok (.iload_n 1, 1) := by decide +kernel
theorem dX12_flow_2 : decode cX12_flow 2 = .ok (.invokevirtual 94, 3) := by decide +kernel
theorem dX12_flow_5 : decode cX12_flow 5 = .ok (.ifCond .eq 44, 3) := by decide +kernel
theorem dX12_flow_8 : decode cX12_flow 8 = .ok (.aload_n 0, 1) := by decide +kernel
theorem dX12_flow_9 : decode cX12_flow 9 = .ok (.iload_n 2, 1) := by decide +kernel
theorem dX12_flow_10 : decode cX12_flow 10 = .ok (.invokevirtual 107, 3) := by decide +kernel
theorem dX12_flow_13 : decode cX12_flow 13 = .ok (.ifCond .eq 36, 3) := by decide +kernel
theorem dX12_flow_16 : decode cX12_flow 16 = .ok (.iload_n 2, 1) := by decide +kernel
theorem dX12_flow_17 : decode cX12_flow 17 = .ok (.aload_n 0, 1) := by decide +kernel
theorem dX12_flow_18 : decode cX12_flow 18 = .ok (.getfield 7, 3) := by decide +kernel
theorem dX12_flow_21 : decode cX12_flow 21 = .ok (.sipush 200, 3) := by decide +kernel
theorem dX12_flow_24 : decode cX12_flow 24 = .ok (.iload_n 1, 1) := by decide +kernel
theorem dX12_flow_25 : decode cX12_flow 25 = .ok (.iadd, 1) := by decide +kernel
theorem dX12_flow_26 : decode cX12_flow 26 = .ok (.iaload, 1) := by decide +kernel
theorem dX12_flow_27 : decode cX12_flow 27 = .ok (.if_icmp .lt 22, 3) := by decide +kernel
theorem dX12_flow_30 : decode cX12_flow 30 = .ok (.iload_n 3, 1) := by decide +kernel
theorem dX12_flow_31 : decode cX12_flow 31 = .ok (.iconst 0, 1) := by decide +kernel
theorem dX12_flow_32 : decode cX12_flow 32 = .ok (.iconst 3, 1) := by decide +kernel
theorem dX12_flow_33 : decode cX12_flow 33 = .ok (.invokestatic 69, 3) := by decide +kernel
theorem dX12_flow_36 : decode cX12_flow 36 = .ok (.ifCond .eq 13, 3) := by decide +kernel
theorem dX12_flow_39 : decode cX12_flow 39 = .ok (.aload_n 0, 1) := by decide +kernel
theorem dX12_flow_40 : decode cX12_flow 40 = .ok (.iload_n 1, 1) := by decide +kernel
theorem dX12_flow_41 : decode cX12_flow 41 = .ok (.iload_n 2, 1) := by decide +kernel
theorem dX12_flow_42 : decode cX12_flow 42 = .ok (.iload_n 3, 1) := by decide +kernel
theorem dX12_flow_43 : decode cX12_flow 43 = .ok (.invokevirtual 110, 3) := by decide +kernel
theorem dX12_flow_46 : decode cX12_flow 46 = .ok (.goto 4, 3) := by decide +kernel
theorem dX12_flow_49 : decode cX12_flow 49 = .ok (.iconst (-1), 1) := by decide +kernel
theorem dX12_flow_50 : decode cX12_flow 50 = .ok (.ireturn, 1) := by decide +kernel
theorem dX12_pipe_0 : decode cX12_pipe 0 = .ok (.aload_n 0, 1) := by decide +kernel
theorem dX12_pipe_1 : decode cX12_pipe 1 = .ok (.iload_n 1, 1) := by decide +kernel
theorem dX12_pipe_2 : decode cX12_pipe 2 = .ok (.invokevirtual 94, 3) := by decide +kernel
theorem dX12_pipe_5 : decode cX12_pipe 5 = .ok (.ifCond .ne 5, 3) := by decide +kernel
theorem dX12_pipe_8 : decode cX12_pipe 8 = .ok (.iconst (-1), 1) := by decide +kernel
theorem dX12_pipe_9 : decode cX12_pipe 9 = .ok (.ireturn, 1) := by decide +kernel
theorem dX12_pipe_10 : decode cX12_pipe 10 = .ok (.iload_n 2, 1) := by decide +kernel
theorem dX12_pipe_11 : decode cX12_pipe 11 = .ok (.iconst 0, 1) := by decide +kernel
theorem dX12_pipe_12 : decode cX12_pipe 12 = .ok (.bipush 99, 2) := by decide +kernel
theorem dX12_pipe_14 : decode cX12_pipe 14 = .ok (.invokestatic 69, 3) := by decide +kernel
theorem dX12_pipe_17 : decode cX12_pipe 17 = .ok (.ifCond .ne 6, 3) := by decide +kernel
theorem dX12_pipe_20 : decode cX12_pipe 20 = .ok (.bipush (-2), 2) := by decide +kernel
theorem dX12_pipe_22 : decode cX12_pipe 22 = .ok (.ireturn, 1) := by decide +kernel
theorem dX12_pipe_23 : decode cX12_pipe 23 = .ok (.aload_n 0, 1) := by decide +kernel
theorem dX12_pipe_24 : decode cX12_pipe 24 = .ok (.getfield 7, 3) := by decide +kernel
theorem dX12_pipe_27 : decode cX12_pipe 27 = .ok (.sipush 212, 3) := by decide +kernel
theorem dX12_pipe_30 : decode cX12_pipe 30 = .ok (.iload_n 1, 1) := by decide +kernel
theorem dX12_pipe_31 : decode cX12_pipe 31 = .ok (.iadd, 1) := by decide +kernel
theorem dX12_pipe_32 : decode cX12_pipe 32 = .ok (.iaload, 1) := by decide +kernel
theorem dX12_pipe_33 : decode cX12_pipe 33 = .ok (.istore_n 3, 1) := by decide +kernel
theorem dX12_pipe_34 : decode cX12_pipe 34 = .ok (.aload_n 0, 1) := by decide +kernel
theorem dX12_pipe_35 : decode cX12_pipe 35 = .ok (.getfield 7, 3) := by decide +kernel
theorem dX12_pipe_38 : decode cX12_pipe 38 = .ok (.sipush 212, 3) := by decide +kernel
theorem dX12_pipe_41 : decode cX12_pipe 41 = .ok (.iload_n 1, 1) := by decide +kernel
theorem dX12_pipe_42 : decode cX12_pipe 42 = .ok (.iadd, 1) := by decide +kernel
theorem dX12_pipe_43 : decode cX12_pipe 43 = .ok (.iload_n 2, 1) := by decide +kernel
theorem dX12_pipe_44 : decode cX12_pipe 44 = .ok (.iastore, 1) := by decide +kernel
theorem dX12_pipe_45 : decode cX12_pipe 45 = .ok (.iload_n 3, 1) := by decide +kernel
theorem dX12_pipe_46 : decode cX12_pipe 46 = .ok (.ireturn, 1) := by decide +kernel
theorem dX12_scale_0 : decode cX12_scale 0 = .ok (.aload_n 0, 1) := by decide +kernel
theorem dX12_scale_1 : decode cX12_scale 1 = .ok (.iload_n 1, 1) := by decide +kernel
theorem dX12_scale_2 : decode cX12_scale 2 = .ok (.invokevirtual 94, 3) := by decide +kernel
theorem dX12_scale_5 : decode cX12_scale 5 = .ok (.ifCond .ne 5, 3) := by decide +kernel
theorem dX12_scale_8 : decode cX12_scale 8 = .ok (.iconst (-1), 1) := by decide +kernel
theorem dX12_scale_9 : decode cX12_scale 9 = .ok (.ireturn, 1) := by decide +kernel
theorem dX12_scale_10 : decode cX12_scale 10 = .ok (.aload_n 0, 1) := by decide +kernel
theorem dX12_scale_11 : decode cX12_scale 11 = .ok (.getfield 7, 3) := by decide +kernel
theorem dX12_scale_14 : decode cX12_scale 14 = .ok (.sipush 224, 3) := by decide +kernel
theorem dX12_scale_17 : decode cX12_scale 17 = .ok (.iload_n 1, 1) := by decide +kernel
theorem dX12_scale_18 : decode cX12_scale 18 = .ok (.iadd, 1) := by decide +kernel
theorem dX12_scale_19 : decode cX12_scale 19 = .ok (.iaload, 1) := by decide +kernel
theorem dX12_scale_20 : decode cX12_scale 20 = .ok (.istore_n 2, 1) := by decide +kernel
theorem dX12_scale_21 : decode cX12_scale 21 = .ok (.aload_n 0, 1) := by decide +kernel
theorem dX12_scale_22 : decode cX12_scale 22 = .ok (.getfield 7, 3) := by decide +kernel
theorem dX12_scale_25 : decode cX12_scale 25 = .ok (.sipush 224, 3) := by decide +kernel
theorem dX12_scale_28 : decode cX12_scale 28 = .ok (.iload_n 1, 1) := by decide +kernel
theorem dX12_scale_29 : decode cX12_scale 29 = .ok (.iadd, 1) := by decide +kernel
theorem dX12_scale_30 : decode cX12_scale 30 = .ok (.iconst 0, 1) := by decide +kernel
theorem dX12_scale_31 : decode cX12_scale 31 = .ok (.iastore, 1) := by decide +kernel
theorem dX12_scale_32 : decode cX12_scale 32 = .ok (.iload_n 2, 1) := by decide +kernel
theorem dX12_scale_33 : decode cX12_scale 33 = .ok (.ireturn, 1) := by decide +kernel
theorem dX12_feed_0 : decode cX12_feed 0 = .ok (.iload_n 3, 1) := by decide +kernel
theorem dX12_feed_1 : decode cX12_feed 1 = .ok (.iconst 1, 1) := by decide +kernel
theorem dX12_feed_2 : decode cX12_feed 2 = .ok (.bipush 8, 2) := by decide +kernel
theorem dX12_feed_4 : decode cX12_feed 4 = .ok (.invokestatic 69, 3) := by decide +kernel
theorem dX12_feed_7 : decode cX12_feed 7 = .ok (.ifCond .ne 6, 3) := by decide +kernel
theorem dX12_feed_10 : decode cX12_feed 10 = .ok (.bipush (-2), 2) := by decide +kernel
theorem dX12_feed_12 : decode cX12_feed 12 = .ok (.ireturn, 1) := by decide +kernel
theorem dX12_feed_13 : decode cX12_feed 13 = .ok (.aload_n 0, 1) := by decide +kernel
theorem dX12_feed_14 : decode cX12_feed 14 = .ok (.getfield 7, 3) := by decide +kernel
theorem dX12_feed_17 : decode cX12_feed 17 = .ok (.bipush 6, 2) := by decide +kernel
theorem dX12_feed_19 : decode cX12_feed 19 = .ok (.iaload, 1) := by decide +kernel
theorem dX12_feed_20 : decode cX12_feed 20 = .ok (.iload_n 3, 1) := by decide +kernel
theorem dX12_feed_21 : decode cX12_feed 21 = .ok (.iadd, 1) := by decide +kernel
theorem dX12_feed_22 : decode cX12_feed 22 = .ok (.bipush 120, 2) := by decide +kernel
theorem dX12_feed_24 : decode cX12_feed 24 = .ok (.if_icmp .le 6, 3) := by decide +kernel
theorem dX12_feed_27 : decode cX12_feed 27 = .ok (.bipush (-4), 2) := by decide +kernel
theorem dX12_feed_29 : decode cX12_feed 29 = .ok (.ireturn, 1) := by decide +kernel
theorem dX12_feed_30 : decode cX12_feed 30 = .ok (.iload_n 3, 1) := by decide +kernel
theorem dX12_feed_31 : decode cX12_feed 31 = .ok (.iconst 1, 1) := by decide +kernel
theorem dX12_feed_32 : decode cX12_feed 32 = .ok (.isub, 1) := by decide +kernel
theorem dX12_feed_33 : decode cX12_feed 33 = .ok (.istore 4, 2) := by decide +kernel
theorem dX12_feed_35 : decode cX12_feed 35 = .ok (.iload 4, 2) := by decide +kernel
theorem dX12_feed_37 : decode cX12_feed 37 = .ok (.ifCond .lt 48, 3) := by decide +kernel
theorem dX12_feed_40 : decode cX12_feed 40 = .ok (.aload_n 0, 1) := by decide +kernel
theorem dX12_feed_41 : decode cX12_feed 41 = .ok (.getfield 7, 3) := by decide +kernel
theorem dX12_feed_44 : decode cX12_feed 44 = .ok (.sipush 1880, 3) := by decide +kernel
theorem dX12_feed_47 : decode cX12_feed 47 = .ok (.aload_n 0, 1) := by decide +kernel
theorem dX12_feed_48 : decode cX12_feed 48 = .ok (.getfield 7, 3) := by decide +kernel
theorem dX12_feed_51 : decode cX12_feed 51 = .ok (.bipush 6, 2) := by decide +kernel
theorem dX12_feed_53 : decode cX12_feed 53 = .ok (.iaload, 1) := by decide +kernel
theorem dX12_feed_54 : decode cX12_feed 54 = .ok (.iadd, 1) := by decide +kernel
theorem dX12_feed_55 : decode cX12_feed 55 = .ok (.lload_n 1, 1) := by decide +kernel
theorem dX12_feed_56 : decode cX12_feed 56 = .ok (.bipush 8, 2) := by decide +kernel
theorem dX12_feed_58 : decode cX12_feed 58 = .ok (.iload 4, 2) := by decide +kernel
theorem dX12_feed_60 : decode cX12_feed 60 = .ok (.imul, 1) := by decide +kernel
theorem dX12_feed_61 : decode cX12_feed 61 = .ok (.lshr, 1) := by decide +kernel
theorem dX12_feed_62 : decode cX12_feed 62 = .ok (.ldc2_w 114, 3) := by decide +kernel
theorem dX12_feed_65 : decode cX12_feed 65 = .ok (.land, 1) := by decide +kernel
theorem dX12_feed_66 : decode cX12_feed 66 = .ok (.l2i, 1) := by decide +kernel
theorem dX12_feed_67 : decode cX12_feed 67 = .ok (.iastore, 1) := by decide +kernel
theorem dX12_feed_68 : decode cX12_feed 68 = .ok (.aload_n 0, 1) := by decide +kernel
theorem dX12_feed_69 : decode cX12_feed 69 = .ok (.getfield 7, 3) := by decide +kernel
theorem dX12_feed_72 : decode cX12_feed 72 = .ok (.bipush 6, 2) := by decide +kernel
theorem dX12_feed_74 : decode cX12_feed 74 = .ok (.dup2, 1) := by decide +kernel
theorem dX12_feed_75 : decode cX12_feed 75 = .ok (.iaload, 1) := by decide +kernel
theorem dX12_feed_76 : decode cX12_feed 76 = .ok (.iconst 1, 1) := by decide +kernel
theorem dX12_feed_77 : decode cX12_feed 77 = .ok (.iadd, 1) := by decide +kernel
theorem dX12_feed_78 : decode cX12_feed 78 = .ok (.iastore, 1) := by decide +kernel
theorem dX12_feed_79 : decode cX12_feed 79 = .ok (.iinc 4 (-1), 3) := by decide +kernel
theorem dX12_feed_82 : decode cX12_feed 82 = .ok (.goto (-47), 3) := by decide +kernel
theorem dX12_feed_85 : decode cX12_feed 85 = .ok (.aload_n 0, 1) := by decide +kernel
theorem dX12_feed_86 : decode cX12_feed 86 = .ok (.getfield 7, 3) := by decide +kernel
theorem dX12_feed_89 : decode cX12_feed 89 = .ok (.bipush 6, 2) := by decide +kernel
theorem dX12_feed_91 : decode cX12_feed 91 = .ok (.iaload, 1) := by decide +kernel
theorem dX12_feed_92 : decode cX12_feed 92 = .ok (.ireturn, 1) := by decide +kernel
theorem dX12_here_0 : decode cX12_here 0 = .ok (.aload_n 0, 1) := by decide +kernel
theorem dX12_here_1 : decode cX12_here 1 = .ok (.getfield 116, 3) := by decide +kernel
theorem dX12_here_4 : decode cX12_here 4 = .ok (.aload_n 0, 1) := by decide +kernel
theorem dX12_here_5 : decode cX12_here 5 = .ok (.getfield 7, 3) := by decide +kernel
theorem dX12_here_8 : decode cX12_here 8 = .ok (.sipush 252, 3) := by decide +kernel
theorem dX12_here_11 : decode cX12_here 11 = .ok (.aload_n 0, 1) := by decide +kernel
theorem dX12_here_12 : decode cX12_here 12 = .ok (.getfield 119, 3) := by decide +kernel
theorem dX12_here_15 : decode cX12_here 15 = .ok (.iadd, 1) := by decide +kernel
theorem dX12_here_16 : decode cX12_here 16 = .ok (.iaload, 1) := by decide +kernel
theorem dX12_here_17 : decode cX12_here 17 = .ok (.if_icmp .ge 27, 3) := by decide +kernel
theorem dX12_here_20 : decode cX12_here 20 = .ok (.aload_n 0, 1) := by decide +kernel
theorem dX12_here_21 : decode cX12_here 21 = .ok (.getfield 7, 3) := by decide +kernel
theorem dX12_here_24 : decode cX12_here 24 = .ok (.sipush 264, 3) := by decide +kernel
theorem dX12_here_27 : decode cX12_here 27 = .ok (.bipush 120, 2) := by decide +kernel
theorem dX12_here_29 : decode cX12_here 29 = .ok (.aload_n 0, 1) := by decide +kernel
theorem dX12_here_30 : decode cX12_here 30 = .ok (.getfield 119, 3) := by decide +kernel
theorem dX12_here_33 : decode cX12_here 33 = .ok (.imul, 1) := by decide +kernel
theorem dX12_here_34 : decode cX12_here 34 = .ok (.iadd, 1) := by decide +kernel
theorem dX12_here_35 : decode cX12_here 35 = .ok (.aload_n 0, 1) := by decide +kernel
theorem dX12_here_36 : decode cX12_here 36 = .ok (.getfield 116, 3) := by decide +kernel
theorem dX12_here_39 : decode cX12_here 39 = .ok (.iadd, 1) := by decide +kernel
theorem dX12_here_40 : decode cX12_here 40 = .ok (.iaload, 1) := by decide +kernel
theorem dX12_here_41 : decode cX12_here 41 = .ok (.goto 4, 3) := by decide +kernel
theorem dX12_here_44 : decode cX12_here 44 = .ok (.iconst (-1), 1) := by decide +kernel
theorem dX12_here_45 : decode cX12_here 45 = .ok (.ireturn, 1) := by decide +kernel
theorem dX12_must_0 : decode cX12_must 0 = .ok (.aload_n 0, 1) := by decide +kernel
theorem dX12_must_1 : decode cX12_must 1 = .ok (.aload_n 0, 1) := by decide +kernel
theorem dX12_must_2 : decode cX12_must 2 = .ok (.getfield 122, 3) := by decide +kernel
theorem dX12_must_5 : decode cX12_must 5 = .ok (.ifCond .ne 11, 3) := by decide +kernel
theorem dX12_must_8 : decode cX12_must 8 = .ok (.aload_n 0, 1) := by decide +kernel
theorem dX12_must_9 : decode cX12_must 9 = .ok (.invokevirtual 126, 3) := by decide +kernel
theorem dX12_must_12 : decode cX12_must 12 = .ok (.iload_n 1, 1) := by decide +kernel
theorem dX12_must_13 : decode cX12_must 13 = .ok (.if_icmp .eq 7, 3) := by decide +kernel
theorem dX12_must_16 : decode cX12_must 16 = .ok (.iconst 1, 1) := by decide +kernel
theorem dX12_must_17 : decode cX12_must 17 = .ok (.goto 4, 3) := by decide +kernel
theorem dX12_must_20 : decode cX12_must 20 = .ok (.iconst 0, 1) := by decide +kernel
theorem dX12_must_21 : decode cX12_must 21 = .ok (.putfield 122, 3) := by decide +kernel
theorem dX12_must_24 : decode cX12_must 24 = .ok (.aload_n 0, 1) := by decide +kernel
theorem dX12_must_25 : decode cX12_must 25 = .ok (.dup, 1) := by decide +kernel
theorem dX12_must_26 : decode cX12_must 26 = .ok (.getfield 116, 3) := by decide +kernel
theorem dX12_must_29 : decode cX12_must 29 = .ok (.aload_n 0, 1) := by decide +kernel
theorem dX12_must_30 : decode cX12_must 30 = .ok (.getfield 122, 3) := by decide +kernel
theorem dX12_must_33 : decode cX12_must 33 = .ok (.ifCond .eq 7, 3) := by decide +kernel
theorem dX12_must_36 : decode cX12_must 36 = .ok (.iconst 0, 1) := by decide +kernel
theorem dX12_must_37 : decode cX12_must 37 = .ok (.goto 4, 3) := by decide +kernel
theorem dX12_must_40 : decode cX12_must 40 = .ok (.iconst 1, 1) := by decide +kernel
theorem dX12_must_41 : decode cX12_must 41 = .ok (.iadd, 1) := by decide +kernel
theorem dX12_must_42 : decode cX12_must 42 = .ok (.putfield 116, 3) := by decide +kernel
theorem dX12_must_45 : decode cX12_must 45 = .ok (.return_, 1) := by decide +kernel
theorem dX12_spells_0 : decode cX12_spells 0 = .ok (.iconst 0, 1) := by decide +kernel
theorem dX12_spells_1 : decode cX12_spells 1 = .ok (.istore_n 2, 1) := by decide +kernel
theorem dX12_spells_2 : decode cX12_spells 2 = .ok (.iload_n 2, 1) := by decide +kernel
theorem dX12_spells_3 : decode cX12_spells 3 = .ok (.aload_n 1, 1) := by decide +kernel
theorem dX12_spells_4 : decode cX12_spells 4 = .ok (.invokevirtual 130, 3) := by decide +kernel
theorem dX12_spells_7 : decode cX12_spells 7 = .ok (.if_icmp .ge 18, 3) := by decide +kernel
theorem dX12_spells_10 : decode cX12_spells 10 = .ok (.aload_n 0, 1) := by decide +kernel
theorem dX12_spells_11 : decode cX12_spells 11 = .ok (.aload_n 1, 1) := by decide +kernel
theorem dX12_spells_12 : decode cX12_spells 12 = .ok (.iload_n 2, 1) := by decide +kernel
theorem dX12_spells_13 : decode cX12_spells 13 = .ok (.invokevirtual 135, 3) := by decide +kernel
theorem dX12_spells_16 : decode cX12_spells 16 = .ok (.invokevirtual 139, 3) := by decide +kernel
theorem dX12_spells_19 : decode cX12_spells 19 = .ok (.iinc 2 1, 3) := by decide +kernel
theorem dX12_spells_22 : decode cX12_spells 22 = .ok (.goto (-20), 3) := by decide +kernel
theorem dX12_spells_25 : decode cX12_spells 25 = .ok (.return_, 1) := by decide +kernel
theorem dX12_number_0 : decode cX12_number 0 = .ok (.aload_n 0, 1) := by decide +kernel
theorem dX12_number_1 : decode cX12_number 1 = .ok (.aload_n 0, 1) := by decide +kernel
theorem dX12_number_2 : decode cX12_number 2 = .ok (.getfield 122, 3) := by decide +kernel
theorem dX12_number_5 : decode cX12_number 5 = .ok (.ifCond .ne 17, 3) := by decide +kernel
theorem dX12_number_8 : decode cX12_number 8 = .ok (.aload_n 0, 1) := by decide +kernel
theorem dX12_number_9 : decode cX12_number 9 = .ok (.invokevirtual 126, 3) := by decide +kernel
theorem dX12_number_12 : decode cX12_number 12 = .ok (.bipush 48, 2) := by decide +kernel
theorem dX12_number_14 : decode cX12_number 14 = .ok (.bipush 57, 2) := by decide +kernel
theorem dX12_number_16 : decode cX12_number 16 = .ok (.invokestatic 69, 3) := by decide +kernel
theorem dX12_number_19 : decode cX12_number 19 = .ok (.ifCond .ne 7, 3) := by decide +kernel
theorem dX12_number_22 : decode cX12_number 22 = .ok (.iconst 1, 1) := by decide +kernel
theorem dX12_number_23 : decode cX12_number 23 = .ok (.goto 4, 3) := by decide +kernel
theorem dX12_number_26 : decode cX12_number 26 = .ok (.iconst 0, 1) := by decide +kernel
theorem dX12_number_27 : decode cX12_number 27 = .ok (.putfield 122, 3) := by decide +kernel
theorem dX12_number_30 : decode cX12_number 30 = .ok (.iconst 0, 1) := by decide +kernel
theorem dX12_number_31 : decode cX12_number 31 = .ok (.istore_n 1, 1) := by decide +kernel
theorem dX12_number_32 : decode cX12_number 32 = .ok (.iconst 0, 1) := by decide +kernel
theorem dX12_number_33 : decode cX12_number 33 = .ok (.istore_n 2, 1) := by decide +kernel
theorem dX12_number_34 : decode cX12_number 34 = .ok (.iload_n 2, 1) := by decide +kernel
theorem dX12_number_35 : decode cX12_number 35 = .ok (.iconst 3, 1) := by decide +kernel
theorem dX12_number_36 : decode cX12_number 36 = .ok (.if_icmp .ge 61, 3) := by decide +kernel
theorem dX12_number_39 : decode cX12_number 39 = .ok (.aload_n 0, 1) := by decide +kernel
theorem dX12_number_40 : decode cX12_number 40 = .ok (.getfield 122, 3) := by decide +kernel
theorem dX12_number_43 : decode cX12_number 43 = .ok (.ifCond .ne 54, 3) := by decide +kernel
theorem dX12_number_46 : decode cX12_number 46 = .ok (.aload_n 0, 1) := by decide +kernel
theorem dX12_number_47 : decode cX12_number 47 = .ok (.invokevirtual 126, 3) := by decide +kernel
theorem dX12_number_50 : decode cX12_number 50 = .ok (.bipush 48, 2) := by decide +kernel
theorem dX12_number_52 : decode cX12_number 52 = .ok (.bipush 57, 2) := by decide +kernel
theorem dX12_number_54 : decode cX12_number 54 = .ok (.invokestatic 69, 3) := by decide +kernel
theorem dX12_number_57 : decode cX12_number 57 = .ok (.ifCond .eq 40, 3) := by decide +kernel
theorem dX12_number_60 : decode cX12_number 60 = .ok (.iload_n 2, 1) := by decide +kernel
theorem dX12_number_61 : decode cX12_number 61 = .ok (.ifCond .eq 7, 3) := by decide +kernel
theorem dX12_number_64 : decode cX12_number 64 = .ok (.iload_n 1, 1) := by decide +kernel
theorem dX12_number_65 : decode cX12_number 65 = .ok (.ifCond .le 32, 3) := by decide +kernel
theorem dX12_number_68 : decode cX12_number 68 = .ok (.bipush 10, 2) := by decide +kernel
theorem dX12_number_70 : decode cX12_number 70 = .ok (.iload_n 1, 1) := by decide +kernel
theorem dX12_number_71 : decode cX12_number 71 = .ok (.imul, 1) := by decide +kernel
theorem dX12_number_72 : decode cX12_number 72 = .ok (.aload_n 0, 1) := by decide +kernel
theorem dX12_number_73 : decode cX12_number 73 = .ok (.invokevirtual 126, 3) := by decide +kernel
theorem dX12_number_76 : decode cX12_number 76 = .ok (.iadd, 1) := by decide +kernel
theorem dX12_number_77 : decode cX12_number 77 = .ok (.bipush 48, 2) := by decide +kernel
theorem dX12_number_79 : decode cX12_number 79 = .ok (.isub, 1) := by decide +kernel
theorem dX12_number_80 : decode cX12_number 80 = .ok (.istore_n 1, 1) := by decide +kernel
theorem dX12_number_81 : decode cX12_number 81 = .ok (.aload_n 0, 1) := by decide +kernel
theorem dX12_number_82 : decode cX12_number 82 = .ok (.dup, 1) := by decide +kernel
theorem dX12_number_83 : decode cX12_number 83 = .ok (.getfield 116, 3) := by decide +kernel
theorem dX12_number_86 : decode cX12_number 86 = .ok (.iconst 1, 1) := by decide +kernel
theorem dX12_number_87 : decode cX12_number 87 = .ok (.iadd, 1) := by decide +kernel
theorem dX12_number_88 : decode cX12_number 88 = .ok (.putfield 116, 3) := by decide +kernel
theorem dX12_number_91 : decode cX12_number 91 = .ok (.iinc 2 1, 3) := by decide +kernel
theorem dX12_number_94 : decode cX12_number 94 = .ok (.goto (-60), 3) := by decide +kernel
theorem dX12_number_97 : decode cX12_number 97 = .ok (.iload_n 1, 1) := by decide +kernel
theorem dX12_number_98 : decode cX12_number 98 = .ok (.ireturn, 1) := by decide +kernel
theorem dX12_told_0 : decode cX12_told 0 = .ok (.aload_n 0, 1) := by decide +kernel
theorem dX12_told_1 : decode cX12_told 1 = .ok (.getfield 142, 3) := by decide +kernel
theorem dX12_told_4 : decode cX12_told 4 = .ok (.iconst (-1), 1) := by decide +kernel
theorem dX12_told_5 : decode cX12_told 5 = .ok (.if_icmp .ne 5, 3) := by decide +kernel
theorem dX12_told_8 : decode cX12_told 8 = .ok (.iconst 0, 1) := by decide +kernel
theorem dX12_told_9 : decode cX12_told 9 = .ok (.ireturn, 1) := by decide +kernel
theorem dX12_told_10 : decode cX12_told 10 = .ok (.iload_n 1, 1) := by decide +kernel
theorem dX12_told_11 : decode cX12_told 11 = .ok (.bipush 107, 2) := by decide +kernel
theorem dX12_told_13 : decode cX12_told 13 = .ok (.if_icmp .ne 9, 3) := by decide +kernel
theorem dX12_told_16 : decode cX12_told 16 = .ok (.sipush 2000, 3) := by decide +kernel
theorem dX12_told_19 : decode cX12_told 19 = .ok (.goto 42, 3) := by decide +kernel
theorem dX12_told_22 : decode cX12_told 22 = .ok (.iload_n 1, 1) := by decide +kernel
theorem dX12_told_23 : decode cX12_told 23 = .ok (.bipush 116, 2) := by decide +kernel
theorem dX12_told_25 : decode cX12_told 25 = .ok (.if_icmp .ne 9, 3) := by decide +kernel
theorem dX12_told_28 : decode cX12_told 28 = .ok (.sipush 2008, 3) := by decide +kernel
theorem dX12_told_31 : decode cX12_told 31 = .ok (.goto 30, 3) := by decide +kernel
theorem dX12_told_34 : decode cX12_told 34 = .ok (.iload_n 1, 1) := by decide +kernel
theorem dX12_told_35 : decode cX12_told 35 = .ok (.bipush 110, 2) := by decide +kernel
theorem dX12_told_37 : decode cX12_told 37 = .ok (.if_icmp .ne 9, 3) := by decide +kernel
theorem dX12_told_40 : decode cX12_told 40 = .ok (.sipush 2016, 3) := by decide +kernel
theorem dX12_told_43 : decode cX12_told 43 = .ok (.goto 18, 3) := by decide +kernel
theorem dX12_told_46 : decode cX12_told 46 = .ok (.iload_n 1, 1) := by decide +kernel
theorem dX12_told_47 : decode cX12_told 47 = .ok (.bipush 115, 2) := by decide +kernel
theorem dX12_told_49 : decode cX12_told 49 = .ok (.if_icmp .ne 9, 3) := by decide +kernel
theorem dX12_told_52 : decode cX12_told 52 = .ok (.sipush 2032, 3) := by decide +kernel
theorem dX12_told_55 : decode cX12_told 55 = .ok (.goto 6, 3) := by decide +kernel
theorem dX12_told_58 : decode cX12_told 58 = .ok (.sipush 2024, 3) := by decide +kernel
theorem dX12_told_61 : decode cX12_told 61 = .ok (.istore_n 2, 1) := by decide +kernel
theorem dX12_told_62 : decode cX12_told 62 = .ok (.aload_n 0, 1) := by decide +kernel
theorem dX12_told_63 : decode cX12_told 63 = .ok (.getfield 7, 3) := by decide +kernel
theorem dX12_told_66 : decode cX12_told 66 = .ok (.iload_n 2, 1) := by decide +kernel
theorem dX12_told_67 : decode cX12_told 67 = .ok (.aload_n 0, 1) := by decide +kernel
theorem dX12_told_68 : decode cX12_told 68 = .ok (.getfield 142, 3) := by decide +kernel
theorem dX12_told_71 : decode cX12_told 71 = .ok (.iadd, 1) := by decide +kernel
theorem dX12_told_72 : decode cX12_told 72 = .ok (.iaload, 1) := by decide +kernel
theorem dX12_told_73 : decode cX12_told 73 = .ok (.ireturn, 1) := by decide +kernel
theorem dX12_factor_0 : decode cX12_factor 0 = .ok (.aload_n 0, 1) := by decide +kernel
theorem dX12_factor_1 : decode cX12_factor 1 = .ok (.getfield 122, 3) := by decide +kernel
theorem dX12_factor_4 : decode cX12_factor 4 = .ok (.ifCond .eq 5, 3) := by decide +kernel
theorem dX12_factor_7 : decode cX12_factor 7 = .ok (.iconst 0, 1) := by decide +kernel
theorem dX12_factor_8 : decode cX12_factor 8 = .ok (.ireturn, 1) := by decide +kernel
theorem dX12_factor_9 : decode cX12_factor 9 = .ok (.aload_n 0, 1) := by decide +kernel
theorem dX12_factor_10 : decode cX12_factor 10 = .ok (.invokevirtual 126, 3) := by decide +kernel
theorem dX12_factor_13 : decode cX12_factor 13 = .ok (.istore_n 1, 1) := by decide +kernel
theorem dX12_factor_14 : decode cX12_factor 14 = .ok (.iload_n 1, 1) := by decide +kernel
theorem dX12_factor_15 : decode cX12_factor 15 = .ok (.bipush 33, 2) := by decide +kernel
theorem dX12_factor_17 : decode cX12_factor 17 = .ok (.if_icmp .eq 9, 3) := by decide +kernel
theorem dX12_factor_20 : decode cX12_factor 20 = .ok (.iload_n 1, 1) := by decide +kernel
theorem dX12_factor_21 : decode cX12_factor 21 = .ok (.bipush 40, 2) := by decide +kernel
theorem dX12_factor_23 : decode cX12_factor 23 = .ok (.if_icmp .ne 112, 3) := by decide +kernel
theorem dX12_factor_26 : decode cX12_factor 26 = .ok (.aload_n 0, 1) := by decide +kernel
theorem dX12_factor_27 : decode cX12_factor 27 = .ok (.aload_n 0, 1) := by decide +kernel
theorem dX12_factor_28 : decode cX12_factor 28 = .ok (.getfield 145, 3) := by decide +kernel
theorem dX12_factor_31 : decode cX12_factor 31 = .ok (.iconst 5, 1) := by decide +kernel
theorem dX12_factor_32 : decode cX12_factor 32 = .ok (.if_icmp .ne 7, 3) := by decide +kernel
theorem dX12_factor_35 : decode cX12_factor 35 = .ok (.iconst 1, 1) := by decide +kernel
theorem dX12_factor_36 : decode cX12_factor 36 = .ok (.goto 4, 3) := by decide +kernel
theorem dX12_factor_39 : decode cX12_factor 39 = .ok (.iconst 0, 1) := by decide +kernel
theorem dX12_factor_40 : decode cX12_factor 40 = .ok (.putfield 122, 3) := by decide +kernel
theorem dX12_factor_43 : decode cX12_factor 43 = .ok (.aload_n 0, 1) := by decide +kernel
theorem dX12_factor_44 : decode cX12_factor 44 = .ok (.dup, 1) := by decide +kernel
theorem dX12_factor_45 : decode cX12_factor 45 = .ok (.getfield 145, 3) := by decide +kernel
theorem dX12_factor_48 : decode cX12_factor 48 = .ok (.iconst 1, 1) := by decide +kernel
theorem dX12_factor_49 : decode cX12_factor 49 = .ok (.iadd, 1) := by decide +kernel
theorem dX12_factor_50 : decode cX12_factor 50 = .ok (.putfield 145, 3) := by decide +kernel
theorem dX12_factor_53 : decode cX12_factor 53 = .ok (.aload_n 0, 1) := by decide +kernel
theorem dX12_factor_54 : decode cX12_factor 54 = .ok (.dup, 1) := by decide +kernel
theorem dX12_factor_55 : decode cX12_factor 55 = .ok (.getfield 116, 3) := by decide +kernel
theorem dX12_factor_58 : decode cX12_factor 58 = .ok (.aload_n 0, 1) := by decide +kernel
theorem dX12_factor_59 : decode cX12_factor 59 = .ok (.getfield 122, 3) := by decide +kernel
theorem dX12_factor_62 : decode cX12_factor 62 = .ok (.ifCond .eq 7, 3) := by decide +kernel
theorem dX12_factor_65 : decode cX12_factor 65 = .ok (.iconst 0, 1) := by decide +kernel
theorem dX12_factor_66 : decode cX12_factor 66 = .ok (.goto 4, 3) := by decide +kernel
theorem dX12_factor_69 : decode cX12_factor 69 = .ok (.iconst 1, 1) := by decide +kernel
theorem dX12_factor_70 : decode cX12_factor 70 = .ok (.iadd, 1) := by decide +kernel
theorem dX12_factor_71 : decode cX12_factor 71 = .ok (.putfield 116, 3) := by decide +kernel
theorem dX12_factor_74 : decode cX12_factor 74 = .ok (.aload_n 0, 1) := by decide +kernel
theorem dX12_factor_75 : decode cX12_factor 75 = .ok (.getfield 122, 3) := by decide +kernel
theorem dX12_factor_78 : decode cX12_factor 78 = .ok (.ifCond .eq 7, 3) := by decide +kernel
theorem dX12_factor_81 : decode cX12_factor 81 = .ok (.iconst 0, 1) := by decide +kernel
theorem dX12_factor_82 : decode cX12_factor 82 = .ok (.goto 28, 3) := by decide +kernel
theorem dX12_factor_85 : decode cX12_factor 85 = .ok (.iload_n 1, 1) := by decide +kernel
theorem dX12_factor_86 : decode cX12_factor 86 = .ok (.bipush 33, 2) := by decide +kernel
theorem dX12_factor_88 : decode cX12_factor 88 = .ok (.if_icmp .ne 18, 3) := by decide +kernel
theorem dX12_factor_91 : decode cX12_factor 91 = .ok (.aload_n 0, 1) := by decide +kernel
theorem dX12_factor_92 : decode cX12_factor 92 = .ok (.invokevirtual 148, 3) := by decide +kernel
theorem dX12_factor_95 : decode cX12_factor 95 = .ok (.ifCond .ne 7, 3) := by decide +kernel
theorem dX12_factor_98 : decode cX12_factor 98 = .ok (.iconst 1, 1) := by decide +kernel
theorem dX12_factor_99 : decode cX12_factor 99 = .ok (.goto 11, 3) := by decide +kernel
theorem dX12_factor_102 : decode cX12_factor 102 = .ok (.iconst 0, 1) := by decide +kernel
theorem dX12_factor_103 : decode cX12_factor 103 = .ok (.goto 7, 3) := by decide +kernel
theorem dX12_factor_106 : decode cX12_factor 106 = .ok (.aload_n 0, 1) := by decide +kernel
theorem dX12_factor_107 : decode cX12_factor 107 = .ok (.invokevirtual 152, 3) := by decide +kernel
theorem dX12_factor_110 : decode cX12_factor 110 = .ok (.istore_n 2, 1) := by decide +kernel
theorem dX12_factor_111 : decode cX12_factor 111 = .ok (.iload_n 1, 1) := by decide +kernel
theorem dX12_factor_112 : decode cX12_factor 112 = .ok (.bipush 40, 2) := by decide +kernel
theorem dX12_factor_114 : decode cX12_factor 114 = .ok (.if_icmp .ne 9, 3) := by decide +kernel
theorem dX12_factor_117 : decode cX12_factor 117 = .ok (.aload_n 0, 1) := by decide +kernel
theorem dX12_factor_118 : decode cX12_factor 118 = .ok (.bipush 41, 2) := by decide +kernel
theorem dX12_factor_120 : decode cX12_factor 120 = .ok (.invokevirtual 139, 3) := by decide +kernel
theorem dX12_factor_123 : decode cX12_factor 123 = .ok (.aload_n 0, 1) := by decide +kernel
theorem dX12_factor_124 : decode cX12_factor 124 = .ok (.dup, 1) := by decide +kernel
theorem dX12_factor_125 : decode cX12_factor 125 = .ok (.getfield 145, 3) := by decide +kernel
theorem dX12_factor_128 : decode cX12_factor 128 = .ok (.iconst 1, 1) := by decide +kernel
theorem dX12_factor_129 : decode cX12_factor 129 = .ok (.isub, 1) := by decide +kernel
theorem dX12_factor_130 : decode cX12_factor 130 = .ok (.putfield 145, 3) := by decide +kernel
theorem dX12_factor_133 : decode cX12_factor 133 = .ok (.iload_n 2, 1) := by decide +kernel
theorem dX12_factor_134 : decode cX12_factor 134 = .ok (.ireturn, 1) := by decide +kernel
theorem dX12_factor_135 : decode cX12_factor 135 = .ok (.iload_n 1, 1) := by decide +kernel
theorem dX12_factor_136 : decode cX12_factor 136 = .ok (.bipush 107, 2) := by decide +kernel
theorem dX12_factor_138 : decode cX12_factor 138 = .ok (.if_icmp .eq 9, 3) := by decide +kernel
theorem dX12_factor_141 : decode cX12_factor 141 = .ok (.iload_n 1, 1) := by decide +kernel
theorem dX12_factor_142 : decode cX12_factor 142 = .ok (.bipush 116, 2) := by decide +kernel
theorem dX12_factor_144 : decode cX12_factor 144 = .ok (.if_icmp .ne 7, 3) := by decide +kernel
theorem dX12_factor_147 : decode cX12_factor 147 = .ok (.iconst 1, 1) := by decide +kernel
theorem dX12_factor_148 : decode cX12_factor 148 = .ok (.goto 4, 3) := by decide +kernel
theorem dX12_factor_151 : decode cX12_factor 151 = .ok (.iconst 0, 1) := by decide +kernel
theorem dX12_factor_152 : decode cX12_factor 152 = .ok (.istore_n 2, 1) := by decide +kernel
theorem dX12_factor_153 : decode cX12_factor 153 = .ok (.aload_n 0, 1) := by decide +kernel
theorem dX12_factor_154 : decode cX12_factor 154 = .ok (.iload_n 2, 1) := by decide +kernel
theorem dX12_factor_155 : decode cX12_factor 155 = .ok (.ifCond .ne 25, 3) := by decide +kernel
theorem dX12_factor_158 : decode cX12_factor 158 = .ok (.iload_n 1, 1) := by decide +kernel
theorem dX12_factor_159 : decode cX12_factor 159 = .ok (.bipush 110, 2) := by decide +kernel
theorem dX12_factor_161 : decode cX12_factor 161 = .ok (.if_icmp .eq 19, 3) := by decide +kernel
theorem dX12_factor_164 : decode cX12_factor 164 = .ok (.iload_n 1, 1) := by decide +kernel
theorem dX12_factor_165 : decode cX12_factor 165 = .ok (.bipush 115, 2) := by decide +kernel
theorem dX12_factor_167 : decode cX12_factor 167 = .ok (.if_icmp .eq 13, 3) := by decide +kernel
theorem dX12_factor_170 : decode cX12_factor 170 = .ok (.iload_n 1, 1) := by decide +kernel
theorem dX12_factor_171 : decode cX12_factor 171 = .ok (.bipush 104, 2) := by decide +kernel
theorem dX12_factor_173 : decode cX12_factor 173 = .ok (.if_icmp .eq 7, 3) := by decide +kernel
theorem dX12_factor_176 : decode cX12_factor 176 = .ok (.iconst 1, 1) := by decide +kernel
theorem dX12_factor_177 : decode cX12_factor 177 = .ok (.goto 4, 3) := by decide +kernel
theorem dX12_factor_180 : decode cX12_factor 180 = .ok (.iconst 0, 1) := by decide +kernel
theorem dX12_factor_181 : decode cX12_factor 181 = .ok (.putfield 122, 3) := by decide +kernel
theorem dX12_factor_184 : decode cX12_factor 184 = .ok (.aload_n 0, 1) := by decide +kernel
theorem dX12_factor_185 : decode cX12_factor 185 = .ok (.dup, 1) := by decide +kernel
theorem dX12_factor_186 : decode cX12_factor 186 = .ok (.getfield 116, 3) := by decide +kernel
theorem dX12_factor_189 : decode cX12_factor 189 = .ok (.aload_n 0, 1) := by decide +kernel
theorem dX12_factor_190 : decode cX12_factor 190 = .ok (.getfield 122, 3) := by decide +kernel
theorem dX12_factor_193 : decode cX12_factor 193 = .ok (.ifCond .eq 7, 3) := by decide +kernel
theorem dX12_factor_196 : decode cX12_factor 196 = .ok (.iconst 0, 1) := by decide +kernel
theorem dX12_factor_197 : decode cX12_factor 197 = .ok (.goto 4, 3) := by decide +kernel
theorem dX12_factor_200 : decode cX12_factor 200 = .ok (.iconst 1, 1) := by decide +kernel
theorem dX12_factor_201 : decode cX12_factor 201 = .ok (.iadd, 1) := by decide +kernel
theorem dX12_factor_202 : decode cX12_factor 202 = .ok (.putfield 116, 3) := by decide +kernel
theorem dX12_factor_205 : decode cX12_factor 205 = .ok (.aload_n 0, 1) := by decide +kernel
theorem dX12_factor_206 : decode cX12_factor 206 = .ok (.invokevirtual 126, 3) := by decide +kernel
theorem dX12_factor_209 : decode cX12_factor 209 = .ok (.istore_n 3, 1) := by decide +kernel
theorem dX12_factor_210 : decode cX12_factor 210 = .ok (.aload_n 0, 1) := by decide +kernel
theorem dX12_factor_211 : decode cX12_factor 211 = .ok (.aload_n 0, 1) := by decide +kernel
theorem dX12_factor_212 : decode cX12_factor 212 = .ok (.getfield 122, 3) := by decide +kernel
theorem dX12_factor_215 : decode cX12_factor 215 = .ok (.ifCond .ne 28, 3) := by decide +kernel
theorem dX12_factor_218 : decode cX12_factor 218 = .ok (.iload_n 2, 1) := by decide +kernel
theorem dX12_factor_219 : decode cX12_factor 219 = .ok (.ifCond .eq 12, 3) := by decide +kernel
theorem dX12_factor_222 : decode cX12_factor 222 = .ok (.iload_n 3, 1) := by decide +kernel
theorem dX12_factor_223 : decode cX12_factor 223 = .ok (.bipush 61, 2) := by decide +kernel
theorem dX12_factor_225 : decode cX12_factor 225 = .ok (.if_icmp .eq 22, 3) := by decide +kernel
theorem dX12_factor_228 : decode cX12_factor 228 = .ok (.goto 15, 3) := by decide +kernel
theorem dX12_factor_231 : decode cX12_factor 231 = .ok (.iload_n 3, 1) := by decide +kernel
theorem dX12_factor_232 : decode cX12_factor 232 = .ok (.bipush 60, 2) := by decide +kernel
theorem dX12_factor_234 : decode cX12_factor 234 = .ok (.if_icmp .eq 13, 3) := by decide +kernel
theorem dX12_factor_237 : decode cX12_factor 237 = .ok (.iload_n 3, 1) := by decide +kernel
theorem dX12_factor_238 : decode cX12_factor 238 = .ok (.bipush 62, 2) := by decide +kernel
theorem dX12_factor_240 : decode cX12_factor 240 = .ok (.if_icmp .eq 7, 3) := by decide +kernel
theorem dX12_factor_243 : decode cX12_factor 243 = .ok (.iconst 1, 1) := by decide +kernel
theorem dX12_factor_244 : decode cX12_factor 244 = .ok (.goto 4, 3) := by decide +kernel
theorem dX12_factor_247 : decode cX12_factor 247 = .ok (.iconst 0, 1) := by decide +kernel
theorem dX12_factor_248 : decode cX12_factor 248 = .ok (.putfield 122, 3) := by decide +kernel
theorem dX12_factor_251 : decode cX12_factor 251 = .ok (.aload_n 0, 1) := by decide +kernel
theorem dX12_factor_252 : decode cX12_factor 252 = .ok (.dup, 1) := by decide +kernel
theorem dX12_factor_253 : decode cX12_factor 253 = .ok (.getfield 116, 3) := by decide +kernel
theorem dX12_factor_256 : decode cX12_factor 256 = .ok (.aload_n 0, 1) := by decide +kernel
theorem dX12_factor_257 : decode cX12_factor 257 = .ok (.getfield 122, 3) := by decide +kernel
theorem dX12_factor_260 : decode cX12_factor 260 = .ok (.ifCond .eq 7, 3) := by decide +kernel
theorem dX12_factor_263 : decode cX12_factor 263 = .ok (.iconst 0, 1) := by decide +kernel
theorem dX12_factor_264 : decode cX12_factor 264 = .ok (.goto 4, 3) := by decide +kernel
theorem dX12_factor_267 : decode cX12_factor 267 = .ok (.iconst 1, 1) := by decide +kernel
theorem dX12_factor_268 : decode cX12_factor 268 = .ok (.iadd, 1) := by decide +kernel
theorem dX12_factor_269 : decode cX12_factor 269 = .ok (.putfield 116, 3) := by decide +kernel
theorem dX12_factor_272 : decode cX12_factor 272 = .ok (.aload_n 0, 1) := by decide +kernel
theorem dX12_factor_273 : decode cX12_factor 273 = .ok (.invokevirtual 155, 3) := by decide +kernel
theorem dX12_factor_276 : decode cX12_factor 276 = .ok (.istore 4, 2) := by decide +kernel
theorem dX12_factor_278 : decode cX12_factor 278 = .ok (.aload_n 0, 1) := by decide +kernel
theorem dX12_factor_279 : decode cX12_factor 279 = .ok (.getfield 122, 3) := by decide +kernel
theorem dX12_factor_282 : decode cX12_factor 282 = .ok (.ifCond .eq 7, 3) := by decide +kernel
theorem dX12_factor_285 : decode cX12_factor 285 = .ok (.iconst 0, 1) := by decide +kernel
theorem dX12_factor_286 : decode cX12_factor 286 = .ok (.goto 8, 3) := by decide +kernel
theorem dX12_factor_289 : decode cX12_factor 289 = .ok (.aload_n 0, 1) := by decide +kernel
theorem dX12_factor_290 : decode cX12_factor 290 = .ok (.iload_n 1, 1) := by decide +kernel
theorem dX12_factor_291 : decode cX12_factor 291 = .ok (.invokevirtual 158, 3) := by decide +kernel
theorem dX12_factor_294 : decode cX12_factor 294 = .ok (.istore 5, 2) := by decide +kernel
theorem dX12_factor_296 : decode cX12_factor 296 = .ok (.iload_n 3, 1) := by decide +kernel
theorem dX12_factor_297 : decode cX12_factor 297 = .ok (.bipush 61, 2) := by decide +kernel
theorem dX12_factor_299 : decode cX12_factor 299 = .ok (.if_icmp .ne 18, 3) := by decide +kernel
theorem dX12_factor_302 : decode cX12_factor 302 = .ok (.iload 5, 2) := by decide +kernel
theorem dX12_factor_304 : decode cX12_factor 304 = .ok (.iload 4, 2) := by decide +kernel
theorem dX12_factor_306 : decode cX12_factor 306 = .ok (.if_icmp .ne 7, 3) := by decide +kernel
theorem dX12_factor_309 : decode cX12_factor 309 = .ok (.iconst 1, 1) := by decide +kernel
theorem dX12_factor_310 : decode cX12_factor 310 = .ok (.goto 40, 3) := by decide +kernel
theorem dX12_factor_313 : decode cX12_factor 313 = .ok (.iconst 0, 1) := by decide +kernel
theorem dX12_factor_314 : decode cX12_factor 314 = .ok (.goto 36, 3) := by decide +kernel
theorem dX12_factor_317 : decode cX12_factor 317 = .ok (.iload_n 3, 1) := by decide +kernel
theorem dX12_factor_318 : decode cX12_factor 318 = .ok (.bipush 60, 2) := by decide +kernel
theorem dX12_factor_320 : decode cX12_factor 320 = .ok (.if_icmp .ne 18, 3) := by decide +kernel
theorem dX12_factor_323 : decode cX12_factor 323 = .ok (.iload 5, 2) := by decide +kernel
theorem dX12_factor_325 : decode cX12_factor 325 = .ok (.iload 4, 2) := by decide +kernel
theorem dX12_factor_327 : decode cX12_factor 327 = .ok (.if_icmp .ge 7, 3) := by decide +kernel
theorem dX12_factor_330 : decode cX12_factor 330 = .ok (.iconst 1, 1) := by decide +kernel
theorem dX12_factor_331 : decode cX12_factor 331 = .ok (.goto 19, 3) := by decide +kernel
theorem dX12_factor_334 : decode cX12_factor 334 = .ok (.iconst 0, 1) := by decide +kernel
theorem dX12_factor_335 : decode cX12_factor 335 = .ok (.goto 15, 3) := by decide +kernel
theorem dX12_factor_338 : decode cX12_factor 338 = .ok (.iload 5, 2) := by decide +kernel
theorem dX12_factor_340 : decode cX12_factor 340 = .ok (.iload 4, 2) := by decide +kernel
theorem dX12_factor_342 : decode cX12_factor 342 = .ok (.if_icmp .le 7, 3) := by decide +kernel
theorem dX12_factor_345 : decode cX12_factor 345 = .ok (.iconst 1, 1) := by decide +kernel
theorem dX12_factor_346 : decode cX12_factor 346 = .ok (.goto 4, 3) := by decide +kernel
theorem dX12_factor_349 : decode cX12_factor 349 = .ok (.iconst 0, 1) := by decide +kernel
theorem dX12_factor_350 : decode cX12_factor 350 = .ok (.ireturn, 1) := by decide +kernel
theorem dX12_every_0 : decode cX12_every 0 = .ok (.aload_n 0, 1) := by decide +kernel
theorem dX12_every_1 : decode cX12_every 1 = .ok (.invokevirtual 148, 3) := by decide +kernel
theorem dX12_every_4 : decode cX12_every 4 = .ok (.istore_n 1, 1) := by decide +kernel
theorem dX12_every_5 : decode cX12_every 5 = .ok (.aload_n 0, 1) := by decide +kernel
theorem dX12_every_6 : decode cX12_every 6 = .ok (.getfield 122, 3) := by decide +kernel
theorem dX12_every_9 : decode cX12_every 9 = .ok (.ifCond .ne 44, 3) := by decide +kernel
theorem dX12_every_12 : decode cX12_every 12 = .ok (.aload_n 0, 1) := by decide +kernel
theorem dX12_every_13 : decode cX12_every 13 = .ok (.invokevirtual 126, 3) := by decide +kernel
theorem dX12_every_16 : decode cX12_every 16 = .ok (.bipush 38, 2) := by decide +kernel
theorem dX12_every_18 : decode cX12_every 18 = .ok (.if_icmp .ne 35, 3) := by decide +kernel
theorem dX12_every_21 : decode cX12_every 21 = .ok (.aload_n 0, 1) := by decide +kernel
theorem dX12_every_22 : decode cX12_every 22 = .ok (.dup, 1) := by decide +kernel
theorem dX12_every_23 : decode cX12_every 23 = .ok (.getfield 116, 3) := by decide +kernel
theorem dX12_every_26 : decode cX12_every 26 = .ok (.iconst 1, 1) := by decide +kernel
theorem dX12_every_27 : decode cX12_every 27 = .ok (.iadd, 1) := by decide +kernel
theorem dX12_every_28 : decode cX12_every 28 = .ok (.putfield 116, 3) := by decide +kernel
theorem dX12_every_31 : decode cX12_every 31 = .ok (.aload_n 0, 1) := by decide +kernel
theorem dX12_every_32 : decode cX12_every 32 = .ok (.invokevirtual 148, 3) := by decide +kernel
theorem dX12_every_35 : decode cX12_every 35 = .ok (.istore_n 2, 1) := by decide +kernel
theorem dX12_every_36 : decode cX12_every 36 = .ok (.iload_n 1, 1) := by decide +kernel
theorem dX12_every_37 : decode cX12_every 37 = .ok (.ifCond .eq 11, 3) := by decide +kernel
theorem dX12_every_40 : decode cX12_every 40 = .ok (.iload_n 2, 1) := by decide +kernel
theorem dX12_every_41 : decode cX12_every 41 = .ok (.ifCond .eq 7, 3) := by decide +kernel
theorem dX12_every_44 : decode cX12_every 44 = .ok (.iconst 1, 1) := by decide +kernel
theorem dX12_every_45 : decode cX12_every 45 = .ok (.goto 4, 3) := by decide +kernel
theorem dX12_every_48 : decode cX12_every 48 = .ok (.iconst 0, 1) := by decide +kernel
theorem dX12_every_49 : decode cX12_every 49 = .ok (.istore_n 1, 1) := by decide +kernel
theorem dX12_every_50 : decode cX12_every 50 = .ok (.goto (-45), 3) := by decide +kernel
theorem dX12_every_53 : decode cX12_every 53 = .ok (.iload_n 1, 1) := by decide +kernel
theorem dX12_every_54 : decode cX12_every 54 = .ok (.ireturn, 1) := by decide +kernel
theorem dX12_some_0 : decode cX12_some 0 = .ok (.aload_n 0, 1) := by decide +kernel
theorem dX12_some_1 : decode cX12_some 1 = .ok (.invokevirtual 161, 3) := by decide +kernel
theorem dX12_some_4 : decode cX12_some 4 = .ok (.istore_n 1, 1) := by decide +kernel
theorem dX12_some_5 : decode cX12_some 5 = .ok (.aload_n 0, 1) := by decide +kernel
theorem dX12_some_6 : decode cX12_some 6 = .ok (.getfield 122, 3) := by decide +kernel
theorem dX12_some_9 : decode cX12_some 9 = .ok (.ifCond .ne 44, 3) := by decide +kernel
theorem dX12_some_12 : decode cX12_some 12 = .ok (.aload_n 0, 1) := by decide +kernel
theorem dX12_some_13 : decode cX12_some 13 = .ok (.invokevirtual 126, 3) := by decide +kernel
theorem dX12_some_16 : decode cX12_some 16 = .ok (.bipush 124, 2) := by decide +kernel
theorem dX12_some_18 : decode cX12_some 18 = .ok (.if_icmp .ne 35, 3) := by decide +kernel
theorem dX12_some_21 : decode cX12_some 21 = .ok (.aload_n 0, 1) := by decide +kernel
theorem dX12_some_22 : decode cX12_some 22 = .ok (.dup, 1) := by decide +kernel
theorem dX12_some_23 : decode cX12_some 23 = .ok (.getfield 116, 3) := by decide +kernel
theorem dX12_some_26 : decode cX12_some 26 = .ok (.iconst 1, 1) := by decide +kernel
theorem dX12_some_27 : decode cX12_some 27 = .ok (.iadd, 1) := by decide +kernel
theorem dX12_some_28 : decode cX12_some 28 = .ok (.putfield 116, 3) := by decide +kernel
theorem dX12_some_31 : decode cX12_some 31 = .ok (.aload_n 0, 1) := by decide +kernel
theorem dX12_some_32 : decode cX12_some 32 = .ok (.invokevirtual 161, 3) := by decide +kernel
theorem dX12_some_35 : decode cX12_some 35 = .ok (.istore_n 2, 1) := by decide +kernel
theorem dX12_some_36 : decode cX12_some 36 = .ok (.iload_n 1, 1) := by decide +kernel
theorem dX12_some_37 : decode cX12_some 37 = .ok (.ifCond .ne 7, 3) := by decide +kernel
theorem dX12_some_40 : decode cX12_some 40 = .ok (.iload_n 2, 1) := by decide +kernel
theorem dX12_some_41 : decode cX12_some 41 = .ok (.ifCond .eq 7, 3) := by decide +kernel
theorem dX12_some_44 : decode cX12_some 44 = .ok (.iconst 1, 1) := by decide +kernel
theorem dX12_some_45 : decode cX12_some 45 = .ok (.goto 4, 3) := by decide +kernel
theorem dX12_some_48 : decode cX12_some 48 = .ok (.iconst 0, 1) := by decide +kernel
theorem dX12_some_49 : decode cX12_some 49 = .ok (.istore_n 1, 1) := by decide +kernel
theorem dX12_some_50 : decode cX12_some 50 = .ok (.goto (-45), 3) := by decide +kernel
theorem dX12_some_53 : decode cX12_some 53 = .ok (.iload_n 1, 1) := by decide +kernel
theorem dX12_some_54 : decode cX12_some 54 = .ok (.ireturn, 1) := by decide +kernel
theorem dX12_word_0 : decode cX12_word 0 = .ok (.aload_n 0, 1) := by decide +kernel
theorem dX12_word_1 : decode cX12_word 1 = .ok (.invokevirtual 126, 3) := by decide +kernel
theorem dX12_word_4 : decode cX12_word 4 = .ok (.lookupswitch 119 #[(97, 68), (100, 60), (108, 84), (114, 52), (115, 76)], 52) := by decide +kernel
theorem dX12_word_56 : decode cX12_word 56 = .ok (.aload_n 0, 1) := by decide +kernel
theorem dX12_word_57 : decode cX12_word 57 = .ok (.ldc 164, 2) := by decide +kernel
theorem dX12_word_59 : decode cX12_word 59 = .ok (.invokevirtual 166, 3) := by decide +kernel
theorem dX12_word_62 : decode cX12_word 62 = .ok (.iconst 0, 1) := by decide +kernel
theorem dX12_word_63 : decode cX12_word 63 = .ok (.ireturn, 1) := by decide +kernel
theorem dX12_word_64 : decode cX12_word 64 = .ok (.aload_n 0, 1) := by decide +kernel
theorem dX12_word_65 : decode cX12_word 65 = .ok (.ldc 170, 2) := by decide +kernel
theorem dX12_word_67 : decode cX12_word 67 = .ok (.invokevirtual 166, 3) := by decide +kernel
theorem dX12_word_70 : decode cX12_word 70 = .ok (.iconst 1, 1) := by decide +kernel
theorem dX12_word_71 : decode cX12_word 71 = .ok (.ireturn, 1) := by decide +kernel
theorem dX12_word_72 : decode cX12_word 72 = .ok (.aload_n 0, 1) := by decide +kernel
theorem dX12_word_73 : decode cX12_word 73 = .ok (.ldc 172, 2) := by decide +kernel
theorem dX12_word_75 : decode cX12_word 75 = .ok (.invokevirtual 166, 3) := by decide +kernel
theorem dX12_word_78 : decode cX12_word 78 = .ok (.iconst 2, 1) := by decide +kernel
theorem dX12_word_79 : decode cX12_word 79 = .ok (.ireturn, 1) := by decide +kernel
theorem dX12_word_80 : decode cX12_word 80 = .ok (.aload_n 0, 1) := by decide +kernel
theorem dX12_word_81 : decode cX12_word 81 = .ok (.ldc 174, 2) := by decide +kernel
theorem dX12_word_83 : decode cX12_word 83 = .ok (.invokevirtual 166, 3) := by decide +kernel
theorem dX12_word_86 : decode cX12_word 86 = .ok (.iconst 5, 1) := by decide +kernel
theorem dX12_word_87 : decode cX12_word 87 = .ok (.ireturn, 1) := by decide +kernel
theorem dX12_word_88 : decode cX12_word 88 = .ok (.aload_n 0, 1) := by decide +kernel
theorem dX12_word_89 : decode cX12_word 89 = .ok (.dup, 1) := by decide +kernel
theorem dX12_word_90 : decode cX12_word 90 = .ok (.getfield 116, 3) := by decide +kernel
theorem dX12_word_93 : decode cX12_word 93 = .ok (.iconst 1, 1) := by decide +kernel
theorem dX12_word_94 : decode cX12_word 94 = .ok (.iadd, 1) := by decide +kernel
theorem dX12_word_95 : decode cX12_word 95 = .ok (.putfield 116, 3) := by decide +kernel
theorem dX12_word_98 : decode cX12_word 98 = .ok (.aload_n 0, 1) := by decide +kernel
theorem dX12_word_99 : decode cX12_word 99 = .ok (.invokevirtual 126, 3) := by decide +kernel
theorem dX12_word_102 : decode cX12_word 102 = .ok (.bipush 97, 2) := by decide +kernel
theorem dX12_word_104 : decode cX12_word 104 = .ok (.if_icmp .ne 11, 3) := by decide +kernel
theorem dX12_word_107 : decode cX12_word 107 = .ok (.aload_n 0, 1) := by decide +kernel
theorem dX12_word_108 : decode cX12_word 108 = .ok (.ldc 176, 2) := by decide +kernel
theorem dX12_word_110 : decode cX12_word 110 = .ok (.invokevirtual 166, 3) := by decide +kernel
theorem dX12_word_113 : decode cX12_word 113 = .ok (.iconst 3, 1) := by decide +kernel
theorem dX12_word_114 : decode cX12_word 114 = .ok (.ireturn, 1) := by decide +kernel
theorem dX12_word_115 : decode cX12_word 115 = .ok (.aload_n 0, 1) := by decide +kernel
theorem dX12_word_116 : decode cX12_word 116 = .ok (.ldc 178, 2) := by decide +kernel
theorem dX12_word_118 : decode cX12_word 118 = .ok (.invokevirtual 166, 3) := by decide +kernel
theorem dX12_word_121 : decode cX12_word 121 = .ok (.iconst 4, 1) := by decide +kernel
theorem dX12_word_122 : decode cX12_word 122 = .ok (.ireturn, 1) := by decide +kernel
theorem dX12_word_123 : decode cX12_word 123 = .ok (.aload_n 0, 1) := by decide +kernel
theorem dX12_word_124 : decode cX12_word 124 = .ok (.iconst 1, 1) := by decide +kernel
theorem dX12_word_125 : decode cX12_word 125 = .ok (.putfield 122, 3) := by decide +kernel
theorem dX12_word_128 : decode cX12_word 128 = .ok (.iconst 0, 1) := by decide +kernel
theorem dX12_word_129 : decode cX12_word 129 = .ok (.ireturn, 1) := by decide +kernel
theorem dX12_reads_0 : decode cX12_reads 0 = .ok (.bipush 8, 2) := by decide +kernel
theorem dX12_reads_2 : decode cX12_reads 2 = .ok (.iload_n 1, 1) := by decide +kernel
theorem dX12_reads_3 : decode cX12_reads 3 = .ok (.imul, 1) := by decide +kernel
theorem dX12_reads_4 : decode cX12_reads 4 = .ok (.aload_n 0, 1) := by decide +kernel
theorem dX12_reads_5 : decode cX12_reads 5 = .ok (.getfield 7, 3) := by decide +kernel
theorem dX12_reads_8 : decode cX12_reads 8 = .ok (.sipush 1600, 3) := by decide +kernel
theorem dX12_reads_11 : decode cX12_reads 11 = .ok (.iload_n 1, 1) := by decide +kernel
theorem dX12_reads_12 : decode cX12_reads 12 = .ok (.iadd, 1) := by decide +kernel
theorem dX12_reads_13 : decode cX12_reads 13 = .ok (.iaload, 1) := by decide +kernel
theorem dX12_reads_14 : decode cX12_reads 14 = .ok (.iadd, 1) := by decide +kernel
theorem dX12_reads_15 : decode cX12_reads 15 = .ok (.istore_n 2, 1) := by decide +kernel
theorem dX12_reads_16 : decode cX12_reads 16 = .ok (.aload_n 0, 1) := by decide +kernel
theorem dX12_reads_17 : decode cX12_reads 17 = .ok (.invokevirtual 180, 3) := by decide +kernel
theorem dX12_reads_20 : decode cX12_reads 20 = .ok (.istore_n 3, 1) := by decide +kernel
theorem dX12_reads_21 : decode cX12_reads 21 = .ok (.aload_n 0, 1) := by decide +kernel
theorem dX12_reads_22 : decode cX12_reads 22 = .ok (.getfield 7, 3) := by decide +kernel
theorem dX12_reads_25 : decode cX12_reads 25 = .ok (.sipush 1612, 3) := by decide +kernel
theorem dX12_reads_28 : decode cX12_reads 28 = .ok (.iload_n 2, 1) := by decide +kernel
theorem dX12_reads_29 : decode cX12_reads 29 = .ok (.iadd, 1) := by decide +kernel
theorem dX12_reads_30 : decode cX12_reads 30 = .ok (.iload_n 3, 1) := by decide +kernel
theorem dX12_reads_31 : decode cX12_reads 31 = .ok (.iastore, 1) := by decide +kernel
theorem dX12_reads_32 : decode cX12_reads 32 = .ok (.aload_n 0, 1) := by decide +kernel
theorem dX12_reads_33 : decode cX12_reads 33 = .ok (.getfield 122, 3) := by decide +kernel
theorem dX12_reads_36 : decode cX12_reads 36 = .ok (.ifCond .eq 4, 3) := by decide +kernel
theorem dX12_reads_39 : decode cX12_reads 39 = .ok (.return_, 1) := by decide +kernel
theorem dX12_reads_40 : decode cX12_reads 40 = .ok (.iload_n 3, 1) := by decide +kernel
theorem dX12_reads_41 : decode cX12_reads 41 = .ok (.iconst 5, 1) := by decide +kernel
theorem dX12_reads_42 : decode cX12_reads 42 = .ok (.if_icmp .ne 69, 3) := by decide +kernel
theorem dX12_reads_45 : decode cX12_reads 45 = .ok (.aload_n 0, 1) := by decide +kernel
theorem dX12_reads_46 : decode cX12_reads 46 = .ok (.invokevirtual 126, 3) := by decide +kernel
theorem dX12_reads_49 : decode cX12_reads 49 = .ok (.istore 4, 2) := by decide +kernel
theorem dX12_reads_51 : decode cX12_reads 51 = .ok (.aload_n 0, 1) := by decide +kernel
theorem dX12_reads_52 : decode cX12_reads 52 = .ok (.iload 4, 2) := by decide +kernel
theorem dX12_reads_54 : decode cX12_reads 54 = .ok (.bipush 48, 2) := by decide +kernel
theorem dX12_reads_56 : decode cX12_reads 56 = .ok (.bipush 50, 2) := by decide +kernel
theorem dX12_reads_58 : decode cX12_reads 58 = .ok (.invokestatic 69, 3) := by decide +kernel
theorem dX12_reads_61 : decode cX12_reads 61 = .ok (.ifCond .ne 7, 3) := by decide +kernel
theorem dX12_reads_64 : decode cX12_reads 64 = .ok (.iconst 1, 1) := by decide +kernel
theorem dX12_reads_65 : decode cX12_reads 65 = .ok (.goto 4, 3) := by decide +kernel
theorem dX12_reads_68 : decode cX12_reads 68 = .ok (.iconst 0, 1) := by decide +kernel
theorem dX12_reads_69 : decode cX12_reads 69 = .ok (.putfield 122, 3) := by decide +kernel
theorem dX12_reads_72 : decode cX12_reads 72 = .ok (.aload_n 0, 1) := by decide +kernel
theorem dX12_reads_73 : decode cX12_reads 73 = .ok (.dup, 1) := by decide +kernel
theorem dX12_reads_74 : decode cX12_reads 74 = .ok (.getfield 116, 3) := by decide +kernel
theorem dX12_reads_77 : decode cX12_reads 77 = .ok (.aload_n 0, 1) := by decide +kernel
theorem dX12_reads_78 : decode cX12_reads 78 = .ok (.getfield 122, 3) := by decide +kernel
theorem dX12_reads_81 : decode cX12_reads 81 = .ok (.ifCond .eq 7, 3) := by decide +kernel
theorem dX12_reads_84 : decode cX12_reads 84 = .ok (.iconst 0, 1) := by decide +kernel
theorem dX12_reads_85 : decode cX12_reads 85 = .ok (.goto 4, 3) := by decide +kernel
theorem dX12_reads_88 : decode cX12_reads 88 = .ok (.iconst 1, 1) := by decide +kernel
theorem dX12_reads_89 : decode cX12_reads 89 = .ok (.iadd, 1) := by decide +kernel
theorem dX12_reads_90 : decode cX12_reads 90 = .ok (.putfield 116, 3) := by decide +kernel
theorem dX12_reads_93 : decode cX12_reads 93 = .ok (.aload_n 0, 1) := by decide +kernel
theorem dX12_reads_94 : decode cX12_reads 94 = .ok (.getfield 7, 3) := by decide +kernel
theorem dX12_reads_97 : decode cX12_reads 97 = .ok (.sipush 1700, 3) := by decide +kernel
theorem dX12_reads_100 : decode cX12_reads 100 = .ok (.iload_n 2, 1) := by decide +kernel
theorem dX12_reads_101 : decode cX12_reads 101 = .ok (.iadd, 1) := by decide +kernel
theorem dX12_reads_102 : decode cX12_reads 102 = .ok (.iload 4, 2) := by decide +kernel
theorem dX12_reads_104 : decode cX12_reads 104 = .ok (.bipush 48, 2) := by decide +kernel
theorem dX12_reads_106 : decode cX12_reads 106 = .ok (.isub, 1) := by decide +kernel
theorem dX12_reads_107 : decode cX12_reads 107 = .ok (.iastore, 1) := by decide +kernel
theorem dX12_reads_108 : decode cX12_reads 108 = .ok (.goto 17, 3) := by decide +kernel
theorem dX12_reads_111 : decode cX12_reads 111 = .ok (.aload_n 0, 1) := by decide +kernel
theorem dX12_reads_112 : decode cX12_reads 112 = .ok (.getfield 7, 3) := by decide +kernel
theorem dX12_reads_115 : decode cX12_reads 115 = .ok (.sipush 1700, 3) := by decide +kernel
theorem dX12_reads_118 : decode cX12_reads 118 = .ok (.iload_n 2, 1) := by decide +kernel
theorem dX12_reads_119 : decode cX12_reads 119 = .ok (.iadd, 1) := by decide +kernel
theorem dX12_reads_120 : decode cX12_reads 120 = .ok (.aload_n 0, 1) := by decide +kernel
theorem dX12_reads_121 : decode cX12_reads 121 = .ok (.invokevirtual 155, 3) := by decide +kernel
theorem dX12_reads_124 : decode cX12_reads 124 = .ok (.iastore, 1) := by decide +kernel
theorem dX12_reads_125 : decode cX12_reads 125 = .ok (.iload_n 3, 1) := by decide +kernel
theorem dX12_reads_126 : decode cX12_reads 126 = .ok (.ifCond .ne 29, 3) := by decide +kernel
theorem dX12_reads_129 : decode cX12_reads 129 = .ok (.aload_n 0, 1) := by decide +kernel
theorem dX12_reads_130 : decode cX12_reads 130 = .ok (.bipush 32, 2) := by decide +kernel
theorem dX12_reads_132 : decode cX12_reads 132 = .ok (.invokevirtual 139, 3) := by decide +kernel
theorem dX12_reads_135 : decode cX12_reads 135 = .ok (.aload_n 0, 1) := by decide +kernel
theorem dX12_reads_136 : decode cX12_reads 136 = .ok (.getfield 7, 3) := by decide +kernel
theorem dX12_reads_139 : decode cX12_reads 139 = .ok (.sipush 1790, 3) := by decide +kernel
theorem dX12_reads_142 : decode cX12_reads 142 = .ok (.iload_n 2, 1) := by decide +kernel
theorem dX12_reads_143 : decode cX12_reads 143 = .ok (.iadd, 1) := by decide +kernel
theorem dX12_reads_144 : decode cX12_reads 144 = .ok (.aload_n 0, 1) := by decide +kernel
theorem dX12_reads_145 : decode cX12_reads 145 = .ok (.getfield 116, 3) := by decide +kernel
theorem dX12_reads_148 : decode cX12_reads 148 = .ok (.iastore, 1) := by decide +kernel
theorem dX12_reads_149 : decode cX12_reads 149 = .ok (.aload_n 0, 1) := by decide +kernel
theorem dX12_reads_150 : decode cX12_reads 150 = .ok (.invokevirtual 152, 3) := by decide +kernel
theorem dX12_reads_153 : decode cX12_reads 153 = .ok (.istore 4, 2) := by decide +kernel
theorem dX12_reads_155 : decode cX12_reads 155 = .ok (.aload_n 0, 1) := by decide +kernel
theorem dX12_reads_156 : decode cX12_reads 156 = .ok (.getfield 7, 3) := by decide +kernel
theorem dX12_reads_159 : decode cX12_reads 159 = .ok (.sipush 1600, 3) := by decide +kernel
theorem dX12_reads_162 : decode cX12_reads 162 = .ok (.iload_n 1, 1) := by decide +kernel
theorem dX12_reads_163 : decode cX12_reads 163 = .ok (.iadd, 1) := by decide +kernel
theorem dX12_reads_164 : decode cX12_reads 164 = .ok (.dup2, 1) := by decide +kernel
theorem dX12_reads_165 : decode cX12_reads 165 = .ok (.iaload, 1) := by decide +kernel
theorem dX12_reads_166 : decode cX12_reads 166 = .ok (.aload_n 0, 1) := by decide +kernel
theorem dX12_reads_167 : decode cX12_reads 167 = .ok (.getfield 122, 3) := by decide +kernel
theorem dX12_reads_170 : decode cX12_reads 170 = .ok (.ifCond .eq 7, 3) := by decide +kernel
theorem dX12_reads_173 : decode cX12_reads 173 = .ok (.iconst 0, 1) := by decide +kernel
theorem dX12_reads_174 : decode cX12_reads 174 = .ok (.goto 4, 3) := by decide +kernel
theorem dX12_reads_177 : decode cX12_reads 177 = .ok (.iconst 1, 1) := by decide +kernel
theorem dX12_reads_178 : decode cX12_reads 178 = .ok (.iadd, 1) := by decide +kernel
theorem dX12_reads_179 : decode cX12_reads 179 = .ok (.iastore, 1) := by decide +kernel
theorem dX12_reads_180 : decode cX12_reads 180 = .ok (.return_, 1) := by decide +kernel
theorem dX12_readsOrder_0 : decode cX12_readsOrder 0 = .ok (.aload_n 0, 1) := by decide +kernel
theorem dX12_readsOrder_1 : decode cX12_readsOrder 1 = .ok (.getfield 7, 3) := by decide +kernel
theorem dX12_readsOrder_4 : decode cX12_readsOrder 4 = .ok (.sipush 240, 3) := by decide +kernel
theorem dX12_readsOrder_7 : decode cX12_readsOrder 7 = .ok (.iload_n 1, 1) := by decide +kernel
theorem dX12_readsOrder_8 : decode cX12_readsOrder 8 = .ok (.iadd, 1) := by decide +kernel
theorem dX12_readsOrder_9 : decode cX12_readsOrder 9 = .ok (.iload_n 2, 1) := by decide +kernel
theorem dX12_readsOrder_10 : decode cX12_readsOrder 10 = .ok (.iastore, 1) := by decide +kernel
theorem dX12_readsOrder_11 : decode cX12_readsOrder 11 = .ok (.aload_n 0, 1) := by decide +kernel
theorem dX12_readsOrder_12 : decode cX12_readsOrder 12 = .ok (.getfield 7, 3) := by decide +kernel
theorem dX12_readsOrder_15 : decode cX12_readsOrder 15 = .ok (.sipush 252, 3) := by decide +kernel
theorem dX12_readsOrder_18 : decode cX12_readsOrder 18 = .ok (.iload_n 1, 1) := by decide +kernel
theorem dX12_readsOrder_19 : decode cX12_readsOrder 19 = .ok (.iadd, 1) := by decide +kernel
theorem dX12_readsOrder_20 : decode cX12_readsOrder 20 = .ok (.aload_n 0, 1) := by decide +kernel
theorem dX12_readsOrder_21 : decode cX12_readsOrder 21 = .ok (.getfield 7, 3) := by decide +kernel
theorem dX12_readsOrder_24 : decode cX12_readsOrder 24 = .ok (.bipush 6, 2) := by decide +kernel
theorem dX12_readsOrder_26 : decode cX12_readsOrder 26 = .ok (.iaload, 1) := by decide +kernel
theorem dX12_readsOrder_27 : decode cX12_readsOrder 27 = .ok (.iastore, 1) := by decide +kernel
theorem dX12_readsOrder_28 : decode cX12_readsOrder 28 = .ok (.iconst 0, 1) := by decide +kernel
theorem dX12_readsOrder_29 : decode cX12_readsOrder 29 = .ok (.istore_n 3, 1) := by decide +kernel
theorem dX12_readsOrder_30 : decode cX12_readsOrder 30 = .ok (.iload_n 3, 1) := by decide +kernel
theorem dX12_readsOrder_31 : decode cX12_readsOrder 31 = .ok (.aload_n 0, 1) := by decide +kernel
theorem dX12_readsOrder_32 : decode cX12_readsOrder 32 = .ok (.getfield 7, 3) := by decide +kernel
theorem dX12_readsOrder_35 : decode cX12_readsOrder 35 = .ok (.bipush 6, 2) := by decide +kernel
theorem dX12_readsOrder_37 : decode cX12_readsOrder 37 = .ok (.iaload, 1) := by decide +kernel
theorem dX12_readsOrder_38 : decode cX12_readsOrder 38 = .ok (.if_icmp .ge 34, 3) := by decide +kernel
theorem dX12_readsOrder_41 : decode cX12_readsOrder 41 = .ok (.aload_n 0, 1) := by decide +kernel
theorem dX12_readsOrder_42 : decode cX12_readsOrder 42 = .ok (.getfield 7, 3) := by decide +kernel
theorem dX12_readsOrder_45 : decode cX12_readsOrder 45 = .ok (.sipush 264, 3) := by decide +kernel
theorem dX12_readsOrder_48 : decode cX12_readsOrder 48 = .ok (.bipush 120, 2) := by decide +kernel
theorem dX12_readsOrder_50 : decode cX12_readsOrder 50 = .ok (.iload_n 1, 1) := by decide +kernel
theorem dX12_readsOrder_51 : decode cX12_readsOrder 51 = .ok (.imul, 1) := by decide +kernel
theorem dX12_readsOrder_52 : decode cX12_readsOrder 52 = .ok (.iadd, 1) := by decide +kernel
theorem dX12_readsOrder_53 : decode cX12_readsOrder 53 = .ok (.iload_n 3, 1) := by decide +kernel
theorem dX12_readsOrder_54 : decode cX12_readsOrder 54 = .ok (.iadd, 1) := by decide +kernel
theorem dX12_readsOrder_55 : decode cX12_readsOrder 55 = .ok (.aload_n 0, 1) := by decide +kernel
theorem dX12_readsOrder_56 : decode cX12_readsOrder 56 = .ok (.getfield 7, 3) := by decide +kernel
theorem dX12_readsOrder_59 : decode cX12_readsOrder 59 = .ok (.sipush 1880, 3) := by decide +kernel
theorem dX12_readsOrder_62 : decode cX12_readsOrder 62 = .ok (.iload_n 3, 1) := by decide +kernel
theorem dX12_readsOrder_63 : decode cX12_readsOrder 63 = .ok (.iadd, 1) := by decide +kernel
theorem dX12_readsOrder_64 : decode cX12_readsOrder 64 = .ok (.iaload, 1) := by decide +kernel
theorem dX12_readsOrder_65 : decode cX12_readsOrder 65 = .ok (.iastore, 1) := by decide +kernel
theorem dX12_readsOrder_66 : decode cX12_readsOrder 66 = .ok (.iinc 3 1, 3) := by decide +kernel
theorem dX12_readsOrder_69 : decode cX12_readsOrder 69 = .ok (.goto (-39), 3) := by decide +kernel
theorem dX12_readsOrder_72 : decode cX12_readsOrder 72 = .ok (.aload_n 0, 1) := by decide +kernel
theorem dX12_readsOrder_73 : decode cX12_readsOrder 73 = .ok (.getfield 7, 3) := by decide +kernel
theorem dX12_readsOrder_76 : decode cX12_readsOrder 76 = .ok (.bipush 6, 2) := by decide +kernel
theorem dX12_readsOrder_78 : decode cX12_readsOrder 78 = .ok (.iconst 0, 1) := by decide +kernel
theorem dX12_readsOrder_79 : decode cX12_readsOrder 79 = .ok (.iastore, 1) := by decide +kernel
theorem dX12_readsOrder_80 : decode cX12_readsOrder 80 = .ok (.aload_n 0, 1) := by decide +kernel
theorem dX12_readsOrder_81 : decode cX12_readsOrder 81 = .ok (.getfield 7, 3) := by decide +kernel
theorem dX12_readsOrder_84 : decode cX12_readsOrder 84 = .ok (.sipush 1600, 3) := by decide +kernel
theorem dX12_readsOrder_87 : decode cX12_readsOrder 87 = .ok (.iload_n 1, 1) := by decide +kernel
theorem dX12_readsOrder_88 : decode cX12_readsOrder 88 = .ok (.iadd, 1) := by decide +kernel
theorem dX12_readsOrder_89 : decode cX12_readsOrder 89 = .ok (.iconst 0, 1) := by decide +kernel
theorem dX12_readsOrder_90 : decode cX12_readsOrder 90 = .ok (.iastore, 1) := by decide +kernel
theorem dX12_readsOrder_91 : decode cX12_readsOrder 91 = .ok (.aload_n 0, 1) := by decide +kernel
theorem dX12_readsOrder_92 : decode cX12_readsOrder 92 = .ok (.iload_n 1, 1) := by decide +kernel
theorem dX12_readsOrder_93 : decode cX12_readsOrder 93 = .ok (.putfield 119, 3) := by decide +kernel
theorem dX12_readsOrder_96 : decode cX12_readsOrder 96 = .ok (.aload_n 0, 1) := by decide +kernel
theorem dX12_readsOrder_97 : decode cX12_readsOrder 97 = .ok (.iconst 0, 1) := by decide +kernel
theorem dX12_readsOrder_98 : decode cX12_readsOrder 98 = .ok (.putfield 116, 3) := by decide +kernel
theorem dX12_readsOrder_101 : decode cX12_readsOrder 101 = .ok (.aload_n 0, 1) := by decide +kernel
theorem dX12_readsOrder_102 : decode cX12_readsOrder 102 = .ok (.iconst 0, 1) := by decide +kernel
theorem dX12_readsOrder_103 : decode cX12_readsOrder 103 = .ok (.putfield 145, 3) := by decide +kernel
theorem dX12_readsOrder_106 : decode cX12_readsOrder 106 = .ok (.aload_n 0, 1) := by decide +kernel
theorem dX12_readsOrder_107 : decode cX12_readsOrder 107 = .ok (.iconst 0, 1) := by decide +kernel
theorem dX12_readsOrder_108 : decode cX12_readsOrder 108 = .ok (.putfield 122, 3) := by decide +kernel
theorem dX12_readsOrder_111 : decode cX12_readsOrder 111 = .ok (.aload_n 0, 1) := by decide +kernel
theorem dX12_readsOrder_112 : decode cX12_readsOrder 112 = .ok (.iconst (-1), 1) := by decide +kernel
theorem dX12_readsOrder_113 : decode cX12_readsOrder 113 = .ok (.putfield 142, 3) := by decide +kernel
theorem dX12_readsOrder_116 : decode cX12_readsOrder 116 = .ok (.aload_n 0, 1) := by decide +kernel
theorem dX12_readsOrder_117 : decode cX12_readsOrder 117 = .ok (.iload_n 1, 1) := by decide +kernel
theorem dX12_readsOrder_118 : decode cX12_readsOrder 118 = .ok (.invokevirtual 183, 3) := by decide +kernel
theorem dX12_readsOrder_121 : decode cX12_readsOrder 121 = .ok (.aload_n 0, 1) := by decide +kernel
theorem dX12_readsOrder_122 : decode cX12_readsOrder 122 = .ok (.getfield 122, 3) := by decide +kernel
theorem dX12_readsOrder_125 : decode cX12_readsOrder 125 = .ok (.ifCond .ne 45, 3) := by decide +kernel
theorem dX12_readsOrder_128 : decode cX12_readsOrder 128 = .ok (.aload_n 0, 1) := by decide +kernel
theorem dX12_readsOrder_129 : decode cX12_readsOrder 129 = .ok (.getfield 7, 3) := by decide +kernel
theorem dX12_readsOrder_132 : decode cX12_readsOrder 132 = .ok (.sipush 1600, 3) := by decide +kernel
theorem dX12_readsOrder_135 : decode cX12_readsOrder 135 = .ok (.iload_n 1, 1) := by decide +kernel
theorem dX12_readsOrder_136 : decode cX12_readsOrder 136 = .ok (.iadd, 1) := by decide +kernel
theorem dX12_readsOrder_137 : decode cX12_readsOrder 137 = .ok (.iaload, 1) := by decide +kernel
theorem dX12_readsOrder_138 : decode cX12_readsOrder 138 = .ok (.bipush 8, 2) := by decide +kernel
theorem dX12_readsOrder_140 : decode cX12_readsOrder 140 = .ok (.if_icmp .ge 30, 3) := by decide +kernel
theorem dX12_readsOrder_143 : decode cX12_readsOrder 143 = .ok (.aload_n 0, 1) := by decide +kernel
theorem dX12_readsOrder_144 : decode cX12_readsOrder 144 = .ok (.invokevirtual 126, 3) := by decide +kernel
theorem dX12_readsOrder_147 : decode cX12_readsOrder 147 = .ok (.bipush 59, 2) := by decide +kernel
theorem dX12_readsOrder_149 : decode cX12_readsOrder 149 = .ok (.if_icmp .ne 21, 3) := by decide +kernel
theorem dX12_readsOrder_152 : decode cX12_readsOrder 152 = .ok (.aload_n 0, 1) := by decide +kernel
theorem dX12_readsOrder_153 : decode cX12_readsOrder 153 = .ok (.dup, 1) := by decide +kernel
theorem dX12_readsOrder_154 : decode cX12_readsOrder 154 = .ok (.getfield 116, 3) := by decide +kernel
theorem dX12_readsOrder_157 : decode cX12_readsOrder 157 = .ok (.iconst 1, 1) := by decide +kernel
theorem dX12_readsOrder_158 : decode cX12_readsOrder 158 = .ok (.iadd, 1) := by decide +kernel
theorem dX12_readsOrder_159 : decode cX12_readsOrder 159 = .ok (.putfield 116, 3) := by decide +kernel
theorem dX12_readsOrder_162 : decode cX12_readsOrder 162 = .ok (.aload_n 0, 1) := by decide +kernel
theorem dX12_readsOrder_163 : decode cX12_readsOrder 163 = .ok (.iload_n 1, 1) := by decide +kernel
theorem dX12_readsOrder_164 : decode cX12_readsOrder 164 = .ok (.invokevirtual 183, 3) := by decide +kernel
theorem dX12_readsOrder_167 : decode cX12_readsOrder 167 = .ok (.goto (-46), 3) := by decide +kernel
theorem dX12_readsOrder_170 : decode cX12_readsOrder 170 = .ok (.aload_n 0, 1) := by decide +kernel
theorem dX12_readsOrder_171 : decode cX12_readsOrder 171 = .ok (.aload_n 0, 1) := by decide +kernel
theorem dX12_readsOrder_172 : decode cX12_readsOrder 172 = .ok (.getfield 122, 3) := by decide +kernel
theorem dX12_readsOrder_175 : decode cX12_readsOrder 175 = .ok (.ifCond .ne 20, 3) := by decide +kernel
theorem dX12_readsOrder_178 : decode cX12_readsOrder 178 = .ok (.aload_n 0, 1) := by decide +kernel
theorem dX12_readsOrder_179 : decode cX12_readsOrder 179 = .ok (.getfield 116, 3) := by decide +kernel
theorem dX12_readsOrder_182 : decode cX12_readsOrder 182 = .ok (.aload_n 0, 1) := by decide +kernel
theorem dX12_readsOrder_183 : decode cX12_readsOrder 183 = .ok (.getfield 7, 3) := by decide +kernel
theorem dX12_readsOrder_186 : decode cX12_readsOrder 186 = .ok (.sipush 252, 3) := by decide +kernel
theorem dX12_readsOrder_189 : decode cX12_readsOrder 189 = .ok (.iload_n 1, 1) := by decide +kernel
theorem dX12_readsOrder_190 : decode cX12_readsOrder 190 = .ok (.iadd, 1) := by decide +kernel
theorem dX12_readsOrder_191 : decode cX12_readsOrder 191 = .ok (.iaload, 1) := by decide +kernel
theorem dX12_readsOrder_192 : decode cX12_readsOrder 192 = .ok (.if_icmp .eq 7, 3) := by decide +kernel
theorem dX12_readsOrder_195 : decode cX12_readsOrder 195 = .ok (.iconst 1, 1) := by decide +kernel
theorem dX12_readsOrder_196 : decode cX12_readsOrder 196 = .ok (.goto 4, 3) := by decide +kernel
theorem dX12_readsOrder_199 : decode cX12_readsOrder 199 = .ok (.iconst 0, 1) := by decide +kernel
theorem dX12_readsOrder_200 : decode cX12_readsOrder 200 = .ok (.putfield 122, 3) := by decide +kernel
theorem dX12_readsOrder_203 : decode cX12_readsOrder 203 = .ok (.aload_n 0, 1) := by decide +kernel
theorem dX12_readsOrder_204 : decode cX12_readsOrder 204 = .ok (.getfield 122, 3) := by decide +kernel
theorem dX12_readsOrder_207 : decode cX12_readsOrder 207 = .ok (.ifCond .ne 7, 3) := by decide +kernel
theorem dX12_readsOrder_210 : decode cX12_readsOrder 210 = .ok (.iconst 1, 1) := by decide +kernel
theorem dX12_readsOrder_211 : decode cX12_readsOrder 211 = .ok (.goto 4, 3) := by decide +kernel
theorem dX12_readsOrder_214 : decode cX12_readsOrder 214 = .ok (.iconst 0, 1) := by decide +kernel
theorem dX12_readsOrder_215 : decode cX12_readsOrder 215 = .ok (.ireturn, 1) := by decide +kernel
theorem dX12_text_0 : decode cX12_text 0 = .ok (.iload_n 1, 1) := by decide +kernel
theorem dX12_text_1 : decode cX12_text 1 = .ok (.invokestatic 186, 3) := by decide +kernel
theorem dX12_text_4 : decode cX12_text 4 = .ok (.ifCond .ne 6, 3) := by decide +kernel
theorem dX12_text_7 : decode cX12_text 7 = .ok (.bipush (-2), 2) := by decide +kernel
theorem dX12_text_9 : decode cX12_text 9 = .ok (.ireturn, 1) := by decide +kernel
theorem dX12_text_10 : decode cX12_text 10 = .ok (.aload_n 0, 1) := by decide +kernel
theorem dX12_text_11 : decode cX12_text 11 = .ok (.getfield 7, 3) := by decide +kernel
theorem dX12_text_14 : decode cX12_text 14 = .ok (.iconst 2, 1) := by decide +kernel
theorem dX12_text_15 : decode cX12_text 15 = .ok (.iaload, 1) := by decide +kernel
theorem dX12_text_16 : decode cX12_text 16 = .ok (.bipush 10, 2) := by decide +kernel
theorem dX12_text_18 : decode cX12_text 18 = .ok (.if_icmp .ne 6, 3) := by decide +kernel
theorem dX12_text_21 : decode cX12_text 21 = .ok (.bipush (-4), 2) := by decide +kernel
theorem dX12_text_23 : decode cX12_text 23 = .ok (.ireturn, 1) := by decide +kernel
theorem dX12_text_24 : decode cX12_text 24 = .ok (.aload_n 0, 1) := by decide +kernel
theorem dX12_text_25 : decode cX12_text 25 = .ok (.aload_n 0, 1) := by decide +kernel
theorem dX12_text_26 : decode cX12_text 26 = .ok (.getfield 7, 3) := by decide +kernel
theorem dX12_text_29 : decode cX12_text 29 = .ok (.iconst 2, 1) := by decide +kernel
theorem dX12_text_30 : decode cX12_text 30 = .ok (.iaload, 1) := by decide +kernel
theorem dX12_text_31 : decode cX12_text 31 = .ok (.iload_n 1, 1) := by decide +kernel
theorem dX12_text_32 : decode cX12_text 32 = .ok (.invokevirtual 189, 3) := by decide +kernel
theorem dX12_text_35 : decode cX12_text 35 = .ok (.ifCond .ne 11, 3) := by decide +kernel
theorem dX12_text_38 : decode cX12_text 38 = .ok (.bipush (-10), 2) := by decide +kernel
theorem dX12_text_40 : decode cX12_text 40 = .ok (.aload_n 0, 1) := by decide +kernel
theorem dX12_text_41 : decode cX12_text 41 = .ok (.getfield 116, 3) := by decide +kernel
theorem dX12_text_44 : decode cX12_text 44 = .ok (.isub, 1) := by decide +kernel
theorem dX12_text_45 : decode cX12_text 45 = .ok (.ireturn, 1) := by decide +kernel
theorem dX12_text_46 : decode cX12_text 46 = .ok (.aload_n 0, 1) := by decide +kernel
theorem dX12_text_47 : decode cX12_text 47 = .ok (.getfield 7, 3) := by decide +kernel
theorem dX12_text_50 : decode cX12_text 50 = .ok (.iconst 2, 1) := by decide +kernel
theorem dX12_text_51 : decode cX12_text 51 = .ok (.dup2, 1) := by decide +kernel
theorem dX12_text_52 : decode cX12_text 52 = .ok (.iaload, 1) := by decide +kernel
theorem dX12_text_53 : decode cX12_text 53 = .ok (.iconst 1, 1) := by decide +kernel
theorem dX12_text_54 : decode cX12_text 54 = .ok (.iadd, 1) := by decide +kernel
theorem dX12_text_55 : decode cX12_text 55 = .ok (.iastore, 1) := by decide +kernel
theorem dX12_text_56 : decode cX12_text 56 = .ok (.aload_n 0, 1) := by decide +kernel
theorem dX12_text_57 : decode cX12_text 57 = .ok (.getfield 7, 3) := by decide +kernel
theorem dX12_text_60 : decode cX12_text 60 = .ok (.iconst 2, 1) := by decide +kernel
theorem dX12_text_61 : decode cX12_text 61 = .ok (.iaload, 1) := by decide +kernel
theorem dX12_text_62 : decode cX12_text 62 = .ok (.iconst 1, 1) := by decide +kernel
theorem dX12_text_63 : decode cX12_text 63 = .ok (.isub, 1) := by decide +kernel
theorem dX12_text_64 : decode cX12_text 64 = .ok (.ireturn, 1) := by decide +kernel
theorem dX12_holds_0 : decode cX12_holds 0 = .ok (.aload_n 0, 1) := by decide +kernel
theorem dX12_holds_1 : decode cX12_holds 1 = .ok (.iload_n 1, 1) := by decide +kernel
theorem dX12_holds_2 : decode cX12_holds 2 = .ok (.bipush 8, 2) := by decide +kernel
theorem dX12_holds_4 : decode cX12_holds 4 = .ok (.idiv, 1) := by decide +kernel
theorem dX12_holds_5 : decode cX12_holds 5 = .ok (.putfield 119, 3) := by decide +kernel
theorem dX12_holds_8 : decode cX12_holds 8 = .ok (.aload_n 0, 1) := by decide +kernel
theorem dX12_holds_9 : decode cX12_holds 9 = .ok (.aload_n 0, 1) := by decide +kernel
theorem dX12_holds_10 : decode cX12_holds 10 = .ok (.getfield 7, 3) := by decide +kernel
theorem dX12_holds_13 : decode cX12_holds 13 = .ok (.sipush 1790, 3) := by decide +kernel
theorem dX12_holds_16 : decode cX12_holds 16 = .ok (.iload_n 1, 1) := by decide +kernel
theorem dX12_holds_17 : decode cX12_holds 17 = .ok (.iadd, 1) := by decide +kernel
theorem dX12_holds_18 : decode cX12_holds 18 = .ok (.iaload, 1) := by decide +kernel
theorem dX12_holds_19 : decode cX12_holds 19 = .ok (.putfield 116, 3) := by decide +kernel
theorem dX12_holds_22 : decode cX12_holds 22 = .ok (.aload_n 0, 1) := by decide +kernel
theorem dX12_holds_23 : decode cX12_holds 23 = .ok (.iconst 0, 1) := by decide +kernel
theorem dX12_holds_24 : decode cX12_holds 24 = .ok (.putfield 145, 3) := by decide +kernel
theorem dX12_holds_27 : decode cX12_holds 27 = .ok (.aload_n 0, 1) := by decide +kernel
theorem dX12_holds_28 : decode cX12_holds 28 = .ok (.iconst 0, 1) := by decide +kernel
theorem dX12_holds_29 : decode cX12_holds 29 = .ok (.putfield 122, 3) := by decide +kernel
theorem dX12_holds_32 : decode cX12_holds 32 = .ok (.aload_n 0, 1) := by decide +kernel
theorem dX12_holds_33 : decode cX12_holds 33 = .ok (.iload_n 2, 1) := by decide +kernel
theorem dX12_holds_34 : decode cX12_holds 34 = .ok (.putfield 142, 3) := by decide +kernel
theorem dX12_holds_37 : decode cX12_holds 37 = .ok (.aload_n 0, 1) := by decide +kernel
theorem dX12_holds_38 : decode cX12_holds 38 = .ok (.invokevirtual 152, 3) := by decide +kernel
theorem dX12_holds_41 : decode cX12_holds 41 = .ok (.ireturn, 1) := by decide +kernel
theorem dX12_ruling_0 : decode cX12_ruling 0 = .ok (.iconst (-1), 1) := by decide +kernel
theorem dX12_ruling_1 : decode cX12_ruling 1 = .ok (.istore 4, 2) := by decide +kernel
theorem dX12_ruling_3 : decode cX12_ruling 3 = .ok (.iconst 0, 1) := by decide +kernel
theorem dX12_ruling_4 : decode cX12_ruling 4 = .ok (.istore 5, 2) := by decide +kernel
theorem dX12_ruling_6 : decode cX12_ruling 6 = .ok (.iload 5, 2) := by decide +kernel
theorem dX12_ruling_8 : decode cX12_ruling 8 = .ok (.aload_n 0, 1) := by decide +kernel
theorem dX12_ruling_9 : decode cX12_ruling 9 = .ok (.getfield 7, 3) := by decide +kernel
theorem dX12_ruling_12 : decode cX12_ruling 12 = .ok (.iconst 2, 1) := by decide +kernel
theorem dX12_ruling_13 : decode cX12_ruling 13 = .ok (.iaload, 1) := by decide +kernel
theorem dX12_ruling_14 : decode cX12_ruling 14 = .ok (.if_icmp .ge 151, 3) := by decide +kernel
theorem dX12_ruling_17 : decode cX12_ruling 17 = .ok (.iconst 0, 1) := by decide +kernel
theorem dX12_ruling_18 : decode cX12_ruling 18 = .ok (.istore 6, 2) := by decide +kernel
theorem dX12_ruling_20 : decode cX12_ruling 20 = .ok (.iload 6, 2) := by decide +kernel
theorem dX12_ruling_22 : decode cX12_ruling 22 = .ok (.aload_n 0, 1) := by decide +kernel
theorem dX12_ruling_23 : decode cX12_ruling 23 = .ok (.getfield 7, 3) := by decide +kernel
theorem dX12_ruling_26 : decode cX12_ruling 26 = .ok (.sipush 1600, 3) := by decide +kernel
theorem dX12_ruling_29 : decode cX12_ruling 29 = .ok (.iload 5, 2) := by decide +kernel
theorem dX12_ruling_31 : decode cX12_ruling 31 = .ok (.iadd, 1) := by decide +kernel
theorem dX12_ruling_32 : decode cX12_ruling 32 = .ok (.iaload, 1) := by decide +kernel
theorem dX12_ruling_33 : decode cX12_ruling 33 = .ok (.if_icmp .ge 126, 3) := by decide +kernel
theorem dX12_ruling_36 : decode cX12_ruling 36 = .ok (.aload_n 0, 1) := by decide +kernel
theorem dX12_ruling_37 : decode cX12_ruling 37 = .ok (.getfield 7, 3) := by decide +kernel
theorem dX12_ruling_40 : decode cX12_ruling 40 = .ok (.sipush 240, 3) := by decide +kernel
theorem dX12_ruling_43 : decode cX12_ruling 43 = .ok (.iload 5, 2) := by decide +kernel
theorem dX12_ruling_45 : decode cX12_ruling 45 = .ok (.iadd, 1) := by decide +kernel
theorem dX12_ruling_46 : decode cX12_ruling 46 = .ok (.iaload, 1) := by decide +kernel
theorem dX12_ruling_47 : decode cX12_ruling 47 = .ok (.iload_n 3, 1) := by decide +kernel
theorem dX12_ruling_48 : decode cX12_ruling 48 = .ok (.if_icmp .gt 111, 3) := by decide +kernel
theorem dX12_ruling_51 : decode cX12_ruling 51 = .ok (.aload_n 0, 1) := by decide +kernel
theorem dX12_ruling_52 : decode cX12_ruling 52 = .ok (.getfield 7, 3) := by decide +kernel
theorem dX12_ruling_55 : decode cX12_ruling 55 = .ok (.sipush 1612, 3) := by decide +kernel
theorem dX12_ruling_58 : decode cX12_ruling 58 = .ok (.bipush 8, 2) := by decide +kernel
theorem dX12_ruling_60 : decode cX12_ruling 60 = .ok (.iload 5, 2) := by decide +kernel
theorem dX12_ruling_62 : decode cX12_ruling 62 = .ok (.imul, 1) := by decide +kernel
theorem dX12_ruling_63 : decode cX12_ruling 63 = .ok (.iadd, 1) := by decide +kernel
theorem dX12_ruling_64 : decode cX12_ruling 64 = .ok (.iload 6, 2) := by decide +kernel
theorem dX12_ruling_66 : decode cX12_ruling 66 = .ok (.iadd, 1) := by decide +kernel
theorem dX12_ruling_67 : decode cX12_ruling 67 = .ok (.iaload, 1) := by decide +kernel
theorem dX12_ruling_68 : decode cX12_ruling 68 = .ok (.iload_n 1, 1) := by decide +kernel
theorem dX12_ruling_69 : decode cX12_ruling 69 = .ok (.if_icmp .ne 41, 3) := by decide +kernel
theorem dX12_ruling_72 : decode cX12_ruling 72 = .ok (.iload 4, 2) := by decide +kernel
theorem dX12_ruling_74 : decode cX12_ruling 74 = .ok (.iconst (-1), 1) := by decide +kernel
theorem dX12_ruling_75 : decode cX12_ruling 75 = .ok (.if_icmp .eq 31, 3) := by decide +kernel
theorem dX12_ruling_78 : decode cX12_ruling 78 = .ok (.aload_n 0, 1) := by decide +kernel
theorem dX12_ruling_79 : decode cX12_ruling 79 = .ok (.getfield 7, 3) := by decide +kernel
theorem dX12_ruling_82 : decode cX12_ruling 82 = .ok (.sipush 240, 3) := by decide +kernel
theorem dX12_ruling_85 : decode cX12_ruling 85 = .ok (.iload 5, 2) := by decide +kernel
theorem dX12_ruling_87 : decode cX12_ruling 87 = .ok (.iadd, 1) := by decide +kernel
theorem dX12_ruling_88 : decode cX12_ruling 88 = .ok (.iaload, 1) := by decide +kernel
theorem dX12_ruling_89 : decode cX12_ruling 89 = .ok (.aload_n 0, 1) := by decide +kernel
theorem dX12_ruling_90 : decode cX12_ruling 90 = .ok (.getfield 7, 3) := by decide +kernel
theorem dX12_ruling_93 : decode cX12_ruling 93 = .ok (.sipush 240, 3) := by decide +kernel
theorem dX12_ruling_96 : decode cX12_ruling 96 = .ok (.iload 4, 2) := by decide +kernel
theorem dX12_ruling_98 : decode cX12_ruling 98 = .ok (.bipush 8, 2) := by decide +kernel
theorem dX12_ruling_100 : decode cX12_ruling 100 = .ok (.idiv, 1) := by decide +kernel
theorem dX12_ruling_101 : decode cX12_ruling 101 = .ok (.iadd, 1) := by decide +kernel
theorem dX12_ruling_102 : decode cX12_ruling 102 = .ok (.iaload, 1) := by decide +kernel
theorem dX12_ruling_103 : decode cX12_ruling 103 = .ok (.if_icmp .lt 7, 3) := by decide +kernel
theorem dX12_ruling_106 : decode cX12_ruling 106 = .ok (.iconst 1, 1) := by decide +kernel
theorem dX12_ruling_107 : decode cX12_ruling 107 = .ok (.goto 4, 3) := by decide +kernel
theorem dX12_ruling_110 : decode cX12_ruling 110 = .ok (.iconst 0, 1) := by decide +kernel
theorem dX12_ruling_111 : decode cX12_ruling 111 = .ok (.istore 7, 2) := by decide +kernel
theorem dX12_ruling_113 : decode cX12_ruling 113 = .ok (.iload 7, 2) := by decide +kernel
theorem dX12_ruling_115 : decode cX12_ruling 115 = .ok (.ifCond .eq 34, 3) := by decide +kernel
theorem dX12_ruling_118 : decode cX12_ruling 118 = .ok (.iload_n 1, 1) := by decide +kernel
theorem dX12_ruling_119 : decode cX12_ruling 119 = .ok (.ifCond .ne 19, 3) := by decide +kernel
theorem dX12_ruling_122 : decode cX12_ruling 122 = .ok (.aload_n 0, 1) := by decide +kernel
theorem dX12_ruling_123 : decode cX12_ruling 123 = .ok (.bipush 8, 2) := by decide +kernel
theorem dX12_ruling_125 : decode cX12_ruling 125 = .ok (.iload 5, 2) := by decide +kernel
theorem dX12_ruling_127 : decode cX12_ruling 127 = .ok (.imul, 1) := by decide +kernel
theorem dX12_ruling_128 : decode cX12_ruling 128 = .ok (.iload 6, 2) := by decide +kernel
theorem dX12_ruling_130 : decode cX12_ruling 130 = .ok (.iadd, 1) := by decide +kernel
theorem dX12_ruling_131 : decode cX12_ruling 131 = .ok (.iload_n 2, 1) := by decide +kernel
theorem dX12_ruling_132 : decode cX12_ruling 132 = .ok (.invokevirtual 193, 3) := by decide +kernel
theorem dX12_ruling_135 : decode cX12_ruling 135 = .ok (.ifCond .eq 14, 3) := by decide +kernel
theorem dX12_ruling_138 : decode cX12_ruling 138 = .ok (.bipush 8, 2) := by decide +kernel
theorem dX12_ruling_140 : decode cX12_ruling 140 = .ok (.iload 5, 2) := by decide +kernel
theorem dX12_ruling_142 : decode cX12_ruling 142 = .ok (.imul, 1) := by decide +kernel
theorem dX12_ruling_143 : decode cX12_ruling 143 = .ok (.iload 6, 2) := by decide +kernel
theorem dX12_ruling_145 : decode cX12_ruling 145 = .ok (.iadd, 1) := by decide +kernel
theorem dX12_ruling_146 : decode cX12_ruling 146 = .ok (.goto 5, 3) := by decide +kernel
theorem dX12_ruling_149 : decode cX12_ruling 149 = .ok (.iload 4, 2) := by decide +kernel
theorem dX12_ruling_151 : decode cX12_ruling 151 = .ok (.istore 4, 2) := by decide +kernel
theorem dX12_ruling_153 : decode cX12_ruling 153 = .ok (.iinc 6 1, 3) := by decide +kernel
theorem dX12_ruling_156 : decode cX12_ruling 156 = .ok (.goto (-136), 3) := by decide +kernel
theorem dX12_ruling_159 : decode cX12_ruling 159 = .ok (.iinc 5 1, 3) := by decide +kernel
theorem dX12_ruling_162 : decode cX12_ruling 162 = .ok (.goto (-156), 3) := by decide +kernel
theorem dX12_ruling_165 : decode cX12_ruling 165 = .ok (.iload 4, 2) := by decide +kernel
theorem dX12_ruling_167 : decode cX12_ruling 167 = .ok (.ireturn, 1) := by decide +kernel
theorem dX12_ruleFor_0 : decode cX12_ruleFor 0 = .ok (.aload_n 0, 1) := by decide +kernel
theorem dX12_ruleFor_1 : decode cX12_ruleFor 1 = .ok (.iload_n 1, 1) := by decide +kernel
theorem dX12_ruleFor_2 : decode cX12_ruleFor 2 = .ok (.iload_n 2, 1) := by decide +kernel
theorem dX12_ruleFor_3 : decode cX12_ruleFor 3 = .ok (.iload_n 3, 1) := by decide +kernel
theorem dX12_ruleFor_4 : decode cX12_ruleFor 4 = .ok (.invokevirtual 196, 3) := by decide +kernel
theorem dX12_ruleFor_7 : decode cX12_ruleFor 7 = .ok (.istore 4, 2) := by decide +kernel
theorem dX12_ruleFor_9 : decode cX12_ruleFor 9 = .ok (.iload 4, 2) := by decide +kernel
theorem dX12_ruleFor_11 : decode cX12_ruleFor 11 = .ok (.iconst (-1), 1) := by decide +kernel
theorem dX12_ruleFor_12 : decode cX12_ruleFor 12 = .ok (.if_icmp .eq 15, 3) := by decide +kernel
theorem dX12_ruleFor_15 : decode cX12_ruleFor 15 = .ok (.aload_n 0, 1) := by decide +kernel
theorem dX12_ruleFor_16 : decode cX12_ruleFor 16 = .ok (.getfield 7, 3) := by decide +kernel
theorem dX12_ruleFor_19 : decode cX12_ruleFor 19 = .ok (.sipush 1700, 3) := by decide +kernel
theorem dX12_ruleFor_22 : decode cX12_ruleFor 22 = .ok (.iload 4, 2) := by decide +kernel
theorem dX12_ruleFor_24 : decode cX12_ruleFor 24 = .ok (.iadd, 1) := by decide +kernel
theorem dX12_ruleFor_25 : decode cX12_ruleFor 25 = .ok (.iaload, 1) := by decide +kernel
theorem dX12_ruleFor_26 : decode cX12_ruleFor 26 = .ok (.ireturn, 1) := by decide +kernel
theorem dX12_ruleFor_27 : decode cX12_ruleFor 27 = .ok (.iload_n 1, 1) := by decide +kernel
theorem dX12_ruleFor_28 : decode cX12_ruleFor 28 = .ok (.ifCond .ne 8, 3) := by decide +kernel
theorem dX12_ruleFor_31 : decode cX12_ruleFor 31 = .ok (.bipush 100, 2) := by decide +kernel
theorem dX12_ruleFor_33 : decode cX12_ruleFor 33 = .ok (.goto 28, 3) := by decide +kernel
theorem dX12_ruleFor_36 : decode cX12_ruleFor 36 = .ok (.iload_n 1, 1) := by decide +kernel
theorem dX12_ruleFor_37 : decode cX12_ruleFor 37 = .ok (.iconst 1, 1) := by decide +kernel
theorem dX12_ruleFor_38 : decode cX12_ruleFor 38 = .ok (.if_icmp .eq 8, 3) := by decide +kernel
theorem dX12_ruleFor_41 : decode cX12_ruleFor 41 = .ok (.iload_n 1, 1) := by decide +kernel
theorem dX12_ruleFor_42 : decode cX12_ruleFor 42 = .ok (.iconst 3, 1) := by decide +kernel
theorem dX12_ruleFor_43 : decode cX12_ruleFor 43 = .ok (.if_icmp .ne 8, 3) := by decide +kernel
theorem dX12_ruleFor_46 : decode cX12_ruleFor 46 = .ok (.bipush 99, 2) := by decide +kernel
theorem dX12_ruleFor_48 : decode cX12_ruleFor 48 = .ok (.goto 13, 3) := by decide +kernel
theorem dX12_ruleFor_51 : decode cX12_ruleFor 51 = .ok (.iload_n 1, 1) := by decide +kernel
theorem dX12_ruleFor_52 : decode cX12_ruleFor 52 = .ok (.iconst 2, 1) := by decide +kernel
theorem dX12_ruleFor_53 : decode cX12_ruleFor 53 = .ok (.if_icmp .ne 7, 3) := by decide +kernel
theorem dX12_ruleFor_56 : decode cX12_ruleFor 56 = .ok (.iconst 1, 1) := by decide +kernel
theorem dX12_ruleFor_57 : decode cX12_ruleFor 57 = .ok (.goto 4, 3) := by decide +kernel
theorem dX12_ruleFor_60 : decode cX12_ruleFor 60 = .ok (.iconst 0, 1) := by decide +kernel
theorem dX12_ruleFor_61 : decode cX12_ruleFor 61 = .ok (.ireturn, 1) := by decide +kernel
theorem dX12_rule_0 : decode cX12_rule 0 = .ok (.aload_n 0, 1) := by decide +kernel
theorem dX12_rule_1 : decode cX12_rule 1 = .ok (.iload_n 1, 1) := by decide +kernel
theorem dX12_rule_2 : decode cX12_rule 2 = .ok (.iconst (-1), 1) := by decide +kernel
theorem dX12_rule_3 : decode cX12_rule 3 = .ok (.iload_n 2, 1) := by decide +kernel
theorem dX12_rule_4 : decode cX12_rule 4 = .ok (.invokevirtual 199, 3) := by decide +kernel
theorem dX12_rule_7 : decode cX12_rule 7 = .ok (.ireturn, 1) := by decide +kernel
theorem dX12_force_0 : decode cX12_force 0 = .ok (.iload_n 1, 1) := by decide +kernel
theorem dX12_force_1 : decode cX12_force 1 = .ok (.iconst 0, 1) := by decide +kernel
theorem dX12_force_2 : decode cX12_force 2 = .ok (.iconst 5, 1) := by decide +kernel
theorem dX12_force_3 : decode cX12_force 3 = .ok (.invokestatic 69, 3) := by decide +kernel
theorem dX12_force_6 : decode cX12_force 6 = .ok (.ifCond .eq 15, 3) := by decide +kernel
theorem dX12_force_9 : decode cX12_force 9 = .ok (.iload_n 1, 1) := by decide +kernel
theorem dX12_force_10 : decode cX12_force 10 = .ok (.ifCond .ne 13, 3) := by decide +kernel
theorem dX12_force_13 : decode cX12_force 13 = .ok (.aload_n 0, 1) := by decide +kernel
theorem dX12_force_14 : decode cX12_force 14 = .ok (.iload_n 2, 1) := by decide +kernel
theorem dX12_force_15 : decode cX12_force 15 = .ok (.invokevirtual 202, 3) := by decide +kernel
theorem dX12_force_18 : decode cX12_force 18 = .ok (.ifCond .ne 5, 3) := by decide +kernel
theorem dX12_force_21 : decode cX12_force 21 = .ok (.iconst (-1), 1) := by decide +kernel
theorem dX12_force_22 : decode cX12_force 22 = .ok (.ireturn, 1) := by decide +kernel
theorem dX12_force_23 : decode cX12_force 23 = .ok (.iload_n 3, 1) := by decide +kernel
theorem dX12_force_24 : decode cX12_force 24 = .ok (.invokestatic 186, 3) := by decide +kernel
theorem dX12_force_27 : decode cX12_force 27 = .ok (.ifCond .eq 13, 3) := by decide +kernel
theorem dX12_force_30 : decode cX12_force 30 = .ok (.aload_n 0, 1) := by decide +kernel
theorem dX12_force_31 : decode cX12_force 31 = .ok (.iload_n 1, 1) := by decide +kernel
theorem dX12_force_32 : decode cX12_force 32 = .ok (.iload_n 2, 1) := by decide +kernel
theorem dX12_force_33 : decode cX12_force 33 = .ok (.iload_n 3, 1) := by decide +kernel
theorem dX12_force_34 : decode cX12_force 34 = .ok (.invokevirtual 199, 3) := by decide +kernel
theorem dX12_force_37 : decode cX12_force 37 = .ok (.goto 5, 3) := by decide +kernel
theorem dX12_force_40 : decode cX12_force 40 = .ok (.bipush (-2), 2) := by decide +kernel
theorem dX12_force_42 : decode cX12_force 42 = .ok (.ireturn, 1) := by decide +kernel
theorem dX12_why_0 : decode cX12_why 0 = .ok (.iload_n 1, 1) := by decide +kernel
theorem dX12_why_1 : decode cX12_why 1 = .ok (.iconst 0, 1) := by decide +kernel
theorem dX12_why_2 : decode cX12_why 2 = .ok (.iconst 5, 1) := by decide +kernel
theorem dX12_why_3 : decode cX12_why 3 = .ok (.invokestatic 69, 3) := by decide +kernel
theorem dX12_why_6 : decode cX12_why 6 = .ok (.ifCond .eq 15, 3) := by decide +kernel
theorem dX12_why_9 : decode cX12_why 9 = .ok (.iload_n 1, 1) := by decide +kernel
theorem dX12_why_10 : decode cX12_why 10 = .ok (.ifCond .ne 13, 3) := by decide +kernel
theorem dX12_why_13 : decode cX12_why 13 = .ok (.aload_n 0, 1) := by decide +kernel
theorem dX12_why_14 : decode cX12_why 14 = .ok (.iload_n 2, 1) := by decide +kernel
theorem dX12_why_15 : decode cX12_why 15 = .ok (.invokevirtual 202, 3) := by decide +kernel
theorem dX12_why_18 : decode cX12_why 18 = .ok (.ifCond .ne 5, 3) := by decide +kernel
theorem dX12_why_21 : decode cX12_why 21 = .ok (.iconst (-1), 1) := by decide +kernel
theorem dX12_why_22 : decode cX12_why 22 = .ok (.ireturn, 1) := by decide +kernel
theorem dX12_why_23 : decode cX12_why 23 = .ok (.iload_n 3, 1) := by decide +kernel
theorem dX12_why_24 : decode cX12_why 24 = .ok (.invokestatic 186, 3) := by decide +kernel
theorem dX12_why_27 : decode cX12_why 27 = .ok (.ifCond .ne 6, 3) := by decide +kernel
theorem dX12_why_30 : decode cX12_why 30 = .ok (.bipush (-2), 2) := by decide +kernel
theorem dX12_why_32 : decode cX12_why 32 = .ok (.ireturn, 1) := by decide +kernel
theorem dX12_why_33 : decode cX12_why 33 = .ok (.aload_n 0, 1) := by decide +kernel
theorem dX12_why_34 : decode cX12_why 34 = .ok (.iload_n 1, 1) := by decide +kernel
theorem dX12_why_35 : decode cX12_why 35 = .ok (.iload_n 2, 1) := by decide +kernel
theorem dX12_why_36 : decode cX12_why 36 = .ok (.iload_n 3, 1) := by decide +kernel
theorem dX12_why_37 : decode cX12_why 37 = .ok (.invokevirtual 196, 3) := by decide +kernel
theorem dX12_why_40 : decode cX12_why 40 = .ok (.istore 4, 2) := by decide +kernel
theorem dX12_why_42 : decode cX12_why 42 = .ok (.iload 4, 2) := by decide +kernel
theorem dX12_why_44 : decode cX12_why 44 = .ok (.iconst (-1), 1) := by decide +kernel
theorem dX12_why_45 : decode cX12_why 45 = .ok (.if_icmp .ne 8, 3) := by decide +kernel
theorem dX12_why_48 : decode cX12_why 48 = .ok (.bipush (-5), 2) := by decide +kernel
theorem dX12_why_50 : decode cX12_why 50 = .ok (.goto 17, 3) := by decide +kernel
theorem dX12_why_53 : decode cX12_why 53 = .ok (.bipush 100, 2) := by decide +kernel
theorem dX12_why_55 : decode cX12_why 55 = .ok (.iload 4, 2) := by decide +kernel
theorem dX12_why_57 : decode cX12_why 57 = .ok (.bipush 8, 2) := by decide +kernel
theorem dX12_why_59 : decode cX12_why 59 = .ok (.idiv, 1) := by decide +kernel
theorem dX12_why_60 : decode cX12_why 60 = .ok (.imul, 1) := by decide +kernel
theorem dX12_why_61 : decode cX12_why 61 = .ok (.iload 4, 2) := by decide +kernel
theorem dX12_why_63 : decode cX12_why 63 = .ok (.bipush 8, 2) := by decide +kernel
theorem dX12_why_65 : decode cX12_why 65 = .ok (.irem, 1) := by decide +kernel
theorem dX12_why_66 : decode cX12_why 66 = .ok (.iadd, 1) := by decide +kernel
theorem dX12_why_67 : decode cX12_why 67 = .ok (.ireturn, 1) := by decide +kernel
theorem dX12_taker_0 : decode cX12_taker 0 = .ok (.iload_n 1, 1) := by decide +kernel
theorem dX12_taker_1 : decode cX12_taker 1 = .ok (.iconst 0, 1) := by decide +kernel
theorem dX12_taker_2 : decode cX12_taker 2 = .ok (.iconst 5, 1) := by decide +kernel
theorem dX12_taker_3 : decode cX12_taker 3 = .ok (.invokestatic 69, 3) := by decide +kernel
theorem dX12_taker_6 : decode cX12_taker 6 = .ok (.ifCond .eq 13, 3) := by decide +kernel
theorem dX12_taker_9 : decode cX12_taker 9 = .ok (.iload_n 2, 1) := by decide +kernel
theorem dX12_taker_10 : decode cX12_taker 10 = .ok (.iconst 0, 1) := by decide +kernel
theorem dX12_taker_11 : decode cX12_taker 11 = .ok (.bipush 11, 2) := by decide +kernel
theorem dX12_taker_13 : decode cX12_taker 13 = .ok (.invokestatic 69, 3) := by decide +kernel
theorem dX12_taker_16 : decode cX12_taker 16 = .ok (.ifCond .ne 5, 3) := by decide +kernel
theorem dX12_taker_19 : decode cX12_taker 19 = .ok (.iconst (-1), 1) := by decide +kernel
theorem dX12_taker_20 : decode cX12_taker 20 = .ok (.ireturn, 1) := by decide +kernel
theorem dX12_taker_21 : decode cX12_taker 21 = .ok (.iload_n 3, 1) := by decide +kernel
theorem dX12_taker_22 : decode cX12_taker 22 = .ok (.iconst 1, 1) := by decide +kernel
theorem dX12_taker_23 : decode cX12_taker 23 = .ok (.iconst 4, 1) := by decide +kernel
theorem dX12_taker_24 : decode cX12_taker 24 = .ok (.invokestatic 69, 3) := by decide +kernel
theorem dX12_taker_27 : decode cX12_taker 27 = .ok (.ifCond .eq 30, 3) := by decide +kernel
theorem dX12_taker_30 : decode cX12_taker 30 = .ok (.iload 4, 2) := by decide +kernel
theorem dX12_taker_32 : decode cX12_taker 32 = .ok (.iconst 0, 1) := by decide +kernel
theorem dX12_taker_33 : decode cX12_taker 33 = .ok (.sipush 1500, 3) := by decide +kernel
theorem dX12_taker_36 : decode cX12_taker 36 = .ok (.invokestatic 69, 3) := by decide +kernel
theorem dX12_taker_39 : decode cX12_taker 39 = .ok (.ifCond .eq 18, 3) := by decide +kernel
theorem dX12_taker_42 : decode cX12_taker 42 = .ok (.iload 5, 2) := by decide +kernel
theorem dX12_taker_44 : decode cX12_taker 44 = .ok (.iconst 0, 1) := by decide +kernel
theorem dX12_taker_45 : decode cX12_taker 45 = .ok (.aload_n 0, 1) := by decide +kernel
theorem dX12_taker_46 : decode cX12_taker 46 = .ok (.getfield 7, 3) := by decide +kernel
theorem dX12_taker_49 : decode cX12_taker 49 = .ok (.iconst 0, 1) := by decide +kernel
theorem dX12_taker_50 : decode cX12_taker 50 = .ok (.iaload, 1) := by decide +kernel
theorem dX12_taker_51 : decode cX12_taker 51 = .ok (.invokestatic 69, 3) := by decide +kernel
theorem dX12_taker_54 : decode cX12_taker 54 = .ok (.ifCond .ne 6, 3) := by decide +kernel
theorem dX12_taker_57 : decode cX12_taker 57 = .ok (.bipush (-2), 2) := by decide +kernel
theorem dX12_taker_59 : decode cX12_taker 59 = .ok (.ireturn, 1) := by decide +kernel
theorem dX12_taker_60 : decode cX12_taker 60 = .ok (.aload_n 0, 1) := by decide +kernel
theorem dX12_taker_61 : decode cX12_taker 61 = .ok (.getfield 7, 3) := by decide +kernel
theorem dX12_taker_64 : decode cX12_taker 64 = .ok (.iconst 3, 1) := by decide +kernel
theorem dX12_taker_65 : decode cX12_taker 65 = .ok (.iaload, 1) := by decide +kernel
theorem dX12_taker_66 : decode cX12_taker 66 = .ok (.bipush 8, 2) := by decide +kernel
theorem dX12_taker_68 : decode cX12_taker 68 = .ok (.if_icmp .ne 6, 3) := by decide +kernel
theorem dX12_taker_71 : decode cX12_taker 71 = .ok (.bipush (-4), 2) := by decide +kernel
theorem dX12_taker_73 : decode cX12_taker 73 = .ok (.ireturn, 1) := by decide +kernel
theorem dX12_taker_74 : decode cX12_taker 74 = .ok (.aload_n 0, 1) := by decide +kernel
theorem dX12_taker_75 : decode cX12_taker 75 = .ok (.getfield 7, 3) := by decide +kernel
theorem dX12_taker_78 : decode cX12_taker 78 = .ok (.iconst 3, 1) := by decide +kernel
theorem dX12_taker_79 : decode cX12_taker 79 = .ok (.iaload, 1) := by decide +kernel
theorem dX12_taker_80 : decode cX12_taker 80 = .ok (.istore 6, 2) := by decide +kernel
theorem dX12_taker_82 : decode cX12_taker 82 = .ok (.aload_n 0, 1) := by decide +kernel
theorem dX12_taker_83 : decode cX12_taker 83 = .ok (.getfield 7, 3) := by decide +kernel
theorem dX12_taker_86 : decode cX12_taker 86 = .ok (.sipush 2000, 3) := by decide +kernel
theorem dX12_taker_89 : decode cX12_taker 89 = .ok (.iload 6, 2) := by decide +kernel
theorem dX12_taker_91 : decode cX12_taker 91 = .ok (.iadd, 1) := by decide +kernel
theorem dX12_taker_92 : decode cX12_taker 92 = .ok (.iload_n 1, 1) := by decide +kernel
theorem dX12_taker_93 : decode cX12_taker 93 = .ok (.iastore, 1) := by decide +kernel
theorem dX12_taker_94 : decode cX12_taker 94 = .ok (.aload_n 0, 1) := by decide +kernel
theorem dX12_taker_95 : decode cX12_taker 95 = .ok (.getfield 7, 3) := by decide +kernel
theorem dX12_taker_98 : decode cX12_taker 98 = .ok (.sipush 2008, 3) := by decide +kernel
theorem dX12_taker_101 : decode cX12_taker 101 = .ok (.iload 6, 2) := by decide +kernel
theorem dX12_taker_103 : decode cX12_taker 103 = .ok (.iadd, 1) := by decide +kernel
theorem dX12_taker_104 : decode cX12_taker 104 = .ok (.iload_n 2, 1) := by decide +kernel
theorem dX12_taker_105 : decode cX12_taker 105 = .ok (.iastore, 1) := by decide +kernel
theorem dX12_taker_106 : decode cX12_taker 106 = .ok (.aload_n 0, 1) := by decide +kernel
theorem dX12_taker_107 : decode cX12_taker 107 = .ok (.getfield 7, 3) := by decide +kernel
theorem dX12_taker_110 : decode cX12_taker 110 = .ok (.sipush 2016, 3) := by decide +kernel
theorem dX12_taker_113 : decode cX12_taker 113 = .ok (.iload 6, 2) := by decide +kernel
theorem dX12_taker_115 : decode cX12_taker 115 = .ok (.iadd, 1) := by decide +kernel
theorem dX12_taker_116 : decode cX12_taker 116 = .ok (.iload_n 3, 1) := by decide +kernel
theorem dX12_taker_117 : decode cX12_taker 117 = .ok (.iastore, 1) := by decide +kernel
theorem dX12_taker_118 : decode cX12_taker 118 = .ok (.aload_n 0, 1) := by decide +kernel
theorem dX12_taker_119 : decode cX12_taker 119 = .ok (.getfield 7, 3) := by decide +kernel
theorem dX12_taker_122 : decode cX12_taker 122 = .ok (.sipush 2024, 3) := by decide +kernel
theorem dX12_taker_125 : decode cX12_taker 125 = .ok (.iload 6, 2) := by decide +kernel
theorem dX12_taker_127 : decode cX12_taker 127 = .ok (.iadd, 1) := by decide +kernel
theorem dX12_taker_128 : decode cX12_taker 128 = .ok (.iload 4, 2) := by decide +kernel
theorem dX12_taker_130 : decode cX12_taker 130 = .ok (.iastore, 1) := by decide +kernel
theorem dX12_taker_131 : decode cX12_taker 131 = .ok (.aload_n 0, 1) := by decide +kernel
theorem dX12_taker_132 : decode cX12_taker 132 = .ok (.getfield 7, 3) := by decide +kernel
theorem dX12_taker_135 : decode cX12_taker 135 = .ok (.sipush 2032, 3) := by decide +kernel
theorem dX12_taker_138 : decode cX12_taker 138 = .ok (.iload 6, 2) := by decide +kernel
theorem dX12_taker_140 : decode cX12_taker 140 = .ok (.iadd, 1) := by decide +kernel
theorem dX12_taker_141 : decode cX12_taker 141 = .ok (.iload 5, 2) := by decide +kernel
theorem dX12_taker_143 : decode cX12_taker 143 = .ok (.iastore, 1) := by decide +kernel
theorem dX12_taker_144 : decode cX12_taker 144 = .ok (.aload_n 0, 1) := by decide +kernel
theorem dX12_taker_145 : decode cX12_taker 145 = .ok (.getfield 7, 3) := by decide +kernel
theorem dX12_taker_148 : decode cX12_taker 148 = .ok (.sipush 2040, 3) := by decide +kernel
theorem dX12_taker_151 : decode cX12_taker 151 = .ok (.iload 6, 2) := by decide +kernel
theorem dX12_taker_153 : decode cX12_taker 153 = .ok (.iadd, 1) := by decide +kernel
theorem dX12_taker_154 : decode cX12_taker 154 = .ok (.iconst 0, 1) := by decide +kernel
theorem dX12_taker_155 : decode cX12_taker 155 = .ok (.iastore, 1) := by decide +kernel
theorem dX12_taker_156 : decode cX12_taker 156 = .ok (.aload_n 0, 1) := by decide +kernel
theorem dX12_taker_157 : decode cX12_taker 157 = .ok (.getfield 7, 3) := by decide +kernel
theorem dX12_taker_160 : decode cX12_taker 160 = .ok (.iconst 3, 1) := by decide +kernel
theorem dX12_taker_161 : decode cX12_taker 161 = .ok (.dup2, 1) := by decide +kernel
theorem dX12_taker_162 : decode cX12_taker 162 = .ok (.iaload, 1) := by decide +kernel
theorem dX12_taker_163 : decode cX12_taker 163 = .ok (.iconst 1, 1) := by decide +kernel
theorem dX12_taker_164 : decode cX12_taker 164 = .ok (.iadd, 1) := by decide +kernel
theorem dX12_taker_165 : decode cX12_taker 165 = .ok (.iastore, 1) := by decide +kernel
theorem dX12_taker_166 : decode cX12_taker 166 = .ok (.iload 6, 2) := by decide +kernel
theorem dX12_taker_168 : decode cX12_taker 168 = .ok (.ireturn, 1) := by decide +kernel
theorem dX12_needsOf_0 : decode cX12_needsOf 0 = .ok (.aload_n 0, 1) := by decide +kernel
theorem dX12_needsOf_1 : decode cX12_needsOf 1 = .ok (.getfield 7, 3) := by decide +kernel
theorem dX12_needsOf_4 : decode cX12_needsOf 4 = .ok (.sipush 2024, 3) := by decide +kernel
theorem dX12_needsOf_7 : decode cX12_needsOf 7 = .ok (.iload_n 1, 1) := by decide +kernel
theorem dX12_needsOf_8 : decode cX12_needsOf 8 = .ok (.iadd, 1) := by decide +kernel
theorem dX12_needsOf_9 : decode cX12_needsOf 9 = .ok (.iaload, 1) := by decide +kernel
theorem dX12_needsOf_10 : decode cX12_needsOf 10 = .ok (.istore_n 2, 1) := by decide +kernel
theorem dX12_needsOf_11 : decode cX12_needsOf 11 = .ok (.iload_n 2, 1) := by decide +kernel
theorem dX12_needsOf_12 : decode cX12_needsOf 12 = .ok (.bipush 20, 2) := by decide +kernel
theorem dX12_needsOf_14 : decode cX12_needsOf 14 = .ok (.if_icmp .ge 7, 3) := by decide +kernel
theorem dX12_needsOf_17 : decode cX12_needsOf 17 = .ok (.iconst 0, 1) := by decide +kernel
theorem dX12_needsOf_18 : decode cX12_needsOf 18 = .ok (.goto 7, 3) := by decide +kernel
theorem dX12_needsOf_21 : decode cX12_needsOf 21 = .ok (.iload_n 2, 1) := by decide +kernel
theorem dX12_needsOf_22 : decode cX12_needsOf 22 = .ok (.bipush 20, 2) := by decide +kernel
theorem dX12_needsOf_24 : decode cX12_needsOf 24 = .ok (.isub, 1) := by decide +kernel
theorem dX12_needsOf_25 : decode cX12_needsOf 25 = .ok (.istore_n 3, 1) := by decide +kernel
theorem dX12_needsOf_26 : decode cX12_needsOf 26 = .ok (.aload_n 0, 1) := by decide +kernel
theorem dX12_needsOf_27 : decode cX12_needsOf 27 = .ok (.getfield 7, 3) := by decide +kernel
theorem dX12_needsOf_30 : decode cX12_needsOf 30 = .ok (.sipush 2000, 3) := by decide +kernel
theorem dX12_needsOf_33 : decode cX12_needsOf 33 = .ok (.iload_n 1, 1) := by decide +kernel
theorem dX12_needsOf_34 : decode cX12_needsOf 34 = .ok (.iadd, 1) := by decide +kernel
theorem dX12_needsOf_35 : decode cX12_needsOf 35 = .ok (.iaload, 1) := by decide +kernel
theorem dX12_needsOf_36 : decode cX12_needsOf 36 = .ok (.tableswitch 51 1 5 #[36, 41, 43, 41, 47], 36) := by decide +kernel
theorem dX12_needsOf_72 : decode cX12_needsOf 72 = .ok (.iload_n 2, 1) := by decide +kernel
theorem dX12_needsOf_73 : decode cX12_needsOf 73 = .ok (.bipush 10, 2) := by decide +kernel
theorem dX12_needsOf_75 : decode cX12_needsOf 75 = .ok (.iadd, 1) := by decide +kernel
theorem dX12_needsOf_76 : decode cX12_needsOf 76 = .ok (.ireturn, 1) := by decide +kernel
theorem dX12_needsOf_77 : decode cX12_needsOf 77 = .ok (.iload_n 3, 1) := by decide +kernel
theorem dX12_needsOf_78 : decode cX12_needsOf 78 = .ok (.ireturn, 1) := by decide +kernel
theorem dX12_needsOf_79 : decode cX12_needsOf 79 = .ok (.iload_n 2, 1) := by decide +kernel
theorem dX12_needsOf_80 : decode cX12_needsOf 80 = .ok (.iconst 2, 1) := by decide +kernel
theorem dX12_needsOf_81 : decode cX12_needsOf 81 = .ok (.idiv, 1) := by decide +kernel
theorem dX12_needsOf_82 : decode cX12_needsOf 82 = .ok (.ireturn, 1) := by decide +kernel
theorem dX12_needsOf_83 : decode cX12_needsOf 83 = .ok (.iload_n 3, 1) := by decide +kernel
theorem dX12_needsOf_84 : decode cX12_needsOf 84 = .ok (.iconst 5, 1) := by decide +kernel
theorem dX12_needsOf_85 : decode cX12_needsOf 85 = .ok (.iadd, 1) := by decide +kernel
theorem dX12_needsOf_86 : decode cX12_needsOf 86 = .ok (.ireturn, 1) := by decide +kernel
theorem dX12_needsOf_87 : decode cX12_needsOf 87 = .ok (.iload_n 2, 1) := by decide +kernel
theorem dX12_needsOf_88 : decode cX12_needsOf 88 = .ok (.ireturn, 1) := by decide +kernel
theorem dX12_rankOf_0 : decode cX12_rankOf 0 = .ok (.aload_n 0, 1) := by decide +kernel
theorem dX12_rankOf_1 : decode cX12_rankOf 1 = .ok (.getfield 7, 3) := by decide +kernel
theorem dX12_rankOf_4 : decode cX12_rankOf 4 = .ok (.sipush 2000, 3) := by decide +kernel
theorem dX12_rankOf_7 : decode cX12_rankOf 7 = .ok (.iload_n 1, 1) := by decide +kernel
theorem dX12_rankOf_8 : decode cX12_rankOf 8 = .ok (.iadd, 1) := by decide +kernel
theorem dX12_rankOf_9 : decode cX12_rankOf 9 = .ok (.iaload, 1) := by decide +kernel
theorem dX12_rankOf_10 : decode cX12_rankOf 10 = .ok (.istore_n 3, 1) := by decide +kernel
theorem dX12_rankOf_11 : decode cX12_rankOf 11 = .ok (.aload_n 0, 1) := by decide +kernel
theorem dX12_rankOf_12 : decode cX12_rankOf 12 = .ok (.iconst 0, 1) := by decide +kernel
theorem dX12_rankOf_13 : decode cX12_rankOf 13 = .ok (.iload_n 1, 1) := by decide +kernel
theorem dX12_rankOf_14 : decode cX12_rankOf 14 = .ok (.iload_n 2, 1) := by decide +kernel
theorem dX12_rankOf_15 : decode cX12_rankOf 15 = .ok (.invokevirtual 199, 3) := by decide +kernel
theorem dX12_rankOf_18 : decode cX12_rankOf 18 = .ok (.iload_n 3, 1) := by decide +kernel
theorem dX12_rankOf_19 : decode cX12_rankOf 19 = .ok (.iconst 4, 1) := by decide +kernel
theorem dX12_rankOf_20 : decode cX12_rankOf 20 = .ok (.if_icmp .ne 7, 3) := by decide +kernel
theorem dX12_rankOf_23 : decode cX12_rankOf 23 = .ok (.iconst 1, 1) := by decide +kernel
theorem dX12_rankOf_24 : decode cX12_rankOf 24 = .ok (.goto 13, 3) := by decide +kernel
theorem dX12_rankOf_27 : decode cX12_rankOf 27 = .ok (.iload_n 3, 1) := by decide +kernel
theorem dX12_rankOf_28 : decode cX12_rankOf 28 = .ok (.iconst 5, 1) := by decide +kernel
theorem dX12_rankOf_29 : decode cX12_rankOf 29 = .ok (.if_icmp .ne 7, 3) := by decide +kernel
theorem dX12_rankOf_32 : decode cX12_rankOf 32 = .ok (.iconst 2, 1) := by decide +kernel
theorem dX12_rankOf_33 : decode cX12_rankOf 33 = .ok (.goto 4, 3) := by decide +kernel
theorem dX12_rankOf_36 : decode cX12_rankOf 36 = .ok (.iconst 0, 1) := by decide +kernel
theorem dX12_rankOf_37 : decode cX12_rankOf 37 = .ok (.isub, 1) := by decide +kernel
theorem dX12_rankOf_38 : decode cX12_rankOf 38 = .ok (.ireturn, 1) := by decide +kernel
theorem dX12_rows_0 : decode cX12_rows 0 = .ok (.iconst 0, 1) := by decide +kernel
theorem dX12_rows_1 : decode cX12_rows 1 = .ok (.istore_n 2, 1) := by decide +kernel
theorem dX12_rows_2 : decode cX12_rows 2 = .ok (.iload_n 2, 1) := by decide +kernel
theorem dX12_rows_3 : decode cX12_rows 3 = .ok (.aload_n 0, 1) := by decide +kernel
theorem dX12_rows_4 : decode cX12_rows 4 = .ok (.getfield 7, 3) := by decide +kernel
theorem dX12_rows_7 : decode cX12_rows 7 = .ok (.iconst 3, 1) := by decide +kernel
theorem dX12_rows_8 : decode cX12_rows 8 = .ok (.iaload, 1) := by decide +kernel
theorem dX12_rows_9 : decode cX12_rows 9 = .ok (.if_icmp .ge 128, 3) := by decide +kernel
theorem dX12_rows_12 : decode cX12_rows 12 = .ok (.aload_n 0, 1) := by decide +kernel
theorem dX12_rows_13 : decode cX12_rows 13 = .ok (.getfield 37, 3) := by decide +kernel
theorem dX12_rows_16 : decode cX12_rows 16 = .ok (.iload_n 2, 1) := by decide +kernel
theorem dX12_rows_17 : decode cX12_rows 17 = .ok (.aload_n 0, 1) := by decide +kernel
theorem dX12_rows_18 : decode cX12_rows 18 = .ok (.iload_n 2, 1) := by decide +kernel
theorem dX12_rows_19 : decode cX12_rows 19 = .ok (.iload_n 1, 1) := by decide +kernel
theorem dX12_rows_20 : decode cX12_rows 20 = .ok (.invokevirtual 205, 3) := by decide +kernel
theorem dX12_rows_23 : decode cX12_rows 23 = .ok (.iastore, 1) := by decide +kernel
theorem dX12_rows_24 : decode cX12_rows 24 = .ok (.iload_n 2, 1) := by decide +kernel
theorem dX12_rows_25 : decode cX12_rows 25 = .ok (.istore_n 3, 1) := by decide +kernel
theorem dX12_rows_26 : decode cX12_rows 26 = .ok (.iload_n 3, 1) := by decide +kernel
theorem dX12_rows_27 : decode cX12_rows 27 = .ok (.ifCond .le 97, 3) := by decide +kernel
theorem dX12_rows_30 : decode cX12_rows 30 = .ok (.aload_n 0, 1) := by decide +kernel
theorem dX12_rows_31 : decode cX12_rows 31 = .ok (.getfield 37, 3) := by decide +kernel
theorem dX12_rows_34 : decode cX12_rows 34 = .ok (.aload_n 0, 1) := by decide +kernel
theorem dX12_rows_35 : decode cX12_rows 35 = .ok (.getfield 34, 3) := by decide +kernel
theorem dX12_rows_38 : decode cX12_rows 38 = .ok (.iload_n 3, 1) := by decide +kernel
theorem dX12_rows_39 : decode cX12_rows 39 = .ok (.iconst 1, 1) := by decide +kernel
theorem dX12_rows_40 : decode cX12_rows 40 = .ok (.isub, 1) := by decide +kernel
theorem dX12_rows_41 : decode cX12_rows 41 = .ok (.iaload, 1) := by decide +kernel
theorem dX12_rows_42 : decode cX12_rows 42 = .ok (.iaload, 1) := by decide +kernel
theorem dX12_rows_43 : decode cX12_rows 43 = .ok (.aload_n 0, 1) := by decide +kernel
theorem dX12_rows_44 : decode cX12_rows 44 = .ok (.getfield 37, 3) := by decide +kernel
theorem dX12_rows_47 : decode cX12_rows 47 = .ok (.iload_n 2, 1) := by decide +kernel
theorem dX12_rows_48 : decode cX12_rows 48 = .ok (.iaload, 1) := by decide +kernel
theorem dX12_rows_49 : decode cX12_rows 49 = .ok (.if_icmp .gt 55, 3) := by decide +kernel
theorem dX12_rows_52 : decode cX12_rows 52 = .ok (.aload_n 0, 1) := by decide +kernel
theorem dX12_rows_53 : decode cX12_rows 53 = .ok (.getfield 37, 3) := by decide +kernel
theorem dX12_rows_56 : decode cX12_rows 56 = .ok (.aload_n 0, 1) := by decide +kernel
theorem dX12_rows_57 : decode cX12_rows 57 = .ok (.getfield 34, 3) := by decide +kernel
theorem dX12_rows_60 : decode cX12_rows 60 = .ok (.iload_n 3, 1) := by decide +kernel
theorem dX12_rows_61 : decode cX12_rows 61 = .ok (.iconst 1, 1) := by decide +kernel
theorem dX12_rows_62 : decode cX12_rows 62 = .ok (.isub, 1) := by decide +kernel
theorem dX12_rows_63 : decode cX12_rows 63 = .ok (.iaload, 1) := by decide +kernel
theorem dX12_rows_64 : decode cX12_rows 64 = .ok (.iaload, 1) := by decide +kernel
theorem dX12_rows_65 : decode cX12_rows 65 = .ok (.aload_n 0, 1) := by decide +kernel
theorem dX12_rows_66 : decode cX12_rows 66 = .ok (.getfield 37, 3) := by decide +kernel
theorem dX12_rows_69 : decode cX12_rows 69 = .ok (.iload_n 2, 1) := by decide +kernel
theorem dX12_rows_70 : decode cX12_rows 70 = .ok (.iaload, 1) := by decide +kernel
theorem dX12_rows_71 : decode cX12_rows 71 = .ok (.if_icmp .ne 53, 3) := by decide +kernel
theorem dX12_rows_74 : decode cX12_rows 74 = .ok (.aload_n 0, 1) := by decide +kernel
theorem dX12_rows_75 : decode cX12_rows 75 = .ok (.getfield 7, 3) := by decide +kernel
theorem dX12_rows_78 : decode cX12_rows 78 = .ok (.sipush 2032, 3) := by decide +kernel
theorem dX12_rows_81 : decode cX12_rows 81 = .ok (.aload_n 0, 1) := by decide +kernel
theorem dX12_rows_82 : decode cX12_rows 82 = .ok (.getfield 34, 3) := by decide +kernel
theorem dX12_rows_85 : decode cX12_rows 85 = .ok (.iload_n 3, 1) := by decide +kernel
theorem dX12_rows_86 : decode cX12_rows 86 = .ok (.iconst 1, 1) := by decide +kernel
theorem dX12_rows_87 : decode cX12_rows 87 = .ok (.isub, 1) := by decide +kernel
theorem dX12_rows_88 : decode cX12_rows 88 = .ok (.iaload, 1) := by decide +kernel
theorem dX12_rows_89 : decode cX12_rows 89 = .ok (.iadd, 1) := by decide +kernel
theorem dX12_rows_90 : decode cX12_rows 90 = .ok (.iaload, 1) := by decide +kernel
theorem dX12_rows_91 : decode cX12_rows 91 = .ok (.aload_n 0, 1) := by decide +kernel
theorem dX12_rows_92 : decode cX12_rows 92 = .ok (.getfield 7, 3) := by decide +kernel
theorem dX12_rows_95 : decode cX12_rows 95 = .ok (.sipush 2032, 3) := by decide +kernel
theorem dX12_rows_98 : decode cX12_rows 98 = .ok (.iload_n 2, 1) := by decide +kernel
theorem dX12_rows_99 : decode cX12_rows 99 = .ok (.iadd, 1) := by decide +kernel
theorem dX12_rows_100 : decode cX12_rows 100 = .ok (.iaload, 1) := by decide +kernel
theorem dX12_rows_101 : decode cX12_rows 101 = .ok (.if_icmp .le 23, 3) := by decide +kernel
theorem dX12_rows_104 : decode cX12_rows 104 = .ok (.aload_n 0, 1) := by decide +kernel
theorem dX12_rows_105 : decode cX12_rows 105 = .ok (.getfield 34, 3) := by decide +kernel
theorem dX12_rows_108 : decode cX12_rows 108 = .ok (.iload_n 3, 1) := by decide +kernel
theorem dX12_rows_109 : decode cX12_rows 109 = .ok (.aload_n 0, 1) := by decide +kernel
theorem dX12_rows_110 : decode cX12_rows 110 = .ok (.getfield 34, 3) := by decide +kernel
theorem dX12_rows_113 : decode cX12_rows 113 = .ok (.iload_n 3, 1) := by decide +kernel
theorem dX12_rows_114 : decode cX12_rows 114 = .ok (.iconst 1, 1) := by decide +kernel
theorem dX12_rows_115 : decode cX12_rows 115 = .ok (.isub, 1) := by decide +kernel
theorem dX12_rows_116 : decode cX12_rows 116 = .ok (.iaload, 1) := by decide +kernel
theorem dX12_rows_117 : decode cX12_rows 117 = .ok (.iastore, 1) := by decide +kernel
theorem dX12_rows_118 : decode cX12_rows 118 = .ok (.iinc 3 (-1), 3) := by decide +kernel
theorem dX12_rows_121 : decode cX12_rows 121 = .ok (.goto (-95), 3) := by decide +kernel
theorem dX12_rows_124 : decode cX12_rows 124 = .ok (.aload_n 0, 1) := by decide +kernel
theorem dX12_rows_125 : decode cX12_rows 125 = .ok (.getfield 34, 3) := by decide +kernel
theorem dX12_rows_128 : decode cX12_rows 128 = .ok (.iload_n 3, 1) := by decide +kernel
theorem dX12_rows_129 : decode cX12_rows 129 = .ok (.iload_n 2, 1) := by decide +kernel
theorem dX12_rows_130 : decode cX12_rows 130 = .ok (.iastore, 1) := by decide +kernel
theorem dX12_rows_131 : decode cX12_rows 131 = .ok (.iinc 2 1, 3) := by decide +kernel
theorem dX12_rows_134 : decode cX12_rows 134 = .ok (.goto (-132), 3) := by decide +kernel
theorem dX12_rows_137 : decode cX12_rows 137 = .ok (.return_, 1) := by decide +kernel
theorem dX12_of_0 : decode cX12_of 0 = .ok (.aload_n 0, 1) := by decide +kernel
theorem dX12_of_1 : decode cX12_of 1 = .ok (.iload_n 1, 1) := by decide +kernel
theorem dX12_of_2 : decode cX12_of 2 = .ok (.invokevirtual 202, 3) := by decide +kernel
theorem dX12_of_5 : decode cX12_of 5 = .ok (.ifCond .ne 5, 3) := by decide +kernel
theorem dX12_of_8 : decode cX12_of 8 = .ok (.iconst (-1), 1) := by decide +kernel
theorem dX12_of_9 : decode cX12_of 9 = .ok (.ireturn, 1) := by decide +kernel
theorem dX12_of_10 : decode cX12_of 10 = .ok (.iload_n 2, 1) := by decide +kernel
theorem dX12_of_11 : decode cX12_of 11 = .ok (.tableswitch 73 0 2 #[25, 31, 43], 25) := by decide +kernel
theorem dX12_of_36 : decode cX12_of 36 = .ok (.aload_n 0, 1) := by decide +kernel
theorem dX12_of_37 : decode cX12_of 37 = .ok (.iload_n 1, 1) := by decide +kernel
theorem dX12_of_38 : decode cX12_of 38 = .ok (.invokevirtual 208, 3) := by decide +kernel
theorem dX12_of_41 : decode cX12_of 41 = .ok (.ireturn, 1) := by decide +kernel
theorem dX12_of_42 : decode cX12_of 42 = .ok (.aload_n 0, 1) := by decide +kernel
theorem dX12_of_43 : decode cX12_of 43 = .ok (.iload_n 1, 1) := by decide +kernel
theorem dX12_of_44 : decode cX12_of 44 = .ok (.aload_n 0, 1) := by decide +kernel
theorem dX12_of_45 : decode cX12_of 45 = .ok (.getfield 7, 3) := by decide +kernel
theorem dX12_of_48 : decode cX12_of 48 = .ok (.iconst 0, 1) := by decide +kernel
theorem dX12_of_49 : decode cX12_of 49 = .ok (.iaload, 1) := by decide +kernel
theorem dX12_of_50 : decode cX12_of 50 = .ok (.invokevirtual 205, 3) := by decide +kernel
theorem dX12_of_53 : decode cX12_of 53 = .ok (.ireturn, 1) := by decide +kernel
theorem dX12_of_54 : decode cX12_of 54 = .ok (.aload_n 0, 1) := by decide +kernel
theorem dX12_of_55 : decode cX12_of 55 = .ok (.aload_n 0, 1) := by decide +kernel
theorem dX12_of_56 : decode cX12_of 56 = .ok (.getfield 7, 3) := by decide +kernel
theorem dX12_of_59 : decode cX12_of 59 = .ok (.iconst 0, 1) := by decide +kernel
theorem dX12_of_60 : decode cX12_of 60 = .ok (.iaload, 1) := by decide +kernel
theorem dX12_of_61 : decode cX12_of 61 = .ok (.invokevirtual 211, 3) := by decide +kernel
theorem dX12_of_64 : decode cX12_of 64 = .ok (.iconst 0, 1) := by decide +kernel
theorem dX12_of_65 : decode cX12_of 65 = .ok (.istore_n 3, 1) := by decide +kernel
theorem dX12_of_66 : decode cX12_of 66 = .ok (.aload_n 0, 1) := by decide +kernel
theorem dX12_of_67 : decode cX12_of 67 = .ok (.getfield 34, 3) := by decide +kernel
theorem dX12_of_70 : decode cX12_of 70 = .ok (.iload_n 3, 1) := by decide +kernel
theorem dX12_of_71 : decode cX12_of 71 = .ok (.iaload, 1) := by decide +kernel
theorem dX12_of_72 : decode cX12_of 72 = .ok (.iload_n 1, 1) := by decide +kernel
theorem dX12_of_73 : decode cX12_of 73 = .ok (.if_icmp .eq 9, 3) := by decide +kernel
theorem dX12_of_76 : decode cX12_of 76 = .ok (.iinc 3 1, 3) := by decide +kernel
