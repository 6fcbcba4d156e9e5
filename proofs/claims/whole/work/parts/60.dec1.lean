theorem dX0_init_0 : decode cX0_init 0 = .ok (.aload_n 0, 1) := by decide +kernel
theorem dX0_init_1 : decode cX0_init 1 = .ok (.invokespecial 3, 3) := by decide +kernel
theorem dX0_init_4 : decode cX0_init 4 = .ok (.aload_n 0, 1) := by decide +kernel
theorem dX0_init_5 : decode cX0_init 5 = .ok (.getstatic 9, 3) := by decide +kernel
theorem dX0_init_8 : decode cX0_init 8 = .ok (.arraylength, 1) := by decide +kernel
theorem dX0_init_9 : decode cX0_init 9 = .ok (.bipush 30, 2) := by decide +kernel
theorem dX0_init_11 : decode cX0_init 11 = .ok (.imul, 1) := by decide +kernel
theorem dX0_init_12 : decode cX0_init 12 = .ok (.newarray .int, 2) := by decide +kernel
theorem dX0_init_14 : decode cX0_init 14 = .ok (.putfield 13, 3) := by decide +kernel
theorem dX0_init_17 : decode cX0_init 17 = .ok (.aload_n 0, 1) := by decide +kernel
theorem dX0_init_18 : decode cX0_init 18 = .ok (.bipush 12, 2) := by decide +kernel
theorem dX0_init_20 : decode cX0_init 20 = .ok (.newarray .int, 2) := by decide +kernel
theorem dX0_init_22 : decode cX0_init 22 = .ok (.putfield 18, 3) := by decide +kernel
theorem dX0_init_25 : decode cX0_init 25 = .ok (.aload_n 0, 1) := by decide +kernel
theorem dX0_init_26 : decode cX0_init 26 = .ok (.bipush 12, 2) := by decide +kernel
theorem dX0_init_28 : decode cX0_init 28 = .ok (.newarray .int, 2) := by decide +kernel
theorem dX0_init_30 : decode cX0_init 30 = .ok (.putfield 21, 3) := by decide +kernel
theorem dX0_init_33 : decode cX0_init 33 = .ok (.aload_n 0, 1) := by decide +kernel
theorem dX0_init_34 : decode cX0_init 34 = .ok (.bipush 12, 2) := by decide +kernel
theorem dX0_init_36 : decode cX0_init 36 = .ok (.newarray .int, 2) := by decide +kernel
theorem dX0_init_38 : decode cX0_init 38 = .ok (.putfield 24, 3) := by decide +kernel
theorem dX0_init_41 : decode cX0_init 41 = .ok (.aload_n 0, 1) := by decide +kernel
theorem dX0_init_42 : decode cX0_init 42 = .ok (.bipush 12, 2) := by decide +kernel
theorem dX0_init_44 : decode cX0_init 44 = .ok (.newarray .int, 2) := by decide +kernel
theorem dX0_init_46 : decode cX0_init 46 = .ok (.putfield 27, 3) := by decide +kernel
theorem dX0_init_49 : decode cX0_init 49 = .ok (.aload_n 0, 1) := by decide +kernel
theorem dX0_init_50 : decode cX0_init 50 = .ok (.bipush 12, 2) := by decide +kernel
theorem dX0_init_52 : decode cX0_init 52 = .ok (.newarray .int, 2) := by decide +kernel
theorem dX0_init_54 : decode cX0_init 54 = .ok (.putfield 30, 3) := by decide +kernel
theorem dX0_init_57 : decode cX0_init 57 = .ok (.aload_n 0, 1) := by decide +kernel
theorem dX0_init_58 : decode cX0_init 58 = .ok (.bipush 12, 2) := by decide +kernel
theorem dX0_init_60 : decode cX0_init 60 = .ok (.newarray .int, 2) := by decide +kernel
theorem dX0_init_62 : decode cX0_init 62 = .ok (.putfield 33, 3) := by decide +kernel
theorem dX0_init_65 : decode cX0_init 65 = .ok (.aload_n 0, 1) := by decide +kernel
theorem dX0_init_66 : decode cX0_init 66 = .ok (.bipush 48, 2) := by decide +kernel
theorem dX0_init_68 : decode cX0_init 68 = .ok (.newarray .int, 2) := by decide +kernel
theorem dX0_init_70 : decode cX0_init 70 = .ok (.putfield 36, 3) := by decide +kernel
theorem dX0_init_73 : decode cX0_init 73 = .ok (.aload_n 0, 1) := by decide +kernel
theorem dX0_init_74 : decode cX0_init 74 = .ok (.bipush 30, 2) := by decide +kernel
theorem dX0_init_76 : decode cX0_init 76 = .ok (.newarray .int, 2) := by decide +kernel
theorem dX0_init_78 : decode cX0_init 78 = .ok (.putfield 39, 3) := by decide +kernel
theorem dX0_init_81 : decode cX0_init 81 = .ok (.return_, 1) := by decide +kernel
theorem dX0_copyFrom_0 : decode cX0_copyFrom 0 = .ok (.aload_n 1, 1) := by decide +kernel
theorem dX0_copyFrom_1 : decode cX0_copyFrom 1 = .ok (.getfield 13, 3) := by decide +kernel
theorem dX0_copyFrom_4 : decode cX0_copyFrom 4 = .ok (.iconst 0, 1) := by decide +kernel
theorem dX0_copyFrom_5 : decode cX0_copyFrom 5 = .ok (.aload_n 0, 1) := by decide +kernel
theorem dX0_copyFrom_6 : decode cX0_copyFrom 6 = .ok (.getfield 13, 3) := by decide +kernel
theorem dX0_copyFrom_9 : decode cX0_copyFrom 9 = .ok (.iconst 0, 1) := by decide +kernel
theorem dX0_copyFrom_10 : decode cX0_copyFrom 10 = .ok (.aload_n 0, 1) := by decide +kernel
theorem dX0_copyFrom_11 : decode cX0_copyFrom 11 = .ok (.getfield 13, 3) := by decide +kernel
theorem dX0_copyFrom_14 : decode cX0_copyFrom 14 = .ok (.arraylength, 1) := by decide +kernel
theorem dX0_copyFrom_15 : decode cX0_copyFrom 15 = .ok (.invokestatic 42, 3) := by decide +kernel
theorem dX0_copyFrom_18 : decode cX0_copyFrom 18 = .ok (.aload_n 0, 1) := by decide +kernel
theorem dX0_copyFrom_19 : decode cX0_copyFrom 19 = .ok (.aload_n 1, 1) := by decide +kernel
theorem dX0_copyFrom_20 : decode cX0_copyFrom 20 = .ok (.getfield 48, 3) := by decide +kernel
theorem dX0_copyFrom_23 : decode cX0_copyFrom 23 = .ok (.putfield 48, 3) := by decide +kernel
theorem dX0_copyFrom_26 : decode cX0_copyFrom 26 = .ok (.aload_n 0, 1) := by decide +kernel
theorem dX0_copyFrom_27 : decode cX0_copyFrom 27 = .ok (.aload_n 1, 1) := by decide +kernel
theorem dX0_copyFrom_28 : decode cX0_copyFrom 28 = .ok (.getfield 52, 3) := by decide +kernel
theorem dX0_copyFrom_31 : decode cX0_copyFrom 31 = .ok (.putfield 52, 3) := by decide +kernel
theorem dX0_copyFrom_34 : decode cX0_copyFrom 34 = .ok (.aload_n 1, 1) := by decide +kernel
theorem dX0_copyFrom_35 : decode cX0_copyFrom 35 = .ok (.getfield 18, 3) := by decide +kernel
theorem dX0_copyFrom_38 : decode cX0_copyFrom 38 = .ok (.iconst 0, 1) := by decide +kernel
theorem dX0_copyFrom_39 : decode cX0_copyFrom 39 = .ok (.aload_n 0, 1) := by decide +kernel
theorem dX0_copyFrom_40 : decode cX0_copyFrom 40 = .ok (.getfield 18, 3) := by decide +kernel
theorem dX0_copyFrom_43 : decode cX0_copyFrom 43 = .ok (.iconst 0, 1) := by decide +kernel
theorem dX0_copyFrom_44 : decode cX0_copyFrom 44 = .ok (.bipush 12, 2) := by decide +kernel
theorem dX0_copyFrom_46 : decode cX0_copyFrom 46 = .ok (.invokestatic 42, 3) := by decide +kernel
theorem dX0_copyFrom_49 : decode cX0_copyFrom 49 = .ok (.aload_n 1, 1) := by decide +kernel
theorem dX0_copyFrom_50 : decode cX0_copyFrom 50 = .ok (.getfield 21, 3) := by decide +kernel
theorem dX0_copyFrom_53 : decode cX0_copyFrom 53 = .ok (.iconst 0, 1) := by decide +kernel
theorem dX0_copyFrom_54 : decode cX0_copyFrom 54 = .ok (.aload_n 0, 1) := by decide +kernel
theorem dX0_copyFrom_55 : decode cX0_copyFrom 55 = .ok (.getfield 21, 3) := by decide +kernel
theorem dX0_copyFrom_58 : decode cX0_copyFrom 58 = .ok (.iconst 0, 1) := by decide +kernel
theorem dX0_copyFrom_59 : decode cX0_copyFrom 59 = .ok (.bipush 12, 2) := by decide +kernel
theorem dX0_copyFrom_61 : decode cX0_copyFrom 61 = .ok (.invokestatic 42, 3) := by decide +kernel
theorem dX0_copyFrom_64 : decode cX0_copyFrom 64 = .ok (.aload_n 1, 1) := by decide +kernel
theorem dX0_copyFrom_65 : decode cX0_copyFrom 65 = .ok (.getfield 24, 3) := by decide +kernel
theorem dX0_copyFrom_68 : decode cX0_copyFrom 68 = .ok (.iconst 0, 1) := by decide +kernel
theorem dX0_copyFrom_69 : decode cX0_copyFrom 69 = .ok (.aload_n 0, 1) := by decide +kernel
theorem dX0_copyFrom_70 : decode cX0_copyFrom 70 = .ok (.getfield 24, 3) := by decide +kernel
theorem dX0_copyFrom_73 : decode cX0_copyFrom 73 = .ok (.iconst 0, 1) := by decide +kernel
theorem dX0_copyFrom_74 : decode cX0_copyFrom 74 = .ok (.bipush 12, 2) := by decide +kernel
theorem dX0_copyFrom_76 : decode cX0_copyFrom 76 = .ok (.invokestatic 42, 3) := by decide +kernel
theorem dX0_copyFrom_79 : decode cX0_copyFrom 79 = .ok (.aload_n 1, 1) := by decide +kernel
theorem dX0_copyFrom_80 : decode cX0_copyFrom 80 = .ok (.getfield 27, 3) := by decide +kernel
theorem dX0_copyFrom_83 : decode cX0_copyFrom 83 = .ok (.iconst 0, 1) := by decide +kernel
theorem dX0_copyFrom_84 : decode cX0_copyFrom 84 = .ok (.aload_n 0, 1) := by decide +kernel
theorem dX0_copyFrom_85 : decode cX0_copyFrom 85 = .ok (.getfield 27, 3) := by decide +kernel
theorem dX0_copyFrom_88 : decode cX0_copyFrom 88 = .ok (.iconst 0, 1) := by decide +kernel
theorem dX0_copyFrom_89 : decode cX0_copyFrom 89 = .ok (.bipush 12, 2) := by decide +kernel
theorem dX0_copyFrom_91 : decode cX0_copyFrom 91 = .ok (.invokestatic 42, 3) := by decide +kernel
theorem dX0_copyFrom_94 : decode cX0_copyFrom 94 = .ok (.aload_n 1, 1) := by decide +kernel
theorem dX0_copyFrom_95 : decode cX0_copyFrom 95 = .ok (.getfield 30, 3) := by decide +kernel
theorem dX0_copyFrom_98 : decode cX0_copyFrom 98 = .ok (.iconst 0, 1) := by decide +kernel
theorem dX0_copyFrom_99 : decode cX0_copyFrom 99 = .ok (.aload_n 0, 1) := by decide +kernel
theorem dX0_copyFrom_100 : decode cX0_copyFrom 100 = .ok (.getfield 30, 3) := by decide +kernel
theorem dX0_copyFrom_103 : decode cX0_copyFrom 103 = .ok (.iconst 0, 1) := by decide +kernel
theorem dX0_copyFrom_104 : decode cX0_copyFrom 104 = .ok (.bipush 12, 2) := by decide +kernel
theorem dX0_copyFrom_106 : decode cX0_copyFrom 106 = .ok (.invokestatic 42, 3) := by decide +kernel
theorem dX0_copyFrom_109 : decode cX0_copyFrom 109 = .ok (.aload_n 1, 1) := by decide +kernel
theorem dX0_copyFrom_110 : decode cX0_copyFrom 110 = .ok (.getfield 33, 3) := by decide +kernel
theorem dX0_copyFrom_113 : decode cX0_copyFrom 113 = .ok (.iconst 0, 1) := by decide +kernel
theorem dX0_copyFrom_114 : decode cX0_copyFrom 114 = .ok (.aload_n 0, 1) := by decide +kernel
theorem dX0_copyFrom_115 : decode cX0_copyFrom 115 = .ok (.getfield 33, 3) := by decide +kernel
theorem dX0_copyFrom_118 : decode cX0_copyFrom 118 = .ok (.iconst 0, 1) := by decide +kernel
theorem dX0_copyFrom_119 : decode cX0_copyFrom 119 = .ok (.bipush 12, 2) := by decide +kernel
theorem dX0_copyFrom_121 : decode cX0_copyFrom 121 = .ok (.invokestatic 42, 3) := by decide +kernel
theorem dX0_copyFrom_124 : decode cX0_copyFrom 124 = .ok (.return_, 1) := by decide +kernel
theorem dX0_hasTapAt_0 : decode cX0_hasTapAt 0 = .ok (.iconst 0, 1) := by decide +kernel
theorem dX0_hasTapAt_1 : decode cX0_hasTapAt 1 = .ok (.istore_n 2, 1) := by decide +kernel
theorem dX0_hasTapAt_2 : decode cX0_hasTapAt 2 = .ok (.iload_n 2, 1) := by decide +kernel
theorem dX0_hasTapAt_3 : decode cX0_hasTapAt 3 = .ok (.aload_n 0, 1) := by decide +kernel
theorem dX0_hasTapAt_4 : decode cX0_hasTapAt 4 = .ok (.getfield 48, 3) := by decide +kernel
theorem dX0_hasTapAt_7 : decode cX0_hasTapAt 7 = .ok (.if_icmp .ge 21, 3) := by decide +kernel
theorem dX0_hasTapAt_10 : decode cX0_hasTapAt 10 = .ok (.aload_n 0, 1) := by decide +kernel
theorem dX0_hasTapAt_11 : decode cX0_hasTapAt 11 = .ok (.getfield 21, 3) := by decide +kernel
theorem dX0_hasTapAt_14 : decode cX0_hasTapAt 14 = .ok (.iload_n 2, 1) := by decide +kernel
theorem dX0_hasTapAt_15 : decode cX0_hasTapAt 15 = .ok (.iaload, 1) := by decide +kernel
theorem dX0_hasTapAt_16 : decode cX0_hasTapAt 16 = .ok (.iload_n 1, 1) := by decide +kernel
theorem dX0_hasTapAt_17 : decode cX0_hasTapAt 17 = .ok (.if_icmp .ne 5, 3) := by decide +kernel
theorem dX0_hasTapAt_20 : decode cX0_hasTapAt 20 = .ok (.iconst 1, 1) := by decide +kernel
theorem dX0_hasTapAt_21 : decode cX0_hasTapAt 21 = .ok (.ireturn, 1) := by decide +kernel
theorem dX0_hasTapAt_22 : decode cX0_hasTapAt 22 = .ok (.iinc 2 1, 3) := by decide +kernel
theorem dX0_hasTapAt_25 : decode cX0_hasTapAt 25 = .ok (.goto (-23), 3) := by decide +kernel
theorem dX0_hasTapAt_28 : decode cX0_hasTapAt 28 = .ok (.iconst 0, 1) := by decide +kernel
theorem dX0_hasTapAt_29 : decode cX0_hasTapAt 29 = .ok (.ireturn, 1) := by decide +kernel
theorem dX0_addTap_0 : decode cX0_addTap 0 = .ok (.aload_n 0, 1) := by decide +kernel
theorem dX0_addTap_1 : decode cX0_addTap 1 = .ok (.getfield 48, 3) := by decide +kernel
theorem dX0_addTap_4 : decode cX0_addTap 4 = .ok (.bipush 12, 2) := by decide +kernel
theorem dX0_addTap_6 : decode cX0_addTap 6 = .ok (.if_icmp .lt 6, 3) := by decide +kernel
theorem dX0_addTap_9 : decode cX0_addTap 9 = .ok (.bipush (-4), 2) := by decide +kernel
theorem dX0_addTap_11 : decode cX0_addTap 11 = .ok (.ireturn, 1) := by decide +kernel
theorem dX0_addTap_12 : decode cX0_addTap 12 = .ok (.aload_n 0, 1) := by decide +kernel
theorem dX0_addTap_13 : decode cX0_addTap 13 = .ok (.getfield 18, 3) := by decide +kernel
theorem dX0_addTap_16 : decode cX0_addTap 16 = .ok (.aload_n 0, 1) := by decide +kernel
theorem dX0_addTap_17 : decode cX0_addTap 17 = .ok (.getfield 48, 3) := by decide +kernel
theorem dX0_addTap_20 : decode cX0_addTap 20 = .ok (.iload_n 1, 1) := by decide +kernel
theorem dX0_addTap_21 : decode cX0_addTap 21 = .ok (.iastore, 1) := by decide +kernel
theorem dX0_addTap_22 : decode cX0_addTap 22 = .ok (.aload_n 0, 1) := by decide +kernel
theorem dX0_addTap_23 : decode cX0_addTap 23 = .ok (.getfield 21, 3) := by decide +kernel
theorem dX0_addTap_26 : decode cX0_addTap 26 = .ok (.aload_n 0, 1) := by decide +kernel
theorem dX0_addTap_27 : decode cX0_addTap 27 = .ok (.getfield 48, 3) := by decide +kernel
theorem dX0_addTap_30 : decode cX0_addTap 30 = .ok (.iload_n 2, 1) := by decide +kernel
theorem dX0_addTap_31 : decode cX0_addTap 31 = .ok (.iastore, 1) := by decide +kernel
theorem dX0_addTap_32 : decode cX0_addTap 32 = .ok (.aload_n 0, 1) := by decide +kernel
theorem dX0_addTap_33 : decode cX0_addTap 33 = .ok (.getfield 24, 3) := by decide +kernel
theorem dX0_addTap_36 : decode cX0_addTap 36 = .ok (.aload_n 0, 1) := by decide +kernel
theorem dX0_addTap_37 : decode cX0_addTap 37 = .ok (.getfield 48, 3) := by decide +kernel
theorem dX0_addTap_40 : decode cX0_addTap 40 = .ok (.iload_n 3, 1) := by decide +kernel
theorem dX0_addTap_41 : decode cX0_addTap 41 = .ok (.iastore, 1) := by decide +kernel
theorem dX0_addTap_42 : decode cX0_addTap 42 = .ok (.aload_n 0, 1) := by decide +kernel
theorem dX0_addTap_43 : decode cX0_addTap 43 = .ok (.getfield 27, 3) := by decide +kernel
theorem dX0_addTap_46 : decode cX0_addTap 46 = .ok (.aload_n 0, 1) := by decide +kernel
theorem dX0_addTap_47 : decode cX0_addTap 47 = .ok (.getfield 48, 3) := by decide +kernel
theorem dX0_addTap_50 : decode cX0_addTap 50 = .ok (.iload 4, 2) := by decide +kernel
theorem dX0_addTap_52 : decode cX0_addTap 52 = .ok (.iastore, 1) := by decide +kernel
theorem dX0_addTap_53 : decode cX0_addTap 53 = .ok (.aload_n 0, 1) := by decide +kernel
theorem dX0_addTap_54 : decode cX0_addTap 54 = .ok (.getfield 30, 3) := by decide +kernel
theorem dX0_addTap_57 : decode cX0_addTap 57 = .ok (.aload_n 0, 1) := by decide +kernel
theorem dX0_addTap_58 : decode cX0_addTap 58 = .ok (.getfield 48, 3) := by decide +kernel
theorem dX0_addTap_61 : decode cX0_addTap 61 = .ok (.iconst 0, 1) := by decide +kernel
theorem dX0_addTap_62 : decode cX0_addTap 62 = .ok (.iastore, 1) := by decide +kernel
theorem dX0_addTap_63 : decode cX0_addTap 63 = .ok (.aload_n 0, 1) := by decide +kernel
theorem dX0_addTap_64 : decode cX0_addTap 64 = .ok (.getfield 33, 3) := by decide +kernel
theorem dX0_addTap_67 : decode cX0_addTap 67 = .ok (.aload_n 0, 1) := by decide +kernel
theorem dX0_addTap_68 : decode cX0_addTap 68 = .ok (.getfield 48, 3) := by decide +kernel
theorem dX0_addTap_71 : decode cX0_addTap 71 = .ok (.iconst 0, 1) := by decide +kernel
theorem dX0_addTap_72 : decode cX0_addTap 72 = .ok (.iastore, 1) := by decide +kernel
theorem dX0_addTap_73 : decode cX0_addTap 73 = .ok (.aload_n 0, 1) := by decide +kernel
theorem dX0_addTap_74 : decode cX0_addTap 74 = .ok (.dup, 1) := by decide +kernel
theorem dX0_addTap_75 : decode cX0_addTap 75 = .ok (.getfield 48, 3) := by decide +kernel
theorem dX0_addTap_78 : decode cX0_addTap 78 = .ok (.dup_x1, 1) := by decide +kernel
theorem dX0_addTap_79 : decode cX0_addTap 79 = .ok (.iconst 1, 1) := by decide +kernel
theorem dX0_addTap_80 : decode cX0_addTap 80 = .ok (.iadd, 1) := by decide +kernel
theorem dX0_addTap_81 : decode cX0_addTap 81 = .ok (.putfield 48, 3) := by decide +kernel
theorem dX0_addTap_84 : decode cX0_addTap 84 = .ok (.ireturn, 1) := by decide +kernel
theorem dX0_allWater_0 : decode cX0_allWater 0 = .ok (.iconst 0, 1) := by decide +kernel
theorem dX0_allWater_1 : decode cX0_allWater 1 = .ok (.istore_n 1, 1) := by decide +kernel
theorem dX0_allWater_2 : decode cX0_allWater 2 = .ok (.iconst 0, 1) := by decide +kernel
theorem dX0_allWater_3 : decode cX0_allWater 3 = .ok (.istore_n 2, 1) := by decide +kernel
theorem dX0_allWater_4 : decode cX0_allWater 4 = .ok (.iload_n 2, 1) := by decide +kernel
theorem dX0_allWater_5 : decode cX0_allWater 5 = .ok (.bipush 30, 2) := by decide +kernel
theorem dX0_allWater_7 : decode cX0_allWater 7 = .ok (.if_icmp .ge 21, 3) := by decide +kernel
theorem dX0_allWater_10 : decode cX0_allWater 10 = .ok (.iload_n 1, 1) := by decide +kernel
theorem dX0_allWater_11 : decode cX0_allWater 11 = .ok (.aload_n 0, 1) := by decide +kernel
theorem dX0_allWater_12 : decode cX0_allWater 12 = .ok (.getfield 13, 3) := by decide +kernel
theorem dX0_allWater_15 : decode cX0_allWater 15 = .ok (.bipush 30, 2) := by decide +kernel
theorem dX0_allWater_17 : decode cX0_allWater 17 = .ok (.iload_n 2, 1) := by decide +kernel
theorem dX0_allWater_18 : decode cX0_allWater 18 = .ok (.iadd, 1) := by decide +kernel
theorem dX0_allWater_19 : decode cX0_allWater 19 = .ok (.iaload, 1) := by decide +kernel
theorem dX0_allWater_20 : decode cX0_allWater 20 = .ok (.iadd, 1) := by decide +kernel
theorem dX0_allWater_21 : decode cX0_allWater 21 = .ok (.istore_n 1, 1) := by decide +kernel
theorem dX0_allWater_22 : decode cX0_allWater 22 = .ok (.iinc 2 1, 3) := by decide +kernel
theorem dX0_allWater_25 : decode cX0_allWater 25 = .ok (.goto (-21), 3) := by decide +kernel
theorem dX0_allWater_28 : decode cX0_allWater 28 = .ok (.iload_n 1, 1) := by decide +kernel
theorem dX0_allWater_29 : decode cX0_allWater 29 = .ok (.ireturn, 1) := by decide +kernel
theorem dX0_listBores_0 : decode cX0_listBores 0 = .ok (.iconst 0, 1) := by decide +kernel
theorem dX0_listBores_1 : decode cX0_listBores 1 = .ok (.istore_n 2, 1) := by decide +kernel
theorem dX0_listBores_2 : decode cX0_listBores 2 = .ok (.iconst 0, 1) := by decide +kernel
theorem dX0_listBores_3 : decode cX0_listBores 3 = .ok (.istore_n 3, 1) := by decide +kernel
theorem dX0_listBores_4 : decode cX0_listBores 4 = .ok (.iload_n 3, 1) := by decide +kernel
theorem dX0_listBores_5 : decode cX0_listBores 5 = .ok (.aload_n 0, 1) := by decide +kernel
theorem dX0_listBores_6 : decode cX0_listBores 6 = .ok (.getfield 48, 3) := by decide +kernel
theorem dX0_listBores_9 : decode cX0_listBores 9 = .ok (.if_icmp .ge 31, 3) := by decide +kernel
theorem dX0_listBores_12 : decode cX0_listBores 12 = .ok (.iload_n 2, 1) := by decide +kernel
theorem dX0_listBores_13 : decode cX0_listBores 13 = .ok (.aload_n 1, 1) := by decide +kernel
theorem dX0_listBores_14 : decode cX0_listBores 14 = .ok (.arraylength, 1) := by decide +kernel
theorem dX0_listBores_15 : decode cX0_listBores 15 = .ok (.if_icmp .ge 25, 3) := by decide +kernel
theorem dX0_listBores_18 : decode cX0_listBores 18 = .ok (.aload_n 0, 1) := by decide +kernel
theorem dX0_listBores_19 : decode cX0_listBores 19 = .ok (.getfield 18, 3) := by decide +kernel
theorem dX0_listBores_22 : decode cX0_listBores 22 = .ok (.iload_n 3, 1) := by decide +kernel
theorem dX0_listBores_23 : decode cX0_listBores 23 = .ok (.iaload, 1) := by decide +kernel
theorem dX0_listBores_24 : decode cX0_listBores 24 = .ok (.ifCond .eq 10, 3) := by decide +kernel
theorem dX0_listBores_27 : decode cX0_listBores 27 = .ok (.aload_n 1, 1) := by decide +kernel
theorem dX0_listBores_28 : decode cX0_listBores 28 = .ok (.iload_n 2, 1) := by decide +kernel
theorem dX0_listBores_29 : decode cX0_listBores 29 = .ok (.iload_n 3, 1) := by decide +kernel
theorem dX0_listBores_30 : decode cX0_listBores 30 = .ok (.iastore, 1) := by decide +kernel
theorem dX0_listBores_31 : decode cX0_listBores 31 = .ok (.iinc 2 1, 3) := by decide +kernel
theorem dX0_listBores_34 : decode cX0_listBores 34 = .ok (.iinc 3 1, 3) := by decide +kernel
theorem dX0_listBores_37 : decode cX0_listBores 37 = .ok (.goto (-33), 3) := by decide +kernel
theorem dX0_listBores_40 : decode cX0_listBores 40 = .ok (.iload_n 2, 1) := by decide +kernel
theorem dX0_listBores_41 : decode cX0_listBores 41 = .ok (.ireturn, 1) := by decide +kernel
theorem dX0_passDay_0 : decode cX0_passDay 0 = .ok (.iconst 0, 1) := by decide +kernel
theorem dX0_passDay_1 : decode cX0_passDay 1 = .ok (.istore_n 1, 1) := by decide +kernel
theorem dX0_passDay_2 : decode cX0_passDay 2 = .ok (.iload_n 1, 1) := by decide +kernel
theorem dX0_passDay_3 : decode cX0_passDay 3 = .ok (.bipush 30, 2) := by decide +kernel
theorem dX0_passDay_5 : decode cX0_passDay 5 = .ok (.if_icmp .ge 23, 3) := by decide +kernel
theorem dX0_passDay_8 : decode cX0_passDay 8 = .ok (.aload_n 0, 1) := by decide +kernel
theorem dX0_passDay_9 : decode cX0_passDay 9 = .ok (.iconst 0, 1) := by decide +kernel
theorem dX0_passDay_10 : decode cX0_passDay 10 = .ok (.iconst 2, 1) := by decide +kernel
theorem dX0_passDay_11 : decode cX0_passDay 11 = .ok (.iload_n 1, 1) := by decide +kernel
theorem dX0_passDay_12 : decode cX0_passDay 12 = .ok (.invokevirtual 55, 3) := by decide +kernel
theorem dX0_passDay_15 : decode cX0_passDay 15 = .ok (.aload_n 0, 1) := by decide +kernel
theorem dX0_passDay_16 : decode cX0_passDay 16 = .ok (.iconst 1, 1) := by decide +kernel
theorem dX0_passDay_17 : decode cX0_passDay 17 = .ok (.iconst 3, 1) := by decide +kernel
theorem dX0_passDay_18 : decode cX0_passDay 18 = .ok (.iload_n 1, 1) := by decide +kernel
theorem dX0_passDay_19 : decode cX0_passDay 19 = .ok (.invokevirtual 55, 3) := by decide +kernel
theorem dX0_passDay_22 : decode cX0_passDay 22 = .ok (.iinc 1 1, 3) := by decide +kernel
theorem dX0_passDay_25 : decode cX0_passDay 25 = .ok (.goto (-23), 3) := by decide +kernel
theorem dX0_passDay_28 : decode cX0_passDay 28 = .ok (.iconst 0, 1) := by decide +kernel
theorem dX0_passDay_29 : decode cX0_passDay 29 = .ok (.istore_n 1, 1) := by decide +kernel
theorem dX0_passDay_30 : decode cX0_passDay 30 = .ok (.iload_n 1, 1) := by decide +kernel
theorem dX0_passDay_31 : decode cX0_passDay 31 = .ok (.aload_n 0, 1) := by decide +kernel
theorem dX0_passDay_32 : decode cX0_passDay 32 = .ok (.getfield 48, 3) := by decide +kernel
theorem dX0_passDay_35 : decode cX0_passDay 35 = .ok (.if_icmp .ge 14, 3) := by decide +kernel
theorem dX0_passDay_38 : decode cX0_passDay 38 = .ok (.aload_n 0, 1) := by decide +kernel
theorem dX0_passDay_39 : decode cX0_passDay 39 = .ok (.iload_n 1, 1) := by decide +kernel
theorem dX0_passDay_40 : decode cX0_passDay 40 = .ok (.invokevirtual 59, 3) := by decide +kernel
theorem dX0_passDay_43 : decode cX0_passDay 43 = .ok (.iinc 1 1, 3) := by decide +kernel
theorem dX0_passDay_46 : decode cX0_passDay 46 = .ok (.goto (-16), 3) := by decide +kernel
theorem dX0_passDay_49 : decode cX0_passDay 49 = .ok (.aload_n 0, 1) := by decide +kernel
theorem dX0_passDay_50 : decode cX0_passDay 50 = .ok (.iconst 0, 1) := by decide +kernel
theorem dX0_passDay_51 : decode cX0_passDay 51 = .ok (.bipush 8, 2) := by decide +kernel
theorem dX0_passDay_53 : decode cX0_passDay 53 = .ok (.invokevirtual 63, 3) := by decide +kernel
theorem dX0_passDay_56 : decode cX0_passDay 56 = .ok (.aload_n 0, 1) := by decide +kernel
theorem dX0_passDay_57 : decode cX0_passDay 57 = .ok (.iconst 1, 1) := by decide +kernel
theorem dX0_passDay_58 : decode cX0_passDay 58 = .ok (.iconst 4, 1) := by decide +kernel
theorem dX0_passDay_59 : decode cX0_passDay 59 = .ok (.invokevirtual 63, 3) := by decide +kernel
theorem dX0_passDay_62 : decode cX0_passDay 62 = .ok (.return_, 1) := by decide +kernel
theorem dX0_get_0 : decode cX0_get 0 = .ok (.aload_n 0, 1) := by decide +kernel
theorem dX0_get_1 : decode cX0_get 1 = .ok (.getfield 13, 3) := by decide +kernel
theorem dX0_get_4 : decode cX0_get 4 = .ok (.iload_n 1, 1) := by decide +kernel
theorem dX0_get_5 : decode cX0_get 5 = .ok (.bipush 30, 2) := by decide +kernel
theorem dX0_get_7 : decode cX0_get 7 = .ok (.imul, 1) := by decide +kernel
theorem dX0_get_8 : decode cX0_get 8 = .ok (.iload_n 3, 1) := by decide +kernel
theorem dX0_get_9 : decode cX0_get 9 = .ok (.iadd, 1) := by decide +kernel
theorem dX0_get_10 : decode cX0_get 10 = .ok (.iaload, 1) := by decide +kernel
theorem dX0_get_11 : decode cX0_get 11 = .ok (.aload_n 0, 1) := by decide +kernel
theorem dX0_get_12 : decode cX0_get 12 = .ok (.getfield 13, 3) := by decide +kernel
theorem dX0_get_15 : decode cX0_get 15 = .ok (.iload_n 2, 1) := by decide +kernel
theorem dX0_get_16 : decode cX0_get 16 = .ok (.bipush 30, 2) := by decide +kernel
theorem dX0_get_18 : decode cX0_get 18 = .ok (.imul, 1) := by decide +kernel
theorem dX0_get_19 : decode cX0_get 19 = .ok (.iload_n 3, 1) := by decide +kernel
theorem dX0_get_20 : decode cX0_get 20 = .ok (.iadd, 1) := by decide +kernel
theorem dX0_get_21 : decode cX0_get 21 = .ok (.iaload, 1) := by decide +kernel
theorem dX0_get_22 : decode cX0_get 22 = .ok (.iadd, 1) := by decide +kernel
theorem dX0_get_23 : decode cX0_get 23 = .ok (.istore 4, 2) := by decide +kernel
theorem dX0_get_25 : decode cX0_get 25 = .ok (.aload_n 0, 1) := by decide +kernel
theorem dX0_get_26 : decode cX0_get 26 = .ok (.getfield 13, 3) := by decide +kernel
theorem dX0_get_29 : decode cX0_get 29 = .ok (.iload_n 1, 1) := by decide +kernel
theorem dX0_get_30 : decode cX0_get 30 = .ok (.bipush 30, 2) := by decide +kernel
theorem dX0_get_32 : decode cX0_get 32 = .ok (.imul, 1) := by decide +kernel
theorem dX0_get_33 : decode cX0_get 33 = .ok (.iload_n 3, 1) := by decide +kernel
theorem dX0_get_34 : decode cX0_get 34 = .ok (.iadd, 1) := by decide +kernel
theorem dX0_get_35 : decode cX0_get 35 = .ok (.getstatic 9, 3) := by decide +kernel
theorem dX0_get_38 : decode cX0_get 38 = .ok (.iload_n 1, 1) := by decide +kernel
theorem dX0_get_39 : decode cX0_get 39 = .ok (.iaload, 1) := by decide +kernel
theorem dX0_get_40 : decode cX0_get 40 = .ok (.iload 4, 2) := by decide +kernel
theorem dX0_get_42 : decode cX0_get 42 = .ok (.invokestatic 67, 3) := by decide +kernel
theorem dX0_get_45 : decode cX0_get 45 = .ok (.iastore, 1) := by decide +kernel
theorem dX0_get_46 : decode cX0_get 46 = .ok (.return_, 1) := by decide +kernel
theorem dX0_give_0 : decode cX0_give 0 = .ok (.aload_n 0, 1) := by decide +kernel
theorem dX0_give_1 : decode cX0_give 1 = .ok (.getfield 21, 3) := by decide +kernel
theorem dX0_give_4 : decode cX0_give 4 = .ok (.iload_n 1, 1) := by decide +kernel
theorem dX0_give_5 : decode cX0_give 5 = .ok (.iaload, 1) := by decide +kernel
theorem dX0_give_6 : decode cX0_give 6 = .ok (.istore_n 2, 1) := by decide +kernel
theorem dX0_give_7 : decode cX0_give 7 = .ok (.aload_n 0, 1) := by decide +kernel
theorem dX0_give_8 : decode cX0_give 8 = .ok (.iload_n 1, 1) := by decide +kernel
theorem dX0_give_9 : decode cX0_give 9 = .ok (.invokevirtual 73, 3) := by decide +kernel
theorem dX0_give_12 : decode cX0_give 12 = .ok (.ifCond .eq 7, 3) := by decide +kernel
theorem dX0_give_15 : decode cX0_give 15 = .ok (.iconst 0, 1) := by decide +kernel
theorem dX0_give_16 : decode cX0_give 16 = .ok (.goto 20, 3) := by decide +kernel
theorem dX0_give_19 : decode cX0_give 19 = .ok (.aload_n 0, 1) := by decide +kernel
theorem dX0_give_20 : decode cX0_give 20 = .ok (.iload_n 1, 1) := by decide +kernel
theorem dX0_give_21 : decode cX0_give 21 = .ok (.invokevirtual 77, 3) := by decide +kernel
theorem dX0_give_24 : decode cX0_give 24 = .ok (.aload_n 0, 1) := by decide +kernel
theorem dX0_give_25 : decode cX0_give 25 = .ok (.getfield 13, 3) := by decide +kernel
theorem dX0_give_28 : decode cX0_give 28 = .ok (.bipush 30, 2) := by decide +kernel
theorem dX0_give_30 : decode cX0_give 30 = .ok (.iload_n 2, 1) := by decide +kernel
theorem dX0_give_31 : decode cX0_give 31 = .ok (.iadd, 1) := by decide +kernel
theorem dX0_give_32 : decode cX0_give 32 = .ok (.iaload, 1) := by decide +kernel
theorem dX0_give_33 : decode cX0_give 33 = .ok (.invokestatic 67, 3) := by decide +kernel
theorem dX0_give_36 : decode cX0_give 36 = .ok (.istore_n 3, 1) := by decide +kernel
theorem dX0_give_37 : decode cX0_give 37 = .ok (.aload_n 0, 1) := by decide +kernel
theorem dX0_give_38 : decode cX0_give 38 = .ok (.getfield 13, 3) := by decide +kernel
theorem dX0_give_41 : decode cX0_give 41 = .ok (.iconst 0, 1) := by decide +kernel
theorem dX0_give_42 : decode cX0_give 42 = .ok (.iload_n 2, 1) := by decide +kernel
theorem dX0_give_43 : decode cX0_give 43 = .ok (.iadd, 1) := by decide +kernel
theorem dX0_give_44 : decode cX0_give 44 = .ok (.iaload, 1) := by decide +kernel
theorem dX0_give_45 : decode cX0_give 45 = .ok (.aload_n 0, 1) := by decide +kernel
theorem dX0_give_46 : decode cX0_give 46 = .ok (.getfield 18, 3) := by decide +kernel
theorem dX0_give_49 : decode cX0_give 49 = .ok (.iload_n 1, 1) := by decide +kernel
theorem dX0_give_50 : decode cX0_give 50 = .ok (.iaload, 1) := by decide +kernel
theorem dX0_give_51 : decode cX0_give 51 = .ok (.iconst 2, 1) := by decide +kernel
theorem dX0_give_52 : decode cX0_give 52 = .ok (.if_icmp .ne 8, 3) := by decide +kernel
theorem dX0_give_55 : decode cX0_give 55 = .ok (.bipush 50, 2) := by decide +kernel
theorem dX0_give_57 : decode cX0_give 57 = .ok (.goto 4, 3) := by decide +kernel
theorem dX0_give_60 : decode cX0_give 60 = .ok (.iconst 0, 1) := by decide +kernel
theorem dX0_give_61 : decode cX0_give 61 = .ok (.iadd, 1) := by decide +kernel
theorem dX0_give_62 : decode cX0_give 62 = .ok (.istore 4, 2) := by decide +kernel
theorem dX0_give_64 : decode cX0_give 64 = .ok (.aload_n 0, 1) := by decide +kernel
theorem dX0_give_65 : decode cX0_give 65 = .ok (.getfield 13, 3) := by decide +kernel
theorem dX0_give_68 : decode cX0_give 68 = .ok (.bipush 30, 2) := by decide +kernel
theorem dX0_give_70 : decode cX0_give 70 = .ok (.iload_n 2, 1) := by decide +kernel
theorem dX0_give_71 : decode cX0_give 71 = .ok (.iadd, 1) := by decide +kernel
theorem dX0_give_72 : decode cX0_give 72 = .ok (.dup2, 1) := by decide +kernel
theorem dX0_give_73 : decode cX0_give 73 = .ok (.iaload, 1) := by decide +kernel
theorem dX0_give_74 : decode cX0_give 74 = .ok (.iload_n 3, 1) := by decide +kernel
theorem dX0_give_75 : decode cX0_give 75 = .ok (.isub, 1) := by decide +kernel
theorem dX0_give_76 : decode cX0_give 76 = .ok (.iastore, 1) := by decide +kernel
theorem dX0_give_77 : decode cX0_give 77 = .ok (.bipush 10, 2) := by decide +kernel
theorem dX0_give_79 : decode cX0_give 79 = .ok (.aload_n 0, 1) := by decide +kernel
theorem dX0_give_80 : decode cX0_give 80 = .ok (.getfield 30, 3) := by decide +kernel
theorem dX0_give_83 : decode cX0_give 83 = .ok (.iload_n 1, 1) := by decide +kernel
theorem dX0_give_84 : decode cX0_give 84 = .ok (.iaload, 1) := by decide +kernel
theorem dX0_give_85 : decode cX0_give 85 = .ok (.imul, 1) := by decide +kernel
theorem dX0_give_86 : decode cX0_give 86 = .ok (.iload_n 3, 1) := by decide +kernel
theorem dX0_give_87 : decode cX0_give 87 = .ok (.bipush 10, 2) := by decide +kernel
theorem dX0_give_89 : decode cX0_give 89 = .ok (.iadd, 1) := by decide +kernel
theorem dX0_give_90 : decode cX0_give 90 = .ok (.idiv, 1) := by decide +kernel
theorem dX0_give_91 : decode cX0_give 91 = .ok (.istore 5, 2) := by decide +kernel
theorem dX0_give_93 : decode cX0_give 93 = .ok (.aload_n 0, 1) := by decide +kernel
theorem dX0_give_94 : decode cX0_give 94 = .ok (.getfield 36, 3) := by decide +kernel
theorem dX0_give_97 : decode cX0_give 97 = .ok (.iload_n 1, 1) := by decide +kernel
theorem dX0_give_98 : decode cX0_give 98 = .ok (.iconst 4, 1) := by decide +kernel
theorem dX0_give_99 : decode cX0_give 99 = .ok (.imul, 1) := by decide +kernel
theorem dX0_give_100 : decode cX0_give 100 = .ok (.iconst 0, 1) := by decide +kernel
theorem dX0_give_101 : decode cX0_give 101 = .ok (.iadd, 1) := by decide +kernel
theorem dX0_give_102 : decode cX0_give 102 = .ok (.iload_n 3, 1) := by decide +kernel
theorem dX0_give_103 : decode cX0_give 103 = .ok (.iastore, 1) := by decide +kernel
theorem dX0_give_104 : decode cX0_give 104 = .ok (.aload_n 0, 1) := by decide +kernel
theorem dX0_give_105 : decode cX0_give 105 = .ok (.getfield 36, 3) := by decide +kernel
theorem dX0_give_108 : decode cX0_give 108 = .ok (.iload_n 1, 1) := by decide +kernel
theorem dX0_give_109 : decode cX0_give 109 = .ok (.iconst 4, 1) := by decide +kernel
theorem dX0_give_110 : decode cX0_give 110 = .ok (.imul, 1) := by decide +kernel
theorem dX0_give_111 : decode cX0_give 111 = .ok (.iconst 1, 1) := by decide +kernel
theorem dX0_give_112 : decode cX0_give 112 = .ok (.iadd, 1) := by decide +kernel
theorem dX0_give_113 : decode cX0_give 113 = .ok (.iload 4, 2) := by decide +kernel
theorem dX0_give_115 : decode cX0_give 115 = .ok (.iastore, 1) := by decide +kernel
theorem dX0_give_116 : decode cX0_give 116 = .ok (.aload_n 0, 1) := by decide +kernel
theorem dX0_give_117 : decode cX0_give 117 = .ok (.getfield 36, 3) := by decide +kernel
theorem dX0_give_120 : decode cX0_give 120 = .ok (.iload_n 1, 1) := by decide +kernel
theorem dX0_give_121 : decode cX0_give 121 = .ok (.iconst 4, 1) := by decide +kernel
theorem dX0_give_122 : decode cX0_give 122 = .ok (.imul, 1) := by decide +kernel
theorem dX0_give_123 : decode cX0_give 123 = .ok (.iconst 2, 1) := by decide +kernel
theorem dX0_give_124 : decode cX0_give 124 = .ok (.iadd, 1) := by decide +kernel
theorem dX0_give_125 : decode cX0_give 125 = .ok (.iconst 0, 1) := by decide +kernel
theorem dX0_give_126 : decode cX0_give 126 = .ok (.iload_n 3, 1) := by decide +kernel
theorem dX0_give_127 : decode cX0_give 127 = .ok (.aload_n 0, 1) := by decide +kernel
theorem dX0_give_128 : decode cX0_give 128 = .ok (.getfield 33, 3) := by decide +kernel
theorem dX0_give_131 : decode cX0_give 131 = .ok (.iload_n 1, 1) := by decide +kernel
theorem dX0_give_132 : decode cX0_give 132 = .ok (.iaload, 1) := by decide +kernel
theorem dX0_give_133 : decode cX0_give 133 = .ok (.bipush 10, 2) := by decide +kernel
theorem dX0_give_135 : decode cX0_give 135 = .ok (.idiv, 1) := by decide +kernel
theorem dX0_give_136 : decode cX0_give 136 = .ok (.isub, 1) := by decide +kernel
theorem dX0_give_137 : decode cX0_give 137 = .ok (.invokestatic 81, 3) := by decide +kernel
theorem dX0_give_140 : decode cX0_give 140 = .ok (.iastore, 1) := by decide +kernel
theorem dX0_give_141 : decode cX0_give 141 = .ok (.aload_n 0, 1) := by decide +kernel
theorem dX0_give_142 : decode cX0_give 142 = .ok (.getfield 36, 3) := by decide +kernel
theorem dX0_give_145 : decode cX0_give 145 = .ok (.iload_n 1, 1) := by decide +kernel
theorem dX0_give_146 : decode cX0_give 146 = .ok (.iconst 4, 1) := by decide +kernel
theorem dX0_give_147 : decode cX0_give 147 = .ok (.imul, 1) := by decide +kernel
theorem dX0_give_148 : decode cX0_give 148 = .ok (.iconst 3, 1) := by decide +kernel
theorem dX0_give_149 : decode cX0_give 149 = .ok (.iadd, 1) := by decide +kernel
theorem dX0_give_150 : decode cX0_give 150 = .ok (.iconst 0, 1) := by decide +kernel
theorem dX0_give_151 : decode cX0_give 151 = .ok (.iload 4, 2) := by decide +kernel
theorem dX0_give_153 : decode cX0_give 153 = .ok (.iload 5, 2) := by decide +kernel
theorem dX0_give_155 : decode cX0_give 155 = .ok (.isub, 1) := by decide +kernel
theorem dX0_give_156 : decode cX0_give 156 = .ok (.invokestatic 81, 3) := by decide +kernel
theorem dX0_give_159 : decode cX0_give 159 = .ok (.iastore, 1) := by decide +kernel
theorem dX0_give_160 : decode cX0_give 160 = .ok (.iload_n 3, 1) := by decide +kernel
theorem dX0_give_161 : decode cX0_give 161 = .ok (.ifCond .le 33, 3) := by decide +kernel
theorem dX0_give_164 : decode cX0_give 164 = .ok (.iload 4, 2) := by decide +kernel
theorem dX0_give_166 : decode cX0_give 166 = .ok (.sipush 500, 3) := by decide +kernel
theorem dX0_give_169 : decode cX0_give 169 = .ok (.if_icmp .lt 25, 3) := by decide +kernel
theorem dX0_give_172 : decode cX0_give 172 = .ok (.aload_n 0, 1) := by decide +kernel
theorem dX0_give_173 : decode cX0_give 173 = .ok (.getfield 33, 3) := by decide +kernel
theorem dX0_give_176 : decode cX0_give 176 = .ok (.iload_n 1, 1) := by decide +kernel
theorem dX0_give_177 : decode cX0_give 177 = .ok (.dup2, 1) := by decide +kernel
theorem dX0_give_178 : decode cX0_give 178 = .ok (.iaload, 1) := by decide +kernel
theorem dX0_give_179 : decode cX0_give 179 = .ok (.iload 4, 2) := by decide +kernel
theorem dX0_give_181 : decode cX0_give 181 = .ok (.sipush 800, 3) := by decide +kernel
theorem dX0_give_184 : decode cX0_give 184 = .ok (.if_icmp .lt 7, 3) := by decide +kernel
theorem dX0_give_187 : decode cX0_give 187 = .ok (.iconst 2, 1) := by decide +kernel
theorem dX0_give_188 : decode cX0_give 188 = .ok (.goto 4, 3) := by decide +kernel
theorem dX0_give_191 : decode cX0_give 191 = .ok (.iconst 1, 1) := by decide +kernel
theorem dX0_give_192 : decode cX0_give 192 = .ok (.iadd, 1) := by decide +kernel
theorem dX0_give_193 : decode cX0_give 193 = .ok (.iastore, 1) := by decide +kernel
theorem dX0_give_194 : decode cX0_give 194 = .ok (.return_, 1) := by decide +kernel
theorem dX0_isShut_0 : decode cX0_isShut 0 = .ok (.aload_n 0, 1) := by decide +kernel
theorem dX0_isShut_1 : decode cX0_isShut 1 = .ok (.getfield 52, 3) := by decide +kernel
theorem dX0_isShut_4 : decode cX0_isShut 4 = .ok (.iload_n 1, 1) := by decide +kernel
theorem dX0_isShut_5 : decode cX0_isShut 5 = .ok (.ishr, 1) := by decide +kernel
theorem dX0_isShut_6 : decode cX0_isShut 6 = .ok (.iconst 1, 1) := by decide +kernel
theorem dX0_isShut_7 : decode cX0_isShut 7 = .ok (.iand, 1) := by decide +kernel
theorem dX0_isShut_8 : decode cX0_isShut 8 = .ok (.ifCond .eq 7, 3) := by decide +kernel
theorem dX0_isShut_11 : decode cX0_isShut 11 = .ok (.iconst 1, 1) := by decide +kernel
theorem dX0_isShut_12 : decode cX0_isShut 12 = .ok (.goto 4, 3) := by decide +kernel
theorem dX0_isShut_15 : decode cX0_isShut 15 = .ok (.iconst 0, 1) := by decide +kernel
theorem dX0_isShut_16 : decode cX0_isShut 16 = .ok (.ireturn, 1) := by decide +kernel
theorem dX0_drawn_0 : decode cX0_drawn 0 = .ok (.aload_n 0, 1) := by decide +kernel
theorem dX0_drawn_1 : decode cX0_drawn 1 = .ok (.getfield 18, 3) := by decide +kernel
theorem dX0_drawn_4 : decode cX0_drawn 4 = .ok (.iload_n 1, 1) := by decide +kernel
theorem dX0_drawn_5 : decode cX0_drawn 5 = .ok (.iaload, 1) := by decide +kernel
theorem dX0_drawn_6 : decode cX0_drawn 6 = .ok (.lookupswitch 51 #[(0, 26), (1, 44)], 26) := by decide +kernel
theorem dX0_drawn_32 : decode cX0_drawn 32 = .ok (.aload_n 0, 1) := by decide +kernel
theorem dX0_drawn_33 : decode cX0_drawn 33 = .ok (.getfield 13, 3) := by decide +kernel
theorem dX0_drawn_36 : decode cX0_drawn 36 = .ok (.bipush 30, 2) := by decide +kernel
theorem dX0_drawn_38 : decode cX0_drawn 38 = .ok (.aload_n 0, 1) := by decide +kernel
theorem dX0_drawn_39 : decode cX0_drawn 39 = .ok (.getfield 21, 3) := by decide +kernel
theorem dX0_drawn_42 : decode cX0_drawn 42 = .ok (.iload_n 1, 1) := by decide +kernel
theorem dX0_drawn_43 : decode cX0_drawn 43 = .ok (.iaload, 1) := by decide +kernel
theorem dX0_drawn_44 : decode cX0_drawn 44 = .ok (.iadd, 1) := by decide +kernel
theorem dX0_drawn_45 : decode cX0_drawn 45 = .ok (.iaload, 1) := by decide +kernel
theorem dX0_drawn_46 : decode cX0_drawn 46 = .ok (.bipush 10, 2) := by decide +kernel
theorem dX0_drawn_48 : decode cX0_drawn 48 = .ok (.idiv, 1) := by decide +kernel
theorem dX0_drawn_49 : decode cX0_drawn 49 = .ok (.ireturn, 1) := by decide +kernel
theorem dX0_drawn_50 : decode cX0_drawn 50 = .ok (.aload_n 0, 1) := by decide +kernel
theorem dX0_drawn_51 : decode cX0_drawn 51 = .ok (.getfield 24, 3) := by decide +kernel
theorem dX0_drawn_54 : decode cX0_drawn 54 = .ok (.iload_n 1, 1) := by decide +kernel
theorem dX0_drawn_55 : decode cX0_drawn 55 = .ok (.iaload, 1) := by decide +kernel
theorem dX0_drawn_56 : decode cX0_drawn 56 = .ok (.ireturn, 1) := by decide +kernel
theorem dX0_drawn_57 : decode cX0_drawn 57 = .ok (.aload_n 0, 1) := by decide +kernel
theorem dX0_drawn_58 : decode cX0_drawn 58 = .ok (.getfield 24, 3) := by decide +kernel
theorem dX0_drawn_61 : decode cX0_drawn 61 = .ok (.iload_n 1, 1) := by decide +kernel
theorem dX0_drawn_62 : decode cX0_drawn 62 = .ok (.iaload, 1) := by decide +kernel
theorem dX0_drawn_63 : decode cX0_drawn 63 = .ok (.aload_n 0, 1) := by decide +kernel
theorem dX0_drawn_64 : decode cX0_drawn 64 = .ok (.getfield 24, 3) := by decide +kernel
theorem dX0_drawn_67 : decode cX0_drawn 67 = .ok (.iload_n 1, 1) := by decide +kernel
theorem dX0_drawn_68 : decode cX0_drawn 68 = .ok (.iaload, 1) := by decide +kernel
theorem dX0_drawn_69 : decode cX0_drawn 69 = .ok (.iconst 2, 1) := by decide +kernel
theorem dX0_drawn_70 : decode cX0_drawn 70 = .ok (.idiv, 1) := by decide +kernel
theorem dX0_drawn_71 : decode cX0_drawn 71 = .ok (.iadd, 1) := by decide +kernel
theorem dX0_drawn_72 : decode cX0_drawn 72 = .ok (.ireturn, 1) := by decide +kernel
theorem dX0_even_0 : decode cX0_even 0 = .ok (.iload_n 1, 1) := by decide +kernel
theorem dX0_even_1 : decode cX0_even 1 = .ok (.bipush 30, 2) := by decide +kernel
theorem dX0_even_3 : decode cX0_even 3 = .ok (.imul, 1) := by decide +kernel
theorem dX0_even_4 : decode cX0_even 4 = .ok (.istore_n 3, 1) := by decide +kernel
theorem dX0_even_5 : decode cX0_even 5 = .ok (.iconst 0, 1) := by decide +kernel
theorem dX0_even_6 : decode cX0_even 6 = .ok (.istore 4, 2) := by decide +kernel
theorem dX0_even_8 : decode cX0_even 8 = .ok (.iload 4, 2) := by decide +kernel
theorem dX0_even_10 : decode cX0_even 10 = .ok (.bipush 30, 2) := by decide +kernel
theorem dX0_even_12 : decode cX0_even 12 = .ok (.if_icmp .ge 17, 3) := by decide +kernel
theorem dX0_even_15 : decode cX0_even 15 = .ok (.aload_n 0, 1) := by decide +kernel
theorem dX0_even_16 : decode cX0_even 16 = .ok (.getfield 39, 3) := by decide +kernel
theorem dX0_even_19 : decode cX0_even 19 = .ok (.iload 4, 2) := by decide +kernel
theorem dX0_even_21 : decode cX0_even 21 = .ok (.iconst 0, 1) := by decide +kernel
theorem dX0_even_22 : decode cX0_even 22 = .ok (.iastore, 1) := by decide +kernel
theorem dX0_even_23 : decode cX0_even 23 = .ok (.iinc 4 1, 3) := by decide +kernel
theorem dX0_even_26 : decode cX0_even 26 = .ok (.goto (-18), 3) := by decide +kernel
theorem dX0_even_29 : decode cX0_even 29 = .ok (.iconst 0, 1) := by decide +kernel
theorem dX0_even_30 : decode cX0_even 30 = .ok (.istore 4, 2) := by decide +kernel
theorem dX0_even_32 : decode cX0_even 32 = .ok (.iload 4, 2) := by decide +kernel
theorem dX0_even_34 : decode cX0_even 34 = .ok (.bipush 30, 2) := by decide +kernel
theorem dX0_even_36 : decode cX0_even 36 = .ok (.if_icmp .ge 96, 3) := by decide +kernel
theorem dX0_even_39 : decode cX0_even 39 = .ok (.iload 4, 2) := by decide +kernel
theorem dX0_even_41 : decode cX0_even 41 = .ok (.bipush 6, 2) := by decide +kernel
theorem dX0_even_43 : decode cX0_even 43 = .ok (.irem, 1) := by decide +kernel
theorem dX0_even_44 : decode cX0_even 44 = .ok (.iconst 5, 1) := by decide +kernel
theorem dX0_even_45 : decode cX0_even 45 = .ok (.if_icmp .ge 36, 3) := by decide +kernel
theorem dX0_even_48 : decode cX0_even 48 = .ok (.aload_n 0, 1) := by decide +kernel
theorem dX0_even_49 : decode cX0_even 49 = .ok (.iload 4, 2) := by decide +kernel
theorem dX0_even_51 : decode cX0_even 51 = .ok (.iload 4, 2) := by decide +kernel
theorem dX0_even_53 : decode cX0_even 53 = .ok (.iconst 1, 1) := by decide +kernel
theorem dX0_even_54 : decode cX0_even 54 = .ok (.iadd, 1) := by decide +kernel
theorem dX0_even_55 : decode cX0_even 55 = .ok (.aload_n 0, 1) := by decide +kernel
theorem dX0_even_56 : decode cX0_even 56 = .ok (.getfield 13, 3) := by decide +kernel
theorem dX0_even_59 : decode cX0_even 59 = .ok (.iload_n 3, 1) := by decide +kernel
theorem dX0_even_60 : decode cX0_even 60 = .ok (.iload 4, 2) := by decide +kernel
theorem dX0_even_62 : decode cX0_even 62 = .ok (.iadd, 1) := by decide +kernel
theorem dX0_even_63 : decode cX0_even 63 = .ok (.iaload, 1) := by decide +kernel
theorem dX0_even_64 : decode cX0_even 64 = .ok (.aload_n 0, 1) := by decide +kernel
theorem dX0_even_65 : decode cX0_even 65 = .ok (.getfield 13, 3) := by decide +kernel
theorem dX0_even_68 : decode cX0_even 68 = .ok (.iload_n 3, 1) := by decide +kernel
theorem dX0_even_69 : decode cX0_even 69 = .ok (.iload 4, 2) := by decide +kernel
theorem dX0_even_71 : decode cX0_even 71 = .ok (.iadd, 1) := by decide +kernel
theorem dX0_even_72 : decode cX0_even 72 = .ok (.iconst 1, 1) := by decide +kernel
theorem dX0_even_73 : decode cX0_even 73 = .ok (.iadd, 1) := by decide +kernel
theorem dX0_even_74 : decode cX0_even 74 = .ok (.iaload, 1) := by decide +kernel
theorem dX0_even_75 : decode cX0_even 75 = .ok (.isub, 1) := by decide +kernel
theorem dX0_even_76 : decode cX0_even 76 = .ok (.iload_n 2, 1) := by decide +kernel
theorem dX0_even_77 : decode cX0_even 77 = .ok (.idiv, 1) := by decide +kernel
theorem dX0_even_78 : decode cX0_even 78 = .ok (.invokevirtual 84, 3) := by decide +kernel
theorem dX0_even_81 : decode cX0_even 81 = .ok (.iload 4, 2) := by decide +kernel
theorem dX0_even_83 : decode cX0_even 83 = .ok (.bipush 6, 2) := by decide +kernel
theorem dX0_even_85 : decode cX0_even 85 = .ok (.iadd, 1) := by decide +kernel
theorem dX0_even_86 : decode cX0_even 86 = .ok (.bipush 30, 2) := by decide +kernel
theorem dX0_even_88 : decode cX0_even 88 = .ok (.if_icmp .ge 38, 3) := by decide +kernel
theorem dX0_even_91 : decode cX0_even 91 = .ok (.aload_n 0, 1) := by decide +kernel
theorem dX0_even_92 : decode cX0_even 92 = .ok (.iload 4, 2) := by decide +kernel
theorem dX0_even_94 : decode cX0_even 94 = .ok (.iload 4, 2) := by decide +kernel
theorem dX0_even_96 : decode cX0_even 96 = .ok (.bipush 6, 2) := by decide +kernel
theorem dX0_even_98 : decode cX0_even 98 = .ok (.iadd, 1) := by decide +kernel
theorem dX0_even_99 : decode cX0_even 99 = .ok (.aload_n 0, 1) := by decide +kernel
theorem dX0_even_100 : decode cX0_even 100 = .ok (.getfield 13, 3) := by decide +kernel
theorem dX0_even_103 : decode cX0_even 103 = .ok (.iload_n 3, 1) := by decide +kernel
theorem dX0_even_104 : decode cX0_even 104 = .ok (.iload 4, 2) := by decide +kernel
theorem dX0_even_106 : decode cX0_even 106 = .ok (.iadd, 1) := by decide +kernel
theorem dX0_even_107 : decode cX0_even 107 = .ok (.iaload, 1) := by decide +kernel
theorem dX0_even_108 : decode cX0_even 108 = .ok (.aload_n 0, 1) := by decide +kernel
theorem dX0_even_109 : decode cX0_even 109 = .ok (.getfield 13, 3) := by decide +kernel
theorem dX0_even_112 : decode cX0_even 112 = .ok (.iload_n 3, 1) := by decide +kernel
theorem dX0_even_113 : decode cX0_even 113 = .ok (.iload 4, 2) := by decide +kernel
theorem dX0_even_115 : decode cX0_even 115 = .ok (.iadd, 1) := by decide +kernel
theorem dX0_even_116 : decode cX0_even 116 = .ok (.bipush 6, 2) := by decide +kernel
theorem dX0_even_118 : decode cX0_even 118 = .ok (.iadd, 1) := by decide +kernel
theorem dX0_even_119 : decode cX0_even 119 = .ok (.iaload, 1) := by decide +kernel
theorem dX0_even_120 : decode cX0_even 120 = .ok (.isub, 1) := by decide +kernel
theorem dX0_even_121 : decode cX0_even 121 = .ok (.iload_n 2, 1) := by decide +kernel
theorem dX0_even_122 : decode cX0_even 122 = .ok (.idiv, 1) := by decide +kernel
theorem dX0_even_123 : decode cX0_even 123 = .ok (.invokevirtual 84, 3) := by decide +kernel
theorem dX0_even_126 : decode cX0_even 126 = .ok (.iinc 4 1, 3) := by decide +kernel
theorem dX0_even_129 : decode cX0_even 129 = .ok (.goto (-97), 3) := by decide +kernel
theorem dX0_even_132 : decode cX0_even 132 = .ok (.iconst 0, 1) := by decide +kernel
theorem dX0_even_133 : decode cX0_even 133 = .ok (.istore 4, 2) := by decide +kernel
theorem dX0_even_135 : decode cX0_even 135 = .ok (.iload 4, 2) := by decide +kernel
theorem dX0_even_137 : decode cX0_even 137 = .ok (.bipush 30, 2) := by decide +kernel
theorem dX0_even_139 : decode cX0_even 139 = .ok (.if_icmp .ge 28, 3) := by decide +kernel
theorem dX0_even_142 : decode cX0_even 142 = .ok (.aload_n 0, 1) := by decide +kernel
theorem dX0_even_143 : decode cX0_even 143 = .ok (.getfield 13, 3) := by decide +kernel
theorem dX0_even_146 : decode cX0_even 146 = .ok (.iload_n 3, 1) := by decide +kernel
theorem dX0_even_147 : decode cX0_even 147 = .ok (.iload 4, 2) := by decide +kernel
theorem dX0_even_149 : decode cX0_even 149 = .ok (.iadd, 1) := by decide +kernel
theorem dX0_even_150 : decode cX0_even 150 = .ok (.dup2, 1) := by decide +kernel
theorem dX0_even_151 : decode cX0_even 151 = .ok (.iaload, 1) := by decide +kernel
theorem dX0_even_152 : decode cX0_even 152 = .ok (.aload_n 0, 1) := by decide +kernel
theorem dX0_even_153 : decode cX0_even 153 = .ok (.getfield 39, 3) := by decide +kernel
theorem dX0_even_156 : decode cX0_even 156 = .ok (.iload 4, 2) := by decide +kernel
theorem dX0_even_158 : decode cX0_even 158 = .ok (.iaload, 1) := by decide +kernel
theorem dX0_even_159 : decode cX0_even 159 = .ok (.iadd, 1) := by decide +kernel
theorem dX0_even_160 : decode cX0_even 160 = .ok (.iastore, 1) := by decide +kernel
theorem dX0_even_161 : decode cX0_even 161 = .ok (.iinc 4 1, 3) := by decide +kernel
theorem dX0_even_164 : decode cX0_even 164 = .ok (.goto (-29), 3) := by decide +kernel
theorem dX0_even_167 : decode cX0_even 167 = .ok (.return_, 1) := by decide +kernel
theorem dX0_move_0 : decode cX0_move 0 = .ok (.aload_n 0, 1) := by decide +kernel
theorem dX0_move_1 : decode cX0_move 1 = .ok (.getfield 39, 3) := by decide +kernel
theorem dX0_move_4 : decode cX0_move 4 = .ok (.iload_n 1, 1) := by decide +kernel
theorem dX0_move_5 : decode cX0_move 5 = .ok (.dup2, 1) := by decide +kernel
theorem dX0_move_6 : decode cX0_move 6 = .ok (.iaload, 1) := by decide +kernel
theorem dX0_move_7 : decode cX0_move 7 = .ok (.iload_n 3, 1) := by decide +kernel
theorem dX0_move_8 : decode cX0_move 8 = .ok (.isub, 1) := by decide +kernel
theorem dX0_move_9 : decode cX0_move 9 = .ok (.iastore, 1) := by decide +kernel
theorem dX0_move_10 : decode cX0_move 10 = .ok (.aload_n 0, 1) := by decide +kernel
theorem dX0_move_11 : decode cX0_move 11 = .ok (.getfield 39, 3) := by decide +kernel
theorem dX0_move_14 : decode cX0_move 14 = .ok (.iload_n 2, 1) := by decide +kernel
theorem dX0_move_15 : decode cX0_move 15 = .ok (.dup2, 1) := by decide +kernel
theorem dX0_move_16 : decode cX0_move 16 = .ok (.iaload, 1) := by decide +kernel
theorem dX0_move_17 : decode cX0_move 17 = .ok (.iload_n 3, 1) := by decide +kernel
theorem dX0_move_18 : decode cX0_move 18 = .ok (.iadd, 1) := by decide +kernel
theorem dX0_move_19 : decode cX0_move 19 = .ok (.iastore, 1) := by decide +kernel
theorem dX0_move_20 : decode cX0_move 20 = .ok (.return_, 1) := by decide +kernel
theorem dX1_init_0 : decode cX1_init 0 = .ok (.aload_n 0, 1) := by decide +kernel
theorem dX1_init_1 : decode cX1_init 1 = .ok (.invokespecial 5, 3) := by decide +kernel
theorem dX1_init_4 : decode cX1_init 4 = .ok (.aload_n 0, 1) := by decide +kernel
theorem dX1_init_5 : decode cX1_init 5 = .ok (.iconst 4, 1) := by decide +kernel
theorem dX1_init_6 : decode cX1_init 6 = .ok (.newarray .int, 2) := by decide +kernel
theorem dX1_init_8 : decode cX1_init 8 = .ok (.putfield 11, 3) := by decide +kernel
theorem dX1_init_11 : decode cX1_init 11 = .ok (.aload_n 0, 1) := by decide +kernel
theorem dX1_init_12 : decode cX1_init 12 = .ok (.iconst 4, 1) := by decide +kernel
theorem dX1_init_13 : decode cX1_init 13 = .ok (.newarray .int, 2) := by decide +kernel
theorem dX1_init_15 : decode cX1_init 15 = .ok (.putfield 15, 3) := by decide +kernel
theorem dX1_init_18 : decode cX1_init 18 = .ok (.aload_n 0, 1) := by decide +kernel
theorem dX1_init_19 : decode cX1_init 19 = .ok (.sipush 2401, 3) := by decide +kernel
theorem dX1_init_22 : decode cX1_init 22 = .ok (.newarray .int, 2) := by decide +kernel
theorem dX1_init_24 : decode cX1_init 24 = .ok (.putfield 18, 3) := by decide +kernel
theorem dX1_init_27 : decode cX1_init 27 = .ok (.aload_n 0, 1) := by decide +kernel
theorem dX1_init_28 : decode cX1_init 28 = .ok (.sipush 2401, 3) := by decide +kernel
theorem dX1_init_31 : decode cX1_init 31 = .ok (.newarray .int, 2) := by decide +kernel
theorem dX1_init_33 : decode cX1_init 33 = .ok (.putfield 21, 3) := by decide +kernel
theorem dX1_init_36 : decode cX1_init 36 = .ok (.aload_n 0, 1) := by decide +kernel
theorem dX1_init_37 : decode cX1_init 37 = .ok (.sipush 2401, 3) := by decide +kernel
theorem dX1_init_40 : decode cX1_init 40 = .ok (.newarray .int, 2) := by decide +kernel
theorem dX1_init_42 : decode cX1_init 42 = .ok (.putfield 24, 3) := by decide +kernel
theorem dX1_init_45 : decode cX1_init 45 = .ok (.return_, 1) := by decide +kernel
theorem dX1_offer_0 : decode cX1_offer 0 = .ok (.aload_n 0, 1) := by decide +kernel
theorem dX1_offer_1 : decode cX1_offer 1 = .ok (.getfield 11, 3) := by decide +kernel
theorem dX1_offer_4 : decode cX1_offer 4 = .ok (.iload_n 1, 1) := by decide +kernel
theorem dX1_offer_5 : decode cX1_offer 5 = .ok (.bipush 6, 2) := by decide +kernel
theorem dX1_offer_7 : decode cX1_offer 7 = .ok (.iload_n 2, 1) := by decide +kernel
theorem dX1_offer_8 : decode cX1_offer 8 = .ok (.bipush 10, 2) := by decide +kernel
theorem dX1_offer_10 : decode cX1_offer 10 = .ok (.idiv, 1) := by decide +kernel
theorem dX1_offer_11 : decode cX1_offer 11 = .ok (.invokestatic 27, 3) := by decide +kernel
theorem dX1_offer_14 : decode cX1_offer 14 = .ok (.iastore, 1) := by decide +kernel
theorem dX1_offer_15 : decode cX1_offer 15 = .ok (.aload_n 0, 1) := by decide +kernel
theorem dX1_offer_16 : decode cX1_offer 16 = .ok (.getfield 15, 3) := by decide +kernel
theorem dX1_offer_19 : decode cX1_offer 19 = .ok (.iload_n 1, 1) := by decide +kernel
theorem dX1_offer_20 : decode cX1_offer 20 = .ok (.iload_n 3, 1) := by decide +kernel
theorem dX1_offer_21 : decode cX1_offer 21 = .ok (.iastore, 1) := by decide +kernel
theorem dX1_offer_22 : decode cX1_offer 22 = .ok (.return_, 1) := by decide +kernel
theorem dX1_serve_0 : decode cX1_serve 0 = .ok (.aload_n 0, 1) := by decide +kernel
theorem dX1_serve_1 : decode cX1_serve 1 = .ok (.getfield 18, 3) := by decide +kernel
theorem dX1_serve_4 : decode cX1_serve 4 = .ok (.iconst 0, 1) := by decide +kernel
theorem dX1_serve_5 : decode cX1_serve 5 = .ok (.aload_n 0, 1) := by decide +kernel
theorem dX1_serve_6 : decode cX1_serve 6 = .ok (.getfield 11, 3) := by decide +kernel
theorem dX1_serve_9 : decode cX1_serve 9 = .ok (.iconst 3, 1) := by decide +kernel
theorem dX1_serve_10 : decode cX1_serve 10 = .ok (.iaload, 1) := by decide +kernel
theorem dX1_serve_11 : decode cX1_serve 11 = .ok (.bipush 7, 2) := by decide +kernel
theorem dX1_serve_13 : decode cX1_serve 13 = .ok (.imul, 1) := by decide +kernel
theorem dX1_serve_14 : decode cX1_serve 14 = .ok (.aload_n 0, 1) := by decide +kernel
theorem dX1_serve_15 : decode cX1_serve 15 = .ok (.getfield 11, 3) := by decide +kernel
theorem dX1_serve_18 : decode cX1_serve 18 = .ok (.iconst 2, 1) := by decide +kernel
theorem dX1_serve_19 : decode cX1_serve 19 = .ok (.iaload, 1) := by decide +kernel
theorem dX1_serve_20 : decode cX1_serve 20 = .ok (.iadd, 1) := by decide +kernel
theorem dX1_serve_21 : decode cX1_serve 21 = .ok (.bipush 7, 2) := by decide +kernel
theorem dX1_serve_23 : decode cX1_serve 23 = .ok (.imul, 1) := by decide +kernel
theorem dX1_serve_24 : decode cX1_serve 24 = .ok (.aload_n 0, 1) := by decide +kernel
theorem dX1_serve_25 : decode cX1_serve 25 = .ok (.getfield 11, 3) := by decide +kernel
theorem dX1_serve_28 : decode cX1_serve 28 = .ok (.iconst 1, 1) := by decide +kernel
theorem dX1_serve_29 : decode cX1_serve 29 = .ok (.iaload, 1) := by decide +kernel
theorem dX1_serve_30 : decode cX1_serve 30 = .ok (.iadd, 1) := by decide +kernel
theorem dX1_serve_31 : decode cX1_serve 31 = .ok (.bipush 7, 2) := by decide +kernel
theorem dX1_serve_33 : decode cX1_serve 33 = .ok (.imul, 1) := by decide +kernel
theorem dX1_serve_34 : decode cX1_serve 34 = .ok (.aload_n 0, 1) := by decide +kernel
theorem dX1_serve_35 : decode cX1_serve 35 = .ok (.getfield 11, 3) := by decide +kernel
theorem dX1_serve_38 : decode cX1_serve 38 = .ok (.iconst 0, 1) := by decide +kernel
theorem dX1_serve_39 : decode cX1_serve 39 = .ok (.iaload, 1) := by decide +kernel
theorem dX1_serve_40 : decode cX1_serve 40 = .ok (.iadd, 1) := by decide +kernel
theorem dX1_serve_41 : decode cX1_serve 41 = .ok (.iastore, 1) := by decide +kernel
theorem dX1_serve_42 : decode cX1_serve 42 = .ok (.aload_n 0, 1) := by decide +kernel
theorem dX1_serve_43 : decode cX1_serve 43 = .ok (.iconst 1, 1) := by decide +kernel
theorem dX1_serve_44 : decode cX1_serve 44 = .ok (.putfield 33, 3) := by decide +kernel
theorem dX1_serve_47 : decode cX1_serve 47 = .ok (.iconst 0, 1) := by decide +kernel
theorem dX1_serve_48 : decode cX1_serve 48 = .ok (.istore_n 3, 1) := by decide +kernel
theorem dX1_serve_49 : decode cX1_serve 49 = .ok (.iconst 0, 1) := by decide +kernel
theorem dX1_serve_50 : decode cX1_serve 50 = .ok (.istore 4, 2) := by decide +kernel
theorem dX1_serve_52 : decode cX1_serve 52 = .ok (.iload 4, 2) := by decide +kernel
theorem dX1_serve_54 : decode cX1_serve 54 = .ok (.aload_n 1, 1) := by decide +kernel
theorem dX1_serve_55 : decode cX1_serve 55 = .ok (.getfield 37, 3) := by decide +kernel
theorem dX1_serve_58 : decode cX1_serve 58 = .ok (.if_icmp .ge 45, 3) := by decide +kernel
theorem dX1_serve_61 : decode cX1_serve 61 = .ok (.aload_n 1, 1) := by decide +kernel
theorem dX1_serve_62 : decode cX1_serve 62 = .ok (.getfield 42, 3) := by decide +kernel
theorem dX1_serve_65 : decode cX1_serve 65 = .ok (.iload 4, 2) := by decide +kernel
theorem dX1_serve_67 : decode cX1_serve 67 = .ok (.iaload, 1) := by decide +kernel
theorem dX1_serve_68 : decode cX1_serve 68 = .ok (.istore 5, 2) := by decide +kernel
theorem dX1_serve_70 : decode cX1_serve 70 = .ok (.aload_n 0, 1) := by decide +kernel
theorem dX1_serve_71 : decode cX1_serve 71 = .ok (.aload_n 2, 1) := by decide +kernel
theorem dX1_serve_72 : decode cX1_serve 72 = .ok (.getfield 45, 3) := by decide +kernel
theorem dX1_serve_75 : decode cX1_serve 75 = .ok (.iload 5, 2) := by decide +kernel
theorem dX1_serve_77 : decode cX1_serve 77 = .ok (.iaload, 1) := by decide +kernel
theorem dX1_serve_78 : decode cX1_serve 78 = .ok (.aload_n 2, 1) := by decide +kernel
theorem dX1_serve_79 : decode cX1_serve 79 = .ok (.iload 5, 2) := by decide +kernel
theorem dX1_serve_81 : decode cX1_serve 81 = .ok (.invokevirtual 50, 3) := by decide +kernel
theorem dX1_serve_84 : decode cX1_serve 84 = .ok (.invokevirtual 54, 3) := by decide +kernel
theorem dX1_serve_87 : decode cX1_serve 87 = .ok (.ifCond .eq 10, 3) := by decide +kernel
theorem dX1_serve_90 : decode cX1_serve 90 = .ok (.iload_n 3, 1) := by decide +kernel
theorem dX1_serve_91 : decode cX1_serve 91 = .ok (.iconst 1, 1) := by decide +kernel
theorem dX1_serve_92 : decode cX1_serve 92 = .ok (.iload 5, 2) := by decide +kernel
theorem dX1_serve_94 : decode cX1_serve 94 = .ok (.ishl, 1) := by decide +kernel
theorem dX1_serve_95 : decode cX1_serve 95 = .ok (.ior, 1) := by decide +kernel
theorem dX1_serve_96 : decode cX1_serve 96 = .ok (.istore_n 3, 1) := by decide +kernel
theorem dX1_serve_97 : decode cX1_serve 97 = .ok (.iinc 4 1, 3) := by decide +kernel
theorem dX1_serve_100 : decode cX1_serve 100 = .ok (.goto (-48), 3) := by decide +kernel
theorem dX1_serve_103 : decode cX1_serve 103 = .ok (.iload_n 3, 1) := by decide +kernel
theorem dX1_serve_104 : decode cX1_serve 104 = .ok (.ireturn, 1) := by decide +kernel
theorem dX1_canAdd_0 : decode cX1_canAdd 0 = .ok (.aload_n 0, 1) := by decide +kernel
theorem dX1_canAdd_1 : decode cX1_canAdd 1 = .ok (.dup, 1) := by decide +kernel
theorem dX1_canAdd_2 : decode cX1_canAdd 2 = .ok (.getfield 58, 3) := by decide +kernel
theorem dX1_canAdd_5 : decode cX1_canAdd 5 = .ok (.iconst 1, 1) := by decide +kernel
theorem dX1_canAdd_6 : decode cX1_canAdd 6 = .ok (.iadd, 1) := by decide +kernel
theorem dX1_canAdd_7 : decode cX1_canAdd 7 = .ok (.putfield 58, 3) := by decide +kernel
theorem dX1_canAdd_10 : decode cX1_canAdd 10 = .ok (.aload_n 0, 1) := by decide +kernel
theorem dX1_canAdd_11 : decode cX1_canAdd 11 = .ok (.iconst 0, 1) := by decide +kernel
theorem dX1_canAdd_12 : decode cX1_canAdd 12 = .ok (.putfield 61, 3) := by decide +kernel
theorem dX1_canAdd_15 : decode cX1_canAdd 15 = .ok (.iconst 0, 1) := by decide +kernel
theorem dX1_canAdd_16 : decode cX1_canAdd 16 = .ok (.istore_n 3, 1) := by decide +kernel
theorem dX1_canAdd_17 : decode cX1_canAdd 17 = .ok (.iload_n 3, 1) := by decide +kernel
theorem dX1_canAdd_18 : decode cX1_canAdd 18 = .ok (.aload_n 0, 1) := by decide +kernel
theorem dX1_canAdd_19 : decode cX1_canAdd 19 = .ok (.getfield 33, 3) := by decide +kernel
theorem dX1_canAdd_22 : decode cX1_canAdd 22 = .ok (.if_icmp .ge 23, 3) := by decide +kernel
theorem dX1_canAdd_25 : decode cX1_canAdd 25 = .ok (.aload_n 0, 1) := by decide +kernel
theorem dX1_canAdd_26 : decode cX1_canAdd 26 = .ok (.aload_n 0, 1) := by decide +kernel
theorem dX1_canAdd_27 : decode cX1_canAdd 27 = .ok (.getfield 18, 3) := by decide +kernel
theorem dX1_canAdd_30 : decode cX1_canAdd 30 = .ok (.iload_n 3, 1) := by decide +kernel
theorem dX1_canAdd_31 : decode cX1_canAdd 31 = .ok (.iaload, 1) := by decide +kernel
theorem dX1_canAdd_32 : decode cX1_canAdd 32 = .ok (.iload_n 1, 1) := by decide +kernel
theorem dX1_canAdd_33 : decode cX1_canAdd 33 = .ok (.iload_n 1, 1) := by decide +kernel
theorem dX1_canAdd_34 : decode cX1_canAdd 34 = .ok (.iload_n 2, 1) := by decide +kernel
theorem dX1_canAdd_35 : decode cX1_canAdd 35 = .ok (.imul, 1) := by decide +kernel
theorem dX1_canAdd_36 : decode cX1_canAdd 36 = .ok (.invokevirtual 64, 3) := by decide +kernel
theorem dX1_canAdd_39 : decode cX1_canAdd 39 = .ok (.iinc 3 1, 3) := by decide +kernel
theorem dX1_canAdd_42 : decode cX1_canAdd 42 = .ok (.goto (-25), 3) := by decide +kernel
theorem dX1_canAdd_45 : decode cX1_canAdd 45 = .ok (.aload_n 0, 1) := by decide +kernel
theorem dX1_canAdd_46 : decode cX1_canAdd 46 = .ok (.getfield 61, 3) := by decide +kernel
theorem dX1_canAdd_49 : decode cX1_canAdd 49 = .ok (.ifCond .ne 5, 3) := by decide +kernel
theorem dX1_canAdd_52 : decode cX1_canAdd 52 = .ok (.iconst 0, 1) := by decide +kernel
theorem dX1_canAdd_53 : decode cX1_canAdd 53 = .ok (.ireturn, 1) := by decide +kernel
theorem dX1_canAdd_54 : decode cX1_canAdd 54 = .ok (.aload_n 0, 1) := by decide +kernel
theorem dX1_canAdd_55 : decode cX1_canAdd 55 = .ok (.getfield 18, 3) := by decide +kernel
theorem dX1_canAdd_58 : decode cX1_canAdd 58 = .ok (.astore_n 3, 1) := by decide +kernel
theorem dX1_canAdd_59 : decode cX1_canAdd 59 = .ok (.aload_n 0, 1) := by decide +kernel
theorem dX1_canAdd_60 : decode cX1_canAdd 60 = .ok (.aload_n 0, 1) := by decide +kernel
theorem dX1_canAdd_61 : decode cX1_canAdd 61 = .ok (.getfield 21, 3) := by decide +kernel
theorem dX1_canAdd_64 : decode cX1_canAdd 64 = .ok (.putfield 18, 3) := by decide +kernel
theorem dX1_canAdd_67 : decode cX1_canAdd 67 = .ok (.aload_n 0, 1) := by decide +kernel
theorem dX1_canAdd_68 : decode cX1_canAdd 68 = .ok (.aload_n 3, 1) := by decide +kernel
theorem dX1_canAdd_69 : decode cX1_canAdd 69 = .ok (.putfield 21, 3) := by decide +kernel
theorem dX1_canAdd_72 : decode cX1_canAdd 72 = .ok (.aload_n 0, 1) := by decide +kernel
theorem dX1_canAdd_73 : decode cX1_canAdd 73 = .ok (.aload_n 0, 1) := by decide +kernel
theorem dX1_canAdd_74 : decode cX1_canAdd 74 = .ok (.getfield 61, 3) := by decide +kernel
theorem dX1_canAdd_77 : decode cX1_canAdd 77 = .ok (.putfield 33, 3) := by decide +kernel
theorem dX1_canAdd_80 : decode cX1_canAdd 80 = .ok (.iconst 1, 1) := by decide +kernel
theorem dX1_canAdd_81 : decode cX1_canAdd 81 = .ok (.ireturn, 1) := by decide +kernel
theorem dX1_takeFrom_0 : decode cX1_takeFrom 0 = .ok (.iload_n 1, 1) := by decide +kernel
theorem dX1_takeFrom_1 : decode cX1_takeFrom 1 = .ok (.bipush 7, 2) := by decide +kernel
theorem dX1_takeFrom_3 : decode cX1_takeFrom 3 = .ok (.irem, 1) := by decide +kernel
theorem dX1_takeFrom_4 : decode cX1_takeFrom 4 = .ok (.istore 4, 2) := by decide +kernel
theorem dX1_takeFrom_6 : decode cX1_takeFrom 6 = .ok (.iload_n 1, 1) := by decide +kernel
theorem dX1_takeFrom_7 : decode cX1_takeFrom 7 = .ok (.bipush 7, 2) := by decide +kernel
theorem dX1_takeFrom_9 : decode cX1_takeFrom 9 = .ok (.idiv, 1) := by decide +kernel
theorem dX1_takeFrom_10 : decode cX1_takeFrom 10 = .ok (.bipush 7, 2) := by decide +kernel
theorem dX1_takeFrom_12 : decode cX1_takeFrom 12 = .ok (.irem, 1) := by decide +kernel
theorem dX1_takeFrom_13 : decode cX1_takeFrom 13 = .ok (.istore 5, 2) := by decide +kernel
theorem dX1_takeFrom_15 : decode cX1_takeFrom 15 = .ok (.iload_n 1, 1) := by decide +kernel
theorem dX1_takeFrom_16 : decode cX1_takeFrom 16 = .ok (.bipush 49, 2) := by decide +kernel
theorem dX1_takeFrom_18 : decode cX1_takeFrom 18 = .ok (.idiv, 1) := by decide +kernel
theorem dX1_takeFrom_19 : decode cX1_takeFrom 19 = .ok (.bipush 7, 2) := by decide +kernel
theorem dX1_takeFrom_21 : decode cX1_takeFrom 21 = .ok (.irem, 1) := by decide +kernel
theorem dX1_takeFrom_22 : decode cX1_takeFrom 22 = .ok (.istore 6, 2) := by decide +kernel
theorem dX1_takeFrom_24 : decode cX1_takeFrom 24 = .ok (.iload_n 1, 1) := by decide +kernel
theorem dX1_takeFrom_25 : decode cX1_takeFrom 25 = .ok (.sipush 343, 3) := by decide +kernel
theorem dX1_takeFrom_28 : decode cX1_takeFrom 28 = .ok (.idiv, 1) := by decide +kernel
theorem dX1_takeFrom_29 : decode cX1_takeFrom 29 = .ok (.istore 7, 2) := by decide +kernel
theorem dX1_takeFrom_31 : decode cX1_takeFrom 31 = .ok (.iconst 0, 1) := by decide +kernel
theorem dX1_takeFrom_32 : decode cX1_takeFrom 32 = .ok (.istore 8, 2) := by decide +kernel
theorem dX1_takeFrom_34 : decode cX1_takeFrom 34 = .ok (.iload 8, 2) := by decide +kernel
theorem dX1_takeFrom_36 : decode cX1_takeFrom 36 = .ok (.iload_n 2, 1) := by decide +kernel
theorem dX1_takeFrom_37 : decode cX1_takeFrom 37 = .ok (.if_icmp .gt 161, 3) := by decide +kernel
theorem dX1_takeFrom_40 : decode cX1_takeFrom 40 = .ok (.iload 8, 2) := by decide +kernel
theorem dX1_takeFrom_42 : decode cX1_takeFrom 42 = .ok (.iload 4, 2) := by decide +kernel
theorem dX1_takeFrom_44 : decode cX1_takeFrom 44 = .ok (.if_icmp .gt 154, 3) := by decide +kernel
theorem dX1_takeFrom_47 : decode cX1_takeFrom 47 = .ok (.iconst 0, 1) := by decide +kernel
theorem dX1_takeFrom_48 : decode cX1_takeFrom 48 = .ok (.istore 9, 2) := by decide +kernel
theorem dX1_takeFrom_50 : decode cX1_takeFrom 50 = .ok (.iload 8, 2) := by decide +kernel
theorem dX1_takeFrom_52 : decode cX1_takeFrom 52 = .ok (.iload 9, 2) := by decide +kernel
theorem dX1_takeFrom_54 : decode cX1_takeFrom 54 = .ok (.iadd, 1) := by decide +kernel
theorem dX1_takeFrom_55 : decode cX1_takeFrom 55 = .ok (.iload_n 2, 1) := by decide +kernel
theorem dX1_takeFrom_56 : decode cX1_takeFrom 56 = .ok (.if_icmp .gt 136, 3) := by decide +kernel
theorem dX1_takeFrom_59 : decode cX1_takeFrom 59 = .ok (.iload 9, 2) := by decide +kernel
theorem dX1_takeFrom_61 : decode cX1_takeFrom 61 = .ok (.iload 5, 2) := by decide +kernel
theorem dX1_takeFrom_63 : decode cX1_takeFrom 63 = .ok (.if_icmp .gt 129, 3) := by decide +kernel
theorem dX1_takeFrom_66 : decode cX1_takeFrom 66 = .ok (.iconst 0, 1) := by decide +kernel
theorem dX1_takeFrom_67 : decode cX1_takeFrom 67 = .ok (.istore 10, 2) := by decide +kernel
theorem dX1_takeFrom_69 : decode cX1_takeFrom 69 = .ok (.iload 8, 2) := by decide +kernel
theorem dX1_takeFrom_71 : decode cX1_takeFrom 71 = .ok (.iload 9, 2) := by decide +kernel
theorem dX1_takeFrom_73 : decode cX1_takeFrom 73 = .ok (.iadd, 1) := by decide +kernel
theorem dX1_takeFrom_74 : decode cX1_takeFrom 74 = .ok (.iload 10, 2) := by decide +kernel
theorem dX1_takeFrom_76 : decode cX1_takeFrom 76 = .ok (.iadd, 1) := by decide +kernel
theorem dX1_takeFrom_77 : decode cX1_takeFrom 77 = .ok (.iload_n 2, 1) := by decide +kernel
theorem dX1_takeFrom_78 : decode cX1_takeFrom 78 = .ok (.if_icmp .gt 108, 3) := by decide +kernel
theorem dX1_takeFrom_81 : decode cX1_takeFrom 81 = .ok (.iload 10, 2) := by decide +kernel
theorem dX1_takeFrom_83 : decode cX1_takeFrom 83 = .ok (.iload 6, 2) := by decide +kernel
theorem dX1_takeFrom_85 : decode cX1_takeFrom 85 = .ok (.if_icmp .gt 101, 3) := by decide +kernel
theorem dX1_takeFrom_88 : decode cX1_takeFrom 88 = .ok (.iload_n 2, 1) := by decide +kernel
theorem dX1_takeFrom_89 : decode cX1_takeFrom 89 = .ok (.iload 8, 2) := by decide +kernel
theorem dX1_takeFrom_91 : decode cX1_takeFrom 91 = .ok (.isub, 1) := by decide +kernel
theorem dX1_takeFrom_92 : decode cX1_takeFrom 92 = .ok (.iload 9, 2) := by decide +kernel
theorem dX1_takeFrom_94 : decode cX1_takeFrom 94 = .ok (.isub, 1) := by decide +kernel
theorem dX1_takeFrom_95 : decode cX1_takeFrom 95 = .ok (.iload 10, 2) := by decide +kernel
theorem dX1_takeFrom_97 : decode cX1_takeFrom 97 = .ok (.isub, 1) := by decide +kernel
theorem dX1_takeFrom_98 : decode cX1_takeFrom 98 = .ok (.istore 11, 2) := by decide +kernel
theorem dX1_takeFrom_100 : decode cX1_takeFrom 100 = .ok (.iload 8, 2) := by decide +kernel
theorem dX1_takeFrom_102 : decode cX1_takeFrom 102 = .ok (.aload_n 0, 1) := by decide +kernel
theorem dX1_takeFrom_103 : decode cX1_takeFrom 103 = .ok (.getfield 15, 3) := by decide +kernel
theorem dX1_takeFrom_106 : decode cX1_takeFrom 106 = .ok (.iconst 0, 1) := by decide +kernel
theorem dX1_takeFrom_107 : decode cX1_takeFrom 107 = .ok (.iaload, 1) := by decide +kernel
theorem dX1_takeFrom_108 : decode cX1_takeFrom 108 = .ok (.imul, 1) := by decide +kernel
theorem dX1_takeFrom_109 : decode cX1_takeFrom 109 = .ok (.iload 9, 2) := by decide +kernel
theorem dX1_takeFrom_111 : decode cX1_takeFrom 111 = .ok (.aload_n 0, 1) := by decide +kernel
theorem dX1_takeFrom_112 : decode cX1_takeFrom 112 = .ok (.getfield 15, 3) := by decide +kernel
theorem dX1_takeFrom_115 : decode cX1_takeFrom 115 = .ok (.iconst 1, 1) := by decide +kernel
theorem dX1_takeFrom_116 : decode cX1_takeFrom 116 = .ok (.iaload, 1) := by decide +kernel
theorem dX1_takeFrom_117 : decode cX1_takeFrom 117 = .ok (.imul, 1) := by decide +kernel
theorem dX1_takeFrom_118 : decode cX1_takeFrom 118 = .ok (.iadd, 1) := by decide +kernel
theorem dX1_takeFrom_119 : decode cX1_takeFrom 119 = .ok (.iload 10, 2) := by decide +kernel
theorem dX1_takeFrom_121 : decode cX1_takeFrom 121 = .ok (.aload_n 0, 1) := by decide +kernel
theorem dX1_takeFrom_122 : decode cX1_takeFrom 122 = .ok (.getfield 15, 3) := by decide +kernel
theorem dX1_takeFrom_125 : decode cX1_takeFrom 125 = .ok (.iconst 2, 1) := by decide +kernel
theorem dX1_takeFrom_126 : decode cX1_takeFrom 126 = .ok (.iaload, 1) := by decide +kernel
theorem dX1_takeFrom_127 : decode cX1_takeFrom 127 = .ok (.imul, 1) := by decide +kernel
theorem dX1_takeFrom_128 : decode cX1_takeFrom 128 = .ok (.iadd, 1) := by decide +kernel
theorem dX1_takeFrom_129 : decode cX1_takeFrom 129 = .ok (.iload 11, 2) := by decide +kernel
theorem dX1_takeFrom_131 : decode cX1_takeFrom 131 = .ok (.aload_n 0, 1) := by decide +kernel
theorem dX1_takeFrom_132 : decode cX1_takeFrom 132 = .ok (.getfield 15, 3) := by decide +kernel
theorem dX1_takeFrom_135 : decode cX1_takeFrom 135 = .ok (.iconst 3, 1) := by decide +kernel
theorem dX1_takeFrom_136 : decode cX1_takeFrom 136 = .ok (.iaload, 1) := by decide +kernel
theorem dX1_takeFrom_137 : decode cX1_takeFrom 137 = .ok (.imul, 1) := by decide +kernel
theorem dX1_takeFrom_138 : decode cX1_takeFrom 138 = .ok (.iadd, 1) := by decide +kernel
theorem dX1_takeFrom_139 : decode cX1_takeFrom 139 = .ok (.istore 12, 2) := by decide +kernel
theorem dX1_takeFrom_141 : decode cX1_takeFrom 141 = .ok (.iload 11, 2) := by decide +kernel
theorem dX1_takeFrom_143 : decode cX1_takeFrom 143 = .ok (.iload 7, 2) := by decide +kernel
theorem dX1_takeFrom_145 : decode cX1_takeFrom 145 = .ok (.if_icmp .gt 35, 3) := by decide +kernel
theorem dX1_takeFrom_148 : decode cX1_takeFrom 148 = .ok (.iload 12, 2) := by decide +kernel
theorem dX1_takeFrom_150 : decode cX1_takeFrom 150 = .ok (.iload_n 3, 1) := by decide +kernel
theorem dX1_takeFrom_151 : decode cX1_takeFrom 151 = .ok (.if_icmp .lt 29, 3) := by decide +kernel
theorem dX1_takeFrom_154 : decode cX1_takeFrom 154 = .ok (.aload_n 0, 1) := by decide +kernel
theorem dX1_takeFrom_155 : decode cX1_takeFrom 155 = .ok (.iload_n 1, 1) := by decide +kernel
theorem dX1_takeFrom_156 : decode cX1_takeFrom 156 = .ok (.iload 11, 2) := by decide +kernel
theorem dX1_takeFrom_158 : decode cX1_takeFrom 158 = .ok (.bipush 7, 2) := by decide +kernel
theorem dX1_takeFrom_160 : decode cX1_takeFrom 160 = .ok (.imul, 1) := by decide +kernel
theorem dX1_takeFrom_161 : decode cX1_takeFrom 161 = .ok (.iload 10, 2) := by decide +kernel
theorem dX1_takeFrom_163 : decode cX1_takeFrom 163 = .ok (.iadd, 1) := by decide +kernel
theorem dX1_takeFrom_164 : decode cX1_takeFrom 164 = .ok (.bipush 7, 2) := by decide +kernel
theorem dX1_takeFrom_166 : decode cX1_takeFrom 166 = .ok (.imul, 1) := by decide +kernel
theorem dX1_takeFrom_167 : decode cX1_takeFrom 167 = .ok (.iload 9, 2) := by decide +kernel
theorem dX1_takeFrom_169 : decode cX1_takeFrom 169 = .ok (.iadd, 1) := by decide +kernel
theorem dX1_takeFrom_170 : decode cX1_takeFrom 170 = .ok (.bipush 7, 2) := by decide +kernel
theorem dX1_takeFrom_172 : decode cX1_takeFrom 172 = .ok (.imul, 1) := by decide +kernel
theorem dX1_takeFrom_173 : decode cX1_takeFrom 173 = .ok (.iload 8, 2) := by decide +kernel
theorem dX1_takeFrom_175 : decode cX1_takeFrom 175 = .ok (.iadd, 1) := by decide +kernel
theorem dX1_takeFrom_176 : decode cX1_takeFrom 176 = .ok (.isub, 1) := by decide +kernel
theorem dX1_takeFrom_177 : decode cX1_takeFrom 177 = .ok (.invokevirtual 68, 3) := by decide +kernel
theorem dX1_takeFrom_180 : decode cX1_takeFrom 180 = .ok (.iinc 10 1, 3) := by decide +kernel
theorem dX1_takeFrom_183 : decode cX1_takeFrom 183 = .ok (.goto (-114), 3) := by decide +kernel
theorem dX1_takeFrom_186 : decode cX1_takeFrom 186 = .ok (.iinc 9 1, 3) := by decide +kernel
theorem dX1_takeFrom_189 : decode cX1_takeFrom 189 = .ok (.goto (-139), 3) := by decide +kernel
theorem dX1_takeFrom_192 : decode cX1_takeFrom 192 = .ok (.iinc 8 1, 3) := by decide +kernel
theorem dX1_takeFrom_195 : decode cX1_takeFrom 195 = .ok (.goto (-161), 3) := by decide +kernel
theorem dX1_takeFrom_198 : decode cX1_takeFrom 198 = .ok (.return_, 1) := by decide +kernel
theorem dX1_keep_0 : decode cX1_keep 0 = .ok (.iload_n 1, 1) := by decide +kernel
theorem dX1_keep_1 : decode cX1_keep 1 = .ok (.sipush 2401, 3) := by decide +kernel
theorem dX1_keep_4 : decode cX1_keep 4 = .ok (.invokestatic 72, 3) := by decide +kernel
theorem dX1_keep_7 : decode cX1_keep 7 = .ok (.ifCond .eq 56, 3) := by decide +kernel
theorem dX1_keep_10 : decode cX1_keep 10 = .ok (.aload_n 0, 1) := by decide +kernel
theorem dX1_keep_11 : decode cX1_keep 11 = .ok (.getfield 24, 3) := by decide +kernel
theorem dX1_keep_14 : decode cX1_keep 14 = .ok (.iload_n 1, 1) := by decide +kernel
theorem dX1_keep_15 : decode cX1_keep 15 = .ok (.iaload, 1) := by decide +kernel
theorem dX1_keep_16 : decode cX1_keep 16 = .ok (.aload_n 0, 1) := by decide +kernel
theorem dX1_keep_17 : decode cX1_keep 17 = .ok (.getfield 58, 3) := by decide +kernel
theorem dX1_keep_20 : decode cX1_keep 20 = .ok (.if_icmp .eq 43, 3) := by decide +kernel
theorem dX1_keep_23 : decode cX1_keep 23 = .ok (.aload_n 0, 1) := by decide +kernel
theorem dX1_keep_24 : decode cX1_keep 24 = .ok (.getfield 61, 3) := by decide +kernel
theorem dX1_keep_27 : decode cX1_keep 27 = .ok (.sipush 2401, 3) := by decide +kernel
theorem dX1_keep_30 : decode cX1_keep 30 = .ok (.if_icmp .ge 33, 3) := by decide +kernel
theorem dX1_keep_33 : decode cX1_keep 33 = .ok (.aload_n 0, 1) := by decide +kernel
theorem dX1_keep_34 : decode cX1_keep 34 = .ok (.getfield 24, 3) := by decide +kernel
theorem dX1_keep_37 : decode cX1_keep 37 = .ok (.iload_n 1, 1) := by decide +kernel
theorem dX1_keep_38 : decode cX1_keep 38 = .ok (.aload_n 0, 1) := by decide +kernel
theorem dX1_keep_39 : decode cX1_keep 39 = .ok (.getfield 58, 3) := by decide +kernel
theorem dX1_keep_42 : decode cX1_keep 42 = .ok (.iastore, 1) := by decide +kernel
theorem dX1_keep_43 : decode cX1_keep 43 = .ok (.aload_n 0, 1) := by decide +kernel
theorem dX1_keep_44 : decode cX1_keep 44 = .ok (.getfield 21, 3) := by decide +kernel
theorem dX1_keep_47 : decode cX1_keep 47 = .ok (.aload_n 0, 1) := by decide +kernel
theorem dX1_keep_48 : decode cX1_keep 48 = .ok (.getfield 61, 3) := by decide +kernel
theorem dX1_keep_51 : decode cX1_keep 51 = .ok (.iload_n 1, 1) := by decide +kernel
theorem dX1_keep_52 : decode cX1_keep 52 = .ok (.iastore, 1) := by decide +kernel
theorem dX1_keep_53 : decode cX1_keep 53 = .ok (.aload_n 0, 1) := by decide +kernel
theorem dX1_keep_54 : decode cX1_keep 54 = .ok (.dup, 1) := by decide +kernel
theorem dX1_keep_55 : decode cX1_keep 55 = .ok (.getfield 61, 3) := by decide +kernel
theorem dX1_keep_58 : decode cX1_keep 58 = .ok (.iconst 1, 1) := by decide +kernel
theorem dX1_keep_59 : decode cX1_keep 59 = .ok (.iadd, 1) := by decide +kernel
theorem dX1_keep_60 : decode cX1_keep 60 = .ok (.putfield 61, 3) := by decide +kernel
theorem dX1_keep_63 : decode cX1_keep 63 = .ok (.return_, 1) := by decide +kernel
theorem dX2_init_0 : decode cX2_init 0 = .ok (.aload_n 0, 1) := by decide +kernel
theorem dX2_init_1 : decode cX2_init 1 = .ok (.invokespecial 3, 3) := by decide +kernel
theorem dX2_init_4 : decode cX2_init 4 = .ok (.aload_n 0, 1) := by decide +kernel
theorem dX2_init_5 : decode cX2_init 5 = .ok (.bipush 8, 2) := by decide +kernel
theorem dX2_init_7 : decode cX2_init 7 = .ok (.newarray .int, 2) := by decide +kernel
theorem dX2_init_9 : decode cX2_init 9 = .ok (.putfield 9, 3) := by decide +kernel
theorem dX2_init_12 : decode cX2_init 12 = .ok (.aload_n 0, 1) := by decide +kernel
theorem dX2_init_13 : decode cX2_init 13 = .ok (.bipush 8, 2) := by decide +kernel
theorem dX2_init_15 : decode cX2_init 15 = .ok (.newarray .int, 2) := by decide +kernel
theorem dX2_init_17 : decode cX2_init 17 = .ok (.putfield 15, 3) := by decide +kernel
theorem dX2_init_20 : decode cX2_init 20 = .ok (.aload_n 0, 1) := by decide +kernel
theorem dX2_init_21 : decode cX2_init 21 = .ok (.bipush 8, 2) := by decide +kernel
theorem dX2_init_23 : decode cX2_init 23 = .ok (.newarray .int, 2) := by decide +kernel
theorem dX2_init_25 : decode cX2_init 25 = .ok (.putfield 18, 3) := by decide +kernel
theorem dX2_init_28 : decode cX2_init 28 = .ok (.aload_n 0, 1) := by decide +kernel
theorem dX2_init_29 : decode cX2_init 29 = .ok (.bipush 8, 2) := by decide +kernel
theorem dX2_init_31 : decode cX2_init 31 = .ok (.newarray .int, 2) := by decide +kernel
theorem dX2_init_33 : decode cX2_init 33 = .ok (.putfield 21, 3) := by decide +kernel
theorem dX2_init_36 : decode cX2_init 36 = .ok (.aload_n 0, 1) := by decide +kernel
theorem dX2_init_37 : decode cX2_init 37 = .ok (.bipush 120, 2) := by decide +kernel
theorem dX2_init_39 : decode cX2_init 39 = .ok (.newarray .int, 2) := by decide +kernel
theorem dX2_init_41 : decode cX2_init 41 = .ok (.putfield 24, 3) := by decide +kernel
theorem dX2_init_44 : decode cX2_init 44 = .ok (.return_, 1) := by decide +kernel
theorem dX2_copyFrom_0 : decode cX2_copyFrom 0 = .ok (.aload_n 0, 1) := by decide +kernel
theorem dX2_copyFrom_1 : decode cX2_copyFrom 1 = .ok (.aload_n 1, 1) := by decide +kernel
theorem dX2_copyFrom_2 : decode cX2_copyFrom 2 = .ok (.getfield 27, 3) := by decide +kernel
theorem dX2_copyFrom_5 : decode cX2_copyFrom 5 = .ok (.putfield 27, 3) := by decide +kernel
theorem dX2_copyFrom_8 : decode cX2_copyFrom 8 = .ok (.aload_n 0, 1) := by decide +kernel
theorem dX2_copyFrom_9 : decode cX2_copyFrom 9 = .ok (.aload_n 1, 1) := by decide +kernel
theorem dX2_copyFrom_10 : decode cX2_copyFrom 10 = .ok (.getfield 31, 3) := by decide +kernel
theorem dX2_copyFrom_13 : decode cX2_copyFrom 13 = .ok (.putfield 31, 3) := by decide +kernel
theorem dX2_copyFrom_16 : decode cX2_copyFrom 16 = .ok (.aload_n 1, 1) := by decide +kernel
theorem dX2_copyFrom_17 : decode cX2_copyFrom 17 = .ok (.getfield 9, 3) := by decide +kernel
theorem dX2_copyFrom_20 : decode cX2_copyFrom 20 = .ok (.iconst 0, 1) := by decide +kernel
theorem dX2_copyFrom_21 : decode cX2_copyFrom 21 = .ok (.aload_n 0, 1) := by decide +kernel
theorem dX2_copyFrom_22 : decode cX2_copyFrom 22 = .ok (.getfield 9, 3) := by decide +kernel
theorem dX2_copyFrom_25 : decode cX2_copyFrom 25 = .ok (.iconst 0, 1) := by decide +kernel
theorem dX2_copyFrom_26 : decode cX2_copyFrom 26 = .ok (.bipush 8, 2) := by decide +kernel
theorem dX2_copyFrom_28 : decode cX2_copyFrom 28 = .ok (.invokestatic 34, 3) := by decide +kernel
theorem dX2_copyFrom_31 : decode cX2_copyFrom 31 = .ok (.aload_n 1, 1) := by decide +kernel
theorem dX2_copyFrom_32 : decode cX2_copyFrom 32 = .ok (.getfield 15, 3) := by decide +kernel
theorem dX2_copyFrom_35 : decode cX2_copyFrom 35 = .ok (.iconst 0, 1) := by decide +kernel
theorem dX2_copyFrom_36 : decode cX2_copyFrom 36 = .ok (.aload_n 0, 1) := by decide +kernel
theorem dX2_copyFrom_37 : decode cX2_copyFrom 37 = .ok (.getfield 15, 3) := by decide +kernel
theorem dX2_copyFrom_40 : decode cX2_copyFrom 40 = .ok (.iconst 0, 1) := by decide +kernel
theorem dX2_copyFrom_41 : decode cX2_copyFrom 41 = .ok (.bipush 8, 2) := by decide +kernel
theorem dX2_copyFrom_43 : decode cX2_copyFrom 43 = .ok (.invokestatic 34, 3) := by decide +kernel
theorem dX2_copyFrom_46 : decode cX2_copyFrom 46 = .ok (.aload_n 1, 1) := by decide +kernel
theorem dX2_copyFrom_47 : decode cX2_copyFrom 47 = .ok (.getfield 18, 3) := by decide +kernel
theorem dX2_copyFrom_50 : decode cX2_copyFrom 50 = .ok (.iconst 0, 1) := by decide +kernel
theorem dX2_copyFrom_51 : decode cX2_copyFrom 51 = .ok (.aload_n 0, 1) := by decide +kernel
theorem dX2_copyFrom_52 : decode cX2_copyFrom 52 = .ok (.getfield 18, 3) := by decide +kernel
theorem dX2_copyFrom_55 : decode cX2_copyFrom 55 = .ok (.iconst 0, 1) := by decide +kernel
theorem dX2_copyFrom_56 : decode cX2_copyFrom 56 = .ok (.bipush 8, 2) := by decide +kernel
theorem dX2_copyFrom_58 : decode cX2_copyFrom 58 = .ok (.invokestatic 34, 3) := by decide +kernel
theorem dX2_copyFrom_61 : decode cX2_copyFrom 61 = .ok (.aload_n 1, 1) := by decide +kernel
theorem dX2_copyFrom_62 : decode cX2_copyFrom 62 = .ok (.getfield 21, 3) := by decide +kernel
theorem dX2_copyFrom_65 : decode cX2_copyFrom 65 = .ok (.iconst 0, 1) := by decide +kernel
theorem dX2_copyFrom_66 : decode cX2_copyFrom 66 = .ok (.aload_n 0, 1) := by decide +kernel
theorem dX2_copyFrom_67 : decode cX2_copyFrom 67 = .ok (.getfield 21, 3) := by decide +kernel
theorem dX2_copyFrom_70 : decode cX2_copyFrom 70 = .ok (.iconst 0, 1) := by decide +kernel
theorem dX2_copyFrom_71 : decode cX2_copyFrom 71 = .ok (.bipush 8, 2) := by decide +kernel
theorem dX2_copyFrom_73 : decode cX2_copyFrom 73 = .ok (.invokestatic 34, 3) := by decide +kernel
theorem dX2_copyFrom_76 : decode cX2_copyFrom 76 = .ok (.aload_n 0, 1) := by decide +kernel
theorem dX2_copyFrom_77 : decode cX2_copyFrom 77 = .ok (.aload_n 1, 1) := by decide +kernel
theorem dX2_copyFrom_78 : decode cX2_copyFrom 78 = .ok (.getfield 40, 3) := by decide +kernel
theorem dX2_copyFrom_81 : decode cX2_copyFrom 81 = .ok (.putfield 40, 3) := by decide +kernel
theorem dX2_copyFrom_84 : decode cX2_copyFrom 84 = .ok (.aload_n 1, 1) := by decide +kernel
theorem dX2_copyFrom_85 : decode cX2_copyFrom 85 = .ok (.getfield 24, 3) := by decide +kernel
theorem dX2_copyFrom_88 : decode cX2_copyFrom 88 = .ok (.iconst 0, 1) := by decide +kernel
theorem dX2_copyFrom_89 : decode cX2_copyFrom 89 = .ok (.aload_n 0, 1) := by decide +kernel
theorem dX2_copyFrom_90 : decode cX2_copyFrom 90 = .ok (.getfield 24, 3) := by decide +kernel
theorem dX2_copyFrom_93 : decode cX2_copyFrom 93 = .ok (.iconst 0, 1) := by decide +kernel
theorem dX2_copyFrom_94 : decode cX2_copyFrom 94 = .ok (.bipush 120, 2) := by decide +kernel
theorem dX2_copyFrom_96 : decode cX2_copyFrom 96 = .ok (.invokestatic 34, 3) := by decide +kernel
theorem dX2_copyFrom_99 : decode cX2_copyFrom 99 = .ok (.return_, 1) := by decide +kernel
theorem dX2_clear_0 : decode cX2_clear 0 = .ok (.aload_n 0, 1) := by decide +kernel
theorem dX2_clear_1 : decode cX2_clear 1 = .ok (.iload_n 1, 1) := by decide +kernel
theorem dX2_clear_2 : decode cX2_clear 2 = .ok (.putfield 27, 3) := by decide +kernel
theorem dX2_clear_5 : decode cX2_clear 5 = .ok (.aload_n 0, 1) := by decide +kernel
theorem dX2_clear_6 : decode cX2_clear 6 = .ok (.iconst 0, 1) := by decide +kernel
theorem dX2_clear_7 : decode cX2_clear 7 = .ok (.putfield 31, 3) := by decide +kernel
theorem dX2_clear_10 : decode cX2_clear 10 = .ok (.aload_n 0, 1) := by decide +kernel
theorem dX2_clear_11 : decode cX2_clear 11 = .ok (.iconst 0, 1) := by decide +kernel
theorem dX2_clear_12 : decode cX2_clear 12 = .ok (.putfield 40, 3) := by decide +kernel
theorem dX2_clear_15 : decode cX2_clear 15 = .ok (.return_, 1) := by decide +kernel
theorem dX2_addStep_0 : decode cX2_addStep 0 = .ok (.aload_n 0, 1) := by decide +kernel
theorem dX2_addStep_1 : decode cX2_addStep 1 = .ok (.getfield 40, 3) := by decide +kernel
theorem dX2_addStep_4 : decode cX2_addStep 4 = .ok (.bipush 120, 2) := by decide +kernel
theorem dX2_addStep_6 : decode cX2_addStep 6 = .ok (.if_icmp .ge 29, 3) := by decide +kernel
theorem dX2_addStep_9 : decode cX2_addStep 9 = .ok (.aload_n 0, 1) := by decide +kernel
theorem dX2_addStep_10 : decode cX2_addStep 10 = .ok (.getfield 24, 3) := by decide +kernel
theorem dX2_addStep_13 : decode cX2_addStep 13 = .ok (.aload_n 0, 1) := by decide +kernel
theorem dX2_addStep_14 : decode cX2_addStep 14 = .ok (.getfield 40, 3) := by decide +kernel
theorem dX2_addStep_17 : decode cX2_addStep 17 = .ok (.iload_n 1, 1) := by decide +kernel
theorem dX2_addStep_18 : decode cX2_addStep 18 = .ok (.sipush 1000, 3) := by decide +kernel
theorem dX2_addStep_21 : decode cX2_addStep 21 = .ok (.imul, 1) := by decide +kernel
theorem dX2_addStep_22 : decode cX2_addStep 22 = .ok (.iload_n 2, 1) := by decide +kernel
theorem dX2_addStep_23 : decode cX2_addStep 23 = .ok (.iadd, 1) := by decide +kernel
theorem dX2_addStep_24 : decode cX2_addStep 24 = .ok (.iastore, 1) := by decide +kernel
theorem dX2_addStep_25 : decode cX2_addStep 25 = .ok (.aload_n 0, 1) := by decide +kernel
theorem dX2_addStep_26 : decode cX2_addStep 26 = .ok (.dup, 1) := by decide +kernel
theorem dX2_addStep_27 : decode cX2_addStep 27 = .ok (.getfield 40, 3) := by decide +kernel
theorem dX2_addStep_30 : decode cX2_addStep 30 = .ok (.iconst 1, 1) := by decide +kernel
theorem dX2_addStep_31 : decode cX2_addStep 31 = .ok (.iadd, 1) := by decide +kernel
theorem dX2_addStep_32 : decode cX2_addStep 32 = .ok (.putfield 40, 3) := by decide +kernel
theorem dX2_addStep_35 : decode cX2_addStep 35 = .ok (.return_, 1) := by decide +kernel
theorem dX2_addClause_0 : decode cX2_addClause 0 = .ok (.aload_n 0, 1) := by decide +kernel
theorem dX2_addClause_1 : decode cX2_addClause 1 = .ok (.getfield 31, 3) := by decide +kernel
theorem dX2_addClause_4 : decode cX2_addClause 4 = .ok (.bipush 8, 2) := by decide +kernel
theorem dX2_addClause_6 : decode cX2_addClause 6 = .ok (.if_icmp .ge 56, 3) := by decide +kernel
theorem dX2_addClause_9 : decode cX2_addClause 9 = .ok (.aload_n 0, 1) := by decide +kernel
theorem dX2_addClause_10 : decode cX2_addClause 10 = .ok (.getfield 9, 3) := by decide +kernel
theorem dX2_addClause_13 : decode cX2_addClause 13 = .ok (.aload_n 0, 1) := by decide +kernel
theorem dX2_addClause_14 : decode cX2_addClause 14 = .ok (.getfield 31, 3) := by decide +kernel
theorem dX2_addClause_17 : decode cX2_addClause 17 = .ok (.iload_n 1, 1) := by decide +kernel
theorem dX2_addClause_18 : decode cX2_addClause 18 = .ok (.iastore, 1) := by decide +kernel
theorem dX2_addClause_19 : decode cX2_addClause 19 = .ok (.aload_n 0, 1) := by decide +kernel
theorem dX2_addClause_20 : decode cX2_addClause 20 = .ok (.getfield 15, 3) := by decide +kernel
theorem dX2_addClause_23 : decode cX2_addClause 23 = .ok (.aload_n 0, 1) := by decide +kernel
theorem dX2_addClause_24 : decode cX2_addClause 24 = .ok (.getfield 31, 3) := by decide +kernel
theorem dX2_addClause_27 : decode cX2_addClause 27 = .ok (.iload_n 2, 1) := by decide +kernel
theorem dX2_addClause_28 : decode cX2_addClause 28 = .ok (.iastore, 1) := by decide +kernel
theorem dX2_addClause_29 : decode cX2_addClause 29 = .ok (.aload_n 0, 1) := by decide +kernel
theorem dX2_addClause_30 : decode cX2_addClause 30 = .ok (.getfield 18, 3) := by decide +kernel
theorem dX2_addClause_33 : decode cX2_addClause 33 = .ok (.aload_n 0, 1) := by decide +kernel
theorem dX2_addClause_34 : decode cX2_addClause 34 = .ok (.getfield 31, 3) := by decide +kernel
theorem dX2_addClause_37 : decode cX2_addClause 37 = .ok (.iload_n 3, 1) := by decide +kernel
theorem dX2_addClause_38 : decode cX2_addClause 38 = .ok (.iastore, 1) := by decide +kernel
theorem dX2_addClause_39 : decode cX2_addClause 39 = .ok (.aload_n 0, 1) := by decide +kernel
theorem dX2_addClause_40 : decode cX2_addClause 40 = .ok (.getfield 21, 3) := by decide +kernel
theorem dX2_addClause_43 : decode cX2_addClause 43 = .ok (.aload_n 0, 1) := by decide +kernel
theorem dX2_addClause_44 : decode cX2_addClause 44 = .ok (.getfield 31, 3) := by decide +kernel
theorem dX2_addClause_47 : decode cX2_addClause 47 = .ok (.aload_n 0, 1) := by decide +kernel
theorem dX2_addClause_48 : decode cX2_addClause 48 = .ok (.getfield 40, 3) := by decide +kernel
theorem dX2_addClause_51 : decode cX2_addClause 51 = .ok (.iastore, 1) := by decide +kernel
theorem dX2_addClause_52 : decode cX2_addClause 52 = .ok (.aload_n 0, 1) := by decide +kernel
theorem dX2_addClause_53 : decode cX2_addClause 53 = .ok (.dup, 1) := by decide +kernel
theorem dX2_addClause_54 : decode cX2_addClause 54 = .ok (.getfield 31, 3) := by decide +kernel
theorem dX2_addClause_57 : decode cX2_addClause 57 = .ok (.iconst 1, 1) := by decide +kernel
theorem dX2_addClause_58 : decode cX2_addClause 58 = .ok (.iadd, 1) := by decide +kernel
theorem dX2_addClause_59 : decode cX2_addClause 59 = .ok (.putfield 31, 3) := by decide +kernel
theorem dX2_addClause_62 : decode cX2_addClause 62 = .ok (.return_, 1) := by decide +kernel
theorem dX2_lastClause_0 : decode cX2_lastClause 0 = .ok (.aload_n 0, 1) := by decide +kernel
theorem dX2_lastClause_1 : decode cX2_lastClause 1 = .ok (.getfield 31, 3) := by decide +kernel
theorem dX2_lastClause_4 : decode cX2_lastClause 4 = .ok (.iconst 1, 1) := by decide +kernel
theorem dX2_lastClause_5 : decode cX2_lastClause 5 = .ok (.isub, 1) := by decide +kernel
theorem dX2_lastClause_6 : decode cX2_lastClause 6 = .ok (.istore 4, 2) := by decide +kernel
theorem dX2_lastClause_8 : decode cX2_lastClause 8 = .ok (.iload 4, 2) := by decide +kernel
theorem dX2_lastClause_10 : decode cX2_lastClause 10 = .ok (.ifCond .lt 38, 3) := by decide +kernel
theorem dX2_lastClause_13 : decode cX2_lastClause 13 = .ok (.aload_n 0, 1) := by decide +kernel
theorem dX2_lastClause_14 : decode cX2_lastClause 14 = .ok (.getfield 9, 3) := by decide +kernel
theorem dX2_lastClause_17 : decode cX2_lastClause 17 = .ok (.iload 4, 2) := by decide +kernel
theorem dX2_lastClause_19 : decode cX2_lastClause 19 = .ok (.iaload, 1) := by decide +kernel
theorem dX2_lastClause_20 : decode cX2_lastClause 20 = .ok (.iload_n 1, 1) := by decide +kernel
theorem dX2_lastClause_21 : decode cX2_lastClause 21 = .ok (.if_icmp .ne 21, 3) := by decide +kernel
theorem dX2_lastClause_24 : decode cX2_lastClause 24 = .ok (.iload_n 1, 1) := by decide +kernel
theorem dX2_lastClause_25 : decode cX2_lastClause 25 = .ok (.ifCond .ne 14, 3) := by decide +kernel
theorem dX2_lastClause_28 : decode cX2_lastClause 28 = .ok (.aload_n 0, 1) := by decide +kernel
theorem dX2_lastClause_29 : decode cX2_lastClause 29 = .ok (.iload 4, 2) := by decide +kernel
theorem dX2_lastClause_31 : decode cX2_lastClause 31 = .ok (.aload_n 2, 1) := by decide +kernel
theorem dX2_lastClause_32 : decode cX2_lastClause 32 = .ok (.iload_n 3, 1) := by decide +kernel
theorem dX2_lastClause_33 : decode cX2_lastClause 33 = .ok (.invokevirtual 43, 3) := by decide +kernel
theorem dX2_lastClause_36 : decode cX2_lastClause 36 = .ok (.ifCond .eq 6, 3) := by decide +kernel
theorem dX2_lastClause_39 : decode cX2_lastClause 39 = .ok (.iload 4, 2) := by decide +kernel
theorem dX2_lastClause_41 : decode cX2_lastClause 41 = .ok (.ireturn, 1) := by decide +kernel
theorem dX2_lastClause_42 : decode cX2_lastClause 42 = .ok (.iinc 4 (-1), 3) := by decide +kernel
theorem dX2_lastClause_45 : decode cX2_lastClause 45 = .ok (.goto (-37), 3) := by decide +kernel
theorem dX2_lastClause_48 : decode cX2_lastClause 48 = .ok (.iconst (-1), 1) := by decide +kernel
theorem dX2_lastClause_49 : decode cX2_lastClause 49 = .ok (.ireturn, 1) := by decide +kernel
theorem dX2_holds_0 : decode cX2_holds 0 = .ok (.iconst 0, 1) := by decide +kernel
theorem dX2_holds_1 : decode cX2_holds 1 = .ok (.istore 4, 2) := by decide +kernel
theorem dX2_holds_3 : decode cX2_holds 3 = .ok (.aload_n 0, 1) := by decide +kernel
theorem dX2_holds_4 : decode cX2_holds 4 = .ok (.getfield 18, 3) := by decide +kernel
theorem dX2_holds_7 : decode cX2_holds 7 = .ok (.iload_n 1, 1) := by decide +kernel
theorem dX2_holds_8 : decode cX2_holds 8 = .ok (.iaload, 1) := by decide +kernel
theorem dX2_holds_9 : decode cX2_holds 9 = .ok (.istore 5, 2) := by decide +kernel
theorem dX2_holds_11 : decode cX2_holds 11 = .ok (.iload 5, 2) := by decide +kernel
theorem dX2_holds_13 : decode cX2_holds 13 = .ok (.aload_n 0, 1) := by decide +kernel
theorem dX2_holds_14 : decode cX2_holds 14 = .ok (.getfield 21, 3) := by decide +kernel
theorem dX2_holds_17 : decode cX2_holds 17 = .ok (.iload_n 1, 1) := by decide +kernel
theorem dX2_holds_18 : decode cX2_holds 18 = .ok (.iaload, 1) := by decide +kernel
theorem dX2_holds_19 : decode cX2_holds 19 = .ok (.if_icmp .ge 121, 3) := by decide +kernel
theorem dX2_holds_22 : decode cX2_holds 22 = .ok (.iload 5, 2) := by decide +kernel
theorem dX2_holds_24 : decode cX2_holds 24 = .ok (.bipush 120, 2) := by decide +kernel
theorem dX2_holds_26 : decode cX2_holds 26 = .ok (.if_icmp .ge 114, 3) := by decide +kernel
theorem dX2_holds_29 : decode cX2_holds 29 = .ok (.aload_n 0, 1) := by decide +kernel
theorem dX2_holds_30 : decode cX2_holds 30 = .ok (.getfield 24, 3) := by decide +kernel
theorem dX2_holds_33 : decode cX2_holds 33 = .ok (.iload 5, 2) := by decide +kernel
theorem dX2_holds_35 : decode cX2_holds 35 = .ok (.iaload, 1) := by decide +kernel
theorem dX2_holds_36 : decode cX2_holds 36 = .ok (.sipush 1000, 3) := by decide +kernel
theorem dX2_holds_39 : decode cX2_holds 39 = .ok (.idiv, 1) := by decide +kernel
theorem dX2_holds_40 : decode cX2_holds 40 = .ok (.istore 6, 2) := by decide +kernel
theorem dX2_holds_42 : decode cX2_holds 42 = .ok (.iload 6, 2) := by decide +kernel
theorem dX2_holds_44 : decode cX2_holds 44 = .ok (.bipush 8, 2) := by decide +kernel
theorem dX2_holds_46 : decode cX2_holds 46 = .ok (.if_icmp .ne 12, 3) := by decide +kernel
theorem dX2_holds_49 : decode cX2_holds 49 = .ok (.iload 4, 2) := by decide +kernel
theorem dX2_holds_51 : decode cX2_holds 51 = .ok (.iconst 1, 1) := by decide +kernel
theorem dX2_holds_52 : decode cX2_holds 52 = .ok (.ixor, 1) := by decide +kernel
theorem dX2_holds_53 : decode cX2_holds 53 = .ok (.istore 4, 2) := by decide +kernel
theorem dX2_holds_55 : decode cX2_holds 55 = .ok (.goto 79, 3) := by decide +kernel
theorem dX2_holds_58 : decode cX2_holds 58 = .ok (.iload 6, 2) := by decide +kernel
theorem dX2_holds_60 : decode cX2_holds 60 = .ok (.bipush 9, 2) := by decide +kernel
theorem dX2_holds_62 : decode cX2_holds 62 = .ok (.if_icmp .ne 18, 3) := by decide +kernel
theorem dX2_holds_65 : decode cX2_holds 65 = .ok (.iload 4, 2) := by decide +kernel
theorem dX2_holds_67 : decode cX2_holds 67 = .ok (.iconst 1, 1) := by decide +kernel
theorem dX2_holds_68 : decode cX2_holds 68 = .ok (.iushr, 1) := by decide +kernel
theorem dX2_holds_69 : decode cX2_holds 69 = .ok (.iload 4, 2) := by decide +kernel
theorem dX2_holds_71 : decode cX2_holds 71 = .ok (.bipush (-2), 2) := by decide +kernel
theorem dX2_holds_73 : decode cX2_holds 73 = .ok (.ior, 1) := by decide +kernel
theorem dX2_holds_74 : decode cX2_holds 74 = .ok (.iand, 1) := by decide +kernel
theorem dX2_holds_75 : decode cX2_holds 75 = .ok (.istore 4, 2) := by decide +kernel
theorem dX2_holds_77 : decode cX2_holds 77 = .ok (.goto 57, 3) := by decide +kernel
theorem dX2_holds_80 : decode cX2_holds 80 = .ok (.iload 6, 2) := by decide +kernel
theorem dX2_holds_82 : decode cX2_holds 82 = .ok (.bipush 10, 2) := by decide +kernel
theorem dX2_holds_84 : decode cX2_holds 84 = .ok (.if_icmp .ne 17, 3) := by decide +kernel
theorem dX2_holds_87 : decode cX2_holds 87 = .ok (.iload 4, 2) := by decide +kernel
theorem dX2_holds_89 : decode cX2_holds 89 = .ok (.iconst 1, 1) := by decide +kernel
theorem dX2_holds_90 : decode cX2_holds 90 = .ok (.iushr, 1) := by decide +kernel
theorem dX2_holds_91 : decode cX2_holds 91 = .ok (.iload 4, 2) := by decide +kernel
theorem dX2_holds_93 : decode cX2_holds 93 = .ok (.iconst 1, 1) := by decide +kernel
theorem dX2_holds_94 : decode cX2_holds 94 = .ok (.iand, 1) := by decide +kernel
theorem dX2_holds_95 : decode cX2_holds 95 = .ok (.ior, 1) := by decide +kernel
theorem dX2_holds_96 : decode cX2_holds 96 = .ok (.istore 4, 2) := by decide +kernel
theorem dX2_holds_98 : decode cX2_holds 98 = .ok (.goto 36, 3) := by decide +kernel
theorem dX2_holds_101 : decode cX2_holds 101 = .ok (.iload 4, 2) := by decide +kernel
theorem dX2_holds_103 : decode cX2_holds 103 = .ok (.iconst 1, 1) := by decide +kernel
theorem dX2_holds_104 : decode cX2_holds 104 = .ok (.ishl, 1) := by decide +kernel
theorem dX2_holds_105 : decode cX2_holds 105 = .ok (.iload 6, 2) := by decide +kernel
theorem dX2_holds_107 : decode cX2_holds 107 = .ok (.aload_n 0, 1) := by decide +kernel
theorem dX2_holds_108 : decode cX2_holds 108 = .ok (.getfield 24, 3) := by decide +kernel
theorem dX2_holds_111 : decode cX2_holds 111 = .ok (.iload 5, 2) := by decide +kernel
theorem dX2_holds_113 : decode cX2_holds 113 = .ok (.iaload, 1) := by decide +kernel
theorem dX2_holds_114 : decode cX2_holds 114 = .ok (.sipush 1000, 3) := by decide +kernel
theorem dX2_holds_117 : decode cX2_holds 117 = .ok (.irem, 1) := by decide +kernel
theorem dX2_holds_118 : decode cX2_holds 118 = .ok (.aload_n 2, 1) := by decide +kernel
theorem dX2_holds_119 : decode cX2_holds 119 = .ok (.iload_n 3, 1) := by decide +kernel
theorem dX2_holds_120 : decode cX2_holds 120 = .ok (.invokestatic 47, 3) := by decide +kernel
theorem dX2_holds_123 : decode cX2_holds 123 = .ok (.ifCond .eq 7, 3) := by decide +kernel
theorem dX2_holds_126 : decode cX2_holds 126 = .ok (.iconst 1, 1) := by decide +kernel
theorem dX2_holds_127 : decode cX2_holds 127 = .ok (.goto 4, 3) := by decide +kernel
theorem dX2_holds_130 : decode cX2_holds 130 = .ok (.iconst 0, 1) := by decide +kernel
theorem dX2_holds_131 : decode cX2_holds 131 = .ok (.ior, 1) := by decide +kernel
theorem dX2_holds_132 : decode cX2_holds 132 = .ok (.istore 4, 2) := by decide +kernel
theorem dX2_holds_134 : decode cX2_holds 134 = .ok (.iinc 5 1, 3) := by decide +kernel
theorem dX2_holds_137 : decode cX2_holds 137 = .ok (.goto (-126), 3) := by decide +kernel
theorem dX2_holds_140 : decode cX2_holds 140 = .ok (.iload 4, 2) := by decide +kernel
theorem dX2_holds_142 : decode cX2_holds 142 = .ok (.iconst 1, 1) := by decide +kernel
theorem dX2_holds_143 : decode cX2_holds 143 = .ok (.iand, 1) := by decide +kernel
theorem dX2_holds_144 : decode cX2_holds 144 = .ok (.ifCond .eq 7, 3) := by decide +kernel
theorem dX2_holds_147 : decode cX2_holds 147 = .ok (.iconst 1, 1) := by decide +kernel
theorem dX2_holds_148 : decode cX2_holds 148 = .ok (.goto 4, 3) := by decide +kernel
theorem dX2_holds_151 : decode cX2_holds 151 = .ok (.iconst 0, 1) := by decide +kernel
theorem dX2_holds_152 : decode cX2_holds 152 = .ok (.ireturn, 1) := by decide +kernel
theorem dX2_isSo_0 : decode cX2_isSo 0 = .ok (.iload_n 0, 1) := by decide +kernel
theorem dX2_isSo_1 : decode cX2_isSo 1 = .ok (.tableswitch 155 0 6 #[43, 59, 75, 91, 107, 123, 139], 43) := by decide +kernel
theorem dX2_isSo_44 : decode cX2_isSo 44 = .ok (.aload_n 2, 1) := by decide +kernel
theorem dX2_isSo_45 : decode cX2_isSo 45 = .ok (.getfield 51, 3) := by decide +kernel
theorem dX2_isSo_48 : decode cX2_isSo 48 = .ok (.iload_n 3, 1) := by decide +kernel
theorem dX2_isSo_49 : decode cX2_isSo 49 = .ok (.iaload, 1) := by decide +kernel
theorem dX2_isSo_50 : decode cX2_isSo 50 = .ok (.iload_n 1, 1) := by decide +kernel
theorem dX2_isSo_51 : decode cX2_isSo 51 = .ok (.if_icmp .ne 7, 3) := by decide +kernel
theorem dX2_isSo_54 : decode cX2_isSo 54 = .ok (.iconst 1, 1) := by decide +kernel
theorem dX2_isSo_55 : decode cX2_isSo 55 = .ok (.goto 4, 3) := by decide +kernel
theorem dX2_isSo_58 : decode cX2_isSo 58 = .ok (.iconst 0, 1) := by decide +kernel
theorem dX2_isSo_59 : decode cX2_isSo 59 = .ok (.ireturn, 1) := by decide +kernel
theorem dX2_isSo_60 : decode cX2_isSo 60 = .ok (.aload_n 2, 1) := by decide +kernel
theorem dX2_isSo_61 : decode cX2_isSo 61 = .ok (.getfield 56, 3) := by decide +kernel
theorem dX2_isSo_64 : decode cX2_isSo 64 = .ok (.iload_n 3, 1) := by decide +kernel
theorem dX2_isSo_65 : decode cX2_isSo 65 = .ok (.iaload, 1) := by decide +kernel
theorem dX2_isSo_66 : decode cX2_isSo 66 = .ok (.iload_n 1, 1) := by decide +kernel
theorem dX2_isSo_67 : decode cX2_isSo 67 = .ok (.if_icmp .ne 7, 3) := by decide +kernel
theorem dX2_isSo_70 : decode cX2_isSo 70 = .ok (.iconst 1, 1) := by decide +kernel
theorem dX2_isSo_71 : decode cX2_isSo 71 = .ok (.goto 4, 3) := by decide +kernel
theorem dX2_isSo_74 : decode cX2_isSo 74 = .ok (.iconst 0, 1) := by decide +kernel
theorem dX2_isSo_75 : decode cX2_isSo 75 = .ok (.ireturn, 1) := by decide +kernel
theorem dX2_isSo_76 : decode cX2_isSo 76 = .ok (.aload_n 2, 1) := by decide +kernel
theorem dX2_isSo_77 : decode cX2_isSo 77 = .ok (.getfield 59, 3) := by decide +kernel
theorem dX2_isSo_80 : decode cX2_isSo 80 = .ok (.iload_n 3, 1) := by decide +kernel
theorem dX2_isSo_81 : decode cX2_isSo 81 = .ok (.iaload, 1) := by decide +kernel
theorem dX2_isSo_82 : decode cX2_isSo 82 = .ok (.iload_n 1, 1) := by decide +kernel
theorem dX2_isSo_83 : decode cX2_isSo 83 = .ok (.if_icmp .ge 7, 3) := by decide +kernel
theorem dX2_isSo_86 : decode cX2_isSo 86 = .ok (.iconst 1, 1) := by decide +kernel
theorem dX2_isSo_87 : decode cX2_isSo 87 = .ok (.goto 4, 3) := by decide +kernel
theorem dX2_isSo_90 : decode cX2_isSo 90 = .ok (.iconst 0, 1) := by decide +kernel
theorem dX2_isSo_91 : decode cX2_isSo 91 = .ok (.ireturn, 1) := by decide +kernel
theorem dX2_isSo_92 : decode cX2_isSo 92 = .ok (.aload_n 2, 1) := by decide +kernel
theorem dX2_isSo_93 : decode cX2_isSo 93 = .ok (.getfield 59, 3) := by decide +kernel
theorem dX2_isSo_96 : decode cX2_isSo 96 = .ok (.iload_n 3, 1) := by decide +kernel
theorem dX2_isSo_97 : decode cX2_isSo 97 = .ok (.iaload, 1) := by decide +kernel
theorem dX2_isSo_98 : decode cX2_isSo 98 = .ok (.iload_n 1, 1) := by decide +kernel
theorem dX2_isSo_99 : decode cX2_isSo 99 = .ok (.if_icmp .le 7, 3) := by decide +kernel
theorem dX2_isSo_102 : decode cX2_isSo 102 = .ok (.iconst 1, 1) := by decide +kernel
theorem dX2_isSo_103 : decode cX2_isSo 103 = .ok (.goto 4, 3) := by decide +kernel
theorem dX2_isSo_106 : decode cX2_isSo 106 = .ok (.iconst 0, 1) := by decide +kernel
theorem dX2_isSo_107 : decode cX2_isSo 107 = .ok (.ireturn, 1) := by decide +kernel
theorem dX2_isSo_108 : decode cX2_isSo 108 = .ok (.aload_n 2, 1) := by decide +kernel
theorem dX2_isSo_109 : decode cX2_isSo 109 = .ok (.getfield 62, 3) := by decide +kernel
theorem dX2_isSo_112 : decode cX2_isSo 112 = .ok (.iload_n 3, 1) := by decide +kernel
theorem dX2_isSo_113 : decode cX2_isSo 113 = .ok (.iaload, 1) := by decide +kernel
theorem dX2_isSo_114 : decode cX2_isSo 114 = .ok (.iload_n 1, 1) := by decide +kernel
theorem dX2_isSo_115 : decode cX2_isSo 115 = .ok (.if_icmp .ge 7, 3) := by decide +kernel
theorem dX2_isSo_118 : decode cX2_isSo 118 = .ok (.iconst 1, 1) := by decide +kernel
theorem dX2_isSo_119 : decode cX2_isSo 119 = .ok (.goto 4, 3) := by decide +kernel
theorem dX2_isSo_122 : decode cX2_isSo 122 = .ok (.iconst 0, 1) := by decide +kernel
theorem dX2_isSo_123 : decode cX2_isSo 123 = .ok (.ireturn, 1) := by decide +kernel
theorem dX2_isSo_124 : decode cX2_isSo 124 = .ok (.aload_n 2, 1) := by decide +kernel
theorem dX2_isSo_125 : decode cX2_isSo 125 = .ok (.getfield 62, 3) := by decide +kernel
theorem dX2_isSo_128 : decode cX2_isSo 128 = .ok (.iload_n 3, 1) := by decide +kernel
theorem dX2_isSo_129 : decode cX2_isSo 129 = .ok (.iaload, 1) := by decide +kernel
theorem dX2_isSo_130 : decode cX2_isSo 130 = .ok (.iload_n 1, 1) := by decide +kernel
theorem dX2_isSo_131 : decode cX2_isSo 131 = .ok (.if_icmp .le 7, 3) := by decide +kernel
theorem dX2_isSo_134 : decode cX2_isSo 134 = .ok (.iconst 1, 1) := by decide +kernel
theorem dX2_isSo_135 : decode cX2_isSo 135 = .ok (.goto 4, 3) := by decide +kernel
theorem dX2_isSo_138 : decode cX2_isSo 138 = .ok (.iconst 0, 1) := by decide +kernel
theorem dX2_isSo_139 : decode cX2_isSo 139 = .ok (.ireturn, 1) := by decide +kernel
theorem dX2_isSo_140 : decode cX2_isSo 140 = .ok (.aload_n 2, 1) := by decide +kernel
theorem dX2_isSo_141 : decode cX2_isSo 141 = .ok (.getfield 65, 3) := by decide +kernel
theorem dX2_isSo_144 : decode cX2_isSo 144 = .ok (.iload_n 3, 1) := by decide +kernel
theorem dX2_isSo_145 : decode cX2_isSo 145 = .ok (.iaload, 1) := by decide +kernel
theorem dX2_isSo_146 : decode cX2_isSo 146 = .ok (.iload_n 1, 1) := by decide +kernel
theorem dX2_isSo_147 : decode cX2_isSo 147 = .ok (.if_icmp .ge 7, 3) := by decide +kernel
theorem dX2_isSo_150 : decode cX2_isSo 150 = .ok (.iconst 1, 1) := by decide +kernel
theorem dX2_isSo_151 : decode cX2_isSo 151 = .ok (.goto 4, 3) := by decide +kernel
theorem dX2_isSo_154 : decode cX2_isSo 154 = .ok (.iconst 0, 1) := by decide +kernel
theorem dX2_isSo_155 : decode cX2_isSo 155 = .ok (.ireturn, 1) := by decide +kernel
theorem dX2_isSo_156 : decode cX2_isSo 156 = .ok (.aload_n 2, 1) := by decide +kernel
theorem dX2_isSo_157 : decode cX2_isSo 157 = .ok (.getfield 65, 3) := by decide +kernel
theorem dX2_isSo_160 : decode cX2_isSo 160 = .ok (.iload_n 3, 1) := by decide +kernel
theorem dX2_isSo_161 : decode cX2_isSo 161 = .ok (.iaload, 1) := by decide +kernel
theorem dX2_isSo_162 : decode cX2_isSo 162 = .ok (.iload_n 1, 1) := by decide +kernel
theorem dX2_isSo_163 : decode cX2_isSo 163 = .ok (.if_icmp .le 7, 3) := by decide +kernel
theorem dX2_isSo_166 : decode cX2_isSo 166 = .ok (.iconst 1, 1) := by decide +kernel
theorem dX2_isSo_167 : decode cX2_isSo 167 = .ok (.goto 4, 3) := by decide +kernel
theorem dX2_isSo_170 : decode cX2_isSo 170 = .ok (.iconst 0, 1) := by decide +kernel
theorem dX2_isSo_171 : decode cX2_isSo 171 = .ok (.ireturn, 1) := by decide +kernel
theorem dX3_init_0 : decode cX3_init 0 = .ok (.aload_n 0, 1) := by decide +kernel
theorem dX3_init_1 : decode cX3_init 1 = .ok (.invokespecial 3, 3) := by decide +kernel
theorem dX3_init_4 : decode cX3_init 4 = .ok (.aload_n 0, 1) := by decide +kernel
theorem dX3_init_5 : decode cX3_init 5 = .ok (.bipush 11, 2) := by decide +kernel
theorem dX3_init_7 : decode cX3_init 7 = .ok (.anewarray 9, 3) := by decide +kernel
theorem dX3_init_10 : decode cX3_init 10 = .ok (.putfield 11, 3) := by decide +kernel
theorem dX3_init_13 : decode cX3_init 13 = .ok (.iconst 0, 1) := by decide +kernel
theorem dX3_init_14 : decode cX3_init 14 = .ok (.istore_n 1, 1) := by decide +kernel
theorem dX3_init_15 : decode cX3_init 15 = .ok (.iload_n 1, 1) := by decide +kernel
theorem dX3_init_16 : decode cX3_init 16 = .ok (.aload_n 0, 1) := by decide +kernel
theorem dX3_init_17 : decode cX3_init 17 = .ok (.getfield 11, 3) := by decide +kernel
theorem dX3_init_20 : decode cX3_init 20 = .ok (.arraylength, 1) := by decide +kernel
theorem dX3_init_21 : decode cX3_init 21 = .ok (.if_icmp .ge 22, 3) := by decide +kernel
theorem dX3_init_24 : decode cX3_init 24 = .ok (.aload_n 0, 1) := by decide +kernel
theorem dX3_init_25 : decode cX3_init 25 = .ok (.getfield 11, 3) := by decide +kernel
theorem dX3_init_28 : decode cX3_init 28 = .ok (.iload_n 1, 1) := by decide +kernel
theorem dX3_init_29 : decode cX3_init 29 = .ok (.new 9, 3) := by decide +kernel
theorem dX3_init_32 : decode cX3_init 32 = .ok (.dup, 1) := by decide +kernel
theorem dX3_init_33 : decode cX3_init 33 = .ok (.invokespecial 17, 3) := by decide +kernel
theorem dX3_init_36 : decode cX3_init 36 = .ok (.aastore, 1) := by decide +kernel
theorem dX3_init_37 : decode cX3_init 37 = .ok (.iinc 1 1, 3) := by decide +kernel
theorem dX3_init_40 : decode cX3_init 40 = .ok (.goto (-25), 3) := by decide +kernel
theorem dX3_init_43 : decode cX3_init 43 = .ok (.return_, 1) := by decide +kernel
theorem dX3_copyFrom_0 : decode cX3_copyFrom 0 = .ok (.aload_n 0, 1) := by decide +kernel
theorem dX3_copyFrom_1 : decode cX3_copyFrom 1 = .ok (.aload_n 1, 1) := by decide +kernel
theorem dX3_copyFrom_2 : decode cX3_copyFrom 2 = .ok (.getfield 18, 3) := by decide +kernel
theorem dX3_copyFrom_5 : decode cX3_copyFrom 5 = .ok (.putfield 18, 3) := by decide +kernel
theorem dX3_copyFrom_8 : decode cX3_copyFrom 8 = .ok (.iconst 0, 1) := by decide +kernel
theorem dX3_copyFrom_9 : decode cX3_copyFrom 9 = .ok (.istore_n 2, 1) := by decide +kernel
theorem dX3_copyFrom_10 : decode cX3_copyFrom 10 = .ok (.iload_n 2, 1) := by decide +kernel
theorem dX3_copyFrom_11 : decode cX3_copyFrom 11 = .ok (.aload_n 0, 1) := by decide +kernel
theorem dX3_copyFrom_12 : decode cX3_copyFrom 12 = .ok (.getfield 18, 3) := by decide +kernel
theorem dX3_copyFrom_15 : decode cX3_copyFrom 15 = .ok (.if_icmp .ge 33, 3) := by decide +kernel
theorem dX3_copyFrom_18 : decode cX3_copyFrom 18 = .ok (.iload_n 2, 1) := by decide +kernel
theorem dX3_copyFrom_19 : decode cX3_copyFrom 19 = .ok (.aload_n 0, 1) := by decide +kernel
theorem dX3_copyFrom_20 : decode cX3_copyFrom 20 = .ok (.getfield 11, 3) := by decide +kernel
theorem dX3_copyFrom_23 : decode cX3_copyFrom 23 = .ok (.arraylength, 1) := by decide +kernel
theorem dX3_copyFrom_24 : decode cX3_copyFrom 24 = .ok (.if_icmp .ge 24, 3) := by decide +kernel
theorem dX3_copyFrom_27 : decode cX3_copyFrom 27 = .ok (.aload_n 0, 1) := by decide +kernel
theorem dX3_copyFrom_28 : decode cX3_copyFrom 28 = .ok (.getfield 11, 3) := by decide +kernel
theorem dX3_copyFrom_31 : decode cX3_copyFrom 31 = .ok (.iload_n 2, 1) := by decide +kernel
theorem dX3_copyFrom_32 : decode cX3_copyFrom 32 = .ok (.aaload, 1) := by decide +kernel
theorem dX3_copyFrom_33 : decode cX3_copyFrom 33 = .ok (.aload_n 1, 1) := by decide +kernel
theorem dX3_copyFrom_34 : decode cX3_copyFrom 34 = .ok (.getfield 11, 3) := by decide +kernel
theorem dX3_copyFrom_37 : decode cX3_copyFrom 37 = .ok (.iload_n 2, 1) := by decide +kernel
theorem dX3_copyFrom_38 : decode cX3_copyFrom 38 = .ok (.aaload, 1) := by decide +kernel
theorem dX3_copyFrom_39 : decode cX3_copyFrom 39 = .ok (.invokevirtual 22, 3) := by decide +kernel
theorem dX3_copyFrom_42 : decode cX3_copyFrom 42 = .ok (.iinc 2 1, 3) := by decide +kernel
theorem dX3_copyFrom_45 : decode cX3_copyFrom 45 = .ok (.goto (-35), 3) := by decide +kernel
theorem dX3_copyFrom_48 : decode cX3_copyFrom 48 = .ok (.return_, 1) := by decide +kernel
theorem dX3_spare_0 : decode cX3_spare 0 = .ok (.aload_n 0, 1) := by decide +kernel
theorem dX3_spare_1 : decode cX3_spare 1 = .ok (.getfield 11, 3) := by decide +kernel
theorem dX3_spare_4 : decode cX3_spare 4 = .ok (.aload_n 0, 1) := by decide +kernel
theorem dX3_spare_5 : decode cX3_spare 5 = .ok (.getfield 18, 3) := by decide +kernel
theorem dX3_spare_8 : decode cX3_spare 8 = .ok (.bipush 10, 2) := by decide +kernel
theorem dX3_spare_10 : decode cX3_spare 10 = .ok (.invokestatic 26, 3) := by decide +kernel
theorem dX3_spare_13 : decode cX3_spare 13 = .ok (.aaload, 1) := by decide +kernel
theorem dX3_spare_14 : decode cX3_spare 14 = .ok (.areturn, 1) := by decide +kernel
theorem dX3_accept_0 : decode cX3_accept 0 = .ok (.aload_n 0, 1) := by decide +kernel
theorem dX3_accept_1 : decode cX3_accept 1 = .ok (.getfield 18, 3) := by decide +kernel
theorem dX3_accept_4 : decode cX3_accept 4 = .ok (.istore_n 1, 1) := by decide +kernel
theorem dX3_accept_5 : decode cX3_accept 5 = .ok (.aload_n 0, 1) := by decide +kernel
theorem dX3_accept_6 : decode cX3_accept 6 = .ok (.aload_n 0, 1) := by decide +kernel
theorem dX3_accept_7 : decode cX3_accept 7 = .ok (.getfield 18, 3) := by decide +kernel
theorem dX3_accept_10 : decode cX3_accept 10 = .ok (.iconst 1, 1) := by decide +kernel
theorem dX3_accept_11 : decode cX3_accept 11 = .ok (.iadd, 1) := by decide +kernel
theorem dX3_accept_12 : decode cX3_accept 12 = .ok (.aload_n 0, 1) := by decide +kernel
theorem dX3_accept_13 : decode cX3_accept 13 = .ok (.getfield 11, 3) := by decide +kernel
theorem dX3_accept_16 : decode cX3_accept 16 = .ok (.arraylength, 1) := by decide +kernel
theorem dX3_accept_17 : decode cX3_accept 17 = .ok (.invokestatic 26, 3) := by decide +kernel
theorem dX3_accept_20 : decode cX3_accept 20 = .ok (.putfield 18, 3) := by decide +kernel
theorem dX3_accept_23 : decode cX3_accept 23 = .ok (.iload_n 1, 1) := by decide +kernel
theorem dX3_accept_24 : decode cX3_accept 24 = .ok (.ireturn, 1) := by decide +kernel
theorem dX3_forgetLast_0 : decode cX3_forgetLast 0 = .ok (.aload_n 0, 1) := by decide +kernel
theorem dX3_forgetLast_1 : decode cX3_forgetLast 1 = .ok (.iconst 0, 1) := by decide +kernel
theorem dX3_forgetLast_2 : decode cX3_forgetLast 2 = .ok (.aload_n 0, 1) := by decide +kernel
theorem dX3_forgetLast_3 : decode cX3_forgetLast 3 = .ok (.getfield 18, 3) := by decide +kernel
theorem dX3_forgetLast_6 : decode cX3_forgetLast 6 = .ok (.iconst 1, 1) := by decide +kernel
theorem dX3_forgetLast_7 : decode cX3_forgetLast 7 = .ok (.isub, 1) := by decide +kernel
theorem dX3_forgetLast_8 : decode cX3_forgetLast 8 = .ok (.invokestatic 32, 3) := by decide +kernel
theorem dX3_forgetLast_11 : decode cX3_forgetLast 11 = .ok (.putfield 18, 3) := by decide +kernel
theorem dX3_forgetLast_14 : decode cX3_forgetLast 14 = .ok (.return_, 1) := by decide +kernel
theorem dX3_numberBy_0 : decode cX3_numberBy 0 = .ok (.iload_n 1, 1) := by decide +kernel
theorem dX3_numberBy_1 : decode cX3_numberBy 1 = .ok (.ifCond .ge 9, 3) := by decide +kernel
theorem dX3_numberBy_4 : decode cX3_numberBy 4 = .ok (.getstatic 35, 3) := by decide +kernel
theorem dX3_numberBy_7 : decode cX3_numberBy 7 = .ok (.iload_n 2, 1) := by decide +kernel
theorem dX3_numberBy_8 : decode cX3_numberBy 8 = .ok (.iaload, 1) := by decide +kernel
theorem dX3_numberBy_9 : decode cX3_numberBy 9 = .ok (.ireturn, 1) := by decide +kernel
theorem dX3_numberBy_10 : decode cX3_numberBy 10 = .ok (.aload_n 0, 1) := by decide +kernel
theorem dX3_numberBy_11 : decode cX3_numberBy 11 = .ok (.getfield 11, 3) := by decide +kernel
theorem dX3_numberBy_14 : decode cX3_numberBy 14 = .ok (.iload_n 1, 1) := by decide +kernel
theorem dX3_numberBy_15 : decode cX3_numberBy 15 = .ok (.bipush 100, 2) := by decide +kernel
theorem dX3_numberBy_17 : decode cX3_numberBy 17 = .ok (.idiv, 1) := by decide +kernel
theorem dX3_numberBy_18 : decode cX3_numberBy 18 = .ok (.aaload, 1) := by decide +kernel
theorem dX3_numberBy_19 : decode cX3_numberBy 19 = .ok (.getfield 39, 3) := by decide +kernel
theorem dX3_numberBy_22 : decode cX3_numberBy 22 = .ok (.iload_n 1, 1) := by decide +kernel
theorem dX3_numberBy_23 : decode cX3_numberBy 23 = .ok (.bipush 100, 2) := by decide +kernel
theorem dX3_numberBy_25 : decode cX3_numberBy 25 = .ok (.irem, 1) := by decide +kernel
theorem dX3_numberBy_26 : decode cX3_numberBy 26 = .ok (.iaload, 1) := by decide +kernel
theorem dX3_numberBy_27 : decode cX3_numberBy 27 = .ok (.ireturn, 1) := by decide +kernel
theorem dX3_ruling_0 : decode cX3_ruling 0 = .ok (.ldc 42, 2) := by decide +kernel
theorem dX3_ruling_2 : decode cX3_ruling 2 = .ok (.istore 5, 2) := by decide +kernel
theorem dX3_ruling_4 : decode cX3_ruling 4 = .ok (.iconst 0, 1) := by decide +kernel
theorem dX3_ruling_5 : decode cX3_ruling 5 = .ok (.istore 6, 2) := by decide +kernel
theorem dX3_ruling_7 : decode cX3_ruling 7 = .ok (.iload 6, 2) := by decide +kernel
theorem dX3_ruling_9 : decode cX3_ruling 9 = .ok (.aload_n 0, 1) := by decide +kernel
theorem dX3_ruling_10 : decode cX3_ruling 10 = .ok (.getfield 18, 3) := by decide +kernel
theorem dX3_ruling_13 : decode cX3_ruling 13 = .ok (.if_icmp .ge 62, 3) := by decide +kernel
theorem dX3_ruling_16 : decode cX3_ruling 16 = .ok (.aload_n 0, 1) := by decide +kernel
theorem dX3_ruling_17 : decode cX3_ruling 17 = .ok (.iload 5, 2) := by decide +kernel
theorem dX3_ruling_19 : decode cX3_ruling 19 = .ok (.iload 4, 2) := by decide +kernel
theorem dX3_ruling_21 : decode cX3_ruling 21 = .ok (.invokevirtual 43, 3) := by decide +kernel
theorem dX3_ruling_24 : decode cX3_ruling 24 = .ok (.istore 5, 2) := by decide +kernel
theorem dX3_ruling_26 : decode cX3_ruling 26 = .ok (.iload 5, 2) := by decide +kernel
theorem dX3_ruling_28 : decode cX3_ruling 28 = .ok (.ifCond .ge 6, 3) := by decide +kernel
theorem dX3_ruling_31 : decode cX3_ruling 31 = .ok (.bipush (-5), 2) := by decide +kernel
theorem dX3_ruling_33 : decode cX3_ruling 33 = .ok (.ireturn, 1) := by decide +kernel
theorem dX3_ruling_34 : decode cX3_ruling 34 = .ok (.aload_n 0, 1) := by decide +kernel
theorem dX3_ruling_35 : decode cX3_ruling 35 = .ok (.getfield 11, 3) := by decide +kernel
theorem dX3_ruling_38 : decode cX3_ruling 38 = .ok (.iload 5, 2) := by decide +kernel
theorem dX3_ruling_40 : decode cX3_ruling 40 = .ok (.bipush 100, 2) := by decide +kernel
theorem dX3_ruling_42 : decode cX3_ruling 42 = .ok (.irem, 1) := by decide +kernel
theorem dX3_ruling_43 : decode cX3_ruling 43 = .ok (.aaload, 1) := by decide +kernel
theorem dX3_ruling_44 : decode cX3_ruling 44 = .ok (.iload_n 1, 1) := by decide +kernel
theorem dX3_ruling_45 : decode cX3_ruling 45 = .ok (.aload_n 2, 1) := by decide +kernel
theorem dX3_ruling_46 : decode cX3_ruling 46 = .ok (.iload_n 3, 1) := by decide +kernel
theorem dX3_ruling_47 : decode cX3_ruling 47 = .ok (.invokevirtual 46, 3) := by decide +kernel
theorem dX3_ruling_50 : decode cX3_ruling 50 = .ok (.istore 7, 2) := by decide +kernel
theorem dX3_ruling_52 : decode cX3_ruling 52 = .ok (.iload 7, 2) := by decide +kernel
theorem dX3_ruling_54 : decode cX3_ruling 54 = .ok (.ifCond .lt 15, 3) := by decide +kernel
theorem dX3_ruling_57 : decode cX3_ruling 57 = .ok (.iload 5, 2) := by decide +kernel
theorem dX3_ruling_59 : decode cX3_ruling 59 = .ok (.bipush 100, 2) := by decide +kernel
theorem dX3_ruling_61 : decode cX3_ruling 61 = .ok (.irem, 1) := by decide +kernel
theorem dX3_ruling_62 : decode cX3_ruling 62 = .ok (.bipush 100, 2) := by decide +kernel
theorem dX3_ruling_64 : decode cX3_ruling 64 = .ok (.imul, 1) := by decide +kernel
theorem dX3_ruling_65 : decode cX3_ruling 65 = .ok (.iload 7, 2) := by decide +kernel
theorem dX3_ruling_67 : decode cX3_ruling 67 = .ok (.iadd, 1) := by decide +kernel
theorem dX3_ruling_68 : decode cX3_ruling 68 = .ok (.ireturn, 1) := by decide +kernel
theorem dX3_ruling_69 : decode cX3_ruling 69 = .ok (.iinc 6 1, 3) := by decide +kernel
theorem dX3_ruling_72 : decode cX3_ruling 72 = .ok (.goto (-65), 3) := by decide +kernel
theorem dX3_ruling_75 : decode cX3_ruling 75 = .ok (.bipush (-5), 2) := by decide +kernel
theorem dX3_ruling_77 : decode cX3_ruling 77 = .ok (.ireturn, 1) := by decide +kernel
theorem dX3_keyBelow_0 : decode cX3_keyBelow 0 = .ok (.iconst (-1), 1) := by decide +kernel
theorem dX3_keyBelow_1 : decode cX3_keyBelow 1 = .ok (.istore_n 3, 1) := by decide +kernel
theorem dX3_keyBelow_2 : decode cX3_keyBelow 2 = .ok (.iconst 0, 1) := by decide +kernel
theorem dX3_keyBelow_3 : decode cX3_keyBelow 3 = .ok (.istore 4, 2) := by decide +kernel
theorem dX3_keyBelow_5 : decode cX3_keyBelow 5 = .ok (.iload 4, 2) := by decide +kernel
theorem dX3_keyBelow_7 : decode cX3_keyBelow 7 = .ok (.aload_n 0, 1) := by decide +kernel
theorem dX3_keyBelow_8 : decode cX3_keyBelow 8 = .ok (.getfield 18, 3) := by decide +kernel
theorem dX3_keyBelow_11 : decode cX3_keyBelow 11 = .ok (.if_icmp .ge 56, 3) := by decide +kernel
theorem dX3_keyBelow_14 : decode cX3_keyBelow 14 = .ok (.aload_n 0, 1) := by decide +kernel
theorem dX3_keyBelow_15 : decode cX3_keyBelow 15 = .ok (.getfield 11, 3) := by decide +kernel
theorem dX3_keyBelow_18 : decode cX3_keyBelow 18 = .ok (.iload 4, 2) := by decide +kernel
theorem dX3_keyBelow_20 : decode cX3_keyBelow 20 = .ok (.aaload, 1) := by decide +kernel
theorem dX3_keyBelow_21 : decode cX3_keyBelow 21 = .ok (.getfield 50, 3) := by decide +kernel
theorem dX3_keyBelow_24 : decode cX3_keyBelow 24 = .ok (.bipush 100, 2) := by decide +kernel
theorem dX3_keyBelow_26 : decode cX3_keyBelow 26 = .ok (.imul, 1) := by decide +kernel
theorem dX3_keyBelow_27 : decode cX3_keyBelow 27 = .ok (.iload 4, 2) := by decide +kernel
theorem dX3_keyBelow_29 : decode cX3_keyBelow 29 = .ok (.iadd, 1) := by decide +kernel
theorem dX3_keyBelow_30 : decode cX3_keyBelow 30 = .ok (.istore 5, 2) := by decide +kernel
theorem dX3_keyBelow_32 : decode cX3_keyBelow 32 = .ok (.aload_n 0, 1) := by decide +kernel
theorem dX3_keyBelow_33 : decode cX3_keyBelow 33 = .ok (.getfield 11, 3) := by decide +kernel
theorem dX3_keyBelow_36 : decode cX3_keyBelow 36 = .ok (.iload 4, 2) := by decide +kernel
theorem dX3_keyBelow_38 : decode cX3_keyBelow 38 = .ok (.aaload, 1) := by decide +kernel
theorem dX3_keyBelow_39 : decode cX3_keyBelow 39 = .ok (.getfield 50, 3) := by decide +kernel
theorem dX3_keyBelow_42 : decode cX3_keyBelow 42 = .ok (.iload_n 2, 1) := by decide +kernel
theorem dX3_keyBelow_43 : decode cX3_keyBelow 43 = .ok (.if_icmp .gt 18, 3) := by decide +kernel
theorem dX3_keyBelow_46 : decode cX3_keyBelow 46 = .ok (.iload 5, 2) := by decide +kernel
theorem dX3_keyBelow_48 : decode cX3_keyBelow 48 = .ok (.iload_n 1, 1) := by decide +kernel
theorem dX3_keyBelow_49 : decode cX3_keyBelow 49 = .ok (.if_icmp .ge 12, 3) := by decide +kernel
theorem dX3_keyBelow_52 : decode cX3_keyBelow 52 = .ok (.iload 5, 2) := by decide +kernel
theorem dX3_keyBelow_54 : decode cX3_keyBelow 54 = .ok (.iload_n 3, 1) := by decide +kernel
theorem dX3_keyBelow_55 : decode cX3_keyBelow 55 = .ok (.if_icmp .le 6, 3) := by decide +kernel
theorem dX3_keyBelow_58 : decode cX3_keyBelow 58 = .ok (.iload 5, 2) := by decide +kernel
theorem dX3_keyBelow_60 : decode cX3_keyBelow 60 = .ok (.istore_n 3, 1) := by decide +kernel
theorem dX3_keyBelow_61 : decode cX3_keyBelow 61 = .ok (.iinc 4 1, 3) := by decide +kernel
theorem dX3_keyBelow_64 : decode cX3_keyBelow 64 = .ok (.goto (-59), 3) := by decide +kernel
theorem dX3_keyBelow_67 : decode cX3_keyBelow 67 = .ok (.iload_n 3, 1) := by decide +kernel
theorem dX3_keyBelow_68 : decode cX3_keyBelow 68 = .ok (.ireturn, 1) := by decide +kernel
theorem dX4_init_0 : decode cX4_init 0 = .ok (.aload_n 0, 1) := by decide +kernel
theorem dX4_init_1 : decode cX4_init 1 = .ok (.invokespecial 3, 3) := by decide +kernel
theorem dX4_init_4 : decode cX4_init 4 = .ok (.return_, 1) := by decide +kernel
theorem dX4_read_0 : decode cX4_read 0 = .ok (.aload_n 0, 1) := by decide +kernel
theorem dX4_read_1 : decode cX4_read 1 = .ok (.aload_n 1, 1) := by decide +kernel
theorem dX4_read_2 : decode cX4_read 2 = .ok (.putfield 9, 3) := by decide +kernel
theorem dX4_read_5 : decode cX4_read 5 = .ok (.aload_n 0, 1) := by decide +kernel
theorem dX4_read_6 : decode cX4_read 6 = .ok (.aload_n 2, 1) := by decide +kernel
theorem dX4_read_7 : decode cX4_read 7 = .ok (.putfield 15, 3) := by decide +kernel
theorem dX4_read_10 : decode cX4_read 10 = .ok (.aload_n 0, 1) := by decide +kernel
theorem dX4_read_11 : decode cX4_read 11 = .ok (.iconst 0, 1) := by decide +kernel
theorem dX4_read_12 : decode cX4_read 12 = .ok (.putfield 19, 3) := by decide +kernel
theorem dX4_read_15 : decode cX4_read 15 = .ok (.aload_n 0, 1) := by decide +kernel
theorem dX4_read_16 : decode cX4_read 16 = .ok (.iconst 0, 1) := by decide +kernel
theorem dX4_read_17 : decode cX4_read 17 = .ok (.putfield 23, 3) := by decide +kernel
theorem dX4_read_20 : decode cX4_read 20 = .ok (.aload_n 0, 1) := by decide +kernel
theorem dX4_read_21 : decode cX4_read 21 = .ok (.getfield 15, 3) := by decide +kernel
theorem dX4_read_24 : decode cX4_read 24 = .ok (.iload_n 3, 1) := by decide +kernel
theorem dX4_read_25 : decode cX4_read 25 = .ok (.invokevirtual 27, 3) := by decide +kernel
theorem dX4_read_28 : decode cX4_read 28 = .ok (.iconst 0, 1) := by decide +kernel
theorem dX4_read_29 : decode cX4_read 29 = .ok (.istore 4, 2) := by decide +kernel
theorem dX4_read_31 : decode cX4_read 31 = .ok (.iload 4, 2) := by decide +kernel
theorem dX4_read_33 : decode cX4_read 33 = .ok (.bipush 8, 2) := by decide +kernel
theorem dX4_read_35 : decode cX4_read 35 = .ok (.if_icmp .ge 107, 3) := by decide +kernel
theorem dX4_read_38 : decode cX4_read 38 = .ok (.aload_n 0, 1) := by decide +kernel
theorem dX4_read_39 : decode cX4_read 39 = .ok (.invokevirtual 33, 3) := by decide +kernel
theorem dX4_read_42 : decode cX4_read 42 = .ok (.istore 5, 2) := by decide +kernel
theorem dX4_read_44 : decode cX4_read 44 = .ok (.aload_n 0, 1) := by decide +kernel
theorem dX4_read_45 : decode cX4_read 45 = .ok (.bipush 32, 2) := by decide +kernel
theorem dX4_read_47 : decode cX4_read 47 = .ok (.invokevirtual 37, 3) := by decide +kernel
theorem dX4_read_50 : decode cX4_read 50 = .ok (.iload 5, 2) := by decide +kernel
theorem dX4_read_52 : decode cX4_read 52 = .ok (.iconst 5, 1) := by decide +kernel
theorem dX4_read_53 : decode cX4_read 53 = .ok (.if_icmp .ne 10, 3) := by decide +kernel
theorem dX4_read_56 : decode cX4_read 56 = .ok (.aload_n 0, 1) := by decide +kernel
theorem dX4_read_57 : decode cX4_read 57 = .ok (.invokevirtual 40, 3) := by decide +kernel
theorem dX4_read_60 : decode cX4_read 60 = .ok (.goto 7, 3) := by decide +kernel
theorem dX4_read_63 : decode cX4_read 63 = .ok (.aload_n 0, 1) := by decide +kernel
theorem dX4_read_64 : decode cX4_read 64 = .ok (.invokevirtual 43, 3) := by decide +kernel
theorem dX4_read_67 : decode cX4_read 67 = .ok (.istore 6, 2) := by decide +kernel
theorem dX4_read_69 : decode cX4_read 69 = .ok (.aload_n 0, 1) := by decide +kernel
theorem dX4_read_70 : decode cX4_read 70 = .ok (.getfield 15, 3) := by decide +kernel
theorem dX4_read_73 : decode cX4_read 73 = .ok (.getfield 46, 3) := by decide +kernel
theorem dX4_read_76 : decode cX4_read 76 = .ok (.istore 7, 2) := by decide +kernel
theorem dX4_read_78 : decode cX4_read 78 = .ok (.iload 5, 2) := by decide +kernel
theorem dX4_read_80 : decode cX4_read 80 = .ok (.ifCond .ne 14, 3) := by decide +kernel
theorem dX4_read_83 : decode cX4_read 83 = .ok (.aload_n 0, 1) := by decide +kernel
theorem dX4_read_84 : decode cX4_read 84 = .ok (.bipush 32, 2) := by decide +kernel
theorem dX4_read_86 : decode cX4_read 86 = .ok (.invokevirtual 37, 3) := by decide +kernel
theorem dX4_read_89 : decode cX4_read 89 = .ok (.aload_n 0, 1) := by decide +kernel
theorem dX4_read_90 : decode cX4_read 90 = .ok (.iconst 0, 1) := by decide +kernel
theorem dX4_read_91 : decode cX4_read 91 = .ok (.invokevirtual 49, 3) := by decide +kernel
theorem dX4_read_94 : decode cX4_read 94 = .ok (.aload_n 0, 1) := by decide +kernel
theorem dX4_read_95 : decode cX4_read 95 = .ok (.getfield 23, 3) := by decide +kernel
theorem dX4_read_98 : decode cX4_read 98 = .ok (.ifCond .eq 6, 3) := by decide +kernel
theorem dX4_read_101 : decode cX4_read 101 = .ok (.goto 41, 3) := by decide +kernel
theorem dX4_read_104 : decode cX4_read 104 = .ok (.aload_n 0, 1) := by decide +kernel
theorem dX4_read_105 : decode cX4_read 105 = .ok (.getfield 15, 3) := by decide +kernel
theorem dX4_read_108 : decode cX4_read 108 = .ok (.iload 5, 2) := by decide +kernel
theorem dX4_read_110 : decode cX4_read 110 = .ok (.iload 6, 2) := by decide +kernel
theorem dX4_read_112 : decode cX4_read 112 = .ok (.iload 7, 2) := by decide +kernel
theorem dX4_read_114 : decode cX4_read 114 = .ok (.invokevirtual 52, 3) := by decide +kernel
theorem dX4_read_117 : decode cX4_read 117 = .ok (.iload 4, 2) := by decide +kernel
theorem dX4_read_119 : decode cX4_read 119 = .ok (.bipush 7, 2) := by decide +kernel
theorem dX4_read_121 : decode cX4_read 121 = .ok (.if_icmp .eq 21, 3) := by decide +kernel
theorem dX4_read_124 : decode cX4_read 124 = .ok (.aload_n 0, 1) := by decide +kernel
theorem dX4_read_125 : decode cX4_read 125 = .ok (.bipush 59, 2) := by decide +kernel
theorem dX4_read_127 : decode cX4_read 127 = .ok (.invokevirtual 56, 3) := by decide +kernel
theorem dX4_read_130 : decode cX4_read 130 = .ok (.ifCond .ne 6, 3) := by decide +kernel
theorem dX4_read_133 : decode cX4_read 133 = .ok (.goto 9, 3) := by decide +kernel
theorem dX4_read_136 : decode cX4_read 136 = .ok (.iinc 4 1, 3) := by decide +kernel
theorem dX4_read_139 : decode cX4_read 139 = .ok (.goto (-108), 3) := by decide +kernel
theorem dX4_read_142 : decode cX4_read 142 = .ok (.aload_n 0, 1) := by decide +kernel
theorem dX4_read_143 : decode cX4_read 143 = .ok (.getfield 23, 3) := by decide +kernel
theorem dX4_read_146 : decode cX4_read 146 = .ok (.ifCond .ne 17, 3) := by decide +kernel
theorem dX4_read_149 : decode cX4_read 149 = .ok (.aload_n 0, 1) := by decide +kernel
theorem dX4_read_150 : decode cX4_read 150 = .ok (.getfield 19, 3) := by decide +kernel
theorem dX4_read_153 : decode cX4_read 153 = .ok (.aload_n 0, 1) := by decide +kernel
theorem dX4_read_154 : decode cX4_read 154 = .ok (.getfield 9, 3) := by decide +kernel
theorem dX4_read_157 : decode cX4_read 157 = .ok (.getfield 60, 3) := by decide +kernel
theorem dX4_read_160 : decode cX4_read 160 = .ok (.if_icmp .ge 10, 3) := by decide +kernel
theorem dX4_read_163 : decode cX4_read 163 = .ok (.aload_n 0, 1) := by decide +kernel
theorem dX4_read_164 : decode cX4_read 164 = .ok (.getfield 19, 3) := by decide +kernel
theorem dX4_read_167 : decode cX4_read 167 = .ok (.goto 4, 3) := by decide +kernel
theorem dX4_read_170 : decode cX4_read 170 = .ok (.iconst (-1), 1) := by decide +kernel
theorem dX4_read_171 : decode cX4_read 171 = .ok (.istore 4, 2) := by decide +kernel
theorem dX4_read_173 : decode cX4_read 173 = .ok (.aload_n 0, 1) := by decide +kernel
theorem dX4_read_174 : decode cX4_read 174 = .ok (.getfield 9, 3) := by decide +kernel
theorem dX4_read_177 : decode cX4_read 177 = .ok (.iconst 0, 1) := by decide +kernel
theorem dX4_read_178 : decode cX4_read 178 = .ok (.putfield 60, 3) := by decide +kernel
theorem dX4_read_181 : decode cX4_read 181 = .ok (.iload 4, 2) := by decide +kernel
theorem dX4_read_183 : decode cX4_read 183 = .ok (.ireturn, 1) := by decide +kernel
theorem dX4_readWord_0 : decode cX4_readWord 0 = .ok (.iconst 0, 1) := by decide +kernel
theorem dX4_readWord_1 : decode cX4_readWord 1 = .ok (.istore_n 1, 1) := by decide +kernel
theorem dX4_readWord_2 : decode cX4_readWord 2 = .ok (.iconst 0, 1) := by decide +kernel
theorem dX4_readWord_3 : decode cX4_readWord 3 = .ok (.istore_n 2, 1) := by decide +kernel
theorem dX4_readWord_4 : decode cX4_readWord 4 = .ok (.iload_n 2, 1) := by decide +kernel
theorem dX4_readWord_5 : decode cX4_readWord 5 = .ok (.bipush 6, 2) := by decide +kernel
theorem dX4_readWord_7 : decode cX4_readWord 7 = .ok (.if_icmp .ge 50, 3) := by decide +kernel
theorem dX4_readWord_10 : decode cX4_readWord 10 = .ok (.iload_n 2, 1) := by decide +kernel
theorem dX4_readWord_11 : decode cX4_readWord 11 = .ok (.invokestatic 63, 3) := by decide +kernel
theorem dX4_readWord_14 : decode cX4_readWord 14 = .ok (.astore_n 3, 1) := by decide +kernel
theorem dX4_readWord_15 : decode cX4_readWord 15 = .ok (.aload_n 0, 1) := by decide +kernel
theorem dX4_readWord_16 : decode cX4_readWord 16 = .ok (.aload_n 3, 1) := by decide +kernel
theorem dX4_readWord_17 : decode cX4_readWord 17 = .ok (.invokevirtual 67, 3) := by decide +kernel
theorem dX4_readWord_20 : decode cX4_readWord 20 = .ok (.istore 4, 2) := by decide +kernel
theorem dX4_readWord_22 : decode cX4_readWord 22 = .ok (.iload 4, 2) := by decide +kernel
theorem dX4_readWord_24 : decode cX4_readWord 24 = .ok (.aload_n 3, 1) := by decide +kernel
theorem dX4_readWord_25 : decode cX4_readWord 25 = .ok (.invokevirtual 71, 3) := by decide +kernel
theorem dX4_readWord_28 : decode cX4_readWord 28 = .ok (.if_icmp .ne 16, 3) := by decide +kernel
theorem dX4_readWord_31 : decode cX4_readWord 31 = .ok (.aload_n 0, 1) := by decide +kernel
theorem dX4_readWord_32 : decode cX4_readWord 32 = .ok (.dup, 1) := by decide +kernel
theorem dX4_readWord_33 : decode cX4_readWord 33 = .ok (.getfield 19, 3) := by decide +kernel
theorem dX4_readWord_36 : decode cX4_readWord 36 = .ok (.iload 4, 2) := by decide +kernel
theorem dX4_readWord_38 : decode cX4_readWord 38 = .ok (.iadd, 1) := by decide +kernel
theorem dX4_readWord_39 : decode cX4_readWord 39 = .ok (.putfield 19, 3) := by decide +kernel
theorem dX4_readWord_42 : decode cX4_readWord 42 = .ok (.iload_n 2, 1) := by decide +kernel
theorem dX4_readWord_43 : decode cX4_readWord 43 = .ok (.ireturn, 1) := by decide +kernel
theorem dX4_readWord_44 : decode cX4_readWord 44 = .ok (.iload_n 1, 1) := by decide +kernel
theorem dX4_readWord_45 : decode cX4_readWord 45 = .ok (.iload 4, 2) := by decide +kernel
theorem dX4_readWord_47 : decode cX4_readWord 47 = .ok (.invokestatic 76, 3) := by decide +kernel
theorem dX4_readWord_50 : decode cX4_readWord 50 = .ok (.istore_n 1, 1) := by decide +kernel
theorem dX4_readWord_51 : decode cX4_readWord 51 = .ok (.iinc 2 1, 3) := by decide +kernel
theorem dX4_readWord_54 : decode cX4_readWord 54 = .ok (.goto (-50), 3) := by decide +kernel
theorem dX4_readWord_57 : decode cX4_readWord 57 = .ok (.aload_n 0, 1) := by decide +kernel
theorem dX4_readWord_58 : decode cX4_readWord 58 = .ok (.dup, 1) := by decide +kernel
theorem dX4_readWord_59 : decode cX4_readWord 59 = .ok (.getfield 19, 3) := by decide +kernel
theorem dX4_readWord_62 : decode cX4_readWord 62 = .ok (.iload_n 1, 1) := by decide +kernel
theorem dX4_readWord_63 : decode cX4_readWord 63 = .ok (.iadd, 1) := by decide +kernel
theorem dX4_readWord_64 : decode cX4_readWord 64 = .ok (.putfield 19, 3) := by decide +kernel
theorem dX4_readWord_67 : decode cX4_readWord 67 = .ok (.aload_n 0, 1) := by decide +kernel
theorem dX4_readWord_68 : decode cX4_readWord 68 = .ok (.iconst 1, 1) := by decide +kernel
theorem dX4_readWord_69 : decode cX4_readWord 69 = .ok (.putfield 23, 3) := by decide +kernel
theorem dX4_readWord_72 : decode cX4_readWord 72 = .ok (.iconst (-1), 1) := by decide +kernel
theorem dX4_readWord_73 : decode cX4_readWord 73 = .ok (.ireturn, 1) := by decide +kernel
theorem dX4_lettersOf_0 : decode cX4_lettersOf 0 = .ok (.iload_n 0, 1) := by decide +kernel
theorem dX4_lettersOf_1 : decode cX4_lettersOf 1 = .ok (.tableswitch 50 0 4 #[35, 38, 41, 44, 47], 35) := by decide +kernel
theorem dX4_lettersOf_36 : decode cX4_lettersOf 36 = .ok (.ldc 82, 2) := by decide +kernel
theorem dX4_lettersOf_38 : decode cX4_lettersOf 38 = .ok (.areturn, 1) := by decide +kernel
theorem dX4_lettersOf_39 : decode cX4_lettersOf 39 = .ok (.ldc 84, 2) := by decide +kernel
theorem dX4_lettersOf_41 : decode cX4_lettersOf 41 = .ok (.areturn, 1) := by decide +kernel
theorem dX4_lettersOf_42 : decode cX4_lettersOf 42 = .ok (.ldc 86, 2) := by decide +kernel
theorem dX4_lettersOf_44 : decode cX4_lettersOf 44 = .ok (.areturn, 1) := by decide +kernel
theorem dX4_lettersOf_45 : decode cX4_lettersOf 45 = .ok (.ldc 88, 2) := by decide +kernel
theorem dX4_lettersOf_47 : decode cX4_lettersOf 47 = .ok (.areturn, 1) := by decide +kernel
theorem dX4_lettersOf_48 : decode cX4_lettersOf 48 = .ok (.ldc 90, 2) := by decide +kernel
theorem dX4_lettersOf_50 : decode cX4_lettersOf 50 = .ok (.areturn, 1) := by decide +kernel
theorem dX4_lettersOf_51 : decode cX4_lettersOf 51 = .ok (.ldc 92, 2) := by decide +kernel
theorem dX4_lettersOf_53 : decode cX4_lettersOf 53 = .ok (.areturn, 1) := by decide +kernel
theorem dX4_countSame_0 : decode cX4_countSame 0 = .ok (.iconst 0, 1) := by decide +kernel
theorem dX4_countSame_1 : decode cX4_countSame 1 = .ok (.istore_n 2, 1) := by decide +kernel
theorem dX4_countSame_2 : decode cX4_countSame 2 = .ok (.iload_n 2, 1) := by decide +kernel
theorem dX4_countSame_3 : decode cX4_countSame 3 = .ok (.aload_n 1, 1) := by decide +kernel
theorem dX4_countSame_4 : decode cX4_countSame 4 = .ok (.invokevirtual 71, 3) := by decide +kernel
theorem dX4_countSame_7 : decode cX4_countSame 7 = .ok (.if_icmp .ge 49, 3) := by decide +kernel
theorem dX4_countSame_10 : decode cX4_countSame 10 = .ok (.aload_n 0, 1) := by decide +kernel
theorem dX4_countSame_11 : decode cX4_countSame 11 = .ok (.getfield 19, 3) := by decide +kernel
theorem dX4_countSame_14 : decode cX4_countSame 14 = .ok (.iload_n 2, 1) := by decide +kernel
theorem dX4_countSame_15 : decode cX4_countSame 15 = .ok (.iadd, 1) := by decide +kernel
theorem dX4_countSame_16 : decode cX4_countSame 16 = .ok (.aload_n 0, 1) := by decide +kernel
theorem dX4_countSame_17 : decode cX4_countSame 17 = .ok (.getfield 9, 3) := by decide +kernel
theorem dX4_countSame_20 : decode cX4_countSame 20 = .ok (.getfield 60, 3) := by decide +kernel
theorem dX4_countSame_23 : decode cX4_countSame 23 = .ok (.if_icmp .ge 25, 3) := by decide +kernel
theorem dX4_countSame_26 : decode cX4_countSame 26 = .ok (.aload_n 0, 1) := by decide +kernel
theorem dX4_countSame_27 : decode cX4_countSame 27 = .ok (.getfield 9, 3) := by decide +kernel
theorem dX4_countSame_30 : decode cX4_countSame 30 = .ok (.getfield 94, 3) := by decide +kernel
theorem dX4_countSame_33 : decode cX4_countSame 33 = .ok (.aload_n 0, 1) := by decide +kernel
theorem dX4_countSame_34 : decode cX4_countSame 34 = .ok (.getfield 19, 3) := by decide +kernel
theorem dX4_countSame_37 : decode cX4_countSame 37 = .ok (.iload_n 2, 1) := by decide +kernel
theorem dX4_countSame_38 : decode cX4_countSame 38 = .ok (.iadd, 1) := by decide +kernel
theorem dX4_countSame_39 : decode cX4_countSame 39 = .ok (.iaload, 1) := by decide +kernel
theorem dX4_countSame_40 : decode cX4_countSame 40 = .ok (.aload_n 1, 1) := by decide +kernel
theorem dX4_countSame_41 : decode cX4_countSame 41 = .ok (.iload_n 2, 1) := by decide +kernel
theorem dX4_countSame_42 : decode cX4_countSame 42 = .ok (.invokevirtual 98, 3) := by decide +kernel
theorem dX4_countSame_45 : decode cX4_countSame 45 = .ok (.if_icmp .eq 5, 3) := by decide +kernel
theorem dX4_countSame_48 : decode cX4_countSame 48 = .ok (.iload_n 2, 1) := by decide +kernel
theorem dX4_countSame_49 : decode cX4_countSame 49 = .ok (.ireturn, 1) := by decide +kernel
theorem dX4_countSame_50 : decode cX4_countSame 50 = .ok (.iinc 2 1, 3) := by decide +kernel
theorem dX4_countSame_53 : decode cX4_countSame 53 = .ok (.goto (-51), 3) := by decide +kernel
theorem dX4_countSame_56 : decode cX4_countSame 56 = .ok (.aload_n 1, 1) := by decide +kernel
theorem dX4_countSame_57 : decode cX4_countSame 57 = .ok (.invokevirtual 71, 3) := by decide +kernel
theorem dX4_countSame_60 : decode cX4_countSame 60 = .ok (.ireturn, 1) := by decide +kernel
theorem dX4_readShare_0 : decode cX4_readShare 0 = .ok (.aload_n 0, 1) := by decide +kernel
theorem dX4_readShare_1 : decode cX4_readShare 1 = .ok (.invokevirtual 102, 3) := by decide +kernel
theorem dX4_readShare_4 : decode cX4_readShare 4 = .ok (.istore_n 1, 1) := by decide +kernel
theorem dX4_readShare_5 : decode cX4_readShare 5 = .ok (.iload_n 1, 1) := by decide +kernel
theorem dX4_readShare_6 : decode cX4_readShare 6 = .ok (.bipush 48, 2) := by decide +kernel
theorem dX4_readShare_8 : decode cX4_readShare 8 = .ok (.if_icmp .lt 9, 3) := by decide +kernel
theorem dX4_readShare_11 : decode cX4_readShare 11 = .ok (.iload_n 1, 1) := by decide +kernel
theorem dX4_readShare_12 : decode cX4_readShare 12 = .ok (.bipush 50, 2) := by decide +kernel
theorem dX4_readShare_14 : decode cX4_readShare 14 = .ok (.if_icmp .le 10, 3) := by decide +kernel
theorem dX4_readShare_17 : decode cX4_readShare 17 = .ok (.aload_n 0, 1) := by decide +kernel
theorem dX4_readShare_18 : decode cX4_readShare 18 = .ok (.iconst 1, 1) := by decide +kernel
theorem dX4_readShare_19 : decode cX4_readShare 19 = .ok (.putfield 23, 3) := by decide +kernel
theorem dX4_readShare_22 : decode cX4_readShare 22 = .ok (.iconst 0, 1) := by decide +kernel
theorem dX4_readShare_23 : decode cX4_readShare 23 = .ok (.ireturn, 1) := by decide +kernel
theorem dX4_readShare_24 : decode cX4_readShare 24 = .ok (.aload_n 0, 1) := by decide +kernel
theorem dX4_readShare_25 : decode cX4_readShare 25 = .ok (.dup, 1) := by decide +kernel
theorem dX4_readShare_26 : decode cX4_readShare 26 = .ok (.getfield 19, 3) := by decide +kernel
theorem dX4_readShare_29 : decode cX4_readShare 29 = .ok (.iconst 1, 1) := by decide +kernel
theorem dX4_readShare_30 : decode cX4_readShare 30 = .ok (.iadd, 1) := by decide +kernel
theorem dX4_readShare_31 : decode cX4_readShare 31 = .ok (.putfield 19, 3) := by decide +kernel
theorem dX4_readShare_34 : decode cX4_readShare 34 = .ok (.iload_n 1, 1) := by decide +kernel
theorem dX4_readShare_35 : decode cX4_readShare 35 = .ok (.bipush 48, 2) := by decide +kernel
theorem dX4_readShare_37 : decode cX4_readShare 37 = .ok (.isub, 1) := by decide +kernel
theorem dX4_readShare_38 : decode cX4_readShare 38 = .ok (.ireturn, 1) := by decide +kernel
theorem dX4_readNumber_0 : decode cX4_readNumber 0 = .ok (.iconst 0, 1) := by decide +kernel
theorem dX4_readNumber_1 : decode cX4_readNumber 1 = .ok (.istore_n 1, 1) := by decide +kernel
theorem dX4_readNumber_2 : decode cX4_readNumber 2 = .ok (.iconst 0, 1) := by decide +kernel
theorem dX4_readNumber_3 : decode cX4_readNumber 3 = .ok (.istore_n 2, 1) := by decide +kernel
theorem dX4_readNumber_4 : decode cX4_readNumber 4 = .ok (.iload_n 2, 1) := by decide +kernel
theorem dX4_readNumber_5 : decode cX4_readNumber 5 = .ok (.iconst 3, 1) := by decide +kernel
theorem dX4_readNumber_6 : decode cX4_readNumber 6 = .ok (.if_icmp .ge 74, 3) := by decide +kernel
theorem dX4_readNumber_9 : decode cX4_readNumber 9 = .ok (.aload_n 0, 1) := by decide +kernel
theorem dX4_readNumber_10 : decode cX4_readNumber 10 = .ok (.invokevirtual 102, 3) := by decide +kernel
theorem dX4_readNumber_13 : decode cX4_readNumber 13 = .ok (.istore_n 3, 1) := by decide +kernel
theorem dX4_readNumber_14 : decode cX4_readNumber 14 = .ok (.iload_n 3, 1) := by decide +kernel
theorem dX4_readNumber_15 : decode cX4_readNumber 15 = .ok (.bipush 48, 2) := by decide +kernel
theorem dX4_readNumber_17 : decode cX4_readNumber 17 = .ok (.if_icmp .lt 9, 3) := by decide +kernel
theorem dX4_readNumber_20 : decode cX4_readNumber 20 = .ok (.iload_n 3, 1) := by decide +kernel
theorem dX4_readNumber_21 : decode cX4_readNumber 21 = .ok (.bipush 57, 2) := by decide +kernel
theorem dX4_readNumber_23 : decode cX4_readNumber 23 = .ok (.if_icmp .le 25, 3) := by decide +kernel
theorem dX4_readNumber_26 : decode cX4_readNumber 26 = .ok (.aload_n 0, 1) := by decide +kernel
theorem dX4_readNumber_27 : decode cX4_readNumber 27 = .ok (.aload_n 0, 1) := by decide +kernel
theorem dX4_readNumber_28 : decode cX4_readNumber 28 = .ok (.getfield 23, 3) := by decide +kernel
theorem dX4_readNumber_31 : decode cX4_readNumber 31 = .ok (.ifCond .ne 7, 3) := by decide +kernel
theorem dX4_readNumber_34 : decode cX4_readNumber 34 = .ok (.iload_n 2, 1) := by decide +kernel
theorem dX4_readNumber_35 : decode cX4_readNumber 35 = .ok (.ifCond .ne 7, 3) := by decide +kernel
theorem dX4_readNumber_38 : decode cX4_readNumber 38 = .ok (.iconst 1, 1) := by decide +kernel
theorem dX4_readNumber_39 : decode cX4_readNumber 39 = .ok (.goto 4, 3) := by decide +kernel
theorem dX4_readNumber_42 : decode cX4_readNumber 42 = .ok (.iconst 0, 1) := by decide +kernel
theorem dX4_readNumber_43 : decode cX4_readNumber 43 = .ok (.putfield 23, 3) := by decide +kernel
theorem dX4_readNumber_46 : decode cX4_readNumber 46 = .ok (.iload_n 1, 1) := by decide +kernel
theorem dX4_readNumber_47 : decode cX4_readNumber 47 = .ok (.ireturn, 1) := by decide +kernel
theorem dX4_readNumber_48 : decode cX4_readNumber 48 = .ok (.aload_n 0, 1) := by decide +kernel
theorem dX4_readNumber_49 : decode cX4_readNumber 49 = .ok (.dup, 1) := by decide +kernel
theorem dX4_readNumber_50 : decode cX4_readNumber 50 = .ok (.getfield 19, 3) := by decide +kernel
theorem dX4_readNumber_53 : decode cX4_readNumber 53 = .ok (.iconst 1, 1) := by decide +kernel
theorem dX4_readNumber_54 : decode cX4_readNumber 54 = .ok (.iadd, 1) := by decide +kernel
theorem dX4_readNumber_55 : decode cX4_readNumber 55 = .ok (.putfield 19, 3) := by decide +kernel
theorem dX4_readNumber_58 : decode cX4_readNumber 58 = .ok (.iload_n 1, 1) := by decide +kernel
theorem dX4_readNumber_59 : decode cX4_readNumber 59 = .ok (.bipush 10, 2) := by decide +kernel
theorem dX4_readNumber_61 : decode cX4_readNumber 61 = .ok (.imul, 1) := by decide +kernel
theorem dX4_readNumber_62 : decode cX4_readNumber 62 = .ok (.iload_n 3, 1) := by decide +kernel
theorem dX4_readNumber_63 : decode cX4_readNumber 63 = .ok (.iadd, 1) := by decide +kernel
theorem dX4_readNumber_64 : decode cX4_readNumber 64 = .ok (.bipush 48, 2) := by decide +kernel
theorem dX4_readNumber_66 : decode cX4_readNumber 66 = .ok (.isub, 1) := by decide +kernel
theorem dX4_readNumber_67 : decode cX4_readNumber 67 = .ok (.istore_n 1, 1) := by decide +kernel
theorem dX4_readNumber_68 : decode cX4_readNumber 68 = .ok (.iload_n 1, 1) := by decide +kernel
theorem dX4_readNumber_69 : decode cX4_readNumber 69 = .ok (.ifCond .ne 5, 3) := by decide +kernel
theorem dX4_readNumber_72 : decode cX4_readNumber 72 = .ok (.iconst 0, 1) := by decide +kernel
theorem dX4_readNumber_73 : decode cX4_readNumber 73 = .ok (.ireturn, 1) := by decide +kernel
theorem dX4_readNumber_74 : decode cX4_readNumber 74 = .ok (.iinc 2 1, 3) := by decide +kernel
theorem dX4_readNumber_77 : decode cX4_readNumber 77 = .ok (.goto (-73), 3) := by decide +kernel
theorem dX4_readNumber_80 : decode cX4_readNumber 80 = .ok (.iload_n 1, 1) := by decide +kernel
theorem dX4_readNumber_81 : decode cX4_readNumber 81 = .ok (.ireturn, 1) := by decide +kernel
theorem dX4_readEither_0 : decode cX4_readEither 0 = .ok (.aload_n 0, 1) := by decide +kernel
theorem dX4_readEither_1 : decode cX4_readEither 1 = .ok (.iload_n 1, 1) := by decide +kernel
theorem dX4_readEither_2 : decode cX4_readEither 2 = .ok (.invokevirtual 105, 3) := by decide +kernel
theorem dX4_readEither_5 : decode cX4_readEither 5 = .ok (.iconst 0, 1) := by decide +kernel
theorem dX4_readEither_6 : decode cX4_readEither 6 = .ok (.istore_n 2, 1) := by decide +kernel
theorem dX4_readEither_7 : decode cX4_readEither 7 = .ok (.iconst 0, 1) := by decide +kernel
theorem dX4_readEither_8 : decode cX4_readEither 8 = .ok (.istore_n 3, 1) := by decide +kernel
theorem dX4_readEither_9 : decode cX4_readEither 9 = .ok (.iload_n 3, 1) := by decide +kernel
theorem dX4_readEither_10 : decode cX4_readEither 10 = .ok (.bipush 120, 2) := by decide +kernel
theorem dX4_readEither_12 : decode cX4_readEither 12 = .ok (.if_icmp .ge 66, 3) := by decide +kernel
theorem dX4_readEither_15 : decode cX4_readEither 15 = .ok (.aload_n 0, 1) := by decide +kernel
theorem dX4_readEither_16 : decode cX4_readEither 16 = .ok (.bipush 38, 2) := by decide +kernel
theorem dX4_readEither_18 : decode cX4_readEither 18 = .ok (.invokevirtual 56, 3) := by decide +kernel
theorem dX4_readEither_21 : decode cX4_readEither 21 = .ok (.ifCond .eq 21, 3) := by decide +kernel
theorem dX4_readEither_24 : decode cX4_readEither 24 = .ok (.aload_n 0, 1) := by decide +kernel
theorem dX4_readEither_25 : decode cX4_readEither 25 = .ok (.iload_n 1, 1) := by decide +kernel
theorem dX4_readEither_26 : decode cX4_readEither 26 = .ok (.invokevirtual 105, 3) := by decide +kernel
theorem dX4_readEither_29 : decode cX4_readEither 29 = .ok (.aload_n 0, 1) := by decide +kernel
theorem dX4_readEither_30 : decode cX4_readEither 30 = .ok (.getfield 15, 3) := by decide +kernel
theorem dX4_readEither_33 : decode cX4_readEither 33 = .ok (.bipush 9, 2) := by decide +kernel
theorem dX4_readEither_35 : decode cX4_readEither 35 = .ok (.iconst 0, 1) := by decide +kernel
theorem dX4_readEither_36 : decode cX4_readEither 36 = .ok (.invokevirtual 108, 3) := by decide +kernel
theorem dX4_readEither_39 : decode cX4_readEither 39 = .ok (.goto 33, 3) := by decide +kernel
theorem dX4_readEither_42 : decode cX4_readEither 42 = .ok (.aload_n 0, 1) := by decide +kernel
theorem dX4_readEither_43 : decode cX4_readEither 43 = .ok (.bipush 124, 2) := by decide +kernel
theorem dX4_readEither_45 : decode cX4_readEither 45 = .ok (.invokevirtual 56, 3) := by decide +kernel
theorem dX4_readEither_48 : decode cX4_readEither 48 = .ok (.ifCond .eq 30, 3) := by decide +kernel
theorem dX4_readEither_51 : decode cX4_readEither 51 = .ok (.iload_n 2, 1) := by decide +kernel
theorem dX4_readEither_52 : decode cX4_readEither 52 = .ok (.ifCond .eq 13, 3) := by decide +kernel
theorem dX4_readEither_55 : decode cX4_readEither 55 = .ok (.aload_n 0, 1) := by decide +kernel
theorem dX4_readEither_56 : decode cX4_readEither 56 = .ok (.getfield 15, 3) := by decide +kernel
theorem dX4_readEither_59 : decode cX4_readEither 59 = .ok (.bipush 10, 2) := by decide +kernel
theorem dX4_readEither_61 : decode cX4_readEither 61 = .ok (.iconst 0, 1) := by decide +kernel
theorem dX4_readEither_62 : decode cX4_readEither 62 = .ok (.invokevirtual 108, 3) := by decide +kernel
theorem dX4_readEither_65 : decode cX4_readEither 65 = .ok (.iconst 1, 1) := by decide +kernel
theorem dX4_readEither_66 : decode cX4_readEither 66 = .ok (.istore_n 2, 1) := by decide +kernel
theorem dX4_readEither_67 : decode cX4_readEither 67 = .ok (.aload_n 0, 1) := by decide +kernel
theorem dX4_readEither_68 : decode cX4_readEither 68 = .ok (.iload_n 1, 1) := by decide +kernel
theorem dX4_readEither_69 : decode cX4_readEither 69 = .ok (.invokevirtual 105, 3) := by decide +kernel
theorem dX4_readEither_72 : decode cX4_readEither 72 = .ok (.iinc 3 1, 3) := by decide +kernel
theorem dX4_readEither_75 : decode cX4_readEither 75 = .ok (.goto (-66), 3) := by decide +kernel
theorem dX4_readEither_78 : decode cX4_readEither 78 = .ok (.iload_n 2, 1) := by decide +kernel
theorem dX4_readEither_79 : decode cX4_readEither 79 = .ok (.ifCond .eq 13, 3) := by decide +kernel
theorem dX4_readEither_82 : decode cX4_readEither 82 = .ok (.aload_n 0, 1) := by decide +kernel
theorem dX4_readEither_83 : decode cX4_readEither 83 = .ok (.getfield 15, 3) := by decide +kernel
theorem dX4_readEither_86 : decode cX4_readEither 86 = .ok (.bipush 10, 2) := by decide +kernel
theorem dX4_readEither_88 : decode cX4_readEither 88 = .ok (.iconst 0, 1) := by decide +kernel
theorem dX4_readEither_89 : decode cX4_readEither 89 = .ok (.invokevirtual 108, 3) := by decide +kernel
theorem dX4_readEither_92 : decode cX4_readEither 92 = .ok (.return_, 1) := by decide +kernel
theorem dX4_readPart_0 : decode cX4_readPart 0 = .ok (.aload_n 0, 1) := by decide +kernel
theorem dX4_readPart_1 : decode cX4_readPart 1 = .ok (.invokevirtual 102, 3) := by decide +kernel
theorem dX4_readPart_4 : decode cX4_readPart 4 = .ok (.istore_n 2, 1) := by decide +kernel
theorem dX4_readPart_5 : decode cX4_readPart 5 = .ok (.iload_n 2, 1) := by decide +kernel
theorem dX4_readPart_6 : decode cX4_readPart 6 = .ok (.bipush 33, 2) := by decide +kernel
theorem dX4_readPart_8 : decode cX4_readPart 8 = .ok (.if_icmp .eq 14, 3) := by decide +kernel
theorem dX4_readPart_11 : decode cX4_readPart 11 = .ok (.iload_n 2, 1) := by decide +kernel
theorem dX4_readPart_12 : decode cX4_readPart 12 = .ok (.bipush 40, 2) := by decide +kernel
theorem dX4_readPart_14 : decode cX4_readPart 14 = .ok (.if_icmp .eq 8, 3) := by decide +kernel
theorem dX4_readPart_17 : decode cX4_readPart 17 = .ok (.aload_n 0, 1) := by decide +kernel
theorem dX4_readPart_18 : decode cX4_readPart 18 = .ok (.invokevirtual 112, 3) := by decide +kernel
theorem dX4_readPart_21 : decode cX4_readPart 21 = .ok (.return_, 1) := by decide +kernel
theorem dX4_readPart_22 : decode cX4_readPart 22 = .ok (.iload_n 1, 1) := by decide +kernel
theorem dX4_readPart_23 : decode cX4_readPart 23 = .ok (.iconst 5, 1) := by decide +kernel
theorem dX4_readPart_24 : decode cX4_readPart 24 = .ok (.if_icmp .lt 9, 3) := by decide +kernel
theorem dX4_readPart_27 : decode cX4_readPart 27 = .ok (.aload_n 0, 1) := by decide +kernel
theorem dX4_readPart_28 : decode cX4_readPart 28 = .ok (.iconst 1, 1) := by decide +kernel
theorem dX4_readPart_29 : decode cX4_readPart 29 = .ok (.putfield 23, 3) := by decide +kernel
theorem dX4_readPart_32 : decode cX4_readPart 32 = .ok (.return_, 1) := by decide +kernel
theorem dX4_readPart_33 : decode cX4_readPart 33 = .ok (.aload_n 0, 1) := by decide +kernel
theorem dX4_readPart_34 : decode cX4_readPart 34 = .ok (.dup, 1) := by decide +kernel
theorem dX4_readPart_35 : decode cX4_readPart 35 = .ok (.getfield 19, 3) := by decide +kernel
theorem dX4_readPart_38 : decode cX4_readPart 38 = .ok (.iconst 1, 1) := by decide +kernel
theorem dX4_readPart_39 : decode cX4_readPart 39 = .ok (.iadd, 1) := by decide +kernel
theorem dX4_readPart_40 : decode cX4_readPart 40 = .ok (.putfield 19, 3) := by decide +kernel
theorem dX4_readPart_43 : decode cX4_readPart 43 = .ok (.iload_n 2, 1) := by decide +kernel
theorem dX4_readPart_44 : decode cX4_readPart 44 = .ok (.bipush 33, 2) := by decide +kernel
theorem dX4_readPart_46 : decode cX4_readPart 46 = .ok (.if_icmp .ne 23, 3) := by decide +kernel
theorem dX4_readPart_49 : decode cX4_readPart 49 = .ok (.aload_n 0, 1) := by decide +kernel
theorem dX4_readPart_50 : decode cX4_readPart 50 = .ok (.iload_n 1, 1) := by decide +kernel
theorem dX4_readPart_51 : decode cX4_readPart 51 = .ok (.iconst 1, 1) := by decide +kernel
theorem dX4_readPart_52 : decode cX4_readPart 52 = .ok (.iadd, 1) := by decide +kernel
theorem dX4_readPart_53 : decode cX4_readPart 53 = .ok (.invokevirtual 105, 3) := by decide +kernel
theorem dX4_readPart_56 : decode cX4_readPart 56 = .ok (.aload_n 0, 1) := by decide +kernel
theorem dX4_readPart_57 : decode cX4_readPart 57 = .ok (.getfield 15, 3) := by decide +kernel
theorem dX4_readPart_60 : decode cX4_readPart 60 = .ok (.bipush 8, 2) := by decide +kernel
theorem dX4_readPart_62 : decode cX4_readPart 62 = .ok (.iconst 0, 1) := by decide +kernel
theorem dX4_readPart_63 : decode cX4_readPart 63 = .ok (.invokevirtual 108, 3) := by decide +kernel
theorem dX4_readPart_66 : decode cX4_readPart 66 = .ok (.goto 16, 3) := by decide +kernel
theorem dX4_readPart_69 : decode cX4_readPart 69 = .ok (.aload_n 0, 1) := by decide +kernel
theorem dX4_readPart_70 : decode cX4_readPart 70 = .ok (.iload_n 1, 1) := by decide +kernel
theorem dX4_readPart_71 : decode cX4_readPart 71 = .ok (.iconst 1, 1) := by decide +kernel
theorem dX4_readPart_72 : decode cX4_readPart 72 = .ok (.iadd, 1) := by decide +kernel
theorem dX4_readPart_73 : decode cX4_readPart 73 = .ok (.invokevirtual 49, 3) := by decide +kernel
theorem dX4_readPart_76 : decode cX4_readPart 76 = .ok (.aload_n 0, 1) := by decide +kernel
theorem dX4_readPart_77 : decode cX4_readPart 77 = .ok (.bipush 41, 2) := by decide +kernel
theorem dX4_readPart_79 : decode cX4_readPart 79 = .ok (.invokevirtual 37, 3) := by decide +kernel
theorem dX4_readPart_82 : decode cX4_readPart 82 = .ok (.return_, 1) := by decide +kernel
theorem dX4_readTest_0 : decode cX4_readTest 0 = .ok (.iconst 0, 1) := by decide +kernel
theorem dX4_readTest_1 : decode cX4_readTest 1 = .ok (.istore_n 1, 1) := by decide +kernel
theorem dX4_readTest_2 : decode cX4_readTest 2 = .ok (.aload_n 0, 1) := by decide +kernel
theorem dX4_readTest_3 : decode cX4_readTest 3 = .ok (.invokevirtual 102, 3) := by decide +kernel
theorem dX4_readTest_6 : decode cX4_readTest 6 = .ok (.tableswitch 92 104 116 #[86, 92, 92, 66, 92, 92, 76, 92, 92, 92, 92, 81, 71], 66) := by decide +kernel
theorem dX4_readTest_72 : decode cX4_readTest 72 = .ok (.iconst 0, 1) := by decide +kernel
theorem dX4_readTest_73 : decode cX4_readTest 73 = .ok (.istore_n 1, 1) := by decide +kernel
theorem dX4_readTest_74 : decode cX4_readTest 74 = .ok (.goto 30, 3) := by decide +kernel
theorem dX4_readTest_77 : decode cX4_readTest 77 = .ok (.iconst 1, 1) := by decide +kernel
theorem dX4_readTest_78 : decode cX4_readTest 78 = .ok (.istore_n 1, 1) := by decide +kernel
theorem dX4_readTest_79 : decode cX4_readTest 79 = .ok (.goto 25, 3) := by decide +kernel
theorem dX4_readTest_82 : decode cX4_readTest 82 = .ok (.iconst 2, 1) := by decide +kernel
theorem dX4_readTest_83 : decode cX4_readTest 83 = .ok (.istore_n 1, 1) := by decide +kernel
theorem dX4_readTest_84 : decode cX4_readTest 84 = .ok (.goto 20, 3) := by decide +kernel
theorem dX4_readTest_87 : decode cX4_readTest 87 = .ok (.iconst 4, 1) := by decide +kernel
theorem dX4_readTest_88 : decode cX4_readTest 88 = .ok (.istore_n 1, 1) := by decide +kernel
theorem dX4_readTest_89 : decode cX4_readTest 89 = .ok (.goto 15, 3) := by decide +kernel
theorem dX4_readTest_92 : decode cX4_readTest 92 = .ok (.bipush 6, 2) := by decide +kernel
theorem dX4_readTest_94 : decode cX4_readTest 94 = .ok (.istore_n 1, 1) := by decide +kernel
theorem dX4_readTest_95 : decode cX4_readTest 95 = .ok (.goto 9, 3) := by decide +kernel
theorem dX4_readTest_98 : decode cX4_readTest 98 = .ok (.aload_n 0, 1) := by decide +kernel
theorem dX4_readTest_99 : decode cX4_readTest 99 = .ok (.iconst 1, 1) := by decide +kernel
theorem dX4_readTest_100 : decode cX4_readTest 100 = .ok (.putfield 23, 3) := by decide +kernel
theorem dX4_readTest_103 : decode cX4_readTest 103 = .ok (.return_, 1) := by decide +kernel
theorem dX4_readTest_104 : decode cX4_readTest 104 = .ok (.aload_n 0, 1) := by decide +kernel
theorem dX4_readTest_105 : decode cX4_readTest 105 = .ok (.dup, 1) := by decide +kernel
theorem dX4_readTest_106 : decode cX4_readTest 106 = .ok (.getfield 19, 3) := by decide +kernel
theorem dX4_readTest_109 : decode cX4_readTest 109 = .ok (.iconst 1, 1) := by decide +kernel
theorem dX4_readTest_110 : decode cX4_readTest 110 = .ok (.iadd, 1) := by decide +kernel
theorem dX4_readTest_111 : decode cX4_readTest 111 = .ok (.putfield 19, 3) := by decide +kernel
theorem dX4_readTest_114 : decode cX4_readTest 114 = .ok (.iload_n 1, 1) := by decide +kernel
theorem dX4_readTest_115 : decode cX4_readTest 115 = .ok (.iconst 2, 1) := by decide +kernel
theorem dX4_readTest_116 : decode cX4_readTest 116 = .ok (.if_icmp .ge 12, 3) := by decide +kernel
theorem dX4_readTest_119 : decode cX4_readTest 119 = .ok (.aload_n 0, 1) := by decide +kernel
theorem dX4_readTest_120 : decode cX4_readTest 120 = .ok (.bipush 61, 2) := by decide +kernel
theorem dX4_readTest_122 : decode cX4_readTest 122 = .ok (.invokevirtual 37, 3) := by decide +kernel
theorem dX4_readTest_125 : decode cX4_readTest 125 = .ok (.goto 24, 3) := by decide +kernel
theorem dX4_readTest_128 : decode cX4_readTest 128 = .ok (.aload_n 0, 1) := by decide +kernel
theorem dX4_readTest_129 : decode cX4_readTest 129 = .ok (.bipush 62, 2) := by decide +kernel
theorem dX4_readTest_131 : decode cX4_readTest 131 = .ok (.invokevirtual 56, 3) := by decide +kernel
theorem dX4_readTest_134 : decode cX4_readTest 134 = .ok (.ifCond .eq 9, 3) := by decide +kernel
theorem dX4_readTest_137 : decode cX4_readTest 137 = .ok (.iinc 1 1, 3) := by decide +kernel
theorem dX4_readTest_140 : decode cX4_readTest 140 = .ok (.goto 9, 3) := by decide +kernel
theorem dX4_readTest_143 : decode cX4_readTest 143 = .ok (.aload_n 0, 1) := by decide +kernel
theorem dX4_readTest_144 : decode cX4_readTest 144 = .ok (.bipush 60, 2) := by decide +kernel
theorem dX4_readTest_146 : decode cX4_readTest 146 = .ok (.invokevirtual 37, 3) := by decide +kernel
theorem dX4_readTest_149 : decode cX4_readTest 149 = .ok (.aload_n 0, 1) := by decide +kernel
theorem dX4_readTest_150 : decode cX4_readTest 150 = .ok (.getfield 15, 3) := by decide +kernel
theorem dX4_readTest_153 : decode cX4_readTest 153 = .ok (.iload_n 1, 1) := by decide +kernel
theorem dX4_readTest_154 : decode cX4_readTest 154 = .ok (.aload_n 0, 1) := by decide +kernel
theorem dX4_readTest_155 : decode cX4_readTest 155 = .ok (.invokevirtual 43, 3) := by decide +kernel
theorem dX4_readTest_158 : decode cX4_readTest 158 = .ok (.invokevirtual 108, 3) := by decide +kernel
theorem dX4_readTest_161 : decode cX4_readTest 161 = .ok (.return_, 1) := by decide +kernel
theorem dX4_now_0 : decode cX4_now 0 = .ok (.aload_n 0, 1) := by decide +kernel
theorem dX4_now_1 : decode cX4_now 1 = .ok (.getfield 23, 3) := by decide +kernel
theorem dX4_now_4 : decode cX4_now 4 = .ok (.ifCond .ne 17, 3) := by decide +kernel
theorem dX4_now_7 : decode cX4_now 7 = .ok (.aload_n 0, 1) := by decide +kernel
theorem dX4_now_8 : decode cX4_now 8 = .ok (.getfield 19, 3) := by decide +kernel
theorem dX4_now_11 : decode cX4_now 11 = .ok (.aload_n 0, 1) := by decide +kernel
theorem dX4_now_12 : decode cX4_now 12 = .ok (.getfield 9, 3) := by decide +kernel
theorem dX4_now_15 : decode cX4_now 15 = .ok (.getfield 60, 3) := by decide +kernel
theorem dX4_now_18 : decode cX4_now 18 = .ok (.if_icmp .lt 7, 3) := by decide +kernel
theorem dX4_now_21 : decode cX4_now 21 = .ok (.iconst (-1), 1) := by decide +kernel
theorem dX4_now_22 : decode cX4_now 22 = .ok (.goto 15, 3) := by decide +kernel
theorem dX4_now_25 : decode cX4_now 25 = .ok (.aload_n 0, 1) := by decide +kernel
theorem dX4_now_26 : decode cX4_now 26 = .ok (.getfield 9, 3) := by decide +kernel
theorem dX4_now_29 : decode cX4_now 29 = .ok (.getfield 94, 3) := by decide +kernel
theorem dX4_now_32 : decode cX4_now 32 = .ok (.aload_n 0, 1) := by decide +kernel
theorem dX4_now_33 : decode cX4_now 33 = .ok (.getfield 19, 3) := by decide +kernel
theorem dX4_now_36 : decode cX4_now 36 = .ok (.iaload, 1) := by decide +kernel
theorem dX4_now_37 : decode cX4_now 37 = .ok (.ireturn, 1) := by decide +kernel
theorem dX4_take_0 : decode cX4_take 0 = .ok (.aload_n 0, 1) := by decide +kernel
theorem dX4_take_1 : decode cX4_take 1 = .ok (.getfield 23, 3) := by decide +kernel
theorem dX4_take_4 : decode cX4_take 4 = .ok (.ifCond .ne 33, 3) := by decide +kernel
theorem dX4_take_7 : decode cX4_take 7 = .ok (.aload_n 0, 1) := by decide +kernel
theorem dX4_take_8 : decode cX4_take 8 = .ok (.getfield 19, 3) := by decide +kernel
theorem dX4_take_11 : decode cX4_take 11 = .ok (.aload_n 0, 1) := by decide +kernel
theorem dX4_take_12 : decode cX4_take 12 = .ok (.getfield 9, 3) := by decide +kernel
theorem dX4_take_15 : decode cX4_take 15 = .ok (.getfield 60, 3) := by decide +kernel
theorem dX4_take_18 : decode cX4_take 18 = .ok (.if_icmp .ge 19, 3) := by decide +kernel
theorem dX4_take_21 : decode cX4_take 21 = .ok (.aload_n 0, 1) := by decide +kernel
theorem dX4_take_22 : decode cX4_take 22 = .ok (.getfield 9, 3) := by decide +kernel
theorem dX4_take_25 : decode cX4_take 25 = .ok (.getfield 94, 3) := by decide +kernel
theorem dX4_take_28 : decode cX4_take 28 = .ok (.aload_n 0, 1) := by decide +kernel
theorem dX4_take_29 : decode cX4_take 29 = .ok (.getfield 19, 3) := by decide +kernel
theorem dX4_take_32 : decode cX4_take 32 = .ok (.iaload, 1) := by decide +kernel
theorem dX4_take_33 : decode cX4_take 33 = .ok (.iload_n 1, 1) := by decide +kernel
theorem dX4_take_34 : decode cX4_take 34 = .ok (.if_icmp .eq 5, 3) := by decide +kernel
theorem dX4_take_37 : decode cX4_take 37 = .ok (.iconst 0, 1) := by decide +kernel
theorem dX4_take_38 : decode cX4_take 38 = .ok (.ireturn, 1) := by decide +kernel
theorem dX4_take_39 : decode cX4_take 39 = .ok (.aload_n 0, 1) := by decide +kernel
theorem dX4_take_40 : decode cX4_take 40 = .ok (.dup, 1) := by decide +kernel
theorem dX4_take_41 : decode cX4_take 41 = .ok (.getfield 19, 3) := by decide +kernel
theorem dX4_take_44 : decode cX4_take 44 = .ok (.iconst 1, 1) := by decide +kernel
theorem dX4_take_45 : decode cX4_take 45 = .ok (.iadd, 1) := by decide +kernel
theorem dX4_take_46 : decode cX4_take 46 = .ok (.putfield 19, 3) := by decide +kernel
theorem dX4_take_49 : decode cX4_take 49 = .ok (.iconst 1, 1) := by decide +kernel
theorem dX4_take_50 : decode cX4_take 50 = .ok (.ireturn, 1) := by decide +kernel
theorem dX4_need_0 : decode cX4_need 0 = .ok (.aload_n 0, 1) := by decide +kernel
theorem dX4_need_1 : decode cX4_need 1 = .ok (.iload_n 1, 1) := by decide +kernel
theorem dX4_need_2 : decode cX4_need 2 = .ok (.invokevirtual 56, 3) := by decide +kernel
theorem dX4_need_5 : decode cX4_need 5 = .ok (.ifCond .ne 8, 3) := by decide +kernel
theorem dX4_need_8 : decode cX4_need 8 = .ok (.aload_n 0, 1) := by decide +kernel
theorem dX4_need_9 : decode cX4_need 9 = .ok (.iconst 1, 1) := by decide +kernel
theorem dX4_need_10 : decode cX4_need 10 = .ok (.putfield 23, 3) := by decide +kernel
theorem dX4_need_13 : decode cX4_need 13 = .ok (.return_, 1) := by decide +kernel
theorem dX5_init_0 : decode cX5_init 0 = .ok (.aload_n 0, 1) := by decide +kernel
theorem dX5_init_1 : decode cX5_init 1 = .ok (.invokespecial 3, 3) := by decide +kernel
theorem dX5_init_4 : decode cX5_init 4 = .ok (.aload_n 0, 1) := by decide +kernel
theorem dX5_init_5 : decode cX5_init 5 = .ok (.bipush 8, 2) := by decide +kernel
theorem dX5_init_7 : decode cX5_init 7 = .ok (.newarray .int, 2) := by decide +kernel
theorem dX5_init_9 : decode cX5_init 9 = .ok (.putfield 9, 3) := by decide +kernel
theorem dX5_init_12 : decode cX5_init 12 = .ok (.aload_n 0, 1) := by decide +kernel
theorem dX5_init_13 : decode cX5_init 13 = .ok (.bipush 8, 2) := by decide +kernel
theorem dX5_init_15 : decode cX5_init 15 = .ok (.newarray .int, 2) := by decide +kernel
theorem dX5_init_17 : decode cX5_init 17 = .ok (.putfield 15, 3) := by decide +kernel
theorem dX5_init_20 : decode cX5_init 20 = .ok (.return_, 1) := by decide +kernel
theorem dX5_form_0 : decode cX5_form 0 = .ok (.aload_n 0, 1) := by decide +kernel
theorem dX5_form_1 : decode cX5_form 1 = .ok (.aload_n 2, 1) := by decide +kernel
theorem dX5_form_2 : decode cX5_form 2 = .ok (.getfield 18, 3) := by decide +kernel
theorem dX5_form_5 : decode cX5_form 5 = .ok (.putfield 24, 3) := by decide +kernel
theorem dX5_form_8 : decode cX5_form 8 = .ok (.iconst 0, 1) := by decide +kernel
theorem dX5_form_9 : decode cX5_form 9 = .ok (.istore 4, 2) := by decide +kernel
theorem dX5_form_11 : decode cX5_form 11 = .ok (.iload 4, 2) := by decide +kernel
theorem dX5_form_13 : decode cX5_form 13 = .ok (.aload_n 0, 1) := by decide +kernel
theorem dX5_form_14 : decode cX5_form 14 = .ok (.getfield 24, 3) := by decide +kernel
theorem dX5_form_17 : decode cX5_form 17 = .ok (.if_icmp .ge 72, 3) := by decide +kernel
theorem dX5_form_20 : decode cX5_form 20 = .ok (.aload_n 2, 1) := by decide +kernel
theorem dX5_form_21 : decode cX5_form 21 = .ok (.getfield 25, 3) := by decide +kernel
theorem dX5_form_24 : decode cX5_form 24 = .ok (.iload 4, 2) := by decide +kernel
theorem dX5_form_26 : decode cX5_form 26 = .ok (.iaload, 1) := by decide +kernel
theorem dX5_form_27 : decode cX5_form 27 = .ok (.istore 5, 2) := by decide +kernel
theorem dX5_form_29 : decode cX5_form 29 = .ok (.iload 5, 2) := by decide +kernel
theorem dX5_form_31 : decode cX5_form 31 = .ok (.iconst 4, 1) := by decide +kernel
theorem dX5_form_32 : decode cX5_form 32 = .ok (.if_icmp .ne 7, 3) := by decide +kernel
theorem dX5_form_35 : decode cX5_form 35 = .ok (.iconst 1, 1) := by decide +kernel
theorem dX5_form_36 : decode cX5_form 36 = .ok (.goto 14, 3) := by decide +kernel
theorem dX5_form_39 : decode cX5_form 39 = .ok (.iload 5, 2) := by decide +kernel
theorem dX5_form_41 : decode cX5_form 41 = .ok (.iconst 5, 1) := by decide +kernel
theorem dX5_form_42 : decode cX5_form 42 = .ok (.if_icmp .ne 7, 3) := by decide +kernel
theorem dX5_form_45 : decode cX5_form 45 = .ok (.iconst 2, 1) := by decide +kernel
theorem dX5_form_46 : decode cX5_form 46 = .ok (.goto 4, 3) := by decide +kernel
theorem dX5_form_49 : decode cX5_form 49 = .ok (.iconst 0, 1) := by decide +kernel
theorem dX5_form_50 : decode cX5_form 50 = .ok (.istore 6, 2) := by decide +kernel
theorem dX5_form_52 : decode cX5_form 52 = .ok (.aload_n 0, 1) := by decide +kernel
theorem dX5_form_53 : decode cX5_form 53 = .ok (.getfield 9, 3) := by decide +kernel
theorem dX5_form_56 : decode cX5_form 56 = .ok (.iload 4, 2) := by decide +kernel
theorem dX5_form_58 : decode cX5_form 58 = .ok (.aload_n 1, 1) := by decide +kernel
theorem dX5_form_59 : decode cX5_form 59 = .ok (.aload_n 1, 1) := by decide +kernel
theorem dX5_form_60 : decode cX5_form 60 = .ok (.iconst 0, 1) := by decide +kernel
theorem dX5_form_61 : decode cX5_form 61 = .ok (.aload_n 2, 1) := by decide +kernel
theorem dX5_form_62 : decode cX5_form 62 = .ok (.iload 4, 2) := by decide +kernel
theorem dX5_form_64 : decode cX5_form 64 = .ok (.iload_n 3, 1) := by decide +kernel
theorem dX5_form_65 : decode cX5_form 65 = .ok (.invokevirtual 28, 3) := by decide +kernel
theorem dX5_form_68 : decode cX5_form 68 = .ok (.iconst 0, 1) := by decide +kernel
theorem dX5_form_69 : decode cX5_form 69 = .ok (.invokevirtual 34, 3) := by decide +kernel
theorem dX5_form_72 : decode cX5_form 72 = .ok (.iload 6, 2) := by decide +kernel
theorem dX5_form_74 : decode cX5_form 74 = .ok (.isub, 1) := by decide +kernel
theorem dX5_form_75 : decode cX5_form 75 = .ok (.iastore, 1) := by decide +kernel
theorem dX5_form_76 : decode cX5_form 76 = .ok (.aload_n 0, 1) := by decide +kernel
theorem dX5_form_77 : decode cX5_form 77 = .ok (.aload_n 2, 1) := by decide +kernel
theorem dX5_form_78 : decode cX5_form 78 = .ok (.iload 4, 2) := by decide +kernel
theorem dX5_form_80 : decode cX5_form 80 = .ok (.invokevirtual 38, 3) := by decide +kernel
theorem dX5_form_83 : decode cX5_form 83 = .ok (.iinc 4 1, 3) := by decide +kernel
theorem dX5_form_86 : decode cX5_form 86 = .ok (.goto (-75), 3) := by decide +kernel
theorem dX5_form_89 : decode cX5_form 89 = .ok (.return_, 1) := by decide +kernel
theorem dX5_insert_0 : decode cX5_insert 0 = .ok (.iload_n 2, 1) := by decide +kernel
theorem dX5_insert_1 : decode cX5_insert 1 = .ok (.istore_n 3, 1) := by decide +kernel
theorem dX5_insert_2 : decode cX5_insert 2 = .ok (.iload_n 3, 1) := by decide +kernel
theorem dX5_insert_3 : decode cX5_insert 3 = .ok (.ifCond .le 40, 3) := by decide +kernel
theorem dX5_insert_6 : decode cX5_insert 6 = .ok (.aload_n 0, 1) := by decide +kernel
theorem dX5_insert_7 : decode cX5_insert 7 = .ok (.aload_n 1, 1) := by decide +kernel
theorem dX5_insert_8 : decode cX5_insert 8 = .ok (.iload_n 2, 1) := by decide +kernel
theorem dX5_insert_9 : decode cX5_insert 9 = .ok (.aload_n 0, 1) := by decide +kernel
theorem dX5_insert_10 : decode cX5_insert 10 = .ok (.getfield 15, 3) := by decide +kernel
theorem dX5_insert_13 : decode cX5_insert 13 = .ok (.iload_n 3, 1) := by decide +kernel
theorem dX5_insert_14 : decode cX5_insert 14 = .ok (.iconst 1, 1) := by decide +kernel
theorem dX5_insert_15 : decode cX5_insert 15 = .ok (.isub, 1) := by decide +kernel
theorem dX5_insert_16 : decode cX5_insert 16 = .ok (.iaload, 1) := by decide +kernel
theorem dX5_insert_17 : decode cX5_insert 17 = .ok (.invokevirtual 42, 3) := by decide +kernel
theorem dX5_insert_20 : decode cX5_insert 20 = .ok (.ifCond .eq 23, 3) := by decide +kernel
theorem dX5_insert_23 : decode cX5_insert 23 = .ok (.aload_n 0, 1) := by decide +kernel
theorem dX5_insert_24 : decode cX5_insert 24 = .ok (.getfield 15, 3) := by decide +kernel
theorem dX5_insert_27 : decode cX5_insert 27 = .ok (.iload_n 3, 1) := by decide +kernel
theorem dX5_insert_28 : decode cX5_insert 28 = .ok (.aload_n 0, 1) := by decide +kernel
theorem dX5_insert_29 : decode cX5_insert 29 = .ok (.getfield 15, 3) := by decide +kernel
theorem dX5_insert_32 : decode cX5_insert 32 = .ok (.iload_n 3, 1) := by decide +kernel
theorem dX5_insert_33 : decode cX5_insert 33 = .ok (.iconst 1, 1) := by decide +kernel
theorem dX5_insert_34 : decode cX5_insert 34 = .ok (.isub, 1) := by decide +kernel
theorem dX5_insert_35 : decode cX5_insert 35 = .ok (.iaload, 1) := by decide +kernel
theorem dX5_insert_36 : decode cX5_insert 36 = .ok (.iastore, 1) := by decide +kernel
theorem dX5_insert_37 : decode cX5_insert 37 = .ok (.iinc 3 (-1), 3) := by decide +kernel
theorem dX5_insert_40 : decode cX5_insert 40 = .ok (.goto (-38), 3) := by decide +kernel
theorem dX5_insert_43 : decode cX5_insert 43 = .ok (.aload_n 0, 1) := by decide +kernel
theorem dX5_insert_44 : decode cX5_insert 44 = .ok (.getfield 15, 3) := by decide +kernel
theorem dX5_insert_47 : decode cX5_insert 47 = .ok (.iload_n 3, 1) := by decide +kernel
theorem dX5_insert_48 : decode cX5_insert 48 = .ok (.iload_n 2, 1) := by decide +kernel
theorem dX5_insert_49 : decode cX5_insert 49 = .ok (.iastore, 1) := by decide +kernel
theorem dX5_insert_50 : decode cX5_insert 50 = .ok (.return_, 1) := by decide +kernel
theorem dX5_isAhead_0 : decode cX5_isAhead 0 = .ok (.aload_n 0, 1) := by decide +kernel
theorem dX5_isAhead_1 : decode cX5_isAhead 1 = .ok (.getfield 9, 3) := by decide +kernel
theorem dX5_isAhead_4 : decode cX5_isAhead 4 = .ok (.iload_n 2, 1) := by decide +kernel
theorem dX5_isAhead_5 : decode cX5_isAhead 5 = .ok (.iaload, 1) := by decide +kernel
theorem dX5_isAhead_6 : decode cX5_isAhead 6 = .ok (.aload_n 0, 1) := by decide +kernel
theorem dX5_isAhead_7 : decode cX5_isAhead 7 = .ok (.getfield 9, 3) := by decide +kernel
theorem dX5_isAhead_10 : decode cX5_isAhead 10 = .ok (.iload_n 3, 1) := by decide +kernel
theorem dX5_isAhead_11 : decode cX5_isAhead 11 = .ok (.iaload, 1) := by decide +kernel
theorem dX5_isAhead_12 : decode cX5_isAhead 12 = .ok (.if_icmp .eq 26, 3) := by decide +kernel
theorem dX5_isAhead_15 : decode cX5_isAhead 15 = .ok (.aload_n 0, 1) := by decide +kernel
theorem dX5_isAhead_16 : decode cX5_isAhead 16 = .ok (.getfield 9, 3) := by decide +kernel
theorem dX5_isAhead_19 : decode cX5_isAhead 19 = .ok (.iload_n 2, 1) := by decide +kernel
theorem dX5_isAhead_20 : decode cX5_isAhead 20 = .ok (.iaload, 1) := by decide +kernel
theorem dX5_isAhead_21 : decode cX5_isAhead 21 = .ok (.aload_n 0, 1) := by decide +kernel
theorem dX5_isAhead_22 : decode cX5_isAhead 22 = .ok (.getfield 9, 3) := by decide +kernel
theorem dX5_isAhead_25 : decode cX5_isAhead 25 = .ok (.iload_n 3, 1) := by decide +kernel
theorem dX5_isAhead_26 : decode cX5_isAhead 26 = .ok (.iaload, 1) := by decide +kernel
theorem dX5_isAhead_27 : decode cX5_isAhead 27 = .ok (.if_icmp .ge 7, 3) := by decide +kernel
theorem dX5_isAhead_30 : decode cX5_isAhead 30 = .ok (.iconst 1, 1) := by decide +kernel
theorem dX5_isAhead_31 : decode cX5_isAhead 31 = .ok (.goto 27, 3) := by decide +kernel
theorem dX5_isAhead_34 : decode cX5_isAhead 34 = .ok (.iconst 0, 1) := by decide +kernel
theorem dX5_isAhead_35 : decode cX5_isAhead 35 = .ok (.goto 23, 3) := by decide +kernel
theorem dX5_isAhead_38 : decode cX5_isAhead 38 = .ok (.aload_n 1, 1) := by decide +kernel
theorem dX5_isAhead_39 : decode cX5_isAhead 39 = .ok (.getfield 46, 3) := by decide +kernel
theorem dX5_isAhead_42 : decode cX5_isAhead 42 = .ok (.iload_n 2, 1) := by decide +kernel
theorem dX5_isAhead_43 : decode cX5_isAhead 43 = .ok (.iaload, 1) := by decide +kernel
theorem dX5_isAhead_44 : decode cX5_isAhead 44 = .ok (.aload_n 1, 1) := by decide +kernel
theorem dX5_isAhead_45 : decode cX5_isAhead 45 = .ok (.getfield 46, 3) := by decide +kernel
theorem dX5_isAhead_48 : decode cX5_isAhead 48 = .ok (.iload_n 3, 1) := by decide +kernel
theorem dX5_isAhead_49 : decode cX5_isAhead 49 = .ok (.iaload, 1) := by decide +kernel
theorem dX5_isAhead_50 : decode cX5_isAhead 50 = .ok (.if_icmp .ge 7, 3) := by decide +kernel
theorem dX5_isAhead_53 : decode cX5_isAhead 53 = .ok (.iconst 1, 1) := by decide +kernel
theorem dX5_isAhead_54 : decode cX5_isAhead 54 = .ok (.goto 4, 3) := by decide +kernel
theorem dX5_isAhead_57 : decode cX5_isAhead 57 = .ok (.iconst 0, 1) := by decide +kernel
theorem dX5_isAhead_58 : decode cX5_isAhead 58 = .ok (.ireturn, 1) := by decide +kernel
theorem dX5_placeOf_0 : decode cX5_placeOf 0 = .ok (.iconst 0, 1) := by decide +kernel
theorem dX5_placeOf_1 : decode cX5_placeOf 1 = .ok (.istore_n 2, 1) := by decide +kernel
theorem dX5_placeOf_2 : decode cX5_placeOf 2 = .ok (.iload_n 2, 1) := by decide +kernel
theorem dX5_placeOf_3 : decode cX5_placeOf 3 = .ok (.aload_n 0, 1) := by decide +kernel
theorem dX5_placeOf_4 : decode cX5_placeOf 4 = .ok (.getfield 24, 3) := by decide +kernel
theorem dX5_placeOf_7 : decode cX5_placeOf 7 = .ok (.if_icmp .ge 21, 3) := by decide +kernel
theorem dX5_placeOf_10 : decode cX5_placeOf 10 = .ok (.aload_n 0, 1) := by decide +kernel
theorem dX5_placeOf_11 : decode cX5_placeOf 11 = .ok (.getfield 15, 3) := by decide +kernel
theorem dX5_placeOf_14 : decode cX5_placeOf 14 = .ok (.iload_n 2, 1) := by decide +kernel
theorem dX5_placeOf_15 : decode cX5_placeOf 15 = .ok (.iaload, 1) := by decide +kernel
theorem dX5_placeOf_16 : decode cX5_placeOf 16 = .ok (.iload_n 1, 1) := by decide +kernel
theorem dX5_placeOf_17 : decode cX5_placeOf 17 = .ok (.if_icmp .ne 5, 3) := by decide +kernel
theorem dX5_placeOf_20 : decode cX5_placeOf 20 = .ok (.iload_n 2, 1) := by decide +kernel
theorem dX5_placeOf_21 : decode cX5_placeOf 21 = .ok (.ireturn, 1) := by decide +kernel
theorem dX5_placeOf_22 : decode cX5_placeOf 22 = .ok (.iinc 2 1, 3) := by decide +kernel
theorem dX5_placeOf_25 : decode cX5_placeOf 25 = .ok (.goto (-23), 3) := by decide +kernel
theorem dX5_placeOf_28 : decode cX5_placeOf 28 = .ok (.iconst (-1), 1) := by decide +kernel
theorem dX5_placeOf_29 : decode cX5_placeOf 29 = .ok (.ireturn, 1) := by decide +kernel
theorem dX6_init_0 : decode cX6_init 0 = .ok (.aload_n 0, 1) := by decide +kernel
theorem dX6_init_1 : decode cX6_init 1 = .ok (.invokespecial 3, 3) := by decide +kernel
theorem dX6_init_4 : decode cX6_init 4 = .ok (.aload_n 0, 1) := by decide +kernel
theorem dX6_init_5 : decode cX6_init 5 = .ok (.bipush 60, 2) := by decide +kernel
theorem dX6_init_7 : decode cX6_init 7 = .ok (.newarray .int, 2) := by decide +kernel
theorem dX6_init_9 : decode cX6_init 9 = .ok (.putfield 9, 3) := by decide +kernel
theorem dX6_init_12 : decode cX6_init 12 = .ok (.aload_n 0, 1) := by decide +kernel
theorem dX6_init_13 : decode cX6_init 13 = .ok (.bipush 60, 2) := by decide +kernel
theorem dX6_init_15 : decode cX6_init 15 = .ok (.newarray .int, 2) := by decide +kernel
theorem dX6_init_17 : decode cX6_init 17 = .ok (.putfield 15, 3) := by decide +kernel
theorem dX6_init_20 : decode cX6_init 20 = .ok (.aload_n 0, 1) := by decide +kernel
theorem dX6_init_21 : decode cX6_init 21 = .ok (.bipush 60, 2) := by decide +kernel
theorem dX6_init_23 : decode cX6_init 23 = .ok (.newarray .int, 2) := by decide +kernel
theorem dX6_init_25 : decode cX6_init 25 = .ok (.putfield 18, 3) := by decide +kernel
theorem dX6_init_28 : decode cX6_init 28 = .ok (.aload_n 0, 1) := by decide +kernel
theorem dX6_init_29 : decode cX6_init 29 = .ok (.bipush 60, 2) := by decide +kernel
theorem dX6_init_31 : decode cX6_init 31 = .ok (.newarray .int, 2) := by decide +kernel
theorem dX6_init_33 : decode cX6_init 33 = .ok (.putfield 21, 3) := by decide +kernel
theorem dX6_init_36 : decode cX6_init 36 = .ok (.aload_n 0, 1) := by decide +kernel
theorem dX6_init_37 : decode cX6_init 37 = .ok (.bipush 12, 2) := by decide +kernel
theorem dX6_init_39 : decode cX6_init 39 = .ok (.newarray .int, 2) := by decide +kernel
theorem dX6_init_41 : decode cX6_init 41 = .ok (.putfield 24, 3) := by decide +kernel
theorem dX6_init_44 : decode cX6_init 44 = .ok (.aload_n 0, 1) := by decide +kernel
theorem dX6_init_45 : decode cX6_init 45 = .ok (.bipush 30, 2) := by decide +kernel
theorem dX6_init_47 : decode cX6_init 47 = .ok (.newarray .int, 2) := by decide +kernel
theorem dX6_init_49 : decode cX6_init 49 = .ok (.putfield 27, 3) := by decide +kernel
theorem dX6_init_52 : decode cX6_init 52 = .ok (.aload_n 0, 1) := by decide +kernel
theorem dX6_init_53 : decode cX6_init 53 = .ok (.bipush 6, 2) := by decide +kernel
theorem dX6_init_55 : decode cX6_init 55 = .ok (.newarray .int, 2) := by decide +kernel
theorem dX6_init_57 : decode cX6_init 57 = .ok (.putfield 30, 3) := by decide +kernel
theorem dX6_init_60 : decode cX6_init 60 = .ok (.aload_n 0, 1) := by decide +kernel
theorem dX6_init_61 : decode cX6_init 61 = .ok (.bipush 6, 2) := by decide +kernel
theorem dX6_init_63 : decode cX6_init 63 = .ok (.newarray .int, 2) := by decide +kernel
theorem dX6_init_65 : decode cX6_init 65 = .ok (.putfield 33, 3) := by decide +kernel
theorem dX6_init_68 : decode cX6_init 68 = .ok (.return_, 1) := by decide +kernel
theorem dX6_copyFrom_0 : decode cX6_copyFrom 0 = .ok (.aload_n 0, 1) := by decide +kernel
theorem dX6_copyFrom_1 : decode cX6_copyFrom 1 = .ok (.aload_n 1, 1) := by decide +kernel
theorem dX6_copyFrom_2 : decode cX6_copyFrom 2 = .ok (.getfield 36, 3) := by decide +kernel
theorem dX6_copyFrom_5 : decode cX6_copyFrom 5 = .ok (.putfield 36, 3) := by decide +kernel
theorem dX6_copyFrom_8 : decode cX6_copyFrom 8 = .ok (.aload_n 1, 1) := by decide +kernel
theorem dX6_copyFrom_9 : decode cX6_copyFrom 9 = .ok (.getfield 9, 3) := by decide +kernel
theorem dX6_copyFrom_12 : decode cX6_copyFrom 12 = .ok (.iconst 0, 1) := by decide +kernel
theorem dX6_copyFrom_13 : decode cX6_copyFrom 13 = .ok (.aload_n 0, 1) := by decide +kernel
theorem dX6_copyFrom_14 : decode cX6_copyFrom 14 = .ok (.getfield 9, 3) := by decide +kernel
theorem dX6_copyFrom_17 : decode cX6_copyFrom 17 = .ok (.iconst 0, 1) := by decide +kernel
theorem dX6_copyFrom_18 : decode cX6_copyFrom 18 = .ok (.bipush 60, 2) := by decide +kernel
theorem dX6_copyFrom_20 : decode cX6_copyFrom 20 = .ok (.invokestatic 40, 3) := by decide +kernel
theorem dX6_copyFrom_23 : decode cX6_copyFrom 23 = .ok (.aload_n 1, 1) := by decide +kernel
theorem dX6_copyFrom_24 : decode cX6_copyFrom 24 = .ok (.getfield 15, 3) := by decide +kernel
theorem dX6_copyFrom_27 : decode cX6_copyFrom 27 = .ok (.iconst 0, 1) := by decide +kernel
theorem dX6_copyFrom_28 : decode cX6_copyFrom 28 = .ok (.aload_n 0, 1) := by decide +kernel
theorem dX6_copyFrom_29 : decode cX6_copyFrom 29 = .ok (.getfield 15, 3) := by decide +kernel
theorem dX6_copyFrom_32 : decode cX6_copyFrom 32 = .ok (.iconst 0, 1) := by decide +kernel
theorem dX6_copyFrom_33 : decode cX6_copyFrom 33 = .ok (.bipush 60, 2) := by decide +kernel
theorem dX6_copyFrom_35 : decode cX6_copyFrom 35 = .ok (.invokestatic 40, 3) := by decide +kernel
theorem dX6_copyFrom_38 : decode cX6_copyFrom 38 = .ok (.aload_n 1, 1) := by decide +kernel
theorem dX6_copyFrom_39 : decode cX6_copyFrom 39 = .ok (.getfield 18, 3) := by decide +kernel
theorem dX6_copyFrom_42 : decode cX6_copyFrom 42 = .ok (.iconst 0, 1) := by decide +kernel
theorem dX6_copyFrom_43 : decode cX6_copyFrom 43 = .ok (.aload_n 0, 1) := by decide +kernel
theorem dX6_copyFrom_44 : decode cX6_copyFrom 44 = .ok (.getfield 18, 3) := by decide +kernel
theorem dX6_copyFrom_47 : decode cX6_copyFrom 47 = .ok (.iconst 0, 1) := by decide +kernel
theorem dX6_copyFrom_48 : decode cX6_copyFrom 48 = .ok (.bipush 60, 2) := by decide +kernel
theorem dX6_copyFrom_50 : decode cX6_copyFrom 50 = .ok (.invokestatic 40, 3) := by decide +kernel
theorem dX6_copyFrom_53 : decode cX6_copyFrom 53 = .ok (.aload_n 1, 1) := by decide +kernel
theorem dX6_copyFrom_54 : decode cX6_copyFrom 54 = .ok (.getfield 21, 3) := by decide +kernel
theorem dX6_copyFrom_57 : decode cX6_copyFrom 57 = .ok (.iconst 0, 1) := by decide +kernel
theorem dX6_copyFrom_58 : decode cX6_copyFrom 58 = .ok (.aload_n 0, 1) := by decide +kernel
theorem dX6_copyFrom_59 : decode cX6_copyFrom 59 = .ok (.getfield 21, 3) := by decide +kernel
theorem dX6_copyFrom_62 : decode cX6_copyFrom 62 = .ok (.iconst 0, 1) := by decide +kernel
theorem dX6_copyFrom_63 : decode cX6_copyFrom 63 = .ok (.bipush 60, 2) := by decide +kernel
theorem dX6_copyFrom_65 : decode cX6_copyFrom 65 = .ok (.invokestatic 40, 3) := by decide +kernel
theorem dX6_copyFrom_68 : decode cX6_copyFrom 68 = .ok (.aload_n 0, 1) := by decide +kernel
theorem dX6_copyFrom_69 : decode cX6_copyFrom 69 = .ok (.aload_n 1, 1) := by decide +kernel
theorem dX6_copyFrom_70 : decode cX6_copyFrom 70 = .ok (.getfield 46, 3) := by decide +kernel
theorem dX6_copyFrom_73 : decode cX6_copyFrom 73 = .ok (.putfield 46, 3) := by decide +kernel
theorem dX6_copyFrom_76 : decode cX6_copyFrom 76 = .ok (.aload_n 1, 1) := by decide +kernel
theorem dX6_copyFrom_77 : decode cX6_copyFrom 77 = .ok (.getfield 24, 3) := by decide +kernel
theorem dX6_copyFrom_80 : decode cX6_copyFrom 80 = .ok (.iconst 0, 1) := by decide +kernel
theorem dX6_copyFrom_81 : decode cX6_copyFrom 81 = .ok (.aload_n 0, 1) := by decide +kernel
theorem dX6_copyFrom_82 : decode cX6_copyFrom 82 = .ok (.getfield 24, 3) := by decide +kernel
theorem dX6_copyFrom_85 : decode cX6_copyFrom 85 = .ok (.iconst 0, 1) := by decide +kernel
theorem dX6_copyFrom_86 : decode cX6_copyFrom 86 = .ok (.bipush 12, 2) := by decide +kernel
theorem dX6_copyFrom_88 : decode cX6_copyFrom 88 = .ok (.invokestatic 40, 3) := by decide +kernel
theorem dX6_copyFrom_91 : decode cX6_copyFrom 91 = .ok (.aload_n 0, 1) := by decide +kernel
theorem dX6_copyFrom_92 : decode cX6_copyFrom 92 = .ok (.aload_n 1, 1) := by decide +kernel
theorem dX6_copyFrom_93 : decode cX6_copyFrom 93 = .ok (.getfield 49, 3) := by decide +kernel
theorem dX6_copyFrom_96 : decode cX6_copyFrom 96 = .ok (.putfield 49, 3) := by decide +kernel
theorem dX6_copyFrom_99 : decode cX6_copyFrom 99 = .ok (.aload_n 1, 1) := by decide +kernel
theorem dX6_copyFrom_100 : decode cX6_copyFrom 100 = .ok (.getfield 27, 3) := by decide +kernel
theorem dX6_copyFrom_103 : decode cX6_copyFrom 103 = .ok (.iconst 0, 1) := by decide +kernel
theorem dX6_copyFrom_104 : decode cX6_copyFrom 104 = .ok (.aload_n 0, 1) := by decide +kernel
theorem dX6_copyFrom_105 : decode cX6_copyFrom 105 = .ok (.getfield 27, 3) := by decide +kernel
theorem dX6_copyFrom_108 : decode cX6_copyFrom 108 = .ok (.iconst 0, 1) := by decide +kernel
theorem dX6_copyFrom_109 : decode cX6_copyFrom 109 = .ok (.bipush 30, 2) := by decide +kernel
theorem dX6_copyFrom_111 : decode cX6_copyFrom 111 = .ok (.invokestatic 40, 3) := by decide +kernel
theorem dX6_copyFrom_114 : decode cX6_copyFrom 114 = .ok (.aload_n 0, 1) := by decide +kernel
theorem dX6_copyFrom_115 : decode cX6_copyFrom 115 = .ok (.aload_n 1, 1) := by decide +kernel
theorem dX6_copyFrom_116 : decode cX6_copyFrom 116 = .ok (.getfield 52, 3) := by decide +kernel
theorem dX6_copyFrom_119 : decode cX6_copyFrom 119 = .ok (.putfield 52, 3) := by decide +kernel
theorem dX6_copyFrom_122 : decode cX6_copyFrom 122 = .ok (.aload_n 1, 1) := by decide +kernel
theorem dX6_copyFrom_123 : decode cX6_copyFrom 123 = .ok (.getfield 30, 3) := by decide +kernel
theorem dX6_copyFrom_126 : decode cX6_copyFrom 126 = .ok (.iconst 0, 1) := by decide +kernel
theorem dX6_copyFrom_127 : decode cX6_copyFrom 127 = .ok (.aload_n 0, 1) := by decide +kernel
theorem dX6_copyFrom_128 : decode cX6_copyFrom 128 = .ok (.getfield 30, 3) := by decide +kernel
theorem dX6_copyFrom_131 : decode cX6_copyFrom 131 = .ok (.iconst 0, 1) := by decide +kernel
theorem dX6_copyFrom_132 : decode cX6_copyFrom 132 = .ok (.bipush 6, 2) := by decide +kernel
theorem dX6_copyFrom_134 : decode cX6_copyFrom 134 = .ok (.invokestatic 40, 3) := by decide +kernel
theorem dX6_copyFrom_137 : decode cX6_copyFrom 137 = .ok (.aload_n 1, 1) := by decide +kernel
theorem dX6_copyFrom_138 : decode cX6_copyFrom 138 = .ok (.getfield 33, 3) := by decide +kernel
theorem dX6_copyFrom_141 : decode cX6_copyFrom 141 = .ok (.iconst 0, 1) := by decide +kernel
theorem dX6_copyFrom_142 : decode cX6_copyFrom 142 = .ok (.aload_n 0, 1) := by decide +kernel
theorem dX6_copyFrom_143 : decode cX6_copyFrom 143 = .ok (.getfield 33, 3) := by decide +kernel
theorem dX6_copyFrom_146 : decode cX6_copyFrom 146 = .ok (.iconst 0, 1) := by decide +kernel
theorem dX6_copyFrom_147 : decode cX6_copyFrom 147 = .ok (.bipush 6, 2) := by decide +kernel
theorem dX6_copyFrom_149 : decode cX6_copyFrom 149 = .ok (.invokestatic 40, 3) := by decide +kernel
theorem dX6_copyFrom_152 : decode cX6_copyFrom 152 = .ok (.return_, 1) := by decide +kernel
theorem dX6_addLook_0 : decode cX6_addLook 0 = .ok (.aload_n 0, 1) := by decide +kernel
theorem dX6_addLook_1 : decode cX6_addLook 1 = .ok (.getfield 36, 3) := by decide +kernel
theorem dX6_addLook_4 : decode cX6_addLook 4 = .ok (.bipush 60, 2) := by decide +kernel
theorem dX6_addLook_6 : decode cX6_addLook 6 = .ok (.if_icmp .lt 6, 3) := by decide +kernel
theorem dX6_addLook_9 : decode cX6_addLook 9 = .ok (.bipush (-4), 2) := by decide +kernel
theorem dX6_addLook_11 : decode cX6_addLook 11 = .ok (.ireturn, 1) := by decide +kernel
theorem dX6_addLook_12 : decode cX6_addLook 12 = .ok (.aload_n 0, 1) := by decide +kernel
theorem dX6_addLook_13 : decode cX6_addLook 13 = .ok (.getfield 9, 3) := by decide +kernel
theorem dX6_addLook_16 : decode cX6_addLook 16 = .ok (.aload_n 0, 1) := by decide +kernel
theorem dX6_addLook_17 : decode cX6_addLook 17 = .ok (.getfield 36, 3) := by decide +kernel
theorem dX6_addLook_20 : decode cX6_addLook 20 = .ok (.iload_n 1, 1) := by decide +kernel
theorem dX6_addLook_21 : decode cX6_addLook 21 = .ok (.iastore, 1) := by decide +kernel
theorem dX6_addLook_22 : decode cX6_addLook 22 = .ok (.aload_n 0, 1) := by decide +kernel
theorem dX6_addLook_23 : decode cX6_addLook 23 = .ok (.getfield 15, 3) := by decide +kernel
theorem dX6_addLook_26 : decode cX6_addLook 26 = .ok (.aload_n 0, 1) := by decide +kernel
theorem dX6_addLook_27 : decode cX6_addLook 27 = .ok (.getfield 36, 3) := by decide +kernel
theorem dX6_addLook_30 : decode cX6_addLook 30 = .ok (.iload_n 2, 1) := by decide +kernel
theorem dX6_addLook_31 : decode cX6_addLook 31 = .ok (.iastore, 1) := by decide +kernel
theorem dX6_addLook_32 : decode cX6_addLook 32 = .ok (.aload_n 0, 1) := by decide +kernel
theorem dX6_addLook_33 : decode cX6_addLook 33 = .ok (.getfield 18, 3) := by decide +kernel
theorem dX6_addLook_36 : decode cX6_addLook 36 = .ok (.aload_n 0, 1) := by decide +kernel
theorem dX6_addLook_37 : decode cX6_addLook 37 = .ok (.getfield 36, 3) := by decide +kernel
theorem dX6_addLook_40 : decode cX6_addLook 40 = .ok (.iload_n 3, 1) := by decide +kernel
theorem dX6_addLook_41 : decode cX6_addLook 41 = .ok (.iastore, 1) := by decide +kernel
theorem dX6_addLook_42 : decode cX6_addLook 42 = .ok (.aload_n 0, 1) := by decide +kernel
theorem dX6_addLook_43 : decode cX6_addLook 43 = .ok (.getfield 21, 3) := by decide +kernel
theorem dX6_addLook_46 : decode cX6_addLook 46 = .ok (.aload_n 0, 1) := by decide +kernel
theorem dX6_addLook_47 : decode cX6_addLook 47 = .ok (.getfield 36, 3) := by decide +kernel
theorem dX6_addLook_50 : decode cX6_addLook 50 = .ok (.iload 4, 2) := by decide +kernel
theorem dX6_addLook_52 : decode cX6_addLook 52 = .ok (.iastore, 1) := by decide +kernel
theorem dX6_addLook_53 : decode cX6_addLook 53 = .ok (.aload_n 0, 1) := by decide +kernel
theorem dX6_addLook_54 : decode cX6_addLook 54 = .ok (.dup, 1) := by decide +kernel
theorem dX6_addLook_55 : decode cX6_addLook 55 = .ok (.getfield 36, 3) := by decide +kernel
theorem dX6_addLook_58 : decode cX6_addLook 58 = .ok (.iconst 1, 1) := by decide +kernel
theorem dX6_addLook_59 : decode cX6_addLook 59 = .ok (.iadd, 1) := by decide +kernel
theorem dX6_addLook_60 : decode cX6_addLook 60 = .ok (.putfield 36, 3) := by decide +kernel
theorem dX6_addLook_63 : decode cX6_addLook 63 = .ok (.aload_n 0, 1) := by decide +kernel
theorem dX6_addLook_64 : decode cX6_addLook 64 = .ok (.getfield 36, 3) := by decide +kernel
theorem dX6_addLook_67 : decode cX6_addLook 67 = .ok (.ireturn, 1) := by decide +kernel
theorem dX6_hasDrop_0 : decode cX6_hasDrop 0 = .ok (.aload_n 0, 1) := by decide +kernel
theorem dX6_hasDrop_1 : decode cX6_hasDrop 1 = .ok (.getfield 46, 3) := by decide +kernel
theorem dX6_hasDrop_4 : decode cX6_hasDrop 4 = .ok (.iload_n 1, 1) := by decide +kernel
theorem dX6_hasDrop_5 : decode cX6_hasDrop 5 = .ok (.ishr, 1) := by decide +kernel
theorem dX6_hasDrop_6 : decode cX6_hasDrop 6 = .ok (.iconst 1, 1) := by decide +kernel
theorem dX6_hasDrop_7 : decode cX6_hasDrop 7 = .ok (.iand, 1) := by decide +kernel
theorem dX6_hasDrop_8 : decode cX6_hasDrop 8 = .ok (.ifCond .eq 7, 3) := by decide +kernel
theorem dX6_hasDrop_11 : decode cX6_hasDrop 11 = .ok (.iconst 1, 1) := by decide +kernel
theorem dX6_hasDrop_12 : decode cX6_hasDrop 12 = .ok (.goto 4, 3) := by decide +kernel
theorem dX6_hasDrop_15 : decode cX6_hasDrop 15 = .ok (.iconst 0, 1) := by decide +kernel
theorem dX6_hasDrop_16 : decode cX6_hasDrop 16 = .ok (.ireturn, 1) := by decide +kernel
theorem dX6_drops_0 : decode cX6_drops 0 = .ok (.aload_n 0, 1) := by decide +kernel
theorem dX6_drops_1 : decode cX6_drops 1 = .ok (.getfield 46, 3) := by decide +kernel
theorem dX6_drops_4 : decode cX6_drops 4 = .ok (.invokestatic 55, 3) := by decide +kernel
theorem dX6_drops_7 : decode cX6_drops 7 = .ok (.ireturn, 1) := by decide +kernel
theorem dX6_setDrop_0 : decode cX6_setDrop 0 = .ok (.aload_n 0, 1) := by decide +kernel
theorem dX6_setDrop_1 : decode cX6_setDrop 1 = .ok (.dup, 1) := by decide +kernel
theorem dX6_setDrop_2 : decode cX6_setDrop 2 = .ok (.getfield 46, 3) := by decide +kernel
theorem dX6_setDrop_5 : decode cX6_setDrop 5 = .ok (.iconst 1, 1) := by decide +kernel
theorem dX6_setDrop_6 : decode cX6_setDrop 6 = .ok (.iload_n 1, 1) := by decide +kernel
theorem dX6_setDrop_7 : decode cX6_setDrop 7 = .ok (.ishl, 1) := by decide +kernel
theorem dX6_setDrop_8 : decode cX6_setDrop 8 = .ok (.ior, 1) := by decide +kernel
theorem dX6_setDrop_9 : decode cX6_setDrop 9 = .ok (.putfield 46, 3) := by decide +kernel
theorem dX6_setDrop_12 : decode cX6_setDrop 12 = .ok (.aload_n 0, 1) := by decide +kernel
theorem dX6_setDrop_13 : decode cX6_setDrop 13 = .ok (.getfield 24, 3) := by decide +kernel
theorem dX6_setDrop_16 : decode cX6_setDrop 16 = .ok (.iload_n 1, 1) := by decide +kernel
theorem dX6_setDrop_17 : decode cX6_setDrop 17 = .ok (.iload_n 2, 1) := by decide +kernel
theorem dX6_setDrop_18 : decode cX6_setDrop 18 = .ok (.iastore, 1) := by decide +kernel
theorem dX6_setDrop_19 : decode cX6_setDrop 19 = .ok (.aload_n 0, 1) := by decide +kernel
theorem dX6_setDrop_20 : decode cX6_setDrop 20 = .ok (.invokevirtual 61, 3) := by decide +kernel
theorem dX6_setDrop_23 : decode cX6_setDrop 23 = .ok (.ireturn, 1) := by decide +kernel
theorem dX6_hasChange_0 : decode cX6_hasChange 0 = .ok (.aload_n 0, 1) := by decide +kernel
theorem dX6_hasChange_1 : decode cX6_hasChange 1 = .ok (.getfield 49, 3) := by decide +kernel
theorem dX6_hasChange_4 : decode cX6_hasChange 4 = .ok (.iload_n 1, 1) := by decide +kernel
theorem dX6_hasChange_5 : decode cX6_hasChange 5 = .ok (.ishr, 1) := by decide +kernel
theorem dX6_hasChange_6 : decode cX6_hasChange 6 = .ok (.iconst 1, 1) := by decide +kernel
theorem dX6_hasChange_7 : decode cX6_hasChange 7 = .ok (.iand, 1) := by decide +kernel
theorem dX6_hasChange_8 : decode cX6_hasChange 8 = .ok (.ifCond .eq 7, 3) := by decide +kernel
theorem dX6_hasChange_11 : decode cX6_hasChange 11 = .ok (.iconst 1, 1) := by decide +kernel
theorem dX6_hasChange_12 : decode cX6_hasChange 12 = .ok (.goto 4, 3) := by decide +kernel
theorem dX6_hasChange_15 : decode cX6_hasChange 15 = .ok (.iconst 0, 1) := by decide +kernel
theorem dX6_hasChange_16 : decode cX6_hasChange 16 = .ok (.ireturn, 1) := by decide +kernel
theorem dX6_changes_0 : decode cX6_changes 0 = .ok (.aload_n 0, 1) := by decide +kernel
theorem dX6_changes_1 : decode cX6_changes 1 = .ok (.getfield 49, 3) := by decide +kernel
theorem dX6_changes_4 : decode cX6_changes 4 = .ok (.invokestatic 55, 3) := by decide +kernel
theorem dX6_changes_7 : decode cX6_changes 7 = .ok (.ireturn, 1) := by decide +kernel
theorem dX6_setChange_0 : decode cX6_setChange 0 = .ok (.aload_n 0, 1) := by decide +kernel
theorem dX6_setChange_1 : decode cX6_setChange 1 = .ok (.dup, 1) := by decide +kernel
theorem dX6_setChange_2 : decode cX6_setChange 2 = .ok (.getfield 49, 3) := by decide +kernel
theorem dX6_setChange_5 : decode cX6_setChange 5 = .ok (.iconst 1, 1) := by decide +kernel
theorem dX6_setChange_6 : decode cX6_setChange 6 = .ok (.iload_n 1, 1) := by decide +kernel
theorem dX6_setChange_7 : decode cX6_setChange 7 = .ok (.ishl, 1) := by decide +kernel
theorem dX6_setChange_8 : decode cX6_setChange 8 = .ok (.ior, 1) := by decide +kernel
theorem dX6_setChange_9 : decode cX6_setChange 9 = .ok (.putfield 49, 3) := by decide +kernel
theorem dX6_setChange_12 : decode cX6_setChange 12 = .ok (.aload_n 0, 1) := by decide +kernel
theorem dX6_setChange_13 : decode cX6_setChange 13 = .ok (.getfield 27, 3) := by decide +kernel
theorem dX6_setChange_16 : decode cX6_setChange 16 = .ok (.iload_n 1, 1) := by decide +kernel
theorem dX6_setChange_17 : decode cX6_setChange 17 = .ok (.iload_n 2, 1) := by decide +kernel
theorem dX6_setChange_18 : decode cX6_setChange 18 = .ok (.iastore, 1) := by decide +kernel
theorem dX6_setChange_19 : decode cX6_setChange 19 = .ok (.aload_n 0, 1) := by decide +kernel
theorem dX6_setChange_20 : decode cX6_setChange 20 = .ok (.invokevirtual 65, 3) := by decide +kernel
theorem dX6_setChange_23 : decode cX6_setChange 23 = .ok (.ireturn, 1) := by decide +kernel
theorem dX6_addPush_0 : decode cX6_addPush 0 = .ok (.aload_n 0, 1) := by decide +kernel
theorem dX6_addPush_1 : decode cX6_addPush 1 = .ok (.getfield 52, 3) := by decide +kernel
theorem dX6_addPush_4 : decode cX6_addPush 4 = .ok (.bipush 6, 2) := by decide +kernel
theorem dX6_addPush_6 : decode cX6_addPush 6 = .ok (.if_icmp .lt 6, 3) := by decide +kernel
theorem dX6_addPush_9 : decode cX6_addPush 9 = .ok (.bipush (-4), 2) := by decide +kernel
theorem dX6_addPush_11 : decode cX6_addPush 11 = .ok (.ireturn, 1) := by decide +kernel
theorem dX6_addPush_12 : decode cX6_addPush 12 = .ok (.aload_n 0, 1) := by decide +kernel
theorem dX6_addPush_13 : decode cX6_addPush 13 = .ok (.getfield 30, 3) := by decide +kernel
theorem dX6_addPush_16 : decode cX6_addPush 16 = .ok (.aload_n 0, 1) := by decide +kernel
theorem dX6_addPush_17 : decode cX6_addPush 17 = .ok (.getfield 52, 3) := by decide +kernel
theorem dX6_addPush_20 : decode cX6_addPush 20 = .ok (.iload_n 1, 1) := by decide +kernel
theorem dX6_addPush_21 : decode cX6_addPush 21 = .ok (.iastore, 1) := by decide +kernel
theorem dX6_addPush_22 : decode cX6_addPush 22 = .ok (.aload_n 0, 1) := by decide +kernel
theorem dX6_addPush_23 : decode cX6_addPush 23 = .ok (.getfield 33, 3) := by decide +kernel
theorem dX6_addPush_26 : decode cX6_addPush 26 = .ok (.aload_n 0, 1) := by decide +kernel
theorem dX6_addPush_27 : decode cX6_addPush 27 = .ok (.getfield 52, 3) := by decide +kernel
theorem dX6_addPush_30 : decode cX6_addPush 30 = .ok (.iload_n 2, 1) := by decide +kernel
theorem dX6_addPush_31 : decode cX6_addPush 31 = .ok (.iastore, 1) := by decide +kernel
theorem dX6_addPush_32 : decode cX6_addPush 32 = .ok (.aload_n 0, 1) := by decide +kernel
theorem dX6_addPush_33 : decode cX6_addPush 33 = .ok (.dup, 1) := by decide +kernel
theorem dX6_addPush_34 : decode cX6_addPush 34 = .ok (.getfield 52, 3) := by decide +kernel
theorem dX6_addPush_37 : decode cX6_addPush 37 = .ok (.iconst 1, 1) := by decide +kernel
theorem dX6_addPush_38 : decode cX6_addPush 38 = .ok (.iadd, 1) := by decide +kernel
theorem dX6_addPush_39 : decode cX6_addPush 39 = .ok (.putfield 52, 3) := by decide +kernel
theorem dX6_addPush_42 : decode cX6_addPush 42 = .ok (.aload_n 0, 1) := by decide +kernel
theorem dX6_addPush_43 : decode cX6_addPush 43 = .ok (.getfield 52, 3) := by decide +kernel
theorem dX6_addPush_46 : decode cX6_addPush 46 = .ok (.ireturn, 1) := by decide +kernel
theorem dX7_init_0 : decode cX7_init 0 = .ok (.aload_n 0, 1) := by decide +kernel
theorem dX7_init_1 : decode cX7_init 1 = .ok (.invokespecial 3, 3) := by decide +kernel
theorem dX7_init_4 : decode cX7_init 4 = .ok (.aload_n 0, 1) := by decide +kernel
theorem dX7_init_5 : decode cX7_init 5 = .ok (.bipush 6, 2) := by decide +kernel
theorem dX7_init_7 : decode cX7_init 7 = .ok (.newarray .int, 2) := by decide +kernel
theorem dX7_init_9 : decode cX7_init 9 = .ok (.putfield 11, 3) := by decide +kernel
theorem dX7_init_12 : decode cX7_init 12 = .ok (.aload_n 0, 1) := by decide +kernel
theorem dX7_init_13 : decode cX7_init 13 = .ok (.bipush 48, 2) := by decide +kernel
theorem dX7_init_15 : decode cX7_init 15 = .ok (.newarray .int, 2) := by decide +kernel
theorem dX7_init_17 : decode cX7_init 17 = .ok (.putfield 15, 3) := by decide +kernel
theorem dX7_init_20 : decode cX7_init 20 = .ok (.return_, 1) := by decide +kernel
theorem dX7_begin_0 : decode cX7_begin 0 = .ok (.aload_n 0, 1) := by decide +kernel
theorem dX7_begin_1 : decode cX7_begin 1 = .ok (.iload_n 1, 1) := by decide +kernel
theorem dX7_begin_2 : decode cX7_begin 2 = .ok (.bipush 8, 2) := by decide +kernel
theorem dX7_begin_4 : decode cX7_begin 4 = .ok (.invokestatic 18, 3) := by decide +kernel
theorem dX7_begin_7 : decode cX7_begin 7 = .ok (.putfield 24, 3) := by decide +kernel
theorem dX7_begin_10 : decode cX7_begin 10 = .ok (.aload_n 0, 1) := by decide +kernel
theorem dX7_begin_11 : decode cX7_begin 11 = .ok (.iload_n 2, 1) := by decide +kernel
theorem dX7_begin_12 : decode cX7_begin 12 = .ok (.putfield 28, 3) := by decide +kernel
theorem dX7_begin_15 : decode cX7_begin 15 = .ok (.aload_n 0, 1) := by decide +kernel
theorem dX7_begin_16 : decode cX7_begin 16 = .ok (.iconst 0, 1) := by decide +kernel
theorem dX7_begin_17 : decode cX7_begin 17 = .ok (.putfield 31, 3) := by decide +kernel
theorem dX7_begin_20 : decode cX7_begin 20 = .ok (.return_, 1) := by decide +kernel
theorem dX7_addDue_0 : decode cX7_addDue 0 = .ok (.aload_n 0, 1) := by decide +kernel
theorem dX7_addDue_1 : decode cX7_addDue 1 = .ok (.getfield 31, 3) := by decide +kernel
theorem dX7_addDue_4 : decode cX7_addDue 4 = .ok (.bipush 6, 2) := by decide +kernel
theorem dX7_addDue_6 : decode cX7_addDue 6 = .ok (.if_icmp .ge 23, 3) := by decide +kernel
theorem dX7_addDue_9 : decode cX7_addDue 9 = .ok (.aload_n 0, 1) := by decide +kernel
theorem dX7_addDue_10 : decode cX7_addDue 10 = .ok (.getfield 11, 3) := by decide +kernel
theorem dX7_addDue_13 : decode cX7_addDue 13 = .ok (.aload_n 0, 1) := by decide +kernel
theorem dX7_addDue_14 : decode cX7_addDue 14 = .ok (.getfield 31, 3) := by decide +kernel
theorem dX7_addDue_17 : decode cX7_addDue 17 = .ok (.iload_n 1, 1) := by decide +kernel
theorem dX7_addDue_18 : decode cX7_addDue 18 = .ok (.iastore, 1) := by decide +kernel
theorem dX7_addDue_19 : decode cX7_addDue 19 = .ok (.aload_n 0, 1) := by decide +kernel
theorem dX7_addDue_20 : decode cX7_addDue 20 = .ok (.dup, 1) := by decide +kernel
theorem dX7_addDue_21 : decode cX7_addDue 21 = .ok (.getfield 31, 3) := by decide +kernel
theorem dX7_addDue_24 : decode cX7_addDue 24 = .ok (.iconst 1, 1) := by decide +kernel
theorem dX7_addDue_25 : decode cX7_addDue 25 = .ok (.iadd, 1) := by decide +kernel
theorem dX7_addDue_26 : decode cX7_addDue 26 = .ok (.putfield 31, 3) := by decide +kernel
theorem dX7_addDue_29 : decode cX7_addDue 29 = .ok (.return_, 1) := by decide +kernel
theorem dX7_addShare_0 : decode cX7_addShare 0 = .ok (.aload_n 0, 1) := by decide +kernel
theorem dX7_addShare_1 : decode cX7_addShare 1 = .ok (.getfield 31, 3) := by decide +kernel
theorem dX7_addShare_4 : decode cX7_addShare 4 = .ok (.ifCond .le 29, 3) := by decide +kernel
theorem dX7_addShare_7 : decode cX7_addShare 7 = .ok (.iload_n 1, 1) := by decide +kernel
theorem dX7_addShare_8 : decode cX7_addShare 8 = .ok (.bipush 8, 2) := by decide +kernel
theorem dX7_addShare_10 : decode cX7_addShare 10 = .ok (.invokestatic 34, 3) := by decide +kernel
theorem dX7_addShare_13 : decode cX7_addShare 13 = .ok (.ifCond .eq 20, 3) := by decide +kernel
theorem dX7_addShare_16 : decode cX7_addShare 16 = .ok (.aload_n 0, 1) := by decide +kernel
theorem dX7_addShare_17 : decode cX7_addShare 17 = .ok (.getfield 15, 3) := by decide +kernel
theorem dX7_addShare_20 : decode cX7_addShare 20 = .ok (.aload_n 0, 1) := by decide +kernel
theorem dX7_addShare_21 : decode cX7_addShare 21 = .ok (.getfield 31, 3) := by decide +kernel
theorem dX7_addShare_24 : decode cX7_addShare 24 = .ok (.iconst 1, 1) := by decide +kernel
theorem dX7_addShare_25 : decode cX7_addShare 25 = .ok (.isub, 1) := by decide +kernel
theorem dX7_addShare_26 : decode cX7_addShare 26 = .ok (.bipush 8, 2) := by decide +kernel
theorem dX7_addShare_28 : decode cX7_addShare 28 = .ok (.imul, 1) := by decide +kernel
theorem dX7_addShare_29 : decode cX7_addShare 29 = .ok (.iload_n 1, 1) := by decide +kernel
theorem dX7_addShare_30 : decode cX7_addShare 30 = .ok (.iadd, 1) := by decide +kernel
theorem dX7_addShare_31 : decode cX7_addShare 31 = .ok (.iload_n 2, 1) := by decide +kernel
theorem dX7_addShare_32 : decode cX7_addShare 32 = .ok (.iastore, 1) := by decide +kernel
theorem dX7_addShare_33 : decode cX7_addShare 33 = .ok (.return_, 1) := by decide +kernel
theorem dX7_answer_0 : decode cX7_answer 0 = .ok (.bipush (-5), 2) := by decide +kernel
theorem dX7_answer_2 : decode cX7_answer 2 = .ok (.istore_n 2, 1) := by decide +kernel
theorem dX7_answer_3 : decode cX7_answer 3 = .ok (.bipush (-5), 2) := by decide +kernel
theorem dX7_answer_5 : decode cX7_answer 5 = .ok (.istore_n 3, 1) := by decide +kernel
theorem dX7_answer_6 : decode cX7_answer 6 = .ok (.bipush 9, 2) := by decide +kernel
theorem dX7_answer_8 : decode cX7_answer 8 = .ok (.istore 4, 2) := by decide +kernel
theorem dX7_answer_10 : decode cX7_answer 10 = .ok (.iconst 0, 1) := by decide +kernel
theorem dX7_answer_11 : decode cX7_answer 11 = .ok (.istore 5, 2) := by decide +kernel
theorem dX7_answer_13 : decode cX7_answer 13 = .ok (.iload 5, 2) := by decide +kernel
theorem dX7_answer_15 : decode cX7_answer 15 = .ok (.iconst 1, 1) := by decide +kernel
theorem dX7_answer_16 : decode cX7_answer 16 = .ok (.aload_n 0, 1) := by decide +kernel
theorem dX7_answer_17 : decode cX7_answer 17 = .ok (.getfield 24, 3) := by decide +kernel
theorem dX7_answer_20 : decode cX7_answer 20 = .ok (.ishl, 1) := by decide +kernel
theorem dX7_answer_21 : decode cX7_answer 21 = .ok (.if_icmp .ge 54, 3) := by decide +kernel
theorem dX7_answer_24 : decode cX7_answer 24 = .ok (.iload 5, 2) := by decide +kernel
theorem dX7_answer_26 : decode cX7_answer 26 = .ok (.invokestatic 38, 3) := by decide +kernel
theorem dX7_answer_29 : decode cX7_answer 29 = .ok (.istore 6, 2) := by decide +kernel
theorem dX7_answer_31 : decode cX7_answer 31 = .ok (.iload 6, 2) := by decide +kernel
theorem dX7_answer_33 : decode cX7_answer 33 = .ok (.iload 4, 2) := by decide +kernel
theorem dX7_answer_35 : decode cX7_answer 35 = .ok (.if_icmp .gt 34, 3) := by decide +kernel
theorem dX7_answer_38 : decode cX7_answer 38 = .ok (.aload_n 0, 1) := by decide +kernel
theorem dX7_answer_39 : decode cX7_answer 39 = .ok (.iload 5, 2) := by decide +kernel
theorem dX7_answer_41 : decode cX7_answer 41 = .ok (.invokevirtual 44, 3) := by decide +kernel
theorem dX7_answer_44 : decode cX7_answer 44 = .ok (.ifCond .ne 6, 3) := by decide +kernel
theorem dX7_answer_47 : decode cX7_answer 47 = .ok (.goto 22, 3) := by decide +kernel
theorem dX7_answer_50 : decode cX7_answer 50 = .ok (.iload 6, 2) := by decide +kernel
theorem dX7_answer_52 : decode cX7_answer 52 = .ok (.iload 4, 2) := by decide +kernel
theorem dX7_answer_54 : decode cX7_answer 54 = .ok (.if_icmp .ge 12, 3) := by decide +kernel
theorem dX7_answer_57 : decode cX7_answer 57 = .ok (.iload 6, 2) := by decide +kernel
theorem dX7_answer_59 : decode cX7_answer 59 = .ok (.istore 4, 2) := by decide +kernel
theorem dX7_answer_61 : decode cX7_answer 61 = .ok (.iload 5, 2) := by decide +kernel
theorem dX7_answer_63 : decode cX7_answer 63 = .ok (.istore_n 2, 1) := by decide +kernel
theorem dX7_answer_64 : decode cX7_answer 64 = .ok (.iconst 0, 1) := by decide +kernel
theorem dX7_answer_65 : decode cX7_answer 65 = .ok (.istore_n 3, 1) := by decide +kernel
theorem dX7_answer_66 : decode cX7_answer 66 = .ok (.iinc 3 1, 3) := by decide +kernel
theorem dX7_answer_69 : decode cX7_answer 69 = .ok (.iinc 5 1, 3) := by decide +kernel
theorem dX7_answer_72 : decode cX7_answer 72 = .ok (.goto (-59), 3) := by decide +kernel
theorem dX7_answer_75 : decode cX7_answer 75 = .ok (.iload_n 1, 1) := by decide +kernel
theorem dX7_answer_76 : decode cX7_answer 76 = .ok (.ifCond .ne 7, 3) := by decide +kernel
theorem dX7_answer_79 : decode cX7_answer 79 = .ok (.iload_n 2, 1) := by decide +kernel
theorem dX7_answer_80 : decode cX7_answer 80 = .ok (.goto 4, 3) := by decide +kernel
theorem dX7_answer_83 : decode cX7_answer 83 = .ok (.iload_n 3, 1) := by decide +kernel
theorem dX7_answer_84 : decode cX7_answer 84 = .ok (.ireturn, 1) := by decide +kernel
theorem dX7_explains_0 : decode cX7_explains 0 = .ok (.iconst 0, 1) := by decide +kernel
theorem dX7_explains_1 : decode cX7_explains 1 = .ok (.istore_n 2, 1) := by decide +kernel
theorem dX7_explains_2 : decode cX7_explains 2 = .ok (.iload_n 2, 1) := by decide +kernel
theorem dX7_explains_3 : decode cX7_explains 3 = .ok (.aload_n 0, 1) := by decide +kernel
theorem dX7_explains_4 : decode cX7_explains 4 = .ok (.getfield 31, 3) := by decide +kernel
theorem dX7_explains_7 : decode cX7_explains 7 = .ok (.if_icmp .ge 73, 3) := by decide +kernel
theorem dX7_explains_10 : decode cX7_explains 10 = .ok (.iconst 0, 1) := by decide +kernel
theorem dX7_explains_11 : decode cX7_explains 11 = .ok (.istore_n 3, 1) := by decide +kernel
theorem dX7_explains_12 : decode cX7_explains 12 = .ok (.iconst 0, 1) := by decide +kernel
theorem dX7_explains_13 : decode cX7_explains 13 = .ok (.istore 4, 2) := by decide +kernel
theorem dX7_explains_15 : decode cX7_explains 15 = .ok (.iload 4, 2) := by decide +kernel
theorem dX7_explains_17 : decode cX7_explains 17 = .ok (.aload_n 0, 1) := by decide +kernel
theorem dX7_explains_18 : decode cX7_explains 18 = .ok (.getfield 24, 3) := by decide +kernel
theorem dX7_explains_21 : decode cX7_explains 21 = .ok (.if_icmp .ge 33, 3) := by decide +kernel
theorem dX7_explains_24 : decode cX7_explains 24 = .ok (.iload_n 1, 1) := by decide +kernel
theorem dX7_explains_25 : decode cX7_explains 25 = .ok (.iload 4, 2) := by decide +kernel
theorem dX7_explains_27 : decode cX7_explains 27 = .ok (.ishr, 1) := by decide +kernel
theorem dX7_explains_28 : decode cX7_explains 28 = .ok (.iconst 1, 1) := by decide +kernel
theorem dX7_explains_29 : decode cX7_explains 29 = .ok (.iand, 1) := by decide +kernel
theorem dX7_explains_30 : decode cX7_explains 30 = .ok (.ifCond .eq 18, 3) := by decide +kernel
theorem dX7_explains_33 : decode cX7_explains 33 = .ok (.iload_n 3, 1) := by decide +kernel
theorem dX7_explains_34 : decode cX7_explains 34 = .ok (.aload_n 0, 1) := by decide +kernel
theorem dX7_explains_35 : decode cX7_explains 35 = .ok (.getfield 15, 3) := by decide +kernel
theorem dX7_explains_38 : decode cX7_explains 38 = .ok (.iload_n 2, 1) := by decide +kernel
theorem dX7_explains_39 : decode cX7_explains 39 = .ok (.bipush 8, 2) := by decide +kernel
theorem dX7_explains_41 : decode cX7_explains 41 = .ok (.imul, 1) := by decide +kernel
theorem dX7_explains_42 : decode cX7_explains 42 = .ok (.iload 4, 2) := by decide +kernel
theorem dX7_explains_44 : decode cX7_explains 44 = .ok (.iadd, 1) := by decide +kernel
theorem dX7_explains_45 : decode cX7_explains 45 = .ok (.iaload, 1) := by decide +kernel
theorem dX7_explains_46 : decode cX7_explains 46 = .ok (.iadd, 1) := by decide +kernel
theorem dX7_explains_47 : decode cX7_explains 47 = .ok (.istore_n 3, 1) := by decide +kernel
theorem dX7_explains_48 : decode cX7_explains 48 = .ok (.iinc 4 1, 3) := by decide +kernel
theorem dX7_explains_51 : decode cX7_explains 51 = .ok (.goto (-36), 3) := by decide +kernel
theorem dX7_explains_54 : decode cX7_explains 54 = .ok (.iload_n 3, 1) := by decide +kernel
theorem dX7_explains_55 : decode cX7_explains 55 = .ok (.aload_n 0, 1) := by decide +kernel
theorem dX7_explains_56 : decode cX7_explains 56 = .ok (.getfield 11, 3) := by decide +kernel
theorem dX7_explains_59 : decode cX7_explains 59 = .ok (.iload_n 2, 1) := by decide +kernel
theorem dX7_explains_60 : decode cX7_explains 60 = .ok (.iaload, 1) := by decide +kernel
theorem dX7_explains_61 : decode cX7_explains 61 = .ok (.isub, 1) := by decide +kernel
theorem dX7_explains_62 : decode cX7_explains 62 = .ok (.invokestatic 48, 3) := by decide +kernel
theorem dX7_explains_65 : decode cX7_explains 65 = .ok (.aload_n 0, 1) := by decide +kernel
theorem dX7_explains_66 : decode cX7_explains 66 = .ok (.getfield 28, 3) := by decide +kernel
theorem dX7_explains_69 : decode cX7_explains 69 = .ok (.if_icmp .le 5, 3) := by decide +kernel
theorem dX7_explains_72 : decode cX7_explains 72 = .ok (.iconst 0, 1) := by decide +kernel
theorem dX7_explains_73 : decode cX7_explains 73 = .ok (.ireturn, 1) := by decide +kernel
theorem dX7_explains_74 : decode cX7_explains 74 = .ok (.iinc 2 1, 3) := by decide +kernel
theorem dX7_explains_77 : decode cX7_explains 77 = .ok (.goto (-75), 3) := by decide +kernel
theorem dX7_explains_80 : decode cX7_explains 80 = .ok (.iconst 1, 1) := by decide +kernel
theorem dX7_explains_81 : decode cX7_explains 81 = .ok (.ireturn, 1) := by decide +kernel
theorem dX8_init_0 : decode cX8_init 0 = .ok (.aload_n 0, 1) := by decide +kernel
theorem dX8_init_1 : decode cX8_init 1 = .ok (.invokespecial 3, 3) := by decide +kernel
theorem dX8_init_4 : decode cX8_init 4 = .ok (.aload_n 0, 1) := by decide +kernel
theorem dX8_init_5 : decode cX8_init 5 = .ok (.bipush 8, 2) := by decide +kernel
theorem dX8_init_7 : decode cX8_init 7 = .ok (.newarray .int, 2) := by decide +kernel
theorem dX8_init_9 : decode cX8_init 9 = .ok (.putfield 9, 3) := by decide +kernel
theorem dX8_init_12 : decode cX8_init 12 = .ok (.aload_n 0, 1) := by decide +kernel
theorem dX8_init_13 : decode cX8_init 13 = .ok (.bipush 8, 2) := by decide +kernel
theorem dX8_init_15 : decode cX8_init 15 = .ok (.newarray .int, 2) := by decide +kernel
theorem dX8_init_17 : decode cX8_init 17 = .ok (.putfield 15, 3) := by decide +kernel
theorem dX8_init_20 : decode cX8_init 20 = .ok (.aload_n 0, 1) := by decide +kernel
theorem dX8_init_21 : decode cX8_init 21 = .ok (.bipush 8, 2) := by decide +kernel
theorem dX8_init_23 : decode cX8_init 23 = .ok (.newarray .int, 2) := by decide +kernel
theorem dX8_init_25 : decode cX8_init 25 = .ok (.putfield 18, 3) := by decide +kernel
theorem dX8_init_28 : decode cX8_init 28 = .ok (.aload_n 0, 1) := by decide +kernel
theorem dX8_init_29 : decode cX8_init 29 = .ok (.bipush 8, 2) := by decide +kernel
theorem dX8_init_31 : decode cX8_init 31 = .ok (.newarray .int, 2) := by decide +kernel
theorem dX8_init_33 : decode cX8_init 33 = .ok (.putfield 21, 3) := by decide +kernel
theorem dX8_init_36 : decode cX8_init 36 = .ok (.aload_n 0, 1) := by decide +kernel
theorem dX8_init_37 : decode cX8_init 37 = .ok (.bipush 8, 2) := by decide +kernel
theorem dX8_init_39 : decode cX8_init 39 = .ok (.newarray .int, 2) := by decide +kernel
theorem dX8_init_41 : decode cX8_init 41 = .ok (.putfield 24, 3) := by decide +kernel
theorem dX8_init_44 : decode cX8_init 44 = .ok (.aload_n 0, 1) := by decide +kernel
theorem dX8_init_45 : decode cX8_init 45 = .ok (.bipush 8, 2) := by decide +kernel
theorem dX8_init_47 : decode cX8_init 47 = .ok (.newarray .int, 2) := by decide +kernel
theorem dX8_init_49 : decode cX8_init 49 = .ok (.putfield 27, 3) := by decide +kernel
theorem dX8_init_52 : decode cX8_init 52 = .ok (.aload_n 0, 1) := by decide +kernel
theorem dX8_init_53 : decode cX8_init 53 = .ok (.sipush 160, 3) := by decide +kernel
theorem dX8_init_56 : decode cX8_init 56 = .ok (.newarray .int, 2) := by decide +kernel
theorem dX8_init_58 : decode cX8_init 58 = .ok (.putfield 30, 3) := by decide +kernel
theorem dX8_init_61 : decode cX8_init 61 = .ok (.aload_n 0, 1) := by decide +kernel
theorem dX8_init_62 : decode cX8_init 62 = .ok (.bipush 30, 2) := by decide +kernel
theorem dX8_init_64 : decode cX8_init 64 = .ok (.newarray .int, 2) := by decide +kernel
theorem dX8_init_66 : decode cX8_init 66 = .ok (.putfield 33, 3) := by decide +kernel
theorem dX8_init_69 : decode cX8_init 69 = .ok (.aload_n 0, 1) := by decide +kernel
theorem dX8_init_70 : decode cX8_init 70 = .ok (.bipush 30, 2) := by decide +kernel
theorem dX8_init_72 : decode cX8_init 72 = .ok (.newarray .int, 2) := by decide +kernel
theorem dX8_init_74 : decode cX8_init 74 = .ok (.putfield 36, 3) := by decide +kernel
theorem dX8_init_77 : decode cX8_init 77 = .ok (.aload_n 0, 1) := by decide +kernel
theorem dX8_init_78 : decode cX8_init 78 = .ok (.bipush 30, 2) := by decide +kernel
theorem dX8_init_80 : decode cX8_init 80 = .ok (.newarray .int, 2) := by decide +kernel
theorem dX8_init_82 : decode cX8_init 82 = .ok (.putfield 39, 3) := by decide +kernel
theorem dX8_init_85 : decode cX8_init 85 = .ok (.aload_n 0, 1) := by decide +kernel
theorem dX8_init_86 : decode cX8_init 86 = .ok (.bipush 30, 2) := by decide +kernel
theorem dX8_init_88 : decode cX8_init 88 = .ok (.newarray .int, 2) := by decide +kernel
theorem dX8_init_90 : decode cX8_init 90 = .ok (.putfield 42, 3) := by decide +kernel
theorem dX8_init_93 : decode cX8_init 93 = .ok (.return_, 1) := by decide +kernel
theorem dX8_copyFrom_0 : decode cX8_copyFrom 0 = .ok (.aload_n 0, 1) := by decide +kernel
theorem dX8_copyFrom_1 : decode cX8_copyFrom 1 = .ok (.aload_n 1, 1) := by decide +kernel
theorem dX8_copyFrom_2 : decode cX8_copyFrom 2 = .ok (.getfield 45, 3) := by decide +kernel
theorem dX8_copyFrom_5 : decode cX8_copyFrom 5 = .ok (.putfield 45, 3) := by decide +kernel
theorem dX8_copyFrom_8 : decode cX8_copyFrom 8 = .ok (.aload_n 1, 1) := by decide +kernel
theorem dX8_copyFrom_9 : decode cX8_copyFrom 9 = .ok (.getfield 9, 3) := by decide +kernel
theorem dX8_copyFrom_12 : decode cX8_copyFrom 12 = .ok (.iconst 0, 1) := by decide +kernel
theorem dX8_copyFrom_13 : decode cX8_copyFrom 13 = .ok (.aload_n 0, 1) := by decide +kernel
theorem dX8_copyFrom_14 : decode cX8_copyFrom 14 = .ok (.getfield 9, 3) := by decide +kernel
theorem dX8_copyFrom_17 : decode cX8_copyFrom 17 = .ok (.iconst 0, 1) := by decide +kernel
theorem dX8_copyFrom_18 : decode cX8_copyFrom 18 = .ok (.bipush 8, 2) := by decide +kernel
theorem dX8_copyFrom_20 : decode cX8_copyFrom 20 = .ok (.invokestatic 49, 3) := by decide +kernel
theorem dX8_copyFrom_23 : decode cX8_copyFrom 23 = .ok (.aload_n 1, 1) := by decide +kernel
theorem dX8_copyFrom_24 : decode cX8_copyFrom 24 = .ok (.getfield 15, 3) := by decide +kernel
theorem dX8_copyFrom_27 : decode cX8_copyFrom 27 = .ok (.iconst 0, 1) := by decide +kernel
theorem dX8_copyFrom_28 : decode cX8_copyFrom 28 = .ok (.aload_n 0, 1) := by decide +kernel
theorem dX8_copyFrom_29 : decode cX8_copyFrom 29 = .ok (.getfield 15, 3) := by decide +kernel
theorem dX8_copyFrom_32 : decode cX8_copyFrom 32 = .ok (.iconst 0, 1) := by decide +kernel
theorem dX8_copyFrom_33 : decode cX8_copyFrom 33 = .ok (.bipush 8, 2) := by decide +kernel
theorem dX8_copyFrom_35 : decode cX8_copyFrom 35 = .ok (.invokestatic 49, 3) := by decide +kernel
theorem dX8_copyFrom_38 : decode cX8_copyFrom 38 = .ok (.aload_n 1, 1) := by decide +kernel
theorem dX8_copyFrom_39 : decode cX8_copyFrom 39 = .ok (.getfield 18, 3) := by decide +kernel
theorem dX8_copyFrom_42 : decode cX8_copyFrom 42 = .ok (.iconst 0, 1) := by decide +kernel
theorem dX8_copyFrom_43 : decode cX8_copyFrom 43 = .ok (.aload_n 0, 1) := by decide +kernel
theorem dX8_copyFrom_44 : decode cX8_copyFrom 44 = .ok (.getfield 18, 3) := by decide +kernel
theorem dX8_copyFrom_47 : decode cX8_copyFrom 47 = .ok (.iconst 0, 1) := by decide +kernel
theorem dX8_copyFrom_48 : decode cX8_copyFrom 48 = .ok (.bipush 8, 2) := by decide +kernel
theorem dX8_copyFrom_50 : decode cX8_copyFrom 50 = .ok (.invokestatic 49, 3) := by decide +kernel
theorem dX8_copyFrom_53 : decode cX8_copyFrom 53 = .ok (.aload_n 1, 1) := by decide +kernel
theorem dX8_copyFrom_54 : decode cX8_copyFrom 54 = .ok (.getfield 21, 3) := by decide +kernel
theorem dX8_copyFrom_57 : decode cX8_copyFrom 57 = .ok (.iconst 0, 1) := by decide +kernel
theorem dX8_copyFrom_58 : decode cX8_copyFrom 58 = .ok (.aload_n 0, 1) := by decide +kernel
theorem dX8_copyFrom_59 : decode cX8_copyFrom 59 = .ok (.getfield 21, 3) := by decide +kernel
theorem dX8_copyFrom_62 : decode cX8_copyFrom 62 = .ok (.iconst 0, 1) := by decide +kernel
theorem dX8_copyFrom_63 : decode cX8_copyFrom 63 = .ok (.bipush 8, 2) := by decide +kernel
theorem dX8_copyFrom_65 : decode cX8_copyFrom 65 = .ok (.invokestatic 49, 3) := by decide +kernel
theorem dX8_copyFrom_68 : decode cX8_copyFrom 68 = .ok (.aload_n 1, 1) := by decide +kernel
theorem dX8_copyFrom_69 : decode cX8_copyFrom 69 = .ok (.getfield 24, 3) := by decide +kernel
theorem dX8_copyFrom_72 : decode cX8_copyFrom 72 = .ok (.iconst 0, 1) := by decide +kernel
theorem dX8_copyFrom_73 : decode cX8_copyFrom 73 = .ok (.aload_n 0, 1) := by decide +kernel
theorem dX8_copyFrom_74 : decode cX8_copyFrom 74 = .ok (.getfield 24, 3) := by decide +kernel
theorem dX8_copyFrom_77 : decode cX8_copyFrom 77 = .ok (.iconst 0, 1) := by decide +kernel
theorem dX8_copyFrom_78 : decode cX8_copyFrom 78 = .ok (.bipush 8, 2) := by decide +kernel
theorem dX8_copyFrom_80 : decode cX8_copyFrom 80 = .ok (.invokestatic 49, 3) := by decide +kernel
theorem dX8_copyFrom_83 : decode cX8_copyFrom 83 = .ok (.aload_n 1, 1) := by decide +kernel
theorem dX8_copyFrom_84 : decode cX8_copyFrom 84 = .ok (.getfield 27, 3) := by decide +kernel
theorem dX8_copyFrom_87 : decode cX8_copyFrom 87 = .ok (.iconst 0, 1) := by decide +kernel
theorem dX8_copyFrom_88 : decode cX8_copyFrom 88 = .ok (.aload_n 0, 1) := by decide +kernel
theorem dX8_copyFrom_89 : decode cX8_copyFrom 89 = .ok (.getfield 27, 3) := by decide +kernel
theorem dX8_copyFrom_92 : decode cX8_copyFrom 92 = .ok (.iconst 0, 1) := by decide +kernel
theorem dX8_copyFrom_93 : decode cX8_copyFrom 93 = .ok (.bipush 8, 2) := by decide +kernel
theorem dX8_copyFrom_95 : decode cX8_copyFrom 95 = .ok (.invokestatic 49, 3) := by decide +kernel
theorem dX8_copyFrom_98 : decode cX8_copyFrom 98 = .ok (.aload_n 1, 1) := by decide +kernel
theorem dX8_copyFrom_99 : decode cX8_copyFrom 99 = .ok (.getfield 30, 3) := by decide +kernel
theorem dX8_copyFrom_102 : decode cX8_copyFrom 102 = .ok (.iconst 0, 1) := by decide +kernel
theorem dX8_copyFrom_103 : decode cX8_copyFrom 103 = .ok (.aload_n 0, 1) := by decide +kernel
theorem dX8_copyFrom_104 : decode cX8_copyFrom 104 = .ok (.getfield 30, 3) := by decide +kernel
theorem dX8_copyFrom_107 : decode cX8_copyFrom 107 = .ok (.iconst 0, 1) := by decide +kernel
theorem dX8_copyFrom_108 : decode cX8_copyFrom 108 = .ok (.aload_n 0, 1) := by decide +kernel
theorem dX8_copyFrom_109 : decode cX8_copyFrom 109 = .ok (.getfield 30, 3) := by decide +kernel
theorem dX8_copyFrom_112 : decode cX8_copyFrom 112 = .ok (.arraylength, 1) := by decide +kernel
theorem dX8_copyFrom_113 : decode cX8_copyFrom 113 = .ok (.invokestatic 49, 3) := by decide +kernel
theorem dX8_copyFrom_116 : decode cX8_copyFrom 116 = .ok (.aload_n 0, 1) := by decide +kernel
theorem dX8_copyFrom_117 : decode cX8_copyFrom 117 = .ok (.aload_n 1, 1) := by decide +kernel
theorem dX8_copyFrom_118 : decode cX8_copyFrom 118 = .ok (.getfield 55, 3) := by decide +kernel
theorem dX8_copyFrom_121 : decode cX8_copyFrom 121 = .ok (.putfield 55, 3) := by decide +kernel
theorem dX8_copyFrom_124 : decode cX8_copyFrom 124 = .ok (.aload_n 1, 1) := by decide +kernel
theorem dX8_copyFrom_125 : decode cX8_copyFrom 125 = .ok (.getfield 33, 3) := by decide +kernel
theorem dX8_copyFrom_128 : decode cX8_copyFrom 128 = .ok (.iconst 0, 1) := by decide +kernel
theorem dX8_copyFrom_129 : decode cX8_copyFrom 129 = .ok (.aload_n 0, 1) := by decide +kernel
theorem dX8_copyFrom_130 : decode cX8_copyFrom 130 = .ok (.getfield 33, 3) := by decide +kernel
theorem dX8_copyFrom_133 : decode cX8_copyFrom 133 = .ok (.iconst 0, 1) := by decide +kernel
theorem dX8_copyFrom_134 : decode cX8_copyFrom 134 = .ok (.bipush 30, 2) := by decide +kernel
theorem dX8_copyFrom_136 : decode cX8_copyFrom 136 = .ok (.invokestatic 49, 3) := by decide +kernel
theorem dX8_copyFrom_139 : decode cX8_copyFrom 139 = .ok (.aload_n 1, 1) := by decide +kernel
theorem dX8_copyFrom_140 : decode cX8_copyFrom 140 = .ok (.getfield 36, 3) := by decide +kernel
theorem dX8_copyFrom_143 : decode cX8_copyFrom 143 = .ok (.iconst 0, 1) := by decide +kernel
theorem dX8_copyFrom_144 : decode cX8_copyFrom 144 = .ok (.aload_n 0, 1) := by decide +kernel
theorem dX8_copyFrom_145 : decode cX8_copyFrom 145 = .ok (.getfield 36, 3) := by decide +kernel
theorem dX8_copyFrom_148 : decode cX8_copyFrom 148 = .ok (.iconst 0, 1) := by decide +kernel
theorem dX8_copyFrom_149 : decode cX8_copyFrom 149 = .ok (.bipush 30, 2) := by decide +kernel
theorem dX8_copyFrom_151 : decode cX8_copyFrom 151 = .ok (.invokestatic 49, 3) := by decide +kernel
theorem dX8_copyFrom_154 : decode cX8_copyFrom 154 = .ok (.aload_n 1, 1) := by decide +kernel
theorem dX8_copyFrom_155 : decode cX8_copyFrom 155 = .ok (.getfield 39, 3) := by decide +kernel
theorem dX8_copyFrom_158 : decode cX8_copyFrom 158 = .ok (.iconst 0, 1) := by decide +kernel
theorem dX8_copyFrom_159 : decode cX8_copyFrom 159 = .ok (.aload_n 0, 1) := by decide +kernel
theorem dX8_copyFrom_160 : decode cX8_copyFrom 160 = .ok (.getfield 39, 3) := by decide +kernel
theorem dX8_copyFrom_163 : decode cX8_copyFrom 163 = .ok (.iconst 0, 1) := by decide +kernel
theorem dX8_copyFrom_164 : decode cX8_copyFrom 164 = .ok (.bipush 30, 2) := by decide +kernel
theorem dX8_copyFrom_166 : decode cX8_copyFrom 166 = .ok (.invokestatic 49, 3) := by decide +kernel
theorem dX8_copyFrom_169 : decode cX8_copyFrom 169 = .ok (.aload_n 1, 1) := by decide +kernel
theorem dX8_copyFrom_170 : decode cX8_copyFrom 170 = .ok (.getfield 42, 3) := by decide +kernel
theorem dX8_copyFrom_173 : decode cX8_copyFrom 173 = .ok (.iconst 0, 1) := by decide +kernel
theorem dX8_copyFrom_174 : decode cX8_copyFrom 174 = .ok (.aload_n 0, 1) := by decide +kernel
theorem dX8_copyFrom_175 : decode cX8_copyFrom 175 = .ok (.getfield 42, 3) := by decide +kernel
theorem dX8_copyFrom_178 : decode cX8_copyFrom 178 = .ok (.iconst 0, 1) := by decide +kernel
theorem dX8_copyFrom_179 : decode cX8_copyFrom 179 = .ok (.bipush 30, 2) := by decide +kernel
theorem dX8_copyFrom_181 : decode cX8_copyFrom 181 = .ok (.invokestatic 49, 3) := by decide +kernel
theorem dX8_copyFrom_184 : decode cX8_copyFrom 184 = .ok (.return_, 1) := by decide +kernel
theorem dX8_add_0 : decode cX8_add 0 = .ok (.aload_n 0, 1) := by decide +kernel
theorem dX8_add_1 : decode cX8_add 1 = .ok (.getfield 45, 3) := by decide +kernel
theorem dX8_add_4 : decode cX8_add 4 = .ok (.bipush 8, 2) := by decide +kernel
theorem dX8_add_6 : decode cX8_add 6 = .ok (.if_icmp .lt 6, 3) := by decide +kernel
theorem dX8_add_9 : decode cX8_add 9 = .ok (.bipush (-4), 2) := by decide +kernel
theorem dX8_add_11 : decode cX8_add 11 = .ok (.ireturn, 1) := by decide +kernel
theorem dX8_add_12 : decode cX8_add 12 = .ok (.aload_n 0, 1) := by decide +kernel
theorem dX8_add_13 : decode cX8_add 13 = .ok (.getfield 9, 3) := by decide +kernel
theorem dX8_add_16 : decode cX8_add 16 = .ok (.aload_n 0, 1) := by decide +kernel
theorem dX8_add_17 : decode cX8_add 17 = .ok (.getfield 45, 3) := by decide +kernel
theorem dX8_add_20 : decode cX8_add 20 = .ok (.iload_n 1, 1) := by decide +kernel
theorem dX8_add_21 : decode cX8_add 21 = .ok (.iastore, 1) := by decide +kernel
theorem dX8_add_22 : decode cX8_add 22 = .ok (.aload_n 0, 1) := by decide +kernel
theorem dX8_add_23 : decode cX8_add 23 = .ok (.getfield 15, 3) := by decide +kernel
theorem dX8_add_26 : decode cX8_add 26 = .ok (.aload_n 0, 1) := by decide +kernel
theorem dX8_add_27 : decode cX8_add 27 = .ok (.getfield 45, 3) := by decide +kernel
theorem dX8_add_30 : decode cX8_add 30 = .ok (.iload_n 2, 1) := by decide +kernel
theorem dX8_add_31 : decode cX8_add 31 = .ok (.iastore, 1) := by decide +kernel
theorem dX8_add_32 : decode cX8_add 32 = .ok (.aload_n 0, 1) := by decide +kernel
theorem dX8_add_33 : decode cX8_add 33 = .ok (.getfield 18, 3) := by decide +kernel
theorem dX8_add_36 : decode cX8_add 36 = .ok (.aload_n 0, 1) := by decide +kernel
theorem dX8_add_37 : decode cX8_add 37 = .ok (.getfield 45, 3) := by decide +kernel
theorem dX8_add_40 : decode cX8_add 40 = .ok (.iload_n 3, 1) := by decide +kernel
theorem dX8_add_41 : decode cX8_add 41 = .ok (.iastore, 1) := by decide +kernel
theorem dX8_add_42 : decode cX8_add 42 = .ok (.aload_n 0, 1) := by decide +kernel
theorem dX8_add_43 : decode cX8_add 43 = .ok (.getfield 21, 3) := by decide +kernel
theorem dX8_add_46 : decode cX8_add 46 = .ok (.aload_n 0, 1) := by decide +kernel
theorem dX8_add_47 : decode cX8_add 47 = .ok (.getfield 45, 3) := by decide +kernel
theorem dX8_add_50 : decode cX8_add 50 = .ok (.iload 4, 2) := by decide +kernel
theorem dX8_add_52 : decode cX8_add 52 = .ok (.iastore, 1) := by decide +kernel
theorem dX8_add_53 : decode cX8_add 53 = .ok (.aload_n 0, 1) := by decide +kernel
theorem dX8_add_54 : decode cX8_add 54 = .ok (.getfield 24, 3) := by decide +kernel
theorem dX8_add_57 : decode cX8_add 57 = .ok (.aload_n 0, 1) := by decide +kernel
theorem dX8_add_58 : decode cX8_add 58 = .ok (.getfield 45, 3) := by decide +kernel
theorem dX8_add_61 : decode cX8_add 61 = .ok (.iload 5, 2) := by decide +kernel
theorem dX8_add_63 : decode cX8_add 63 = .ok (.iastore, 1) := by decide +kernel
theorem dX8_add_64 : decode cX8_add 64 = .ok (.aload_n 0, 1) := by decide +kernel
theorem dX8_add_65 : decode cX8_add 65 = .ok (.getfield 27, 3) := by decide +kernel
theorem dX8_add_68 : decode cX8_add 68 = .ok (.aload_n 0, 1) := by decide +kernel
theorem dX8_add_69 : decode cX8_add 69 = .ok (.getfield 45, 3) := by decide +kernel
theorem dX8_add_72 : decode cX8_add 72 = .ok (.iconst 0, 1) := by decide +kernel
theorem dX8_add_73 : decode cX8_add 73 = .ok (.iastore, 1) := by decide +kernel
theorem dX8_add_74 : decode cX8_add 74 = .ok (.aload_n 0, 1) := by decide +kernel
theorem dX8_add_75 : decode cX8_add 75 = .ok (.dup, 1) := by decide +kernel
theorem dX8_add_76 : decode cX8_add 76 = .ok (.getfield 45, 3) := by decide +kernel
theorem dX8_add_79 : decode cX8_add 79 = .ok (.dup_x1, 1) := by decide +kernel
theorem dX8_add_80 : decode cX8_add 80 = .ok (.iconst 1, 1) := by decide +kernel
theorem dX8_add_81 : decode cX8_add 81 = .ok (.iadd, 1) := by decide +kernel
theorem dX8_add_82 : decode cX8_add 82 = .ok (.putfield 45, 3) := by decide +kernel
theorem dX8_add_85 : decode cX8_add 85 = .ok (.ireturn, 1) := by decide +kernel
theorem dX8_needs_0 : decode cX8_needs 0 = .ok (.aload_n 0, 1) := by decide +kernel
theorem dX8_needs_1 : decode cX8_needs 1 = .ok (.getfield 21, 3) := by decide +kernel
theorem dX8_needs_4 : decode cX8_needs 4 = .ok (.iload_n 1, 1) := by decide +kernel
theorem dX8_needs_5 : decode cX8_needs 5 = .ok (.iaload, 1) := by decide +kernel
theorem dX8_needs_6 : decode cX8_needs 6 = .ok (.istore_n 2, 1) := by decide +kernel
theorem dX8_needs_7 : decode cX8_needs 7 = .ok (.aload_n 0, 1) := by decide +kernel
theorem dX8_needs_8 : decode cX8_needs 8 = .ok (.getfield 9, 3) := by decide +kernel
theorem dX8_needs_11 : decode cX8_needs 11 = .ok (.iload_n 1, 1) := by decide +kernel
theorem dX8_needs_12 : decode cX8_needs 12 = .ok (.iaload, 1) := by decide +kernel
theorem dX8_needs_13 : decode cX8_needs 13 = .ok (.tableswitch 64 1 5 #[35, 40, 49, 40, 53], 35) := by decide +kernel
theorem dX8_needs_48 : decode cX8_needs 48 = .ok (.iload_n 2, 1) := by decide +kernel
theorem dX8_needs_49 : decode cX8_needs 49 = .ok (.bipush 10, 2) := by decide +kernel
theorem dX8_needs_51 : decode cX8_needs 51 = .ok (.iadd, 1) := by decide +kernel
theorem dX8_needs_52 : decode cX8_needs 52 = .ok (.ireturn, 1) := by decide +kernel
theorem dX8_needs_53 : decode cX8_needs 53 = .ok (.iconst 0, 1) := by decide +kernel
theorem dX8_needs_54 : decode cX8_needs 54 = .ok (.iload_n 2, 1) := by decide +kernel
theorem dX8_needs_55 : decode cX8_needs 55 = .ok (.bipush 20, 2) := by decide +kernel
theorem dX8_needs_57 : decode cX8_needs 57 = .ok (.isub, 1) := by decide +kernel
theorem dX8_needs_58 : decode cX8_needs 58 = .ok (.invokestatic 58, 3) := by decide +kernel
theorem dX8_needs_61 : decode cX8_needs 61 = .ok (.ireturn, 1) := by decide +kernel
theorem dX8_needs_62 : decode cX8_needs 62 = .ok (.iload_n 2, 1) := by decide +kernel
theorem dX8_needs_63 : decode cX8_needs 63 = .ok (.iconst 2, 1) := by decide +kernel
theorem dX8_needs_64 : decode cX8_needs 64 = .ok (.idiv, 1) := by decide +kernel
theorem dX8_needs_65 : decode cX8_needs 65 = .ok (.ireturn, 1) := by decide +kernel
theorem dX8_needs_66 : decode cX8_needs 66 = .ok (.iconst 0, 1) := by decide +kernel
theorem dX8_needs_67 : decode cX8_needs 67 = .ok (.iload_n 2, 1) := by decide +kernel
theorem dX8_needs_68 : decode cX8_needs 68 = .ok (.bipush 20, 2) := by decide +kernel
theorem dX8_needs_70 : decode cX8_needs 70 = .ok (.isub, 1) := by decide +kernel
theorem dX8_needs_71 : decode cX8_needs 71 = .ok (.invokestatic 58, 3) := by decide +kernel
theorem dX8_needs_74 : decode cX8_needs 74 = .ok (.iconst 5, 1) := by decide +kernel
theorem dX8_needs_75 : decode cX8_needs 75 = .ok (.iadd, 1) := by decide +kernel
theorem dX8_needs_76 : decode cX8_needs 76 = .ok (.ireturn, 1) := by decide +kernel
theorem dX8_needs_77 : decode cX8_needs 77 = .ok (.iload_n 2, 1) := by decide +kernel
theorem dX8_needs_78 : decode cX8_needs 78 = .ok (.ireturn, 1) := by decide +kernel
theorem dX8_addSale_0 : decode cX8_addSale 0 = .ok (.aload_n 0, 1) := by decide +kernel
theorem dX8_addSale_1 : decode cX8_addSale 1 = .ok (.getfield 55, 3) := by decide +kernel
theorem dX8_addSale_4 : decode cX8_addSale 4 = .ok (.bipush 30, 2) := by decide +kernel
theorem dX8_addSale_6 : decode cX8_addSale 6 = .ok (.if_icmp .lt 6, 3) := by decide +kernel
theorem dX8_addSale_9 : decode cX8_addSale 9 = .ok (.bipush (-4), 2) := by decide +kernel
theorem dX8_addSale_11 : decode cX8_addSale 11 = .ok (.ireturn, 1) := by decide +kernel
theorem dX8_addSale_12 : decode cX8_addSale 12 = .ok (.aload_n 0, 1) := by decide +kernel
theorem dX8_addSale_13 : decode cX8_addSale 13 = .ok (.getfield 33, 3) := by decide +kernel
theorem dX8_addSale_16 : decode cX8_addSale 16 = .ok (.aload_n 0, 1) := by decide +kernel
theorem dX8_addSale_17 : decode cX8_addSale 17 = .ok (.getfield 55, 3) := by decide +kernel
theorem dX8_addSale_20 : decode cX8_addSale 20 = .ok (.iload_n 1, 1) := by decide +kernel
theorem dX8_addSale_21 : decode cX8_addSale 21 = .ok (.iastore, 1) := by decide +kernel
theorem dX8_addSale_22 : decode cX8_addSale 22 = .ok (.aload_n 0, 1) := by decide +kernel
theorem dX8_addSale_23 : decode cX8_addSale 23 = .ok (.getfield 36, 3) := by decide +kernel
theorem dX8_addSale_26 : decode cX8_addSale 26 = .ok (.aload_n 0, 1) := by decide +kernel
theorem dX8_addSale_27 : decode cX8_addSale 27 = .ok (.getfield 55, 3) := by decide +kernel
theorem dX8_addSale_30 : decode cX8_addSale 30 = .ok (.iload_n 2, 1) := by decide +kernel
theorem dX8_addSale_31 : decode cX8_addSale 31 = .ok (.iastore, 1) := by decide +kernel
theorem dX8_addSale_32 : decode cX8_addSale 32 = .ok (.aload_n 0, 1) := by decide +kernel
theorem dX8_addSale_33 : decode cX8_addSale 33 = .ok (.getfield 39, 3) := by decide +kernel
theorem dX8_addSale_36 : decode cX8_addSale 36 = .ok (.aload_n 0, 1) := by decide +kernel
theorem dX8_addSale_37 : decode cX8_addSale 37 = .ok (.getfield 55, 3) := by decide +kernel
theorem dX8_addSale_40 : decode cX8_addSale 40 = .ok (.iload_n 3, 1) := by decide +kernel
theorem dX8_addSale_41 : decode cX8_addSale 41 = .ok (.iastore, 1) := by decide +kernel
theorem dX8_addSale_42 : decode cX8_addSale 42 = .ok (.aload_n 0, 1) := by decide +kernel
theorem dX8_addSale_43 : decode cX8_addSale 43 = .ok (.getfield 42, 3) := by decide +kernel
theorem dX8_addSale_46 : decode cX8_addSale 46 = .ok (.aload_n 0, 1) := by decide +kernel
theorem dX8_addSale_47 : decode cX8_addSale 47 = .ok (.getfield 55, 3) := by decide +kernel
theorem dX8_addSale_50 : decode cX8_addSale 50 = .ok (.iload 4, 2) := by decide +kernel
theorem dX8_addSale_52 : decode cX8_addSale 52 = .ok (.iastore, 1) := by decide +kernel
theorem dX8_addSale_53 : decode cX8_addSale 53 = .ok (.aload_n 0, 1) := by decide +kernel
theorem dX8_addSale_54 : decode cX8_addSale 54 = .ok (.dup, 1) := by decide +kernel
theorem dX8_addSale_55 : decode cX8_addSale 55 = .ok (.getfield 55, 3) := by decide +kernel
theorem dX8_addSale_58 : decode cX8_addSale 58 = .ok (.iconst 1, 1) := by decide +kernel
theorem dX8_addSale_59 : decode cX8_addSale 59 = .ok (.iadd, 1) := by decide +kernel
theorem dX8_addSale_60 : decode cX8_addSale 60 = .ok (.putfield 55, 3) := by decide +kernel
theorem dX8_addSale_63 : decode cX8_addSale 63 = .ok (.aload_n 0, 1) := by decide +kernel
theorem dX8_addSale_64 : decode cX8_addSale 64 = .ok (.getfield 55, 3) := by decide +kernel
theorem dX8_addSale_67 : decode cX8_addSale 67 = .ok (.ireturn, 1) := by decide +kernel
theorem dX8_ownerOn_0 : decode cX8_ownerOn 0 = .ok (.iconst 0, 1) := by decide +kernel
theorem dX8_ownerOn_1 : decode cX8_ownerOn 1 = .ok (.istore 4, 2) := by decide +kernel
theorem dX8_ownerOn_3 : decode cX8_ownerOn 3 = .ok (.iconst (-1), 1) := by decide +kernel
theorem dX8_ownerOn_4 : decode cX8_ownerOn 4 = .ok (.istore 5, 2) := by decide +kernel
theorem dX8_ownerOn_6 : decode cX8_ownerOn 6 = .ok (.iconst 0, 1) := by decide +kernel
theorem dX8_ownerOn_7 : decode cX8_ownerOn 7 = .ok (.istore 6, 2) := by decide +kernel
theorem dX8_ownerOn_9 : decode cX8_ownerOn 9 = .ok (.iload 6, 2) := by decide +kernel
theorem dX8_ownerOn_11 : decode cX8_ownerOn 11 = .ok (.iload_n 3, 1) := by decide +kernel
theorem dX8_ownerOn_12 : decode cX8_ownerOn 12 = .ok (.if_icmp .ge 55, 3) := by decide +kernel
theorem dX8_ownerOn_15 : decode cX8_ownerOn 15 = .ok (.aload_n 0, 1) := by decide +kernel
theorem dX8_ownerOn_16 : decode cX8_ownerOn 16 = .ok (.iload 5, 2) := by decide +kernel
theorem dX8_ownerOn_18 : decode cX8_ownerOn 18 = .ok (.iload_n 1, 1) := by decide +kernel
theorem dX8_ownerOn_19 : decode cX8_ownerOn 19 = .ok (.iload_n 2, 1) := by decide +kernel
theorem dX8_ownerOn_20 : decode cX8_ownerOn 20 = .ok (.iload_n 3, 1) := by decide +kernel
theorem dX8_ownerOn_21 : decode cX8_ownerOn 21 = .ok (.invokevirtual 64, 3) := by decide +kernel
theorem dX8_ownerOn_24 : decode cX8_ownerOn 24 = .ok (.istore 5, 2) := by decide +kernel
theorem dX8_ownerOn_26 : decode cX8_ownerOn 26 = .ok (.iload 5, 2) := by decide +kernel
theorem dX8_ownerOn_28 : decode cX8_ownerOn 28 = .ok (.ifCond .ge 6, 3) := by decide +kernel
theorem dX8_ownerOn_31 : decode cX8_ownerOn 31 = .ok (.iload 4, 2) := by decide +kernel
theorem dX8_ownerOn_33 : decode cX8_ownerOn 33 = .ok (.ireturn, 1) := by decide +kernel
theorem dX8_ownerOn_34 : decode cX8_ownerOn 34 = .ok (.aload_n 0, 1) := by decide +kernel
theorem dX8_ownerOn_35 : decode cX8_ownerOn 35 = .ok (.getfield 36, 3) := by decide +kernel
theorem dX8_ownerOn_38 : decode cX8_ownerOn 38 = .ok (.iload 5, 2) := by decide +kernel
theorem dX8_ownerOn_40 : decode cX8_ownerOn 40 = .ok (.bipush 30, 2) := by decide +kernel
theorem dX8_ownerOn_42 : decode cX8_ownerOn 42 = .ok (.irem, 1) := by decide +kernel
theorem dX8_ownerOn_43 : decode cX8_ownerOn 43 = .ok (.iaload, 1) := by decide +kernel
theorem dX8_ownerOn_44 : decode cX8_ownerOn 44 = .ok (.iload 4, 2) := by decide +kernel
theorem dX8_ownerOn_46 : decode cX8_ownerOn 46 = .ok (.if_icmp .ne 15, 3) := by decide +kernel
theorem dX8_ownerOn_49 : decode cX8_ownerOn 49 = .ok (.aload_n 0, 1) := by decide +kernel
theorem dX8_ownerOn_50 : decode cX8_ownerOn 50 = .ok (.getfield 39, 3) := by decide +kernel
theorem dX8_ownerOn_53 : decode cX8_ownerOn 53 = .ok (.iload 5, 2) := by decide +kernel
theorem dX8_ownerOn_55 : decode cX8_ownerOn 55 = .ok (.bipush 30, 2) := by decide +kernel
theorem dX8_ownerOn_57 : decode cX8_ownerOn 57 = .ok (.irem, 1) := by decide +kernel
theorem dX8_ownerOn_58 : decode cX8_ownerOn 58 = .ok (.iaload, 1) := by decide +kernel
theorem dX8_ownerOn_59 : decode cX8_ownerOn 59 = .ok (.istore 4, 2) := by decide +kernel
theorem dX8_ownerOn_61 : decode cX8_ownerOn 61 = .ok (.iinc 6 1, 3) := by decide +kernel
theorem dX8_ownerOn_64 : decode cX8_ownerOn 64 = .ok (.goto (-55), 3) := by decide +kernel
theorem dX8_ownerOn_67 : decode cX8_ownerOn 67 = .ok (.iload 4, 2) := by decide +kernel
theorem dX8_ownerOn_69 : decode cX8_ownerOn 69 = .ok (.ireturn, 1) := by decide +kernel
theorem dX8_saleKeyAbove_0 : decode cX8_saleKeyAbove 0 = .ok (.iconst (-1), 1) := by decide +kernel
theorem dX8_saleKeyAbove_1 : decode cX8_saleKeyAbove 1 = .ok (.istore 5, 2) := by decide +kernel
theorem dX8_saleKeyAbove_3 : decode cX8_saleKeyAbove 3 = .ok (.iconst 0, 1) := by decide +kernel
theorem dX8_saleKeyAbove_4 : decode cX8_saleKeyAbove 4 = .ok (.istore 6, 2) := by decide +kernel
theorem dX8_saleKeyAbove_6 : decode cX8_saleKeyAbove 6 = .ok (.iload 6, 2) := by decide +kernel
theorem dX8_saleKeyAbove_8 : decode cX8_saleKeyAbove 8 = .ok (.iload 4, 2) := by decide +kernel
theorem dX8_saleKeyAbove_10 : decode cX8_saleKeyAbove 10 = .ok (.if_icmp .ge 75, 3) := by decide +kernel
theorem dX8_saleKeyAbove_13 : decode cX8_saleKeyAbove 13 = .ok (.iload 6, 2) := by decide +kernel
theorem dX8_saleKeyAbove_15 : decode cX8_saleKeyAbove 15 = .ok (.bipush 30, 2) := by decide +kernel
theorem dX8_saleKeyAbove_17 : decode cX8_saleKeyAbove 17 = .ok (.if_icmp .ge 68, 3) := by decide +kernel
theorem dX8_saleKeyAbove_20 : decode cX8_saleKeyAbove 20 = .ok (.aload_n 0, 1) := by decide +kernel
theorem dX8_saleKeyAbove_21 : decode cX8_saleKeyAbove 21 = .ok (.getfield 42, 3) := by decide +kernel
theorem dX8_saleKeyAbove_24 : decode cX8_saleKeyAbove 24 = .ok (.iload 6, 2) := by decide +kernel
theorem dX8_saleKeyAbove_26 : decode cX8_saleKeyAbove 26 = .ok (.iaload, 1) := by decide +kernel
theorem dX8_saleKeyAbove_27 : decode cX8_saleKeyAbove 27 = .ok (.bipush 30, 2) := by decide +kernel
theorem dX8_saleKeyAbove_29 : decode cX8_saleKeyAbove 29 = .ok (.imul, 1) := by decide +kernel
theorem dX8_saleKeyAbove_30 : decode cX8_saleKeyAbove 30 = .ok (.iload 6, 2) := by decide +kernel
theorem dX8_saleKeyAbove_32 : decode cX8_saleKeyAbove 32 = .ok (.iadd, 1) := by decide +kernel
theorem dX8_saleKeyAbove_33 : decode cX8_saleKeyAbove 33 = .ok (.istore 7, 2) := by decide +kernel
theorem dX8_saleKeyAbove_35 : decode cX8_saleKeyAbove 35 = .ok (.aload_n 0, 1) := by decide +kernel
theorem dX8_saleKeyAbove_36 : decode cX8_saleKeyAbove 36 = .ok (.getfield 33, 3) := by decide +kernel
theorem dX8_saleKeyAbove_39 : decode cX8_saleKeyAbove 39 = .ok (.iload 6, 2) := by decide +kernel
theorem dX8_saleKeyAbove_41 : decode cX8_saleKeyAbove 41 = .ok (.iaload, 1) := by decide +kernel
theorem dX8_saleKeyAbove_42 : decode cX8_saleKeyAbove 42 = .ok (.iload_n 2, 1) := by decide +kernel
theorem dX8_saleKeyAbove_43 : decode cX8_saleKeyAbove 43 = .ok (.if_icmp .ne 36, 3) := by decide +kernel
theorem dX8_saleKeyAbove_46 : decode cX8_saleKeyAbove 46 = .ok (.aload_n 0, 1) := by decide +kernel
theorem dX8_saleKeyAbove_47 : decode cX8_saleKeyAbove 47 = .ok (.getfield 42, 3) := by decide +kernel
theorem dX8_saleKeyAbove_50 : decode cX8_saleKeyAbove 50 = .ok (.iload 6, 2) := by decide +kernel
theorem dX8_saleKeyAbove_52 : decode cX8_saleKeyAbove 52 = .ok (.iaload, 1) := by decide +kernel
theorem dX8_saleKeyAbove_53 : decode cX8_saleKeyAbove 53 = .ok (.iload_n 3, 1) := by decide +kernel
theorem dX8_saleKeyAbove_54 : decode cX8_saleKeyAbove 54 = .ok (.if_icmp .gt 25, 3) := by decide +kernel
theorem dX8_saleKeyAbove_57 : decode cX8_saleKeyAbove 57 = .ok (.iload 7, 2) := by decide +kernel
theorem dX8_saleKeyAbove_59 : decode cX8_saleKeyAbove 59 = .ok (.iload_n 1, 1) := by decide +kernel
theorem dX8_saleKeyAbove_60 : decode cX8_saleKeyAbove 60 = .ok (.if_icmp .le 19, 3) := by decide +kernel
theorem dX8_saleKeyAbove_63 : decode cX8_saleKeyAbove 63 = .ok (.iload 5, 2) := by decide +kernel
theorem dX8_saleKeyAbove_65 : decode cX8_saleKeyAbove 65 = .ok (.ifCond .lt 10, 3) := by decide +kernel
theorem dX8_saleKeyAbove_68 : decode cX8_saleKeyAbove 68 = .ok (.iload 7, 2) := by decide +kernel
theorem dX8_saleKeyAbove_70 : decode cX8_saleKeyAbove 70 = .ok (.iload 5, 2) := by decide +kernel
theorem dX8_saleKeyAbove_72 : decode cX8_saleKeyAbove 72 = .ok (.if_icmp .ge 7, 3) := by decide +kernel
theorem dX8_saleKeyAbove_75 : decode cX8_saleKeyAbove 75 = .ok (.iload 7, 2) := by decide +kernel
theorem dX8_saleKeyAbove_77 : decode cX8_saleKeyAbove 77 = .ok (.istore 5, 2) := by decide +kernel
theorem dX8_saleKeyAbove_79 : decode cX8_saleKeyAbove 79 = .ok (.iinc 6 1, 3) := by decide +kernel
theorem dX8_saleKeyAbove_82 : decode cX8_saleKeyAbove 82 = .ok (.goto (-76), 3) := by decide +kernel
theorem dX8_saleKeyAbove_85 : decode cX8_saleKeyAbove 85 = .ok (.iload 5, 2) := by decide +kernel
theorem dX8_saleKeyAbove_87 : decode cX8_saleKeyAbove 87 = .ok (.ireturn, 1) := by decide +kernel
theorem dX8_hasUse_0 : decode cX8_hasUse 0 = .ok (.iconst 0, 1) := by decide +kernel
theorem dX8_hasUse_1 : decode cX8_hasUse 1 = .ok (.istore_n 3, 1) := by decide +kernel
theorem dX8_hasUse_2 : decode cX8_hasUse 2 = .ok (.iload_n 3, 1) := by decide +kernel
theorem dX8_hasUse_3 : decode cX8_hasUse 3 = .ok (.aload_n 0, 1) := by decide +kernel
theorem dX8_hasUse_4 : decode cX8_hasUse 4 = .ok (.getfield 27, 3) := by decide +kernel
theorem dX8_hasUse_7 : decode cX8_hasUse 7 = .ok (.iload_n 1, 1) := by decide +kernel
theorem dX8_hasUse_8 : decode cX8_hasUse 8 = .ok (.iaload, 1) := by decide +kernel
theorem dX8_hasUse_9 : decode cX8_hasUse 9 = .ok (.if_icmp .ge 26, 3) := by decide +kernel
theorem dX8_hasUse_12 : decode cX8_hasUse 12 = .ok (.aload_n 0, 1) := by decide +kernel
theorem dX8_hasUse_13 : decode cX8_hasUse 13 = .ok (.getfield 30, 3) := by decide +kernel
theorem dX8_hasUse_16 : decode cX8_hasUse 16 = .ok (.iload_n 1, 1) := by decide +kernel
theorem dX8_hasUse_17 : decode cX8_hasUse 17 = .ok (.bipush 20, 2) := by decide +kernel
theorem dX8_hasUse_19 : decode cX8_hasUse 19 = .ok (.imul, 1) := by decide +kernel
theorem dX8_hasUse_20 : decode cX8_hasUse 20 = .ok (.iload_n 3, 1) := by decide +kernel
theorem dX8_hasUse_21 : decode cX8_hasUse 21 = .ok (.iadd, 1) := by decide +kernel
theorem dX8_hasUse_22 : decode cX8_hasUse 22 = .ok (.iaload, 1) := by decide +kernel
theorem dX8_hasUse_23 : decode cX8_hasUse 23 = .ok (.iload_n 2, 1) := by decide +kernel
theorem dX8_hasUse_24 : decode cX8_hasUse 24 = .ok (.if_icmp .ne 5, 3) := by decide +kernel
theorem dX8_hasUse_27 : decode cX8_hasUse 27 = .ok (.iconst 1, 1) := by decide +kernel
theorem dX8_hasUse_28 : decode cX8_hasUse 28 = .ok (.ireturn, 1) := by decide +kernel
theorem dX8_hasUse_29 : decode cX8_hasUse 29 = .ok (.iinc 3 1, 3) := by decide +kernel
theorem dX8_hasUse_32 : decode cX8_hasUse 32 = .ok (.goto (-30), 3) := by decide +kernel
theorem dX8_hasUse_35 : decode cX8_hasUse 35 = .ok (.iconst 0, 1) := by decide +kernel
theorem dX8_hasUse_36 : decode cX8_hasUse 36 = .ok (.ireturn, 1) := by decide +kernel
theorem dX8_addUse_0 : decode cX8_addUse 0 = .ok (.aload_n 0, 1) := by decide +kernel
theorem dX8_addUse_1 : decode cX8_addUse 1 = .ok (.getfield 27, 3) := by decide +kernel
theorem dX8_addUse_4 : decode cX8_addUse 4 = .ok (.iload_n 1, 1) := by decide +kernel
theorem dX8_addUse_5 : decode cX8_addUse 5 = .ok (.iaload, 1) := by decide +kernel
theorem dX8_addUse_6 : decode cX8_addUse 6 = .ok (.bipush 20, 2) := by decide +kernel
theorem dX8_addUse_8 : decode cX8_addUse 8 = .ok (.if_icmp .lt 6, 3) := by decide +kernel
theorem dX8_addUse_11 : decode cX8_addUse 11 = .ok (.bipush (-4), 2) := by decide +kernel
theorem dX8_addUse_13 : decode cX8_addUse 13 = .ok (.ireturn, 1) := by decide +kernel
theorem dX8_addUse_14 : decode cX8_addUse 14 = .ok (.aload_n 0, 1) := by decide +kernel
theorem dX8_addUse_15 : decode cX8_addUse 15 = .ok (.getfield 30, 3) := by decide +kernel
theorem dX8_addUse_18 : decode cX8_addUse 18 = .ok (.iload_n 1, 1) := by decide +kernel
theorem dX8_addUse_19 : decode cX8_addUse 19 = .ok (.bipush 20, 2) := by decide +kernel
theorem dX8_addUse_21 : decode cX8_addUse 21 = .ok (.imul, 1) := by decide +kernel
theorem dX8_addUse_22 : decode cX8_addUse 22 = .ok (.aload_n 0, 1) := by decide +kernel
theorem dX8_addUse_23 : decode cX8_addUse 23 = .ok (.getfield 27, 3) := by decide +kernel
theorem dX8_addUse_26 : decode cX8_addUse 26 = .ok (.iload_n 1, 1) := by decide +kernel
theorem dX8_addUse_27 : decode cX8_addUse 27 = .ok (.iaload, 1) := by decide +kernel
theorem dX8_addUse_28 : decode cX8_addUse 28 = .ok (.iadd, 1) := by decide +kernel
theorem dX8_addUse_29 : decode cX8_addUse 29 = .ok (.iload_n 2, 1) := by decide +kernel
theorem dX8_addUse_30 : decode cX8_addUse 30 = .ok (.iastore, 1) := by decide +kernel
theorem dX8_addUse_31 : decode cX8_addUse 31 = .ok (.aload_n 0, 1) := by decide +kernel
theorem dX8_addUse_32 : decode cX8_addUse 32 = .ok (.getfield 27, 3) := by decide +kernel
theorem dX8_addUse_35 : decode cX8_addUse 35 = .ok (.iload_n 1, 1) := by decide +kernel
theorem dX8_addUse_36 : decode cX8_addUse 36 = .ok (.dup2, 1) := by decide +kernel
theorem dX8_addUse_37 : decode cX8_addUse 37 = .ok (.iaload, 1) := by decide +kernel
theorem dX8_addUse_38 : decode cX8_addUse 38 = .ok (.iconst 1, 1) := by decide +kernel
theorem dX8_addUse_39 : decode cX8_addUse 39 = .ok (.iadd, 1) := by decide +kernel
theorem dX8_addUse_40 : decode cX8_addUse 40 = .ok (.iastore, 1) := by decide +kernel
theorem dX8_addUse_41 : decode cX8_addUse 41 = .ok (.aload_n 0, 1) := by decide +kernel
theorem dX8_addUse_42 : decode cX8_addUse 42 = .ok (.getfield 27, 3) := by decide +kernel
theorem dX8_addUse_45 : decode cX8_addUse 45 = .ok (.iload_n 1, 1) := by decide +kernel
theorem dX8_addUse_46 : decode cX8_addUse 46 = .ok (.iaload, 1) := by decide +kernel
theorem dX8_addUse_47 : decode cX8_addUse 47 = .ok (.ireturn, 1) := by decide +kernel
theorem dX8_lastUse_0 : decode cX8_lastUse 0 = .ok (.aload_n 0, 1) := by decide +kernel
theorem dX8_lastUse_1 : decode cX8_lastUse 1 = .ok (.getfield 24, 3) := by decide +kernel
theorem dX8_lastUse_4 : decode cX8_lastUse 4 = .ok (.iload_n 1, 1) := by decide +kernel
theorem dX8_lastUse_5 : decode cX8_lastUse 5 = .ok (.iaload, 1) := by decide +kernel
theorem dX8_lastUse_6 : decode cX8_lastUse 6 = .ok (.istore_n 3, 1) := by decide +kernel
theorem dX8_lastUse_7 : decode cX8_lastUse 7 = .ok (.iconst 0, 1) := by decide +kernel
theorem dX8_lastUse_8 : decode cX8_lastUse 8 = .ok (.istore 4, 2) := by decide +kernel
theorem dX8_lastUse_10 : decode cX8_lastUse 10 = .ok (.iload 4, 2) := by decide +kernel
theorem dX8_lastUse_12 : decode cX8_lastUse 12 = .ok (.aload_n 0, 1) := by decide +kernel
theorem dX8_lastUse_13 : decode cX8_lastUse 13 = .ok (.getfield 27, 3) := by decide +kernel
theorem dX8_lastUse_16 : decode cX8_lastUse 16 = .ok (.iload_n 1, 1) := by decide +kernel
theorem dX8_lastUse_17 : decode cX8_lastUse 17 = .ok (.iaload, 1) := by decide +kernel
theorem dX8_lastUse_18 : decode cX8_lastUse 18 = .ok (.if_icmp .ge 38, 3) := by decide +kernel
theorem dX8_lastUse_21 : decode cX8_lastUse 21 = .ok (.aload_n 0, 1) := by decide +kernel
theorem dX8_lastUse_22 : decode cX8_lastUse 22 = .ok (.getfield 30, 3) := by decide +kernel
theorem dX8_lastUse_25 : decode cX8_lastUse 25 = .ok (.iload_n 1, 1) := by decide +kernel
theorem dX8_lastUse_26 : decode cX8_lastUse 26 = .ok (.bipush 20, 2) := by decide +kernel
theorem dX8_lastUse_28 : decode cX8_lastUse 28 = .ok (.imul, 1) := by decide +kernel
theorem dX8_lastUse_29 : decode cX8_lastUse 29 = .ok (.iload 4, 2) := by decide +kernel
theorem dX8_lastUse_31 : decode cX8_lastUse 31 = .ok (.iadd, 1) := by decide +kernel
theorem dX8_lastUse_32 : decode cX8_lastUse 32 = .ok (.iaload, 1) := by decide +kernel
theorem dX8_lastUse_33 : decode cX8_lastUse 33 = .ok (.istore 5, 2) := by decide +kernel
theorem dX8_lastUse_35 : decode cX8_lastUse 35 = .ok (.iload 5, 2) := by decide +kernel
theorem dX8_lastUse_37 : decode cX8_lastUse 37 = .ok (.iload_n 2, 1) := by decide +kernel
theorem dX8_lastUse_38 : decode cX8_lastUse 38 = .ok (.if_icmp .gt 12, 3) := by decide +kernel
theorem dX8_lastUse_41 : decode cX8_lastUse 41 = .ok (.iload 5, 2) := by decide +kernel
theorem dX8_lastUse_43 : decode cX8_lastUse 43 = .ok (.iload_n 3, 1) := by decide +kernel
theorem dX8_lastUse_44 : decode cX8_lastUse 44 = .ok (.if_icmp .le 6, 3) := by decide +kernel
theorem dX8_lastUse_47 : decode cX8_lastUse 47 = .ok (.iload 5, 2) := by decide +kernel
theorem dX8_lastUse_49 : decode cX8_lastUse 49 = .ok (.istore_n 3, 1) := by decide +kernel
theorem dX8_lastUse_50 : decode cX8_lastUse 50 = .ok (.iinc 4 1, 3) := by decide +kernel
theorem dX8_lastUse_53 : decode cX8_lastUse 53 = .ok (.goto (-43), 3) := by decide +kernel
theorem dX8_lastUse_56 : decode cX8_lastUse 56 = .ok (.iload_n 3, 1) := by decide +kernel
theorem dX8_lastUse_57 : decode cX8_lastUse 57 = .ok (.ireturn, 1) := by decide +kernel
theorem dX9_init_0 : decode cX9_init 0 = .ok (.aload_n 0, 1) := by decide +kernel
theorem dX9_init_1 : decode cX9_init 1 = .ok (.invokespecial 3, 3) := by decide +kernel
theorem dX9_init_4 : decode cX9_init 4 = .ok (.aload_n 0, 1) := by decide +kernel
theorem dX9_init_5 : decode cX9_init 5 = .ok (.bipush 120, 2) := by decide +kernel
theorem dX9_init_7 : decode cX9_init 7 = .ok (.newarray .int, 2) := by decide +kernel
theorem dX9_init_9 : decode cX9_init 9 = .ok (.putfield 9, 3) := by decide +kernel
theorem dX9_init_12 : decode cX9_init 12 = .ok (.return_, 1) := by decide +kernel
theorem dX9_copyFrom_0 : decode cX9_copyFrom 0 = .ok (.aload_n 0, 1) := by decide +kernel
theorem dX9_copyFrom_1 : decode cX9_copyFrom 1 = .ok (.aload_n 1, 1) := by decide +kernel
theorem dX9_copyFrom_2 : decode cX9_copyFrom 2 = .ok (.getfield 15, 3) := by decide +kernel
theorem dX9_copyFrom_5 : decode cX9_copyFrom 5 = .ok (.putfield 15, 3) := by decide +kernel
theorem dX9_copyFrom_8 : decode cX9_copyFrom 8 = .ok (.aload_n 1, 1) := by decide +kernel
theorem dX9_copyFrom_9 : decode cX9_copyFrom 9 = .ok (.getfield 9, 3) := by decide +kernel
theorem dX9_copyFrom_12 : decode cX9_copyFrom 12 = .ok (.iconst 0, 1) := by decide +kernel
theorem dX9_copyFrom_13 : decode cX9_copyFrom 13 = .ok (.aload_n 0, 1) := by decide +kernel
theorem dX9_copyFrom_14 : decode cX9_copyFrom 14 = .ok (.getfield 9, 3) := by decide +kernel
theorem dX9_copyFrom_17 : decode cX9_copyFrom 17 = .ok (.iconst 0, 1) := by decide +kernel
theorem dX9_copyFrom_18 : decode cX9_copyFrom 18 = .ok (.bipush 120, 2) := by decide +kernel
theorem dX9_copyFrom_20 : decode cX9_copyFrom 20 = .ok (.invokestatic 19, 3) := by decide +kernel
theorem dX9_copyFrom_23 : decode cX9_copyFrom 23 = .ok (.return_, 1) := by decide +kernel
theorem dX9_add_0 : decode cX9_add 0 = .ok (.iload_n 3, 1) := by decide +kernel
theorem dX9_add_1 : decode cX9_add 1 = .ok (.iconst 1, 1) := by decide +kernel
theorem dX9_add_2 : decode cX9_add 2 = .ok (.isub, 1) := by decide +kernel
theorem dX9_add_3 : decode cX9_add 3 = .ok (.istore 4, 2) := by decide +kernel
theorem dX9_add_5 : decode cX9_add 5 = .ok (.iload 4, 2) := by decide +kernel
theorem dX9_add_7 : decode cX9_add 7 = .ok (.ifCond .lt 49, 3) := by decide +kernel
theorem dX9_add_10 : decode cX9_add 10 = .ok (.aload_n 0, 1) := by decide +kernel
theorem dX9_add_11 : decode cX9_add 11 = .ok (.getfield 15, 3) := by decide +kernel
theorem dX9_add_14 : decode cX9_add 14 = .ok (.bipush 120, 2) := by decide +kernel
theorem dX9_add_16 : decode cX9_add 16 = .ok (.if_icmp .ge 40, 3) := by decide +kernel
theorem dX9_add_19 : decode cX9_add 19 = .ok (.aload_n 0, 1) := by decide +kernel
theorem dX9_add_20 : decode cX9_add 20 = .ok (.getfield 9, 3) := by decide +kernel
theorem dX9_add_23 : decode cX9_add 23 = .ok (.aload_n 0, 1) := by decide +kernel
theorem dX9_add_24 : decode cX9_add 24 = .ok (.getfield 15, 3) := by decide +kernel
theorem dX9_add_27 : decode cX9_add 27 = .ok (.lload_n 1, 1) := by decide +kernel
theorem dX9_add_28 : decode cX9_add 28 = .ok (.bipush 8, 2) := by decide +kernel
theorem dX9_add_30 : decode cX9_add 30 = .ok (.iload 4, 2) := by decide +kernel
theorem dX9_add_32 : decode cX9_add 32 = .ok (.imul, 1) := by decide +kernel
theorem dX9_add_33 : decode cX9_add 33 = .ok (.lushr, 1) := by decide +kernel
theorem dX9_add_34 : decode cX9_add 34 = .ok (.l2i, 1) := by decide +kernel
theorem dX9_add_35 : decode cX9_add 35 = .ok (.sipush 255, 3) := by decide +kernel
theorem dX9_add_38 : decode cX9_add 38 = .ok (.iand, 1) := by decide +kernel
theorem dX9_add_39 : decode cX9_add 39 = .ok (.iastore, 1) := by decide +kernel
theorem dX9_add_40 : decode cX9_add 40 = .ok (.aload_n 0, 1) := by decide +kernel
theorem dX9_add_41 : decode cX9_add 41 = .ok (.dup, 1) := by decide +kernel
theorem dX9_add_42 : decode cX9_add 42 = .ok (.getfield 15, 3) := by decide +kernel
theorem dX9_add_45 : decode cX9_add 45 = .ok (.iconst 1, 1) := by decide +kernel
theorem dX9_add_46 : decode cX9_add 46 = .ok (.iadd, 1) := by decide +kernel
theorem dX9_add_47 : decode cX9_add 47 = .ok (.putfield 15, 3) := by decide +kernel
theorem dX9_add_50 : decode cX9_add 50 = .ok (.iinc 4 (-1), 3) := by decide +kernel
theorem dX9_add_53 : decode cX9_add 53 = .ok (.goto (-48), 3) := by decide +kernel
theorem dX9_add_56 : decode cX9_add 56 = .ok (.return_, 1) := by decide +kernel
theorem dX10_init_0 : decode cX10_init 0 = .ok (.aload_n 0, 1) := by decide +kernel
theorem dX10_init_1 : decode cX10_init 1 = .ok (.invokespecial 3, 3) := by decide +kernel
theorem dX10_init_4 : decode cX10_init 4 = .ok (.aload_n 0, 1) := by decide +kernel
theorem dX10_init_5 : decode cX10_init 5 = .ok (.new 9, 3) := by decide +kernel
theorem dX10_init_8 : decode cX10_init 8 = .ok (.dup, 1) := by decide +kernel
theorem dX10_init_9 : decode cX10_init 9 = .ok (.invokespecial 11, 3) := by decide +kernel
theorem dX10_init_12 : decode cX10_init 12 = .ok (.putfield 12, 3) := by decide +kernel
theorem dX10_init_15 : decode cX10_init 15 = .ok (.aload_n 0, 1) := by decide +kernel
theorem dX10_init_16 : decode cX10_init 16 = .ok (.new 18, 3) := by decide +kernel
theorem dX10_init_19 : decode cX10_init 19 = .ok (.dup, 1) := by decide +kernel
theorem dX10_init_20 : decode cX10_init 20 = .ok (.invokespecial 20, 3) := by decide +kernel
theorem dX10_init_23 : decode cX10_init 23 = .ok (.putfield 21, 3) := by decide +kernel
theorem dX10_init_26 : decode cX10_init 26 = .ok (.aload_n 0, 1) := by decide +kernel
theorem dX10_init_27 : decode cX10_init 27 = .ok (.new 25, 3) := by decide +kernel
theorem dX10_init_30 : decode cX10_init 30 = .ok (.dup, 1) := by decide +kernel
theorem dX10_init_31 : decode cX10_init 31 = .ok (.invokespecial 27, 3) := by decide +kernel
theorem dX10_init_34 : decode cX10_init 34 = .ok (.putfield 28, 3) := by decide +kernel
theorem dX10_init_37 : decode cX10_init 37 = .ok (.aload_n 0, 1) := by decide +kernel
theorem dX10_init_38 : decode cX10_init 38 = .ok (.new 32, 3) := by decide +kernel
theorem dX10_init_41 : decode cX10_init 41 = .ok (.dup, 1) := by decide +kernel
theorem dX10_init_42 : decode cX10_init 42 = .ok (.invokespecial 34, 3) := by decide +kernel
theorem dX10_init_45 : decode cX10_init 45 = .ok (.putfield 35, 3) := by decide +kernel
theorem dX10_init_48 : decode cX10_init 48 = .ok (.aload_n 0, 1) := by decide +kernel
theorem dX10_init_49 : decode cX10_init 49 = .ok (.new 39, 3) := by decide +kernel
theorem dX10_init_52 : decode cX10_init 52 = .ok (.dup, 1) := by decide +kernel
theorem dX10_init_53 : decode cX10_init 53 = .ok (.invokespecial 41, 3) := by decide +kernel
theorem dX10_init_56 : decode cX10_init 56 = .ok (.putfield 42, 3) := by decide +kernel
theorem dX10_init_59 : decode cX10_init 59 = .ok (.return_, 1) := by decide +kernel
theorem dX10_copyFrom_0 : decode cX10_copyFrom 0 = .ok (.aload_n 0, 1) := by decide +kernel
theorem dX10_copyFrom_1 : decode cX10_copyFrom 1 = .ok (.aload_n 1, 1) := by decide +kernel
theorem dX10_copyFrom_2 : decode cX10_copyFrom 2 = .ok (.getfield 46, 3) := by decide +kernel
theorem dX10_copyFrom_5 : decode cX10_copyFrom 5 = .ok (.putfield 46, 3) := by decide +kernel
theorem dX10_copyFrom_8 : decode cX10_copyFrom 8 = .ok (.aload_n 0, 1) := by decide +kernel
theorem dX10_copyFrom_9 : decode cX10_copyFrom 9 = .ok (.getfield 12, 3) := by decide +kernel
theorem dX10_copyFrom_12 : decode cX10_copyFrom 12 = .ok (.aload_n 1, 1) := by decide +kernel
theorem dX10_copyFrom_13 : decode cX10_copyFrom 13 = .ok (.getfield 12, 3) := by decide +kernel
theorem dX10_copyFrom_16 : decode cX10_copyFrom 16 = .ok (.invokevirtual 50, 3) := by decide +kernel
theorem dX10_copyFrom_19 : decode cX10_copyFrom 19 = .ok (.aload_n 0, 1) := by decide +kernel
theorem dX10_copyFrom_20 : decode cX10_copyFrom 20 = .ok (.getfield 21, 3) := by decide +kernel
theorem dX10_copyFrom_23 : decode cX10_copyFrom 23 = .ok (.aload_n 1, 1) := by decide +kernel
theorem dX10_copyFrom_24 : decode cX10_copyFrom 24 = .ok (.getfield 21, 3) := by decide +kernel
theorem dX10_copyFrom_27 : decode cX10_copyFrom 27 = .ok (.invokevirtual 54, 3) := by decide +kernel
theorem dX10_copyFrom_30 : decode cX10_copyFrom 30 = .ok (.aload_n 0, 1) := by decide +kernel
theorem dX10_copyFrom_31 : decode cX10_copyFrom 31 = .ok (.getfield 28, 3) := by decide +kernel
theorem dX10_copyFrom_34 : decode cX10_copyFrom 34 = .ok (.aload_n 1, 1) := by decide +kernel
theorem dX10_copyFrom_35 : decode cX10_copyFrom 35 = .ok (.getfield 28, 3) := by decide +kernel
theorem dX10_copyFrom_38 : decode cX10_copyFrom 38 = .ok (.invokevirtual 57, 3) := by decide +kernel
theorem dX10_copyFrom_41 : decode cX10_copyFrom 41 = .ok (.aload_n 0, 1) := by decide +kernel
theorem dX10_copyFrom_42 : decode cX10_copyFrom 42 = .ok (.getfield 35, 3) := by decide +kernel
theorem dX10_copyFrom_45 : decode cX10_copyFrom 45 = .ok (.aload_n 1, 1) := by decide +kernel
theorem dX10_copyFrom_46 : decode cX10_copyFrom 46 = .ok (.getfield 35, 3) := by decide +kernel
theorem dX10_copyFrom_49 : decode cX10_copyFrom 49 = .ok (.invokevirtual 60, 3) := by decide +kernel
theorem dX10_copyFrom_52 : decode cX10_copyFrom 52 = .ok (.aload_n 0, 1) := by decide +kernel
theorem dX10_copyFrom_53 : decode cX10_copyFrom 53 = .ok (.getfield 42, 3) := by decide +kernel
theorem dX10_copyFrom_56 : decode cX10_copyFrom 56 = .ok (.aload_n 1, 1) := by decide +kernel
theorem dX10_copyFrom_57 : decode cX10_copyFrom 57 = .ok (.getfield 42, 3) := by decide +kernel
theorem dX10_copyFrom_60 : decode cX10_copyFrom 60 = .ok (.invokevirtual 63, 3) := by decide +kernel
theorem dX10_copyFrom_63 : decode cX10_copyFrom 63 = .ok (.return_, 1) := by decide +kernel
theorem dX10_rules_0 : decode cX10_rules 0 = .ok (.aload_n 0, 1) := by decide +kernel
theorem dX10_rules_1 : decode cX10_rules 1 = .ok (.getfield 28, 3) := by decide +kernel
theorem dX10_rules_4 : decode cX10_rules 4 = .ok (.aload_n 0, 1) := by decide +kernel
theorem dX10_rules_5 : decode cX10_rules 5 = .ok (.getfield 28, 3) := by decide +kernel
theorem dX10_rules_8 : decode cX10_rules 8 = .ok (.iload_n 1, 1) := by decide +kernel
theorem dX10_rules_9 : decode cX10_rules 9 = .ok (.aload_n 0, 1) := by decide +kernel
theorem dX10_rules_10 : decode cX10_rules 10 = .ok (.getfield 35, 3) := by decide +kernel
theorem dX10_rules_13 : decode cX10_rules 13 = .ok (.iconst 0, 1) := by decide +kernel
theorem dX10_rules_14 : decode cX10_rules 14 = .ok (.iload_n 2, 1) := by decide +kernel
theorem dX10_rules_15 : decode cX10_rules 15 = .ok (.invokevirtual 66, 3) := by decide +kernel
theorem dX10_rules_18 : decode cX10_rules 18 = .ok (.iload_n 1, 1) := by decide +kernel
theorem dX10_rules_19 : decode cX10_rules 19 = .ok (.invokevirtual 70, 3) := by decide +kernel
theorem dX10_rules_22 : decode cX10_rules 22 = .ok (.ireturn, 1) := by decide +kernel
theorem dX10_mayBe_0 : decode cX10_mayBe 0 = .ok (.aload_n 0, 1) := by decide +kernel
theorem dX10_mayBe_1 : decode cX10_mayBe 1 = .ok (.iconst 1, 1) := by decide +kernel
theorem dX10_mayBe_2 : decode cX10_mayBe 2 = .ok (.aload_n 0, 1) := by decide +kernel
theorem dX10_mayBe_3 : decode cX10_mayBe 3 = .ok (.getfield 46, 3) := by decide +kernel
theorem dX10_mayBe_6 : decode cX10_mayBe 6 = .ok (.invokevirtual 74, 3) := by decide +kernel
theorem dX10_mayBe_9 : decode cX10_mayBe 9 = .ok (.istore 4, 2) := by decide +kernel
theorem dX10_mayBe_11 : decode cX10_mayBe 11 = .ok (.iload_n 3, 1) := by decide +kernel
theorem dX10_mayBe_12 : decode cX10_mayBe 12 = .ok (.iload_n 1, 1) := by decide +kernel
theorem dX10_mayBe_13 : decode cX10_mayBe 13 = .ok (.iconst 2, 1) := by decide +kernel
theorem dX10_mayBe_14 : decode cX10_mayBe 14 = .ok (.if_icmp .ne 10, 3) := by decide +kernel
theorem dX10_mayBe_17 : decode cX10_mayBe 17 = .ok (.iconst 2, 1) := by decide +kernel
theorem dX10_mayBe_18 : decode cX10_mayBe 18 = .ok (.iload 4, 2) := by decide +kernel
theorem dX10_mayBe_20 : decode cX10_mayBe 20 = .ok (.imul, 1) := by decide +kernel
theorem dX10_mayBe_21 : decode cX10_mayBe 21 = .ok (.goto 5, 3) := by decide +kernel
theorem dX10_mayBe_24 : decode cX10_mayBe 24 = .ok (.iload 4, 2) := by decide +kernel
theorem dX10_mayBe_26 : decode cX10_mayBe 26 = .ok (.if_icmp .le 5, 3) := by decide +kernel
theorem dX10_mayBe_29 : decode cX10_mayBe 29 = .ok (.iconst 0, 1) := by decide +kernel
theorem dX10_mayBe_30 : decode cX10_mayBe 30 = .ok (.ireturn, 1) := by decide +kernel
theorem dX10_mayBe_31 : decode cX10_mayBe 31 = .ok (.aload_n 0, 1) := by decide +kernel
theorem dX10_mayBe_32 : decode cX10_mayBe 32 = .ok (.iconst 2, 1) := by decide +kernel
theorem dX10_mayBe_33 : decode cX10_mayBe 33 = .ok (.aload_n 0, 1) := by decide +kernel
theorem dX10_mayBe_34 : decode cX10_mayBe 34 = .ok (.getfield 46, 3) := by decide +kernel
theorem dX10_mayBe_37 : decode cX10_mayBe 37 = .ok (.invokevirtual 74, 3) := by decide +kernel
theorem dX10_mayBe_40 : decode cX10_mayBe 40 = .ok (.istore 5, 2) := by decide +kernel
theorem dX10_mayBe_42 : decode cX10_mayBe 42 = .ok (.iconst 0, 1) := by decide +kernel
theorem dX10_mayBe_43 : decode cX10_mayBe 43 = .ok (.istore 6, 2) := by decide +kernel
theorem dX10_mayBe_45 : decode cX10_mayBe 45 = .ok (.iload 6, 2) := by decide +kernel
theorem dX10_mayBe_47 : decode cX10_mayBe 47 = .ok (.aload_n 0, 1) := by decide +kernel
theorem dX10_mayBe_48 : decode cX10_mayBe 48 = .ok (.getfield 12, 3) := by decide +kernel
theorem dX10_mayBe_51 : decode cX10_mayBe 51 = .ok (.getfield 77, 3) := by decide +kernel
theorem dX10_mayBe_54 : decode cX10_mayBe 54 = .ok (.if_icmp .ge 30, 3) := by decide +kernel
theorem dX10_mayBe_57 : decode cX10_mayBe 57 = .ok (.aload_n 0, 1) := by decide +kernel
theorem dX10_mayBe_58 : decode cX10_mayBe 58 = .ok (.getfield 12, 3) := by decide +kernel
theorem dX10_mayBe_61 : decode cX10_mayBe 61 = .ok (.getfield 80, 3) := by decide +kernel
theorem dX10_mayBe_64 : decode cX10_mayBe 64 = .ok (.iload 6, 2) := by decide +kernel
theorem dX10_mayBe_66 : decode cX10_mayBe 66 = .ok (.iaload, 1) := by decide +kernel
theorem dX10_mayBe_67 : decode cX10_mayBe 67 = .ok (.iload_n 2, 1) := by decide +kernel
theorem dX10_mayBe_68 : decode cX10_mayBe 68 = .ok (.invokestatic 84, 3) := by decide +kernel
theorem dX10_mayBe_71 : decode cX10_mayBe 71 = .ok (.iload 5, 2) := by decide +kernel
theorem dX10_mayBe_73 : decode cX10_mayBe 73 = .ok (.if_icmp .ge 5, 3) := by decide +kernel
theorem dX10_mayBe_76 : decode cX10_mayBe 76 = .ok (.iconst 0, 1) := by decide +kernel
theorem dX10_mayBe_77 : decode cX10_mayBe 77 = .ok (.ireturn, 1) := by decide +kernel
theorem dX10_mayBe_78 : decode cX10_mayBe 78 = .ok (.iinc 6 1, 3) := by decide +kernel
theorem dX10_mayBe_81 : decode cX10_mayBe 81 = .ok (.goto (-36), 3) := by decide +kernel
theorem dX10_mayBe_84 : decode cX10_mayBe 84 = .ok (.iconst 1, 1) := by decide +kernel
theorem dX10_mayBe_85 : decode cX10_mayBe 85 = .ok (.ireturn, 1) := by decide +kernel
theorem dX11_init_0 : decode cX11_init 0 = .ok (.aload_n 0, 1) := by decide +kernel
theorem dX11_init_1 : decode cX11_init 1 = .ok (.invokespecial 1, 3) := by decide +kernel
theorem dX11_init_4 : decode cX11_init 4 = .ok (.aload_n 0, 1) := by decide +kernel
theorem dX11_init_5 : decode cX11_init 5 = .ok (.new 7, 3) := by decide +kernel
theorem dX11_init_8 : decode cX11_init 8 = .ok (.dup, 1) := by decide +kernel
theorem dX11_init_9 : decode cX11_init 9 = .ok (.invokespecial 9, 3) := by decide +kernel
theorem dX11_init_12 : decode cX11_init 12 = .ok (.putfield 10, 3) := by decide +kernel
theorem dX11_init_15 : decode cX11_init 15 = .ok (.aload_n 0, 1) := by decide +kernel
theorem dX11_init_16 : decode cX11_init 16 = .ok (.new 7, 3) := by decide +kernel
theorem dX11_init_19 : decode cX11_init 19 = .ok (.dup, 1) := by decide +kernel
theorem dX11_init_20 : decode cX11_init 20 = .ok (.invokespecial 9, 3) := by decide +kernel
theorem dX11_init_23 : decode cX11_init 23 = .ok (.putfield 16, 3) := by decide +kernel
theorem dX11_init_26 : decode cX11_init 26 = .ok (.aload_n 0, 1) := by decide +kernel
theorem dX11_init_27 : decode cX11_init 27 = .ok (.sipush 19200, 3) := by decide +kernel
theorem dX11_init_30 : decode cX11_init 30 = .ok (.newarray .int, 2) := by decide +kernel
theorem dX11_init_32 : decode cX11_init 32 = .ok (.putfield 19, 3) := by decide +kernel
theorem dX11_init_35 : decode cX11_init 35 = .ok (.aload_n 0, 1) := by decide +kernel
theorem dX11_init_36 : decode cX11_init 36 = .ok (.new 23, 3) := by decide +kernel
theorem dX11_init_39 : decode cX11_init 39 = .ok (.dup, 1) := by decide +kernel
theorem dX11_init_40 : decode cX11_init 40 = .ok (.invokespecial 25, 3) := by decide +kernel
theorem dX11_init_43 : decode cX11_init 43 = .ok (.putfield 26, 3) := by decide +kernel
theorem dX11_init_46 : decode cX11_init 46 = .ok (.aload_n 0, 1) := by decide +kernel
theorem dX11_init_47 : decode cX11_init 47 = .ok (.new 30, 3) := by decide +kernel
theorem dX11_init_50 : decode cX11_init 50 = .ok (.dup, 1) := by decide +kernel
theorem dX11_init_51 : decode cX11_init 51 = .ok (.invokespecial 32, 3) := by decide +kernel
theorem dX11_init_54 : decode cX11_init 54 = .ok (.putfield 33, 3) := by decide +kernel
theorem dX11_init_57 : decode cX11_init 57 = .ok (.aload_n 0, 1) := by decide +kernel
theorem dX11_init_58 : decode cX11_init 58 = .ok (.new 37, 3) := by decide +kernel
theorem dX11_init_61 : decode cX11_init 61 = .ok (.dup, 1) := by decide +kernel
theorem dX11_init_62 : decode cX11_init 62 = .ok (.invokespecial 39, 3) := by decide +kernel
theorem dX11_init_65 : decode cX11_init 65 = .ok (.putfield 40, 3) := by decide +kernel
theorem dX11_init_68 : decode cX11_init 68 = .ok (.aload_n 0, 1) := by decide +kernel
theorem dX11_init_69 : decode cX11_init 69 = .ok (.new 44, 3) := by decide +kernel
theorem dX11_init_72 : decode cX11_init 72 = .ok (.dup, 1) := by decide +kernel
theorem dX11_init_73 : decode cX11_init 73 = .ok (.invokespecial 46, 3) := by decide +kernel
theorem dX11_init_76 : decode cX11_init 76 = .ok (.putfield 47, 3) := by decide +kernel
theorem dX11_init_79 : decode cX11_init 79 = .ok (.aload_n 0, 1) := by decide +kernel
theorem dX11_init_80 : decode cX11_init 80 = .ok (.new 51, 3) := by decide +kernel
theorem dX11_init_83 : decode cX11_init 83 = .ok (.dup, 1) := by decide +kernel
theorem dX11_init_84 : decode cX11_init 84 = .ok (.invokespecial 53, 3) := by decide +kernel
theorem dX11_init_87 : decode cX11_init 87 = .ok (.putfield 54, 3) := by decide +kernel
theorem dX11_init_90 : decode cX11_init 90 = .ok (.aload_n 0, 1) := by decide +kernel
theorem dX11_init_91 : decode cX11_init 91 = .ok (.bipush 8, 2) := by decide +kernel
theorem dX11_init_93 : decode cX11_init 93 = .ok (.newarray .int, 2) := by decide +kernel
theorem dX11_init_95 : decode cX11_init 95 = .ok (.putfield 58, 3) := by decide +kernel
theorem dX11_init_98 : decode cX11_init 98 = .ok (.aload_n 0, 1) := by decide +kernel
theorem dX11_init_99 : decode cX11_init 99 = .ok (.bipush 8, 2) := by decide +kernel
theorem dX11_init_101 : decode cX11_init 101 = .ok (.newarray .int, 2) := by decide +kernel
theorem dX11_init_103 : decode cX11_init 103 = .ok (.putfield 61, 3) := by decide +kernel
theorem dX11_init_106 : decode cX11_init 106 = .ok (.return_, 1) := by decide +kernel
theorem dX11_under_0 : decode cX11_under 0 = .ok (.iload_n 1, 1) := by decide +kernel
theorem dX11_under_1 : decode cX11_under 1 = .ok (.bipush 30, 2) := by decide +kernel
theorem dX11_under_3 : decode cX11_under 3 = .ok (.invokestatic 64, 3) := by decide +kernel
theorem dX11_under_6 : decode cX11_under 6 = .ok (.ifCond .eq 14, 3) := by decide +kernel
theorem dX11_under_9 : decode cX11_under 9 = .ok (.iload_n 2, 1) := by decide +kernel
theorem dX11_under_10 : decode cX11_under 10 = .ok (.getstatic 68, 3) := by decide +kernel
theorem dX11_under_13 : decode cX11_under 13 = .ok (.arraylength, 1) := by decide +kernel
theorem dX11_under_14 : decode cX11_under 14 = .ok (.invokestatic 64, 3) := by decide +kernel
theorem dX11_under_17 : decode cX11_under 17 = .ok (.ifCond .ne 5, 3) := by decide +kernel
theorem dX11_under_20 : decode cX11_under 20 = .ok (.iconst (-1), 1) := by decide +kernel
theorem dX11_under_21 : decode cX11_under 21 = .ok (.ireturn, 1) := by decide +kernel
theorem dX11_under_22 : decode cX11_under 22 = .ok (.iload_n 3, 1) := by decide +kernel
theorem dX11_under_23 : decode cX11_under 23 = .ok (.ifCond .lt 12, 3) := by decide +kernel
theorem dX11_under_26 : decode cX11_under 26 = .ok (.iload_n 3, 1) := by decide +kernel
theorem dX11_under_27 : decode cX11_under 27 = .ok (.getstatic 68, 3) := by decide +kernel
theorem dX11_under_30 : decode cX11_under 30 = .ok (.iload_n 2, 1) := by decide +kernel
theorem dX11_under_31 : decode cX11_under 31 = .ok (.iaload, 1) := by decide +kernel
theorem dX11_under_32 : decode cX11_under 32 = .ok (.if_icmp .le 6, 3) := by decide +kernel
theorem dX11_under_35 : decode cX11_under 35 = .ok (.bipush (-2), 2) := by decide +kernel
theorem dX11_under_37 : decode cX11_under 37 = .ok (.ireturn, 1) := by decide +kernel
theorem dX11_under_38 : decode cX11_under 38 = .ok (.aload_n 0, 1) := by decide +kernel
theorem dX11_under_39 : decode cX11_under 39 = .ok (.getfield 10, 3) := by decide +kernel
theorem dX11_under_42 : decode cX11_under 42 = .ok (.getfield 71, 3) := by decide +kernel
theorem dX11_under_45 : decode cX11_under 45 = .ok (.getfield 74, 3) := by decide +kernel
theorem dX11_under_48 : decode cX11_under 48 = .ok (.iload_n 2, 1) := by decide +kernel
theorem dX11_under_49 : decode cX11_under 49 = .ok (.bipush 30, 2) := by decide +kernel
theorem dX11_under_51 : decode cX11_under 51 = .ok (.imul, 1) := by decide +kernel
theorem dX11_under_52 : decode cX11_under 52 = .ok (.iload_n 1, 1) := by decide +kernel
theorem dX11_under_53 : decode cX11_under 53 = .ok (.iadd, 1) := by decide +kernel
theorem dX11_under_54 : decode cX11_under 54 = .ok (.iaload, 1) := by decide +kernel
theorem dX11_under_55 : decode cX11_under 55 = .ok (.istore 4, 2) := by decide +kernel
theorem dX11_under_57 : decode cX11_under 57 = .ok (.aload_n 0, 1) := by decide +kernel
theorem dX11_under_58 : decode cX11_under 58 = .ok (.getfield 10, 3) := by decide +kernel
theorem dX11_under_61 : decode cX11_under 61 = .ok (.getfield 71, 3) := by decide +kernel
theorem dX11_under_64 : decode cX11_under 64 = .ok (.getfield 74, 3) := by decide +kernel
theorem dX11_under_67 : decode cX11_under 67 = .ok (.iload_n 2, 1) := by decide +kernel
theorem dX11_under_68 : decode cX11_under 68 = .ok (.bipush 30, 2) := by decide +kernel
theorem dX11_under_70 : decode cX11_under 70 = .ok (.imul, 1) := by decide +kernel
theorem dX11_under_71 : decode cX11_under 71 = .ok (.iload_n 1, 1) := by decide +kernel
theorem dX11_under_72 : decode cX11_under 72 = .ok (.iadd, 1) := by decide +kernel
theorem dX11_under_73 : decode cX11_under 73 = .ok (.iload_n 3, 1) := by decide +kernel
theorem dX11_under_74 : decode cX11_under 74 = .ok (.iastore, 1) := by decide +kernel
theorem dX11_under_75 : decode cX11_under 75 = .ok (.iload 4, 2) := by decide +kernel
theorem dX11_under_77 : decode cX11_under 77 = .ok (.ireturn, 1) := by decide +kernel
theorem dX11_cell_0 : decode cX11_cell 0 = .ok (.iload_n 1, 1) := by decide +kernel
theorem dX11_cell_1 : decode cX11_cell 1 = .ok (.bipush 30, 2) := by decide +kernel
theorem dX11_cell_3 : decode cX11_cell 3 = .ok (.invokestatic 64, 3) := by decide +kernel
theorem dX11_cell_6 : decode cX11_cell 6 = .ok (.ifCond .eq 14, 3) := by decide +kernel
theorem dX11_cell_9 : decode cX11_cell 9 = .ok (.iload_n 2, 1) := by decide +kernel
theorem dX11_cell_10 : decode cX11_cell 10 = .ok (.getstatic 68, 3) := by decide +kernel
theorem dX11_cell_13 : decode cX11_cell 13 = .ok (.arraylength, 1) := by decide +kernel
theorem dX11_cell_14 : decode cX11_cell 14 = .ok (.invokestatic 64, 3) := by decide +kernel
theorem dX11_cell_17 : decode cX11_cell 17 = .ok (.ifCond .ne 5, 3) := by decide +kernel
theorem dX11_cell_20 : decode cX11_cell 20 = .ok (.iconst (-1), 1) := by decide +kernel
theorem dX11_cell_21 : decode cX11_cell 21 = .ok (.ireturn, 1) := by decide +kernel
theorem dX11_cell_22 : decode cX11_cell 22 = .ok (.aload_n 0, 1) := by decide +kernel
theorem dX11_cell_23 : decode cX11_cell 23 = .ok (.getfield 10, 3) := by decide +kernel
theorem dX11_cell_26 : decode cX11_cell 26 = .ok (.getfield 71, 3) := by decide +kernel
theorem dX11_cell_29 : decode cX11_cell 29 = .ok (.getfield 74, 3) := by decide +kernel
theorem dX11_cell_32 : decode cX11_cell 32 = .ok (.iload_n 2, 1) := by decide +kernel
theorem dX11_cell_33 : decode cX11_cell 33 = .ok (.bipush 30, 2) := by decide +kernel
theorem dX11_cell_35 : decode cX11_cell 35 = .ok (.imul, 1) := by decide +kernel
theorem dX11_cell_36 : decode cX11_cell 36 = .ok (.iload_n 1, 1) := by decide +kernel
theorem dX11_cell_37 : decode cX11_cell 37 = .ok (.iadd, 1) := by decide +kernel
theorem dX11_cell_38 : decode cX11_cell 38 = .ok (.iaload, 1) := by decide +kernel
theorem dX11_cell_39 : decode cX11_cell 39 = .ok (.ireturn, 1) := by decide +kernel
theorem dX11_tap_0 : decode cX11_tap 0 = .ok (.iload_n 1, 1) := by decide +kernel
theorem dX11_tap_1 : decode cX11_tap 1 = .ok (.ifCond .lt 17, 3) := by decide +kernel
theorem dX11_tap_4 : decode cX11_tap 4 = .ok (.iload_n 1, 1) := by decide +kernel
theorem dX11_tap_5 : decode cX11_tap 5 = .ok (.iconst 2, 1) := by decide +kernel
theorem dX11_tap_6 : decode cX11_tap 6 = .ok (.if_icmp .gt 12, 3) := by decide +kernel
theorem dX11_tap_9 : decode cX11_tap 9 = .ok (.iload_n 2, 1) := by decide +kernel
theorem dX11_tap_10 : decode cX11_tap 10 = .ok (.bipush 30, 2) := by decide +kernel
theorem dX11_tap_12 : decode cX11_tap 12 = .ok (.invokestatic 64, 3) := by decide +kernel
theorem dX11_tap_15 : decode cX11_tap 15 = .ok (.ifCond .ne 5, 3) := by decide +kernel
theorem dX11_tap_18 : decode cX11_tap 18 = .ok (.iconst (-1), 1) := by decide +kernel
theorem dX11_tap_19 : decode cX11_tap 19 = .ok (.ireturn, 1) := by decide +kernel
theorem dX11_tap_20 : decode cX11_tap 20 = .ok (.iload_n 1, 1) := by decide +kernel
theorem dX11_tap_21 : decode cX11_tap 21 = .ok (.ifCond .eq 30, 3) := by decide +kernel
theorem dX11_tap_24 : decode cX11_tap 24 = .ok (.iload_n 3, 1) := by decide +kernel
theorem dX11_tap_25 : decode cX11_tap 25 = .ok (.iconst 1, 1) := by decide +kernel
theorem dX11_tap_26 : decode cX11_tap 26 = .ok (.if_icmp .lt 22, 3) := by decide +kernel
theorem dX11_tap_29 : decode cX11_tap 29 = .ok (.iload_n 3, 1) := by decide +kernel
theorem dX11_tap_30 : decode cX11_tap 30 = .ok (.sipush 500, 3) := by decide +kernel
theorem dX11_tap_33 : decode cX11_tap 33 = .ok (.if_icmp .gt 15, 3) := by decide +kernel
theorem dX11_tap_36 : decode cX11_tap 36 = .ok (.iload 4, 2) := by decide +kernel
theorem dX11_tap_38 : decode cX11_tap 38 = .ok (.ifCond .lt 10, 3) := by decide +kernel
theorem dX11_tap_41 : decode cX11_tap 41 = .ok (.iload 4, 2) := by decide +kernel
theorem dX11_tap_43 : decode cX11_tap 43 = .ok (.bipush 99, 2) := by decide +kernel
theorem dX11_tap_45 : decode cX11_tap 45 = .ok (.if_icmp .le 6, 3) := by decide +kernel
theorem dX11_tap_48 : decode cX11_tap 48 = .ok (.bipush (-2), 2) := by decide +kernel
theorem dX11_tap_50 : decode cX11_tap 50 = .ok (.ireturn, 1) := by decide +kernel
theorem dX11_tap_51 : decode cX11_tap 51 = .ok (.aload_n 0, 1) := by decide +kernel
theorem dX11_tap_52 : decode cX11_tap 52 = .ok (.getfield 10, 3) := by decide +kernel
theorem dX11_tap_55 : decode cX11_tap 55 = .ok (.getfield 71, 3) := by decide +kernel
theorem dX11_tap_58 : decode cX11_tap 58 = .ok (.iload_n 2, 1) := by decide +kernel
theorem dX11_tap_59 : decode cX11_tap 59 = .ok (.invokevirtual 77, 3) := by decide +kernel
theorem dX11_tap_62 : decode cX11_tap 62 = .ok (.ifCond .ne 21, 3) := by decide +kernel
theorem dX11_tap_65 : decode cX11_tap 65 = .ok (.iload_n 1, 1) := by decide +kernel
theorem dX11_tap_66 : decode cX11_tap 66 = .ok (.ifCond .eq 20, 3) := by decide +kernel
theorem dX11_tap_69 : decode cX11_tap 69 = .ok (.aload_n 0, 1) := by decide +kernel
theorem dX11_tap_70 : decode cX11_tap 70 = .ok (.getfield 10, 3) := by decide +kernel
theorem dX11_tap_73 : decode cX11_tap 73 = .ok (.iload_n 1, 1) := by decide +kernel
theorem dX11_tap_74 : decode cX11_tap 74 = .ok (.iload_n 2, 1) := by decide +kernel
theorem dX11_tap_75 : decode cX11_tap 75 = .ok (.iload 4, 2) := by decide +kernel
theorem dX11_tap_77 : decode cX11_tap 77 = .ok (.invokevirtual 81, 3) := by decide +kernel
theorem dX11_tap_80 : decode cX11_tap 80 = .ok (.ifCond .ne 6, 3) := by decide +kernel
theorem dX11_tap_83 : decode cX11_tap 83 = .ok (.bipush (-3), 2) := by decide +kernel
theorem dX11_tap_85 : decode cX11_tap 85 = .ok (.ireturn, 1) := by decide +kernel
theorem dX11_tap_86 : decode cX11_tap 86 = .ok (.aload_n 0, 1) := by decide +kernel
theorem dX11_tap_87 : decode cX11_tap 87 = .ok (.getfield 10, 3) := by decide +kernel
theorem dX11_tap_90 : decode cX11_tap 90 = .ok (.getfield 71, 3) := by decide +kernel
theorem dX11_tap_93 : decode cX11_tap 93 = .ok (.getfield 85, 3) := by decide +kernel
theorem dX11_tap_96 : decode cX11_tap 96 = .ok (.bipush 12, 2) := by decide +kernel
theorem dX11_tap_98 : decode cX11_tap 98 = .ok (.if_icmp .lt 6, 3) := by decide +kernel
theorem dX11_tap_101 : decode cX11_tap 101 = .ok (.bipush (-4), 2) := by decide +kernel
theorem dX11_tap_103 : decode cX11_tap 103 = .ok (.ireturn, 1) := by decide +kernel
theorem dX11_tap_104 : decode cX11_tap 104 = .ok (.aload_n 0, 1) := by decide +kernel
theorem dX11_tap_105 : decode cX11_tap 105 = .ok (.getfield 10, 3) := by decide +kernel
theorem dX11_tap_108 : decode cX11_tap 108 = .ok (.getfield 71, 3) := by decide +kernel
theorem dX11_tap_111 : decode cX11_tap 111 = .ok (.iload_n 1, 1) := by decide +kernel
theorem dX11_tap_112 : decode cX11_tap 112 = .ok (.iload_n 2, 1) := by decide +kernel
theorem dX11_tap_113 : decode cX11_tap 113 = .ok (.iload_n 3, 1) := by decide +kernel
theorem dX11_tap_114 : decode cX11_tap 114 = .ok (.aload_n 0, 1) := by decide +kernel
theorem dX11_tap_115 : decode cX11_tap 115 = .ok (.getfield 10, 3) := by decide +kernel
theorem dX11_tap_118 : decode cX11_tap 118 = .ok (.getfield 89, 3) := by decide +kernel
theorem dX11_tap_121 : decode cX11_tap 121 = .ok (.invokevirtual 92, 3) := by decide +kernel
theorem dX11_tap_124 : decode cX11_tap 124 = .ok (.ireturn, 1) := by decide +kernel
theorem dX11_shut_0 : decode cX11_shut 0 = .ok (.aload_n 0, 1) := by decide +kernel
theorem dX11_shut_1 : decode cX11_shut 1 = .ok (.iload_n 1, 1) := by decide +kernel
theorem dX11_shut_2 : decode cX11_shut 2 = .ok (.invokevirtual 96, 3) := by decide +kernel
theorem dX11_shut_5 : decode cX11_shut 5 = .ok (.ifCond .ne 5, 3) := by decide +kernel
theorem dX11_shut_8 : decode cX11_shut 8 = .ok (.iconst (-1), 1) := by decide +kernel
theorem dX11_shut_9 : decode cX11_shut 9 = .ok (.ireturn, 1) := by decide +kernel
theorem dX11_shut_10 : decode cX11_shut 10 = .ok (.aload_n 0, 1) := by decide +kernel
theorem dX11_shut_11 : decode cX11_shut 11 = .ok (.getfield 10, 3) := by decide +kernel
theorem dX11_shut_14 : decode cX11_shut 14 = .ok (.getfield 71, 3) := by decide +kernel
theorem dX11_shut_17 : decode cX11_shut 17 = .ok (.getfield 99, 3) := by decide +kernel
theorem dX11_shut_20 : decode cX11_shut 20 = .ok (.iload_n 1, 1) := by decide +kernel
theorem dX11_shut_21 : decode cX11_shut 21 = .ok (.ishr, 1) := by decide +kernel
theorem dX11_shut_22 : decode cX11_shut 22 = .ok (.iconst 1, 1) := by decide +kernel
theorem dX11_shut_23 : decode cX11_shut 23 = .ok (.iand, 1) := by decide +kernel
theorem dX11_shut_24 : decode cX11_shut 24 = .ok (.istore_n 3, 1) := by decide +kernel
theorem dX11_shut_25 : decode cX11_shut 25 = .ok (.aload_n 0, 1) := by decide +kernel
theorem dX11_shut_26 : decode cX11_shut 26 = .ok (.getfield 10, 3) := by decide +kernel
theorem dX11_shut_29 : decode cX11_shut 29 = .ok (.getfield 71, 3) := by decide +kernel
theorem dX11_shut_32 : decode cX11_shut 32 = .ok (.iload_n 2, 1) := by decide +kernel
theorem dX11_shut_33 : decode cX11_shut 33 = .ok (.ifCond .eq 20, 3) := by decide +kernel
theorem dX11_shut_36 : decode cX11_shut 36 = .ok (.aload_n 0, 1) := by decide +kernel
theorem dX11_shut_37 : decode cX11_shut 37 = .ok (.getfield 10, 3) := by decide +kernel
theorem dX11_shut_40 : decode cX11_shut 40 = .ok (.getfield 71, 3) := by decide +kernel
theorem dX11_shut_43 : decode cX11_shut 43 = .ok (.getfield 99, 3) := by decide +kernel
theorem dX11_shut_46 : decode cX11_shut 46 = .ok (.iconst 1, 1) := by decide +kernel
theorem dX11_shut_47 : decode cX11_shut 47 = .ok (.iload_n 1, 1) := by decide +kernel
theorem dX11_shut_48 : decode cX11_shut 48 = .ok (.ishl, 1) := by decide +kernel
theorem dX11_shut_49 : decode cX11_shut 49 = .ok (.ior, 1) := by decide +kernel
theorem dX11_shut_50 : decode cX11_shut 50 = .ok (.goto 19, 3) := by decide +kernel
theorem dX11_shut_53 : decode cX11_shut 53 = .ok (.aload_n 0, 1) := by decide +kernel
theorem dX11_shut_54 : decode cX11_shut 54 = .ok (.getfield 10, 3) := by decide +kernel
theorem dX11_shut_57 : decode cX11_shut 57 = .ok (.getfield 71, 3) := by decide +kernel
theorem dX11_shut_60 : decode cX11_shut 60 = .ok (.getfield 99, 3) := by decide +kernel
theorem dX11_shut_63 : decode cX11_shut 63 = .ok (.iconst 1, 1) := by decide +kernel
theorem dX11_shut_64 : decode cX11_shut 64 = .ok (.iload_n 1, 1) := by decide +kernel
theorem dX11_shut_65 : decode cX11_shut 65 = .ok (.ishl, 1) := by decide +kernel
theorem dX11_shut_66 : decode cX11_shut 66 = .ok (.iconst (-1), 1) := by decide +kernel
theorem dX11_shut_67 : decode cX11_shut 67 = .ok (.ixor, 1) := by decide +kernel
theorem dX11_shut_68 : decode cX11_shut 68 = .ok (.iand, 1) := by decide +kernel
theorem dX11_shut_69 : decode cX11_shut 69 = .ok (.putfield 99, 3) := by decide +kernel
theorem dX11_shut_72 : decode cX11_shut 72 = .ok (.iload_n 3, 1) := by decide +kernel
theorem dX11_shut_73 : decode cX11_shut 73 = .ok (.ireturn, 1) := by decide +kernel
theorem dX11_dawn_0 : decode cX11_dawn 0 = .ok (.iload_n 1, 1) := by decide +kernel
theorem dX11_dawn_1 : decode cX11_dawn 1 = .ok (.iconst 1, 1) := by decide +kernel
theorem dX11_dawn_2 : decode cX11_dawn 2 = .ok (.if_icmp .lt 24, 3) := by decide +kernel
theorem dX11_dawn_5 : decode cX11_dawn 5 = .ok (.iload_n 1, 1) := by decide +kernel
theorem dX11_dawn_6 : decode cX11_dawn 6 = .ok (.bipush 30, 2) := by decide +kernel
theorem dX11_dawn_8 : decode cX11_dawn 8 = .ok (.if_icmp .gt 18, 3) := by decide +kernel
theorem dX11_dawn_11 : decode cX11_dawn 11 = .ok (.aload_n 0, 1) := by decide +kernel
theorem dX11_dawn_12 : decode cX11_dawn 12 = .ok (.getfield 10, 3) := by decide +kernel
theorem dX11_dawn_15 : decode cX11_dawn 15 = .ok (.getfield 89, 3) := by decide +kernel
theorem dX11_dawn_18 : decode cX11_dawn 18 = .ok (.iload_n 1, 1) := by decide +kernel
theorem dX11_dawn_19 : decode cX11_dawn 19 = .ok (.iadd, 1) := by decide +kernel
theorem dX11_dawn_20 : decode cX11_dawn 20 = .ok (.sipush 400, 3) := by decide +kernel
theorem dX11_dawn_23 : decode cX11_dawn 23 = .ok (.if_icmp .le 6, 3) := by decide +kernel
theorem dX11_dawn_26 : decode cX11_dawn 26 = .ok (.bipush (-2), 2) := by decide +kernel
theorem dX11_dawn_28 : decode cX11_dawn 28 = .ok (.ireturn, 1) := by decide +kernel
theorem dX11_dawn_29 : decode cX11_dawn 29 = .ok (.iconst 0, 1) := by decide +kernel
theorem dX11_dawn_30 : decode cX11_dawn 30 = .ok (.istore_n 2, 1) := by decide +kernel
theorem dX11_dawn_31 : decode cX11_dawn 31 = .ok (.iload_n 2, 1) := by decide +kernel
theorem dX11_dawn_32 : decode cX11_dawn 32 = .ok (.iload_n 1, 1) := by decide +kernel
theorem dX11_dawn_33 : decode cX11_dawn 33 = .ok (.if_icmp .ge 64, 3) := by decide +kernel
theorem dX11_dawn_36 : decode cX11_dawn 36 = .ok (.aload_n 0, 1) := by decide +kernel
theorem dX11_dawn_37 : decode cX11_dawn 37 = .ok (.getfield 10, 3) := by decide +kernel
theorem dX11_dawn_40 : decode cX11_dawn 40 = .ok (.getfield 71, 3) := by decide +kernel
theorem dX11_dawn_43 : decode cX11_dawn 43 = .ok (.invokevirtual 102, 3) := by decide +kernel
theorem dX11_dawn_46 : decode cX11_dawn 46 = .ok (.aload_n 0, 1) := by decide +kernel
theorem dX11_dawn_47 : decode cX11_dawn 47 = .ok (.getfield 10, 3) := by decide +kernel
theorem dX11_dawn_50 : decode cX11_dawn 50 = .ok (.getfield 71, 3) := by decide +kernel
theorem dX11_dawn_53 : decode cX11_dawn 53 = .ok (.getfield 105, 3) := by decide +kernel
theorem dX11_dawn_56 : decode cX11_dawn 56 = .ok (.iconst 0, 1) := by decide +kernel
theorem dX11_dawn_57 : decode cX11_dawn 57 = .ok (.aload_n 0, 1) := by decide +kernel
theorem dX11_dawn_58 : decode cX11_dawn 58 = .ok (.getfield 19, 3) := by decide +kernel
theorem dX11_dawn_61 : decode cX11_dawn 61 = .ok (.aload_n 0, 1) := by decide +kernel
theorem dX11_dawn_62 : decode cX11_dawn 62 = .ok (.getfield 10, 3) := by decide +kernel
theorem dX11_dawn_65 : decode cX11_dawn 65 = .ok (.getfield 89, 3) := by decide +kernel
theorem dX11_dawn_68 : decode cX11_dawn 68 = .ok (.bipush 12, 2) := by decide +kernel
theorem dX11_dawn_70 : decode cX11_dawn 70 = .ok (.imul, 1) := by decide +kernel
theorem dX11_dawn_71 : decode cX11_dawn 71 = .ok (.iconst 4, 1) := by decide +kernel
theorem dX11_dawn_72 : decode cX11_dawn 72 = .ok (.imul, 1) := by decide +kernel
theorem dX11_dawn_73 : decode cX11_dawn 73 = .ok (.bipush 48, 2) := by decide +kernel
theorem dX11_dawn_75 : decode cX11_dawn 75 = .ok (.invokestatic 108, 3) := by decide +kernel
theorem dX11_dawn_78 : decode cX11_dawn 78 = .ok (.aload_n 0, 1) := by decide +kernel
theorem dX11_dawn_79 : decode cX11_dawn 79 = .ok (.getfield 10, 3) := by decide +kernel
theorem dX11_dawn_82 : decode cX11_dawn 82 = .ok (.dup, 1) := by decide +kernel
theorem dX11_dawn_83 : decode cX11_dawn 83 = .ok (.getfield 89, 3) := by decide +kernel
theorem dX11_dawn_86 : decode cX11_dawn 86 = .ok (.iconst 1, 1) := by decide +kernel
theorem dX11_dawn_87 : decode cX11_dawn 87 = .ok (.iadd, 1) := by decide +kernel
theorem dX11_dawn_88 : decode cX11_dawn 88 = .ok (.putfield 89, 3) := by decide +kernel
theorem dX11_dawn_91 : decode cX11_dawn 91 = .ok (.iinc 2 1, 3) := by decide +kernel
theorem dX11_dawn_94 : decode cX11_dawn 94 = .ok (.goto (-63), 3) := by decide +kernel
theorem dX11_dawn_97 : decode cX11_dawn 97 = .ok (.aload_n 0, 1) := by decide +kernel
theorem dX11_dawn_98 : decode cX11_dawn 98 = .ok (.getfield 10, 3) := by decide +kernel
theorem dX11_dawn_101 : decode cX11_dawn 101 = .ok (.getfield 89, 3) := by decide +kernel
theorem dX11_dawn_104 : decode cX11_dawn 104 = .ok (.ireturn, 1) := by decide +kernel
theorem dX11_flow_0 : decode cX11_flow 0 = .ok (.aload_n 0, 1) := by decide +kernel
theorem dX11_flow_1 : decode cX11_flow 1 = .ok (.iload_n 1, 1) := by decide +kernel
theorem dX11_flow_2 : decode cX11_flow 2 = .ok (.invokevirtual 96, 3) := by decide +kernel
theorem dX11_flow_5 : decode cX11_flow 5 = .ok (.ifCond .eq 20, 3) := by decide +kernel
theorem dX11_flow_8 : decode cX11_flow 8 = .ok (.aload_n 0, 1) := by decide +kernel
theorem dX11_flow_9 : decode cX11_flow 9 = .ok (.iload_n 1, 1) := by decide +kernel
theorem dX11_flow_10 : decode cX11_flow 10 = .ok (.iload_n 2, 1) := by decide +kernel
theorem dX11_flow_11 : decode cX11_flow 11 = .ok (.invokevirtual 114, 3) := by decide +kernel
theorem dX11_flow_14 : decode cX11_flow 14 = .ok (.ifCond .eq 11, 3) := by decide +kernel
theorem dX11_flow_17 : decode cX11_flow 17 = .ok (.iload_n 3, 1) := by decide +kernel
theorem dX11_flow_18 : decode cX11_flow 18 = .ok (.iconst 4, 1) := by decide +kernel
theorem dX11_flow_19 : decode cX11_flow 19 = .ok (.invokestatic 64, 3) := by decide +kernel
theorem dX11_flow_22 : decode cX11_flow 22 = .ok (.ifCond .ne 5, 3) := by decide +kernel
theorem dX11_flow_25 : decode cX11_flow 25 = .ok (.iconst (-1), 1) := by decide +kernel
theorem dX11_flow_26 : decode cX11_flow 26 = .ok (.ireturn, 1) := by decide +kernel
theorem dX11_flow_27 : decode cX11_flow 27 = .ok (.aload_n 0, 1) := by decide +kernel
theorem dX11_flow_28 : decode cX11_flow 28 = .ok (.iload_n 1, 1) := by decide +kernel
theorem dX11_flow_29 : decode cX11_flow 29 = .ok (.iload_n 2, 1) := by decide +kernel
theorem dX11_flow_30 : decode cX11_flow 30 = .ok (.iload_n 3, 1) := by decide +kernel
theorem dX11_flow_31 : decode cX11_flow 31 = .ok (.invokevirtual 117, 3) := by decide +kernel
theorem dX11_flow_34 : decode cX11_flow 34 = .ok (.ireturn, 1) := by decide +kernel
theorem dX11_pipe_0 : decode cX11_pipe 0 = .ok (.aload_n 0, 1) := by decide +kernel
theorem dX11_pipe_1 : decode cX11_pipe 1 = .ok (.iload_n 1, 1) := by decide +kernel
theorem dX11_pipe_2 : decode cX11_pipe 2 = .ok (.invokevirtual 96, 3) := by decide +kernel
theorem dX11_pipe_5 : decode cX11_pipe 5 = .ok (.ifCond .ne 5, 3) := by decide +kernel
theorem dX11_pipe_8 : decode cX11_pipe 8 = .ok (.iconst (-1), 1) := by decide +kernel
theorem dX11_pipe_9 : decode cX11_pipe 9 = .ok (.ireturn, 1) := by decide +kernel
theorem dX11_pipe_10 : decode cX11_pipe 10 = .ok (.iload_n 2, 1) := by decide +kernel
theorem dX11_pipe_11 : decode cX11_pipe 11 = .ok (.ifCond .lt 9, 3) := by decide +kernel
theorem dX11_pipe_14 : decode cX11_pipe 14 = .ok (.iload_n 2, 1) := by decide +kernel
theorem dX11_pipe_15 : decode cX11_pipe 15 = .ok (.bipush 99, 2) := by decide +kernel
theorem dX11_pipe_17 : decode cX11_pipe 17 = .ok (.if_icmp .le 6, 3) := by decide +kernel
theorem dX11_pipe_20 : decode cX11_pipe 20 = .ok (.bipush (-2), 2) := by decide +kernel
theorem dX11_pipe_22 : decode cX11_pipe 22 = .ok (.ireturn, 1) := by decide +kernel
theorem dX11_pipe_23 : decode cX11_pipe 23 = .ok (.aload_n 0, 1) := by decide +kernel
theorem dX11_pipe_24 : decode cX11_pipe 24 = .ok (.getfield 10, 3) := by decide +kernel
theorem dX11_pipe_27 : decode cX11_pipe 27 = .ok (.getfield 71, 3) := by decide +kernel
theorem dX11_pipe_30 : decode cX11_pipe 30 = .ok (.getfield 121, 3) := by decide +kernel
theorem dX11_pipe_33 : decode cX11_pipe 33 = .ok (.iload_n 1, 1) := by decide +kernel
theorem dX11_pipe_34 : decode cX11_pipe 34 = .ok (.iaload, 1) := by decide +kernel
theorem dX11_pipe_35 : decode cX11_pipe 35 = .ok (.istore_n 3, 1) := by decide +kernel
theorem dX11_pipe_36 : decode cX11_pipe 36 = .ok (.aload_n 0, 1) := by decide +kernel
theorem dX11_pipe_37 : decode cX11_pipe 37 = .ok (.getfield 10, 3) := by decide +kernel
theorem dX11_pipe_40 : decode cX11_pipe 40 = .ok (.getfield 71, 3) := by decide +kernel
theorem dX11_pipe_43 : decode cX11_pipe 43 = .ok (.getfield 121, 3) := by decide +kernel
theorem dX11_pipe_46 : decode cX11_pipe 46 = .ok (.iload_n 1, 1) := by decide +kernel
theorem dX11_pipe_47 : decode cX11_pipe 47 = .ok (.iload_n 2, 1) := by decide +kernel
theorem dX11_pipe_48 : decode cX11_pipe 48 = .ok (.iastore, 1) := by decide +kernel
theorem dX11_pipe_49 : decode cX11_pipe 49 = .ok (.iload_n 3, 1) := by decide +kernel
theorem dX11_pipe_50 : decode cX11_pipe 50 = .ok (.ireturn, 1) := by decide +kernel
theorem dX11_scale_0 : decode cX11_scale 0 = .ok (.aload_n 0, 1) := by decide +kernel
theorem dX11_scale_1 : decode cX11_scale 1 = .ok (.iload_n 1, 1) := by decide +kernel
theorem dX11_scale_2 : decode cX11_scale 2 = .ok (.invokevirtual 96, 3) := by decide +kernel
theorem dX11_scale_5 : decode cX11_scale 5 = .ok (.ifCond .ne 5, 3) := by decide +kernel
theorem dX11_scale_8 : decode cX11_scale 8 = .ok (.iconst (-1), 1) := by decide +kernel
theorem dX11_scale_9 : decode cX11_scale 9 = .ok (.ireturn, 1) := by decide +kernel
theorem dX11_scale_10 : decode cX11_scale 10 = .ok (.aload_n 0, 1) := by decide +kernel
theorem dX11_scale_11 : decode cX11_scale 11 = .ok (.getfield 10, 3) := by decide +kernel
theorem dX11_scale_14 : decode cX11_scale 14 = .ok (.getfield 71, 3) := by decide +kernel
theorem dX11_scale_17 : decode cX11_scale 17 = .ok (.getfield 124, 3) := by decide +kernel
theorem dX11_scale_20 : decode cX11_scale 20 = .ok (.iload_n 1, 1) := by decide +kernel
theorem dX11_scale_21 : decode cX11_scale 21 = .ok (.iaload, 1) := by decide +kernel
theorem dX11_scale_22 : decode cX11_scale 22 = .ok (.istore_n 2, 1) := by decide +kernel
theorem dX11_scale_23 : decode cX11_scale 23 = .ok (.aload_n 0, 1) := by decide +kernel
theorem dX11_scale_24 : decode cX11_scale 24 = .ok (.getfield 10, 3) := by decide +kernel
theorem dX11_scale_27 : decode cX11_scale 27 = .ok (.getfield 71, 3) := by decide +kernel
theorem dX11_scale_30 : decode cX11_scale 30 = .ok (.getfield 124, 3) := by decide +kernel
theorem dX11_scale_33 : decode cX11_scale 33 = .ok (.iload_n 1, 1) := by decide +kernel
theorem dX11_scale_34 : decode cX11_scale 34 = .ok (.iconst 0, 1) := by decide +kernel
theorem dX11_scale_35 : decode cX11_scale 35 = .ok (.iastore, 1) := by decide +kernel
theorem dX11_scale_36 : decode cX11_scale 36 = .ok (.iload_n 2, 1) := by decide +kernel
theorem dX11_scale_37 : decode cX11_scale 37 = .ok (.ireturn, 1) := by decide +kernel
theorem dX11_feed_0 : decode cX11_feed 0 = .ok (.iload_n 3, 1) := by decide +kernel
theorem dX11_feed_1 : decode cX11_feed 1 = .ok (.iconst 1, 1) := by decide +kernel
theorem dX11_feed_2 : decode cX11_feed 2 = .ok (.if_icmp .lt 9, 3) := by decide +kernel
theorem dX11_feed_5 : decode cX11_feed 5 = .ok (.iload_n 3, 1) := by decide +kernel
theorem dX11_feed_6 : decode cX11_feed 6 = .ok (.bipush 8, 2) := by decide +kernel
theorem dX11_feed_8 : decode cX11_feed 8 = .ok (.if_icmp .le 6, 3) := by decide +kernel
theorem dX11_feed_11 : decode cX11_feed 11 = .ok (.bipush (-2), 2) := by decide +kernel
theorem dX11_feed_13 : decode cX11_feed 13 = .ok (.ireturn, 1) := by decide +kernel
theorem dX11_feed_14 : decode cX11_feed 14 = .ok (.aload_n 0, 1) := by decide +kernel
theorem dX11_feed_15 : decode cX11_feed 15 = .ok (.getfield 10, 3) := by decide +kernel
theorem dX11_feed_18 : decode cX11_feed 18 = .ok (.getfield 127, 3) := by decide +kernel
theorem dX11_feed_21 : decode cX11_feed 21 = .ok (.getfield 131, 3) := by decide +kernel
theorem dX11_feed_24 : decode cX11_feed 24 = .ok (.iload_n 3, 1) := by decide +kernel
theorem dX11_feed_25 : decode cX11_feed 25 = .ok (.iadd, 1) := by decide +kernel
theorem dX11_feed_26 : decode cX11_feed 26 = .ok (.bipush 120, 2) := by decide +kernel
theorem dX11_feed_28 : decode cX11_feed 28 = .ok (.if_icmp .le 6, 3) := by decide +kernel
theorem dX11_feed_31 : decode cX11_feed 31 = .ok (.bipush (-4), 2) := by decide +kernel
theorem dX11_feed_33 : decode cX11_feed 33 = .ok (.ireturn, 1) := by decide +kernel
theorem dX11_feed_34 : decode cX11_feed 34 = .ok (.aload_n 0, 1) := by decide +kernel
theorem dX11_feed_35 : decode cX11_feed 35 = .ok (.getfield 10, 3) := by decide +kernel
theorem dX11_feed_38 : decode cX11_feed 38 = .ok (.getfield 127, 3) := by decide +kernel
theorem dX11_feed_41 : decode cX11_feed 41 = .ok (.lload_n 1, 1) := by decide +kernel
theorem dX11_feed_42 : decode cX11_feed 42 = .ok (.iload_n 3, 1) := by decide +kernel
theorem dX11_feed_43 : decode cX11_feed 43 = .ok (.invokevirtual 136, 3) := by decide +kernel
theorem dX11_feed_46 : decode cX11_feed 46 = .ok (.aload_n 0, 1) := by decide +kernel
theorem dX11_feed_47 : decode cX11_feed 47 = .ok (.getfield 10, 3) := by decide +kernel
theorem dX11_feed_50 : decode cX11_feed 50 = .ok (.getfield 127, 3) := by decide +kernel
theorem dX11_feed_53 : decode cX11_feed 53 = .ok (.getfield 131, 3) := by decide +kernel
theorem dX11_feed_56 : decode cX11_feed 56 = .ok (.ireturn, 1) := by decide +kernel
theorem dX11_text_0 : decode cX11_text 0 = .ok (.iload_n 1, 1) := by decide +kernel
theorem dX11_text_1 : decode cX11_text 1 = .ok (.invokestatic 140, 3) := by decide +kernel
theorem dX11_text_4 : decode cX11_text 4 = .ok (.ifCond .ne 6, 3) := by decide +kernel
theorem dX11_text_7 : decode cX11_text 7 = .ok (.bipush (-2), 2) := by decide +kernel
theorem dX11_text_9 : decode cX11_text 9 = .ok (.ireturn, 1) := by decide +kernel
theorem dX11_text_10 : decode cX11_text 10 = .ok (.aload_n 0, 1) := by decide +kernel
theorem dX11_text_11 : decode cX11_text 11 = .ok (.getfield 10, 3) := by decide +kernel
theorem dX11_text_14 : decode cX11_text 14 = .ok (.getfield 143, 3) := by decide +kernel
theorem dX11_text_17 : decode cX11_text 17 = .ok (.getfield 147, 3) := by decide +kernel
theorem dX11_text_20 : decode cX11_text 20 = .ok (.bipush 10, 2) := by decide +kernel
theorem dX11_text_22 : decode cX11_text 22 = .ok (.if_icmp .lt 6, 3) := by decide +kernel
theorem dX11_text_25 : decode cX11_text 25 = .ok (.bipush (-4), 2) := by decide +kernel
theorem dX11_text_27 : decode cX11_text 27 = .ok (.ireturn, 1) := by decide +kernel
theorem dX11_text_28 : decode cX11_text 28 = .ok (.aload_n 0, 1) := by decide +kernel
theorem dX11_text_29 : decode cX11_text 29 = .ok (.getfield 33, 3) := by decide +kernel
theorem dX11_text_32 : decode cX11_text 32 = .ok (.aload_n 0, 1) := by decide +kernel
theorem dX11_text_33 : decode cX11_text 33 = .ok (.getfield 10, 3) := by decide +kernel
theorem dX11_text_36 : decode cX11_text 36 = .ok (.getfield 127, 3) := by decide +kernel
theorem dX11_text_39 : decode cX11_text 39 = .ok (.aload_n 0, 1) := by decide +kernel
theorem dX11_text_40 : decode cX11_text 40 = .ok (.getfield 10, 3) := by decide +kernel
theorem dX11_text_43 : decode cX11_text 43 = .ok (.getfield 143, 3) := by decide +kernel
theorem dX11_text_46 : decode cX11_text 46 = .ok (.invokevirtual 150, 3) := by decide +kernel
theorem dX11_text_49 : decode cX11_text 49 = .ok (.iload_n 1, 1) := by decide +kernel
theorem dX11_text_50 : decode cX11_text 50 = .ok (.invokevirtual 154, 3) := by decide +kernel
theorem dX11_text_53 : decode cX11_text 53 = .ok (.istore_n 2, 1) := by decide +kernel
theorem dX11_text_54 : decode cX11_text 54 = .ok (.iload_n 2, 1) := by decide +kernel
theorem dX11_text_55 : decode cX11_text 55 = .ok (.ifCond .lt 10, 3) := by decide +kernel
theorem dX11_text_58 : decode cX11_text 58 = .ok (.bipush (-10), 2) := by decide +kernel
theorem dX11_text_60 : decode cX11_text 60 = .ok (.iload_n 2, 1) := by decide +kernel
theorem dX11_text_61 : decode cX11_text 61 = .ok (.isub, 1) := by decide +kernel
theorem dX11_text_62 : decode cX11_text 62 = .ok (.goto 13, 3) := by decide +kernel
theorem dX11_text_65 : decode cX11_text 65 = .ok (.aload_n 0, 1) := by decide +kernel
theorem dX11_text_66 : decode cX11_text 66 = .ok (.getfield 10, 3) := by decide +kernel
theorem dX11_text_69 : decode cX11_text 69 = .ok (.getfield 143, 3) := by decide +kernel
theorem dX11_text_72 : decode cX11_text 72 = .ok (.invokevirtual 158, 3) := by decide +kernel
theorem dX11_text_75 : decode cX11_text 75 = .ok (.ireturn, 1) := by decide +kernel
theorem dX11_force_0 : decode cX11_force 0 = .ok (.aload_n 0, 1) := by decide +kernel
theorem dX11_force_1 : decode cX11_force 1 = .ok (.iload_n 1, 1) := by decide +kernel
theorem dX11_force_2 : decode cX11_force 2 = .ok (.iload_n 2, 1) := by decide +kernel
theorem dX11_force_3 : decode cX11_force 3 = .ok (.invokevirtual 162, 3) := by decide +kernel
theorem dX11_force_6 : decode cX11_force 6 = .ok (.ifCond .ne 5, 3) := by decide +kernel
theorem dX11_force_9 : decode cX11_force 9 = .ok (.iconst (-1), 1) := by decide +kernel
theorem dX11_force_10 : decode cX11_force 10 = .ok (.ireturn, 1) := by decide +kernel
theorem dX11_force_11 : decode cX11_force 11 = .ok (.iload_n 3, 1) := by decide +kernel
theorem dX11_force_12 : decode cX11_force 12 = .ok (.invokestatic 140, 3) := by decide +kernel
theorem dX11_force_15 : decode cX11_force 15 = .ok (.ifCond .ne 6, 3) := by decide +kernel
theorem dX11_force_18 : decode cX11_force 18 = .ok (.bipush (-2), 2) := by decide +kernel
theorem dX11_force_20 : decode cX11_force 20 = .ok (.ireturn, 1) := by decide +kernel
theorem dX11_force_21 : decode cX11_force 21 = .ok (.aload_n 0, 1) := by decide +kernel
theorem dX11_force_22 : decode cX11_force 22 = .ok (.getfield 10, 3) := by decide +kernel
theorem dX11_force_25 : decode cX11_force 25 = .ok (.getfield 143, 3) := by decide +kernel
theorem dX11_force_28 : decode cX11_force 28 = .ok (.aload_n 0, 1) := by decide +kernel
theorem dX11_force_29 : decode cX11_force 29 = .ok (.getfield 10, 3) := by decide +kernel
theorem dX11_force_32 : decode cX11_force 32 = .ok (.getfield 143, 3) := by decide +kernel
theorem dX11_force_35 : decode cX11_force 35 = .ok (.iload_n 1, 1) := by decide +kernel
theorem dX11_force_36 : decode cX11_force 36 = .ok (.aload_n 0, 1) := by decide +kernel
theorem dX11_force_37 : decode cX11_force 37 = .ok (.getfield 10, 3) := by decide +kernel
theorem dX11_force_40 : decode cX11_force 40 = .ok (.getfield 165, 3) := by decide +kernel
theorem dX11_force_43 : decode cX11_force 43 = .ok (.iload_n 2, 1) := by decide +kernel
theorem dX11_force_44 : decode cX11_force 44 = .ok (.iload_n 3, 1) := by decide +kernel
theorem dX11_force_45 : decode cX11_force 45 = .ok (.invokevirtual 169, 3) := by decide +kernel
theorem dX11_force_48 : decode cX11_force 48 = .ok (.iload_n 1, 1) := by decide +kernel
theorem dX11_force_49 : decode cX11_force 49 = .ok (.invokevirtual 173, 3) := by decide +kernel
theorem dX11_force_52 : decode cX11_force 52 = .ok (.ireturn, 1) := by decide +kernel
theorem dX11_why_0 : decode cX11_why 0 = .ok (.aload_n 0, 1) := by decide +kernel
theorem dX11_why_1 : decode cX11_why 1 = .ok (.iload_n 1, 1) := by decide +kernel
theorem dX11_why_2 : decode cX11_why 2 = .ok (.iload_n 2, 1) := by decide +kernel
theorem dX11_why_3 : decode cX11_why 3 = .ok (.invokevirtual 162, 3) := by decide +kernel
theorem dX11_why_6 : decode cX11_why 6 = .ok (.ifCond .ne 5, 3) := by decide +kernel
theorem dX11_why_9 : decode cX11_why 9 = .ok (.iconst (-1), 1) := by decide +kernel
theorem dX11_why_10 : decode cX11_why 10 = .ok (.ireturn, 1) := by decide +kernel
theorem dX11_why_11 : decode cX11_why 11 = .ok (.iload_n 3, 1) := by decide +kernel
theorem dX11_why_12 : decode cX11_why 12 = .ok (.invokestatic 140, 3) := by decide +kernel
theorem dX11_why_15 : decode cX11_why 15 = .ok (.ifCond .ne 6, 3) := by decide +kernel
theorem dX11_why_18 : decode cX11_why 18 = .ok (.bipush (-2), 2) := by decide +kernel
theorem dX11_why_20 : decode cX11_why 20 = .ok (.ireturn, 1) := by decide +kernel
theorem dX11_why_21 : decode cX11_why 21 = .ok (.aload_n 0, 1) := by decide +kernel
theorem dX11_why_22 : decode cX11_why 22 = .ok (.getfield 10, 3) := by decide +kernel
theorem dX11_why_25 : decode cX11_why 25 = .ok (.getfield 143, 3) := by decide +kernel
theorem dX11_why_28 : decode cX11_why 28 = .ok (.iload_n 1, 1) := by decide +kernel
theorem dX11_why_29 : decode cX11_why 29 = .ok (.aload_n 0, 1) := by decide +kernel
theorem dX11_why_30 : decode cX11_why 30 = .ok (.getfield 10, 3) := by decide +kernel
theorem dX11_why_33 : decode cX11_why 33 = .ok (.getfield 165, 3) := by decide +kernel
theorem dX11_why_36 : decode cX11_why 36 = .ok (.iload_n 2, 1) := by decide +kernel
theorem dX11_why_37 : decode cX11_why 37 = .ok (.iload_n 3, 1) := by decide +kernel
theorem dX11_why_38 : decode cX11_why 38 = .ok (.invokevirtual 169, 3) := by decide +kernel
theorem dX11_why_41 : decode cX11_why 41 = .ok (.ireturn, 1) := by decide +kernel
theorem dX11_taker_0 : decode cX11_taker 0 = .ok (.iload_n 1, 1) := by decide +kernel
theorem dX11_taker_1 : decode cX11_taker 1 = .ok (.bipush 6, 2) := by decide +kernel
theorem dX11_taker_3 : decode cX11_taker 3 = .ok (.invokestatic 64, 3) := by decide +kernel
theorem dX11_taker_6 : decode cX11_taker 6 = .ok (.ifCond .eq 12, 3) := by decide +kernel
theorem dX11_taker_9 : decode cX11_taker 9 = .ok (.iload_n 2, 1) := by decide +kernel
theorem dX11_taker_10 : decode cX11_taker 10 = .ok (.bipush 12, 2) := by decide +kernel
theorem dX11_taker_12 : decode cX11_taker 12 = .ok (.invokestatic 64, 3) := by decide +kernel
theorem dX11_taker_15 : decode cX11_taker 15 = .ok (.ifCond .ne 5, 3) := by decide +kernel
theorem dX11_taker_18 : decode cX11_taker 18 = .ok (.iconst (-1), 1) := by decide +kernel
theorem dX11_taker_19 : decode cX11_taker 19 = .ok (.ireturn, 1) := by decide +kernel
theorem dX11_taker_20 : decode cX11_taker 20 = .ok (.iload_n 3, 1) := by decide +kernel
theorem dX11_taker_21 : decode cX11_taker 21 = .ok (.iconst 1, 1) := by decide +kernel
theorem dX11_taker_22 : decode cX11_taker 22 = .ok (.if_icmp .lt 38, 3) := by decide +kernel
theorem dX11_taker_25 : decode cX11_taker 25 = .ok (.iload_n 3, 1) := by decide +kernel
theorem dX11_taker_26 : decode cX11_taker 26 = .ok (.iconst 4, 1) := by decide +kernel
theorem dX11_taker_27 : decode cX11_taker 27 = .ok (.if_icmp .gt 33, 3) := by decide +kernel
theorem dX11_taker_30 : decode cX11_taker 30 = .ok (.iload 4, 2) := by decide +kernel
theorem dX11_taker_32 : decode cX11_taker 32 = .ok (.ifCond .lt 28, 3) := by decide +kernel
theorem dX11_taker_35 : decode cX11_taker 35 = .ok (.iload 4, 2) := by decide +kernel
theorem dX11_taker_37 : decode cX11_taker 37 = .ok (.sipush 1500, 3) := by decide +kernel
theorem dX11_taker_40 : decode cX11_taker 40 = .ok (.if_icmp .gt 20, 3) := by decide +kernel
theorem dX11_taker_43 : decode cX11_taker 43 = .ok (.iload 5, 2) := by decide +kernel
theorem dX11_taker_45 : decode cX11_taker 45 = .ok (.ifCond .lt 15, 3) := by decide +kernel
theorem dX11_taker_48 : decode cX11_taker 48 = .ok (.iload 5, 2) := by decide +kernel
theorem dX11_taker_50 : decode cX11_taker 50 = .ok (.aload_n 0, 1) := by decide +kernel
theorem dX11_taker_51 : decode cX11_taker 51 = .ok (.getfield 10, 3) := by decide +kernel
theorem dX11_taker_54 : decode cX11_taker 54 = .ok (.getfield 89, 3) := by decide +kernel
theorem dX11_taker_57 : decode cX11_taker 57 = .ok (.if_icmp .le 6, 3) := by decide +kernel
theorem dX11_taker_60 : decode cX11_taker 60 = .ok (.bipush (-2), 2) := by decide +kernel
theorem dX11_taker_62 : decode cX11_taker 62 = .ok (.ireturn, 1) := by decide +kernel
theorem dX11_taker_63 : decode cX11_taker 63 = .ok (.aload_n 0, 1) := by decide +kernel
theorem dX11_taker_64 : decode cX11_taker 64 = .ok (.getfield 10, 3) := by decide +kernel
theorem dX11_taker_67 : decode cX11_taker 67 = .ok (.getfield 165, 3) := by decide +kernel
theorem dX11_taker_70 : decode cX11_taker 70 = .ok (.getfield 177, 3) := by decide +kernel
theorem dX11_taker_73 : decode cX11_taker 73 = .ok (.bipush 8, 2) := by decide +kernel
theorem dX11_taker_75 : decode cX11_taker 75 = .ok (.if_icmp .lt 6, 3) := by decide +kernel
theorem dX11_taker_78 : decode cX11_taker 78 = .ok (.bipush (-4), 2) := by decide +kernel
theorem dX11_taker_80 : decode cX11_taker 80 = .ok (.ireturn, 1) := by decide +kernel
theorem dX11_taker_81 : decode cX11_taker 81 = .ok (.aload_n 0, 1) := by decide +kernel
theorem dX11_taker_82 : decode cX11_taker 82 = .ok (.getfield 10, 3) := by decide +kernel
theorem dX11_taker_85 : decode cX11_taker 85 = .ok (.getfield 165, 3) := by decide +kernel
theorem dX11_taker_88 : decode cX11_taker 88 = .ok (.iload_n 1, 1) := by decide +kernel
theorem dX11_taker_89 : decode cX11_taker 89 = .ok (.iload_n 2, 1) := by decide +kernel
theorem dX11_taker_90 : decode cX11_taker 90 = .ok (.iload_n 3, 1) := by decide +kernel
theorem dX11_taker_91 : decode cX11_taker 91 = .ok (.iload 4, 2) := by decide +kernel
theorem dX11_taker_93 : decode cX11_taker 93 = .ok (.iload 5, 2) := by decide +kernel
theorem dX11_taker_95 : decode cX11_taker 95 = .ok (.invokevirtual 180, 3) := by decide +kernel
theorem dX11_taker_98 : decode cX11_taker 98 = .ok (.ireturn, 1) := by decide +kernel
theorem dX11_of_0 : decode cX11_of 0 = .ok (.aload_n 0, 1) := by decide +kernel
theorem dX11_of_1 : decode cX11_of 1 = .ok (.iload_n 1, 1) := by decide +kernel
theorem dX11_of_2 : decode cX11_of 2 = .ok (.invokevirtual 183, 3) := by decide +kernel
theorem dX11_of_5 : decode cX11_of 5 = .ok (.ifCond .eq 11, 3) := by decide +kernel
theorem dX11_of_8 : decode cX11_of 8 = .ok (.iload_n 2, 1) := by decide +kernel
theorem dX11_of_9 : decode cX11_of 9 = .ok (.iconst 3, 1) := by decide +kernel
theorem dX11_of_10 : decode cX11_of 10 = .ok (.invokestatic 64, 3) := by decide +kernel
theorem dX11_of_13 : decode cX11_of 13 = .ok (.ifCond .ne 5, 3) := by decide +kernel
theorem dX11_of_16 : decode cX11_of 16 = .ok (.iconst (-1), 1) := by decide +kernel
theorem dX11_of_17 : decode cX11_of 17 = .ok (.ireturn, 1) := by decide +kernel
theorem dX11_of_18 : decode cX11_of 18 = .ok (.iload_n 2, 1) := by decide +kernel
theorem dX11_of_19 : decode cX11_of 19 = .ok (.ifCond .ne 15, 3) := by decide +kernel
theorem dX11_of_22 : decode cX11_of 22 = .ok (.aload_n 0, 1) := by decide +kernel
theorem dX11_of_23 : decode cX11_of 23 = .ok (.getfield 10, 3) := by decide +kernel
theorem dX11_of_26 : decode cX11_of 26 = .ok (.getfield 165, 3) := by decide +kernel
theorem dX11_of_29 : decode cX11_of 29 = .ok (.iload_n 1, 1) := by decide +kernel
theorem dX11_of_30 : decode cX11_of 30 = .ok (.invokevirtual 186, 3) := by decide +kernel
theorem dX11_of_33 : decode cX11_of 33 = .ok (.ireturn, 1) := by decide +kernel
theorem dX11_of_34 : decode cX11_of 34 = .ok (.aload_n 0, 1) := by decide +kernel
theorem dX11_of_35 : decode cX11_of 35 = .ok (.getfield 40, 3) := by decide +kernel
theorem dX11_of_38 : decode cX11_of 38 = .ok (.aload_n 0, 1) := by decide +kernel
theorem dX11_of_39 : decode cX11_of 39 = .ok (.getfield 10, 3) := by decide +kernel
theorem dX11_of_42 : decode cX11_of 42 = .ok (.getfield 143, 3) := by decide +kernel
theorem dX11_of_45 : decode cX11_of 45 = .ok (.aload_n 0, 1) := by decide +kernel
theorem dX11_of_46 : decode cX11_of 46 = .ok (.getfield 10, 3) := by decide +kernel
theorem dX11_of_49 : decode cX11_of 49 = .ok (.getfield 165, 3) := by decide +kernel
theorem dX11_of_52 : decode cX11_of 52 = .ok (.aload_n 0, 1) := by decide +kernel
theorem dX11_of_53 : decode cX11_of 53 = .ok (.getfield 10, 3) := by decide +kernel
theorem dX11_of_56 : decode cX11_of 56 = .ok (.getfield 89, 3) := by decide +kernel
theorem dX11_of_59 : decode cX11_of 59 = .ok (.invokevirtual 190, 3) := by decide +kernel
theorem dX11_of_62 : decode cX11_of 62 = .ok (.iload_n 2, 1) := by decide +kernel
theorem dX11_of_63 : decode cX11_of 63 = .ok (.iconst 1, 1) := by decide +kernel
theorem dX11_of_64 : decode cX11_of 64 = .ok (.if_icmp .ne 15, 3) := by decide +kernel
theorem dX11_of_67 : decode cX11_of 67 = .ok (.aload_n 0, 1) := by decide +kernel
theorem dX11_of_68 : decode cX11_of 68 = .ok (.getfield 40, 3) := by decide +kernel
theorem dX11_of_71 : decode cX11_of 71 = .ok (.getfield 194, 3) := by decide +kernel
theorem dX11_of_74 : decode cX11_of 74 = .ok (.iload_n 1, 1) := by decide +kernel
theorem dX11_of_75 : decode cX11_of 75 = .ok (.iaload, 1) := by decide +kernel
theorem dX11_of_76 : decode cX11_of 76 = .ok (.goto 11, 3) := by decide +kernel
theorem dX11_of_79 : decode cX11_of 79 = .ok (.aload_n 0, 1) := by decide +kernel
theorem dX11_of_80 : decode cX11_of 80 = .ok (.getfield 40, 3) := by decide +kernel
theorem dX11_of_83 : decode cX11_of 83 = .ok (.iload_n 1, 1) := by decide +kernel
theorem dX11_of_84 : decode cX11_of 84 = .ok (.invokevirtual 197, 3) := by decide +kernel
theorem dX11_of_87 : decode cX11_of 87 = .ok (.ireturn, 1) := by decide +kernel
theorem dX11_as_0 : decode cX11_as 0 = .ok (.aload_n 0, 1) := by decide +kernel
theorem dX11_as_1 : decode cX11_as 1 = .ok (.iload_n 1, 1) := by decide +kernel
theorem dX11_as_2 : decode cX11_as 2 = .ok (.invokevirtual 183, 3) := by decide +kernel
theorem dX11_as_5 : decode cX11_as 5 = .ok (.ifCond .eq 12, 3) := by decide +kernel
theorem dX11_as_8 : decode cX11_as 8 = .ok (.iload_n 2, 1) := by decide +kernel
theorem dX11_as_9 : decode cX11_as 9 = .ok (.bipush 6, 2) := by decide +kernel
theorem dX11_as_11 : decode cX11_as 11 = .ok (.invokestatic 64, 3) := by decide +kernel
theorem dX11_as_14 : decode cX11_as 14 = .ok (.ifCond .ne 5, 3) := by decide +kernel
theorem dX11_as_17 : decode cX11_as 17 = .ok (.iconst (-1), 1) := by decide +kernel
theorem dX11_as_18 : decode cX11_as 18 = .ok (.ireturn, 1) := by decide +kernel
theorem dX11_as_19 : decode cX11_as 19 = .ok (.aload_n 0, 1) := by decide +kernel
theorem dX11_as_20 : decode cX11_as 20 = .ok (.getfield 10, 3) := by decide +kernel
theorem dX11_as_23 : decode cX11_as 23 = .ok (.getfield 165, 3) := by decide +kernel
theorem dX11_as_26 : decode cX11_as 26 = .ok (.getfield 200, 3) := by decide +kernel
theorem dX11_as_29 : decode cX11_as 29 = .ok (.iload_n 1, 1) := by decide +kernel
theorem dX11_as_30 : decode cX11_as 30 = .ok (.iaload, 1) := by decide +kernel
theorem dX11_as_31 : decode cX11_as 31 = .ok (.iload_n 2, 1) := by decide +kernel
theorem dX11_as_32 : decode cX11_as 32 = .ok (.invokestatic 203, 3) := by decide +kernel
theorem dX11_as_35 : decode cX11_as 35 = .ok (.ifCond .eq 18, 3) := by decide +kernel
theorem dX11_as_38 : decode cX11_as 38 = .ok (.aload_n 0, 1) := by decide +kernel
theorem dX11_as_39 : decode cX11_as 39 = .ok (.getfield 10, 3) := by decide +kernel
theorem dX11_as_42 : decode cX11_as 42 = .ok (.getfield 165, 3) := by decide +kernel
theorem dX11_as_45 : decode cX11_as 45 = .ok (.getfield 206, 3) := by decide +kernel
theorem dX11_as_48 : decode cX11_as 48 = .ok (.iload_n 1, 1) := by decide +kernel
theorem dX11_as_49 : decode cX11_as 49 = .ok (.iaload, 1) := by decide +kernel
theorem dX11_as_50 : decode cX11_as 50 = .ok (.goto 5, 3) := by decide +kernel
theorem dX11_as_53 : decode cX11_as 53 = .ok (.bipush (-6), 2) := by decide +kernel
theorem dX11_as_55 : decode cX11_as 55 = .ok (.ireturn, 1) := by decide +kernel
theorem dX11_row_0 : decode cX11_row 0 = .ok (.iload_n 2, 1) := by decide +kernel
theorem dX11_row_1 : decode cX11_row 1 = .ok (.aload_n 0, 1) := by decide +kernel
theorem dX11_row_2 : decode cX11_row 2 = .ok (.getfield 10, 3) := by decide +kernel
theorem dX11_row_5 : decode cX11_row 5 = .ok (.getfield 165, 3) := by decide +kernel
theorem dX11_row_8 : decode cX11_row 8 = .ok (.getfield 177, 3) := by decide +kernel
theorem dX11_row_11 : decode cX11_row 11 = .ok (.invokestatic 64, 3) := by decide +kernel
theorem dX11_row_14 : decode cX11_row 14 = .ok (.ifCond .ne 5, 3) := by decide +kernel
theorem dX11_row_17 : decode cX11_row 17 = .ok (.iconst (-1), 1) := by decide +kernel
